theorem dX10_finding_0 : decode cX10_finding 0 = .ok (.ldc 80, 2) := by decide +kernel
theorem dX10_finding_2 : decode cX10_finding 2 = .ok (.iload_n 1, 1) := by decide +kernel
theorem dX10_finding_3 : decode cX10_finding 3 = .ok (.isub, 1) := by decide +kernel
theorem dX10_finding_4 : decode cX10_finding 4 = .ok (.istore_n 2, 1) := by decide +kernel
theorem dX10_finding_5 : decode cX10_finding 5 = .ok (.iload_n 2, 1) := by decide +kernel
theorem dX10_finding_6 : decode cX10_finding 6 = .ok (.ifCond .lt 19, 3) := by decide +kernel
theorem dX10_finding_9 : decode cX10_finding 9 = .ok (.iload_n 2, 1) := by decide +kernel
theorem dX10_finding_10 : decode cX10_finding 10 = .ok (.bipush 7, 2) := by decide +kernel
theorem dX10_finding_12 : decode cX10_finding 12 = .ok (.if_icmp .ge 13, 3) := by decide +kernel
theorem dX10_finding_15 : decode cX10_finding 15 = .ok (.aload_n 0, 1) := by decide +kernel
theorem dX10_finding_16 : decode cX10_finding 16 = .ok (.getfield 39, 3) := by decide +kernel
theorem dX10_finding_19 : decode cX10_finding 19 = .ok (.iload_n 2, 1) := by decide +kernel
theorem dX10_finding_20 : decode cX10_finding 20 = .ok (.dup2, 1) := by decide +kernel
theorem dX10_finding_21 : decode cX10_finding 21 = .ok (.iaload, 1) := by decide +kernel
theorem dX10_finding_22 : decode cX10_finding 22 = .ok (.iconst 1, 1) := by decide +kernel
theorem dX10_finding_23 : decode cX10_finding 23 = .ok (.iadd, 1) := by decide +kernel
theorem dX10_finding_24 : decode cX10_finding 24 = .ok (.iastore, 1) := by decide +kernel
theorem dX10_finding_25 : decode cX10_finding 25 = .ok (.iload_n 1, 1) := by decide +kernel
theorem dX10_finding_26 : decode cX10_finding 26 = .ok (.ireturn, 1) := by decide +kernel
theorem g_RX10_39 {Z : qZ} {G : qG} {cc : ByteArray} {nL k n : Nat} {rm : Room} {ret : Option FieldType} {μ : qM} {pc : Nat} {L : List (Nat × Value)} {st : List Value} (C : qX Z G RX10 cc nL rm ret) (hn : 66 ≤ gn G) (hd : decode cc pc = .ok (.getfield 39, 3)) (h : qV Z G nL k n μ (pc + 3) L (.ref (ga G 33) :: st)) : qV Z G nL k n μ pc L (.ref (ga G 0) :: st) := x_getr C 0 9 6 33 33 (C0 := RX10) (fn := "told") (fd := "[I") (Nat.lt_of_lt_of_le (by decide) hn) rfl (by decide) rfl (by decide) rfl inlX10 (qm_2 _ (List.mem_of_getElem? (i := 2) rfl)) rfl rfl rfl hd h
theorem b_X10_finding_25 {Z : qZ} {G : qG} {v1 : Int32} {μ : qM} {post : Int32 → qM → Prop} (C : qX Z G RX10 cX10_finding 3 ({ frames := 0, cells := 0, slots := 0, locals := 0 } : Room) (some .int)) (hQ : qQi Z G 0 0 post) (hn : 66 ≤ gn G) (h : q_X10_finding_25 post v1 μ) : qV Z G 3 0 0 μ 25 [(1, .int v1)] [] := by
  unfold q_X10_finding_25 at h
  refine x_iload_n C 0 dX10_finding_25 rfl rfl ?_
  exact x_iret C hQ dX10_finding_26 h
theorem y_X10_finding : qY yX10_finding cX10_finding 3 (some .int) 1 ({ frames := 0, cells := 0, slots := 0, locals := 0 } : Room) 0 0 := ⟨(qm_7 _ (List.mem_of_getElem? (i := 7) rfl)), (qm_1 _ (List.mem_of_getElem? (i := 2) rfl)), by decide +kernel, by decide +kernel, rfl, rfl⟩
theorem c_X10_finding (l : Launch) (G : qG) {v1 : Int32} {μ : qM} (hn : 66 ≤ gn G) : qCi l G yX10_finding cX10_finding 3 (some .int) ({ frames := 0, cells := 0, slots := 0, locals := 0 } : Room) 0 0 [.ref (ga G 0), .int v1] μ (fun post => w_X10_finding v1 post μ) := by
  refine qCi_of (L := [(0, .ref (ga G 0)), (1, .int v1)]) (by decide) rfl rfl ?_
  intro Z post hl C hQ h
  have C : qX Z G RX10 cX10_finding 3 ({ frames := 0, cells := 0, slots := 0, locals := 0 } : Room) (some .int) := C
  have h : w_X10_finding v1 post μ := h
  unfold w_X10_finding at h
  refine x_ldc C (v := -1000001) (qm_6 _ (List.mem_of_getElem? (i := 16) rfl)) dX10_finding_0 ?_
  refine x_iload_n C 1 dX10_finding_2 rfl rfl ?_
  refine x_isub C dX10_finding_3 ?_
  refine x_istore_n C (L' := [(2, .int (((-1000001 : Int32) - v1))), (0, .ref (ga G 0)), (1, .int v1)]) dX10_finding_4 rfl (by decide) rfl ?_
  refine x_iload_n C 0 dX10_finding_5 rfl rfl ?_
  refine x_if_lt C dX10_finding_6 (tgt := 25) (by decide) h (fun h => ?_) (fun h => ?_)
  · exact qV_sub [2] rfl (b_X10_finding_25 C hQ hn h)
  · refine x_iload_n C 0 dX10_finding_9 rfl rfl ?_
    refine x_bipush C dX10_finding_10 (v := 7) (by decide) ?_
    refine x_icmp_ge C dX10_finding_12 (tgt := 25) (by decide) h (fun h => ?_) (fun h => ?_)
    · exact qV_sub [2] rfl (b_X10_finding_25 C hQ hn h)
    · refine x_aload_n C 1 dX10_finding_15 rfl rfl ?_
      refine g_RX10_39 C hn dX10_finding_16 ?_
      refine x_iload_n C 0 dX10_finding_19 rfl rfl ?_
      refine x_dup2 C dX10_finding_20 rfl rfl ?_
      refine x_iald C 33 16 7 (q_lt rfl rfl hn) rfl rfl rfl rfl rfl dX10_finding_21 h (fun h => ?_)
      refine x_iconst C dX10_finding_22 (v := 1) (by decide) ?_
      refine x_iadd C dX10_finding_23 ?_
      refine x_iast C 33 16 7 (q_lt rfl rfl hn) rfl rfl rfl rfl rfl dX10_finding_24 h (fun h => ?_)
      exact qV_sub [2] rfl (b_X10_finding_25 C hQ hn h)
theorem dX10_grace_0 : decode cX10_grace 0 = .ok (.iload_n 1, 1) := by decide +kernel
theorem dX10_grace_1 : decode cX10_grace 1 = .ok (.invokestatic 72, 3) := by decide +kernel
theorem dX10_grace_4 : decode cX10_grace 4 = .ok (.ifCond .eq 11, 3) := by decide +kernel
theorem dX10_grace_7 : decode cX10_grace 7 = .ok (.iload_n 2, 1) := by decide +kernel
theorem dX10_grace_8 : decode cX10_grace 8 = .ok (.iload_n 3, 1) := by decide +kernel
theorem dX10_grace_9 : decode cX10_grace 9 = .ok (.invokestatic 76, 3) := by decide +kernel
theorem dX10_grace_12 : decode cX10_grace 12 = .ok (.ifCond .ne 10, 3) := by decide +kernel
theorem dX10_grace_15 : decode cX10_grace 15 = .ok (.aload_n 0, 1) := by decide +kernel
theorem dX10_grace_16 : decode cX10_grace 16 = .ok (.ldc 80, 2) := by decide +kernel
theorem dX10_grace_18 : decode cX10_grace 18 = .ok (.invokevirtual 81, 3) := by decide +kernel
theorem dX10_grace_21 : decode cX10_grace 21 = .ok (.ireturn, 1) := by decide +kernel
theorem dX10_grace_22 : decode cX10_grace 22 = .ok (.aload_n 0, 1) := by decide +kernel
theorem dX10_grace_23 : decode cX10_grace 23 = .ok (.getfield 10, 3) := by decide +kernel
theorem dX10_grace_26 : decode cX10_grace 26 = .ok (.invokevirtual 85, 3) := by decide +kernel
theorem dX10_grace_29 : decode cX10_grace 29 = .ok (.astore 4, 2) := by decide +kernel
theorem dX10_grace_31 : decode cX10_grace 31 = .ok (.aload 4, 2) := by decide +kernel
theorem dX10_grace_33 : decode cX10_grace 33 = .ok (.iload_n 2, 1) := by decide +kernel
theorem dX10_grace_34 : decode cX10_grace 34 = .ok (.iload_n 3, 1) := by decide +kernel
theorem dX10_grace_35 : decode cX10_grace 35 = .ok (.invokestatic 89, 3) := by decide +kernel
theorem dX10_grace_38 : decode cX10_grace 38 = .ok (.invokevirtual 93, 3) := by decide +kernel
theorem dX10_grace_41 : decode cX10_grace 41 = .ok (.ifCond .eq 10, 3) := by decide +kernel
theorem dX10_grace_44 : decode cX10_grace 44 = .ok (.aload_n 0, 1) := by decide +kernel
theorem dX10_grace_45 : decode cX10_grace 45 = .ok (.ldc 98, 2) := by decide +kernel
theorem dX10_grace_47 : decode cX10_grace 47 = .ok (.invokevirtual 81, 3) := by decide +kernel
theorem dX10_grace_50 : decode cX10_grace 50 = .ok (.ireturn, 1) := by decide +kernel
theorem dX10_grace_51 : decode cX10_grace 51 = .ok (.aload 4, 2) := by decide +kernel
theorem dX10_grace_53 : decode cX10_grace 53 = .ok (.invokevirtual 99, 3) := by decide +kernel
theorem dX10_grace_56 : decode cX10_grace 56 = .ok (.ifCond .eq 10, 3) := by decide +kernel
theorem dX10_grace_59 : decode cX10_grace 59 = .ok (.aload_n 0, 1) := by decide +kernel
theorem dX10_grace_60 : decode cX10_grace 60 = .ok (.ldc 103, 2) := by decide +kernel
theorem dX10_grace_62 : decode cX10_grace 62 = .ok (.invokevirtual 81, 3) := by decide +kernel
theorem dX10_grace_65 : decode cX10_grace 65 = .ok (.ireturn, 1) := by decide +kernel
theorem dX10_grace_66 : decode cX10_grace 66 = .ok (.aload 4, 2) := by decide +kernel
theorem dX10_grace_68 : decode cX10_grace 68 = .ok (.iload_n 1, 1) := by decide +kernel
theorem dX10_grace_69 : decode cX10_grace 69 = .ok (.iload_n 2, 1) := by decide +kernel
theorem dX10_grace_70 : decode cX10_grace 70 = .ok (.iload_n 3, 1) := by decide +kernel
theorem dX10_grace_71 : decode cX10_grace 71 = .ok (.invokestatic 89, 3) := by decide +kernel
theorem dX10_grace_74 : decode cX10_grace 74 = .ok (.invokevirtual 104, 3) := by decide +kernel
theorem dX10_grace_77 : decode cX10_grace 77 = .ok (.aload 4, 2) := by decide +kernel
theorem dX10_grace_79 : decode cX10_grace 79 = .ok (.invokevirtual 108, 3) := by decide +kernel
theorem dX10_grace_82 : decode cX10_grace 82 = .ok (.iconst 1, 1) := by decide +kernel
theorem dX10_grace_83 : decode cX10_grace 83 = .ok (.isub, 1) := by decide +kernel
theorem dX10_grace_84 : decode cX10_grace 84 = .ok (.ireturn, 1) := by decide +kernel
theorem i_RX10_72 {Z : qZ} {G : qG} {cc : ByteArray} {nL k n : Nat} {rm : Room} {ret : Option FieldType} {μ : qM} {pc : Nat} {L : List (Nat × Value)} {rest : List Value} {K : Int32 → qM → Prop} {v0 : Int32} (C : qX Z G RX10 cc nL rm ret) (hn : 66 ≤ gn G) (hR : (Nat.ble (0 + 1) rm.frames && Nat.ble (8 + (1 + 11) + 0) rm.locals) = true) (hf : k + 0 ≤ rm.cells ∧ n + 0 ≤ rm.slots) (hsz : Nat.ble (rest.map fun v => v.category).sum 8 = true) (hd : decode cc pc = .ok (.invokestatic 72, 3)) (h : w_X10_isKind v0 K μ) (hk : ∀ (r : Int32) (μ1 : qM), K r μ1 → qV Z G nL k n μ1 (pc + 3) L (.int r :: rest)) : qV Z G nL k n μ pc L (.int v0 :: rest) := x_Si [.int v0] rest C (wp := fun K => w_X10_isKind v0 K μ) (y_X10_isKind : qY yX10_isKind cX10_isKind 1 (some .boolean) 1 ({ frames := 0, cells := 0, slots := 0, locals := 0 } : Room) 0 0) (qm_6 _ (List.mem_of_getElem? (i := 20) rfl)) (qm_6 _ (List.mem_of_getElem? (i := 19) rfl)) (c_X10_isKind Z.2.1 G hn ) hR hf rfl rfl hsz hd h hk
theorem i_RX10_76 {Z : qZ} {G : qG} {cc : ByteArray} {nL k n : Nat} {rm : Room} {ret : Option FieldType} {μ : qM} {pc : Nat} {L : List (Nat × Value)} {rest : List Value} {K : Int32 → qM → Prop} {v0 : Int32} {v1 : Int32} (C : qX Z G RX10 cc nL rm ret) (hn : 66 ≤ gn G) (hR : (Nat.ble (1 + 1) rm.frames && Nat.ble (8 + (2 + 11) + 20) rm.locals) = true) (hf : k + 0 ≤ rm.cells ∧ n + 0 ≤ rm.slots) (hsz : Nat.ble (rest.map fun v => v.category).sum 8 = true) (hd : decode cc pc = .ok (.invokestatic 76, 3)) (h : w_X10_isLot v0 v1 K μ) (hk : ∀ (r : Int32) (μ1 : qM), K r μ1 → qV Z G nL k n μ1 (pc + 3) L (.int r :: rest)) : qV Z G nL k n μ pc L (.int v1 :: .int v0 :: rest) := x_Si [.int v0, .int v1] rest C (wp := fun K => w_X10_isLot v0 v1 K μ) (y_X10_isLot : qY yX10_isLot cX10_isLot 2 (some .boolean) 2 ({ frames := 1, cells := 0, slots := 0, locals := 20 } : Room) 0 0) (qm_6 _ (List.mem_of_getElem? (i := 23) rfl)) (qm_6 _ (List.mem_of_getElem? (i := 22) rfl)) (c_X10_isLot Z.2.1 G hn ) hR hf rfl rfl hsz hd h hk
theorem i_RX10_81 {Z : qZ} {G : qG} {cc : ByteArray} {nL k n : Nat} {rm : Room} {ret : Option FieldType} {μ : qM} {pc : Nat} {L : List (Nat × Value)} {rest : List Value} {K : Int32 → qM → Prop} {v1 : Int32} (C : qX Z G RX10 cc nL rm ret) (hn : 66 ≤ gn G) (hR : (Nat.ble (0 + 1) rm.frames && Nat.ble (8 + (3 + 11) + 0) rm.locals) = true) (hf : k + 0 ≤ rm.cells ∧ n + 0 ≤ rm.slots) (hsz : Nat.ble (rest.map fun v => v.category).sum 8 = true) (hd : decode cc pc = .ok (.invokevirtual 81, 3)) (h : w_X10_finding v1 K μ) (hk : ∀ (r : Int32) (μ1 : qM), K r μ1 → qV Z G nL k n μ1 (pc + 3) L (.int r :: rest)) : qV Z G nL k n μ pc L (.int v1 :: .ref (ga G 0) :: rest) := x_Vi [.int v1] rest C 0 9 (wp := fun K => w_X10_finding v1 K μ) (y_X10_finding : qY yX10_finding cX10_finding 3 (some .int) 1 ({ frames := 0, cells := 0, slots := 0, locals := 0 } : Room) 0 0) (qm_7 _ (List.mem_of_getElem? (i := 5) rfl)) (qm_7 _ (List.mem_of_getElem? (i := 6) rfl)) (qm_7 _ (List.mem_of_getElem? (i := 4) rfl)) (c_X10_finding Z.2.1 G hn ) (Nat.lt_of_lt_of_le (by decide) hn) rfl (by decide) rfl rfl hR hf rfl rfl hsz hd h hk
theorem i_RX10_85 {Z : qZ} {G : qG} {cc : ByteArray} {nL k n : Nat} {rm : Room} {ret : Option FieldType} {μ : qM} {pc : Nat} {L : List (Nat × Value)} {rest : List Value} {K : Nat → qM → Prop} {o : Nat} (C : qX Z G RX10 cc nL rm ret) (hn : 66 ≤ gn G) (hk_o : qk o = 8) (hR : (Nat.ble (0 + 1) rm.frames && Nat.ble (8 + (1 + 11) + 0) rm.locals) = true) (hf : k + 0 ≤ rm.cells ∧ n + 0 ≤ rm.slots) (hsz : Nat.ble (rest.map fun v => v.category).sum 8 = true) (hd : decode cc pc = .ok (.invokevirtual 85, 3)) (h : w_X9_houses o K μ) (hk : ∀ (r : Nat) (μ1 : qM), K r μ1 → qV Z G nL k n μ1 (pc + 3) L (.ref (ga G r) :: rest)) : qV Z G nL k n μ pc L (.ref (ga G o) :: rest) := x_Vr [] rest C o 8 (wp := fun K => w_X9_houses o K μ) (y_X9_houses : qY yX9_houses cX9_houses 1 (some (.object "EqualPlain$Houses")) 0 ({ frames := 0, cells := 0, slots := 0, locals := 0 } : Room) 0 0) (qm_7 _ (List.mem_of_getElem? (i := 9) rfl)) (qm_7 _ (List.mem_of_getElem? (i := 10) rfl)) (qm_7 _ (List.mem_of_getElem? (i := 8) rfl)) (c_X9_houses Z.2.1 G hn hk_o) (q_lt hk_o rfl hn) hk_o (by decide) rfl rfl hR hf rfl rfl hsz hd h hk
theorem i_RX10_89 {Z : qZ} {G : qG} {cc : ByteArray} {nL k n : Nat} {rm : Room} {ret : Option FieldType} {μ : qM} {pc : Nat} {L : List (Nat × Value)} {rest : List Value} {K : Int32 → qM → Prop} {v0 : Int32} {v1 : Int32} (C : qX Z G RX10 cc nL rm ret) (hn : 66 ≤ gn G) (hR : (Nat.ble (0 + 1) rm.frames && Nat.ble (8 + (2 + 11) + 0) rm.locals) = true) (hf : k + 0 ≤ rm.cells ∧ n + 0 ≤ rm.slots) (hsz : Nat.ble (rest.map fun v => v.category).sum 8 = true) (hd : decode cc pc = .ok (.invokestatic 89, 3)) (h : w_X10_lotOf v0 v1 K μ) (hk : ∀ (r : Int32) (μ1 : qM), K r μ1 → qV Z G nL k n μ1 (pc + 3) L (.int r :: rest)) : qV Z G nL k n μ pc L (.int v1 :: .int v0 :: rest) := x_Si [.int v0, .int v1] rest C (wp := fun K => w_X10_lotOf v0 v1 K μ) (y_X10_lotOf : qY yX10_lotOf cX10_lotOf 2 (some .int) 2 ({ frames := 0, cells := 0, slots := 0, locals := 0 } : Room) 0 0) (qm_7 _ (List.mem_of_getElem? (i := 13) rfl)) (qm_7 _ (List.mem_of_getElem? (i := 12) rfl)) (c_X10_lotOf Z.2.1 G hn ) hR hf rfl rfl hsz hd h hk
theorem i_RX10_93 {Z : qZ} {G : qG} {cc : ByteArray} {nL k n : Nat} {rm : Room} {ret : Option FieldType} {μ : qM} {pc : Nat} {L : List (Nat × Value)} {rest : List Value} {K : Int32 → qM → Prop} {o : Nat} {v1 : Int32} (C : qX Z G RX10 cc nL rm ret) (hn : 66 ≤ gn G) (hk_o : qk o = 1) (hR : (Nat.ble (0 + 1) rm.frames && Nat.ble (8 + (3 + 11) + 0) rm.locals) = true) (hf : k + 0 ≤ rm.cells ∧ n + 0 ≤ rm.slots) (hsz : Nat.ble (rest.map fun v => v.category).sum 8 = true) (hd : decode cc pc = .ok (.invokevirtual 93, 3)) (h : w_X1_stands o v1 K μ) (hk : ∀ (r : Int32) (μ1 : qM), K r μ1 → qV Z G nL k n μ1 (pc + 3) L (.int r :: rest)) : qV Z G nL k n μ pc L (.int v1 :: .ref (ga G o) :: rest) := x_Vi [.int v1] rest C o 1 (wp := fun K => w_X1_stands o v1 K μ) (y_X1_stands : qY yX1_stands cX1_stands 3 (some .boolean) 1 ({ frames := 0, cells := 0, slots := 0, locals := 0 } : Room) 0 0) (qm_7 _ (List.mem_of_getElem? (i := 16) rfl)) (qm_7 _ (List.mem_of_getElem? (i := 17) rfl)) (qm_7 _ (List.mem_of_getElem? (i := 15) rfl)) (c_X1_stands Z.2.1 G hn hk_o) (q_lt hk_o rfl hn) hk_o (by decide) rfl rfl hR hf rfl rfl hsz hd h hk
theorem i_RX10_99 {Z : qZ} {G : qG} {cc : ByteArray} {nL k n : Nat} {rm : Room} {ret : Option FieldType} {μ : qM} {pc : Nat} {L : List (Nat × Value)} {rest : List Value} {K : Int32 → qM → Prop} {o : Nat} (C : qX Z G RX10 cc nL rm ret) (hn : 66 ≤ gn G) (hk_o : qk o = 1) (hR : (Nat.ble (0 + 1) rm.frames && Nat.ble (8 + (1 + 11) + 0) rm.locals) = true) (hf : k + 0 ≤ rm.cells ∧ n + 0 ≤ rm.slots) (hsz : Nat.ble (rest.map fun v => v.category).sum 8 = true) (hd : decode cc pc = .ok (.invokevirtual 99, 3)) (h : w_X1_isFull o K μ) (hk : ∀ (r : Int32) (μ1 : qM), K r μ1 → qV Z G nL k n μ1 (pc + 3) L (.int r :: rest)) : qV Z G nL k n μ pc L (.ref (ga G o) :: rest) := x_Vi [] rest C o 1 (wp := fun K => w_X1_isFull o K μ) (y_X1_isFull : qY yX1_isFull cX1_isFull 1 (some .boolean) 0 ({ frames := 0, cells := 0, slots := 0, locals := 0 } : Room) 0 0) (qm_7 _ (List.mem_of_getElem? (i := 20) rfl)) (qm_7 _ (List.mem_of_getElem? (i := 21) rfl)) (qm_7 _ (List.mem_of_getElem? (i := 19) rfl)) (c_X1_isFull Z.2.1 G hn hk_o) (q_lt hk_o rfl hn) hk_o (by decide) rfl rfl hR hf rfl rfl hsz hd h hk
theorem i_RX10_104 {Z : qZ} {G : qG} {cc : ByteArray} {nL k n : Nat} {rm : Room} {ret : Option FieldType} {μ : qM} {pc : Nat} {L : List (Nat × Value)} {rest : List Value} {K : qM → Prop} {o : Nat} {v1 : Int32} {v2 : Int32} (C : qX Z G RX10 cc nL rm ret) (hn : 66 ≤ gn G) (hk_o : qk o = 1) (hR : (Nat.ble (1 + 1) rm.frames && Nat.ble (8 + (3 + 11) + 20) rm.locals) = true) (hf : k + 0 ≤ rm.cells ∧ n + 0 ≤ rm.slots) (hsz : Nat.ble (rest.map fun v => v.category).sum 8 = true) (hd : decode cc pc = .ok (.invokevirtual 104, 3)) (h : w_X1_put o v1 v2 K μ) (hk : ∀ (μ1 : qM), K μ1 → qV Z G nL k n μ1 (pc + 3) L rest) : qV Z G nL k n μ pc L (.int v2 :: .int v1 :: .ref (ga G o) :: rest) := x_Vv [.int v1, .int v2] rest C o 1 (wp := fun K => w_X1_put o v1 v2 K μ) (y_X1_put : qY yX1_put cX1_put 3 none 2 ({ frames := 1, cells := 0, slots := 0, locals := 20 } : Room) 0 0) (qm_8 _ (List.mem_of_getElem? (i := 0) rfl)) (qm_8 _ (List.mem_of_getElem? (i := 1) rfl)) (qm_7 _ (List.mem_of_getElem? (i := 23) rfl)) (c_X1_put Z.2.1 G hn hk_o) (q_lt hk_o rfl hn) hk_o (by decide) rfl rfl hR hf rfl rfl hsz hd h hk
theorem i_RX10_108 {Z : qZ} {G : qG} {cc : ByteArray} {nL k n : Nat} {rm : Room} {ret : Option FieldType} {μ : qM} {pc : Nat} {L : List (Nat × Value)} {rest : List Value} {K : Int32 → qM → Prop} {o : Nat} (C : qX Z G RX10 cc nL rm ret) (hn : 66 ≤ gn G) (hk_o : qk o = 1) (hR : (Nat.ble (0 + 1) rm.frames && Nat.ble (8 + (1 + 11) + 0) rm.locals) = true) (hf : k + 0 ≤ rm.cells ∧ n + 0 ≤ rm.slots) (hsz : Nat.ble (rest.map fun v => v.category).sum 8 = true) (hd : decode cc pc = .ok (.invokevirtual 108, 3)) (h : w_X1_size o K μ) (hk : ∀ (r : Int32) (μ1 : qM), K r μ1 → qV Z G nL k n μ1 (pc + 3) L (.int r :: rest)) : qV Z G nL k n μ pc L (.ref (ga G o) :: rest) := x_Vi [] rest C o 1 (wp := fun K => w_X1_size o K μ) (y_X1_size : qY yX1_size cX1_size 1 (some .int) 0 ({ frames := 0, cells := 0, slots := 0, locals := 0 } : Room) 0 0) (qm_8 _ (List.mem_of_getElem? (i := 5) rfl)) (qm_8 _ (List.mem_of_getElem? (i := 6) rfl)) (qm_8 _ (List.mem_of_getElem? (i := 4) rfl)) (c_X1_size Z.2.1 G hn hk_o) (q_lt hk_o rfl hn) hk_o (by decide) rfl rfl hR hf rfl rfl hsz hd h hk
theorem g_RX10_10 {Z : qZ} {G : qG} {cc : ByteArray} {nL k n : Nat} {rm : Room} {ret : Option FieldType} {μ : qM} {pc : Nat} {L : List (Nat × Value)} {st : List Value} (C : qX Z G RX10 cc nL rm ret) (hn : 66 ≤ gn G) (hd : decode cc pc = .ok (.getfield 10, 3)) (h : qV Z G nL k n μ (pc + 3) L (.ref (ga G 1) :: st)) : qV Z G nL k n μ pc L (.ref (ga G 0) :: st) := x_getr C 0 9 0 1 1 (C0 := RX10) (fn := "town") (fd := "LEqualPlain$Town;") (Nat.lt_of_lt_of_le (by decide) hn) rfl (by decide) rfl (by decide) rfl inlX10 (qm_1 _ (List.mem_of_getElem? (i := 15) rfl)) rfl rfl rfl hd h
theorem b_X10_grace_15 {Z : qZ} {G : qG} {μ : qM} {post : Int32 → qM → Prop} (C : qX Z G RX10 cX10_grace 5 ({ frames := 2, cells := 0, slots := 0, locals := 42 } : Room) (some .int)) (hQ : qQi Z G 0 0 post) (hn : 66 ≤ gn G) (h : q_X10_grace_15 post μ) : qV Z G 5 0 0 μ 15 [(0, .ref (ga G 0))] [] := by
  unfold q_X10_grace_15 at h
  refine x_aload_n C 0 dX10_grace_15 rfl rfl ?_
  refine x_ldc C (v := -1000001) (qm_6 _ (List.mem_of_getElem? (i := 16) rfl)) dX10_grace_16 ?_
  refine i_RX10_81 (rest := []) C hn  rfl (by decide) rfl dX10_grace_18 h (fun r18 μ18 h => ?_)
  exact x_iret C hQ dX10_grace_21 h
theorem y_X10_grace : qY yX10_grace cX10_grace 5 (some .int) 3 ({ frames := 2, cells := 0, slots := 0, locals := 42 } : Room) 0 0 := ⟨(qm_6 _ (List.mem_of_getElem? (i := 15) rfl)), (qm_1 _ (List.mem_of_getElem? (i := 2) rfl)), by decide +kernel, by decide +kernel, rfl, rfl⟩
theorem c_X10_grace (l : Launch) (G : qG) {v1 : Int32} {v2 : Int32} {v3 : Int32} {μ : qM} (hn : 66 ≤ gn G) : qCi l G yX10_grace cX10_grace 5 (some .int) ({ frames := 2, cells := 0, slots := 0, locals := 42 } : Room) 0 0 [.ref (ga G 0), .int v1, .int v2, .int v3] μ (fun post => w_X10_grace v1 v2 v3 post μ) := by
  refine qCi_of (L := [(0, .ref (ga G 0)), (1, .int v1), (2, .int v2), (3, .int v3)]) (by decide) rfl rfl ?_
  intro Z post hl C hQ h
  have C : qX Z G RX10 cX10_grace 5 ({ frames := 2, cells := 0, slots := 0, locals := 42 } : Room) (some .int) := C
  have h : w_X10_grace v1 v2 v3 post μ := h
  unfold w_X10_grace at h
  refine x_iload_n C 1 dX10_grace_0 rfl rfl ?_
  refine i_RX10_72 (rest := []) C hn  rfl (by decide) rfl dX10_grace_1 h (fun r1 μ1 h => ?_)
  refine x_if_eq C dX10_grace_4 (tgt := 15) (by decide) h (fun h => ?_) (fun h => ?_)
  · exact qV_sub [0] rfl (b_X10_grace_15 C hQ hn h)
  · refine x_iload_n C 2 dX10_grace_7 rfl rfl ?_
    refine x_iload_n C 3 dX10_grace_8 rfl rfl ?_
    refine i_RX10_76 (rest := []) C hn  rfl (by decide) rfl dX10_grace_9 h (fun r9 μ9 h => ?_)
    refine x_if_ne C dX10_grace_12 (tgt := 22) (by decide) h (fun h => ?_) (fun h => ?_)
    · refine x_aload_n C 0 dX10_grace_22 rfl rfl ?_
      refine g_RX10_10 C hn dX10_grace_23 ?_
      refine i_RX10_85 (rest := []) C hn rfl rfl (by decide) rfl dX10_grace_26 h (fun r26 μ26 h => ?_)
      obtain ⟨rfl, h⟩ := h
      refine x_astore C (L' := [(4, .ref (ga G 2)), (0, .ref (ga G 0)), (1, .int v1), (2, .int v2), (3, .int v3)]) dX10_grace_29 (by decide) rfl ?_
      refine x_aload C 0 dX10_grace_31 rfl ?_
      refine x_iload_n C 3 dX10_grace_33 rfl rfl ?_
      refine x_iload_n C 4 dX10_grace_34 rfl rfl ?_
      refine i_RX10_89 (rest := [.ref (ga G 2)]) C hn  rfl (by decide) rfl dX10_grace_35 h (fun r35 μ35 h => ?_)
      refine i_RX10_93 (rest := []) C hn rfl rfl (by decide) rfl dX10_grace_38 h (fun r38 μ38 h => ?_)
      refine x_if_eq C dX10_grace_41 (tgt := 51) (by decide) h (fun h => ?_) (fun h => ?_)
      · refine x_aload C 0 dX10_grace_51 rfl ?_
        refine i_RX10_99 (rest := []) C hn rfl rfl (by decide) rfl dX10_grace_53 h (fun r53 μ53 h => ?_)
        refine x_if_eq C dX10_grace_56 (tgt := 66) (by decide) h (fun h => ?_) (fun h => ?_)
        · refine x_aload C 0 dX10_grace_66 rfl ?_
          refine x_iload_n C 2 dX10_grace_68 rfl rfl ?_
          refine x_iload_n C 3 dX10_grace_69 rfl rfl ?_
          refine x_iload_n C 4 dX10_grace_70 rfl rfl ?_
          refine i_RX10_89 (rest := [.int v1, .ref (ga G 2)]) C hn  rfl (by decide) rfl dX10_grace_71 h (fun r71 μ71 h => ?_)
          refine i_RX10_104 (rest := []) C hn rfl rfl (by decide) rfl dX10_grace_74 h (fun μ74 h => ?_)
          refine x_aload C 0 dX10_grace_77 rfl ?_
          refine i_RX10_108 (rest := []) C hn rfl rfl (by decide) rfl dX10_grace_79 h (fun r79 μ79 h => ?_)
          refine x_iconst C dX10_grace_82 (v := 1) (by decide) ?_
          refine x_isub C dX10_grace_83 ?_
          exact x_iret C hQ dX10_grace_84 h
        · refine x_aload_n C 1 dX10_grace_59 rfl rfl ?_
          refine x_ldc C (v := -1000002) (qm_6 _ (List.mem_of_getElem? (i := 18) rfl)) dX10_grace_60 ?_
          refine i_RX10_81 (rest := []) C hn  rfl (by decide) rfl dX10_grace_62 h (fun r62 μ62 h => ?_)
          exact x_iret C hQ dX10_grace_65 h
      · refine x_aload_n C 1 dX10_grace_44 rfl rfl ?_
        refine x_ldc C (v := -1000005) (qm_6 _ (List.mem_of_getElem? (i := 17) rfl)) dX10_grace_45 ?_
        refine i_RX10_81 (rest := []) C hn  rfl (by decide) rfl dX10_grace_47 h (fun r47 μ47 h => ?_)
        exact x_iret C hQ dX10_grace_50 h
    · exact qV_sub [0] rfl (b_X10_grace_15 C hQ hn h)
theorem dX10_build_0 : decode cX10_build 0 = .ok (.iload_n 1, 1) := by decide +kernel
theorem dX10_build_1 : decode cX10_build 1 = .ok (.invokestatic 72, 3) := by decide +kernel
theorem dX10_build_4 : decode cX10_build 4 = .ok (.ifCond .eq 11, 3) := by decide +kernel
theorem dX10_build_7 : decode cX10_build 7 = .ok (.iload_n 2, 1) := by decide +kernel
theorem dX10_build_8 : decode cX10_build 8 = .ok (.iload_n 3, 1) := by decide +kernel
theorem dX10_build_9 : decode cX10_build 9 = .ok (.invokestatic 76, 3) := by decide +kernel
theorem dX10_build_12 : decode cX10_build 12 = .ok (.ifCond .ne 10, 3) := by decide +kernel
theorem dX10_build_15 : decode cX10_build 15 = .ok (.aload_n 0, 1) := by decide +kernel
theorem dX10_build_16 : decode cX10_build 16 = .ok (.ldc 80, 2) := by decide +kernel
theorem dX10_build_18 : decode cX10_build 18 = .ok (.invokevirtual 81, 3) := by decide +kernel
theorem dX10_build_21 : decode cX10_build 21 = .ok (.ireturn, 1) := by decide +kernel
theorem dX10_build_22 : decode cX10_build 22 = .ok (.aload_n 0, 1) := by decide +kernel
theorem dX10_build_23 : decode cX10_build 23 = .ok (.getfield 10, 3) := by decide +kernel
theorem dX10_build_26 : decode cX10_build 26 = .ok (.iload_n 1, 1) := by decide +kernel
theorem dX10_build_27 : decode cX10_build 27 = .ok (.iload_n 2, 1) := by decide +kernel
theorem dX10_build_28 : decode cX10_build 28 = .ok (.iload_n 3, 1) := by decide +kernel
theorem dX10_build_29 : decode cX10_build 29 = .ok (.invokestatic 89, 3) := by decide +kernel
theorem dX10_build_32 : decode cX10_build 32 = .ok (.invokevirtual 112, 3) := by decide +kernel
theorem dX10_build_35 : decode cX10_build 35 = .ok (.ifCond .ne 10, 3) := by decide +kernel
theorem dX10_build_38 : decode cX10_build 38 = .ok (.aload_n 0, 1) := by decide +kernel
theorem dX10_build_39 : decode cX10_build 39 = .ok (.ldc 98, 2) := by decide +kernel
theorem dX10_build_41 : decode cX10_build 41 = .ok (.invokevirtual 81, 3) := by decide +kernel
theorem dX10_build_44 : decode cX10_build 44 = .ok (.ireturn, 1) := by decide +kernel
theorem dX10_build_45 : decode cX10_build 45 = .ok (.aload_n 0, 1) := by decide +kernel
theorem dX10_build_46 : decode cX10_build 46 = .ok (.getfield 10, 3) := by decide +kernel
theorem dX10_build_49 : decode cX10_build 49 = .ok (.invokevirtual 85, 3) := by decide +kernel
theorem dX10_build_52 : decode cX10_build 52 = .ok (.invokevirtual 99, 3) := by decide +kernel
theorem dX10_build_55 : decode cX10_build 55 = .ok (.ifCond .eq 10, 3) := by decide +kernel
theorem dX10_build_58 : decode cX10_build 58 = .ok (.aload_n 0, 1) := by decide +kernel
theorem dX10_build_59 : decode cX10_build 59 = .ok (.ldc 103, 2) := by decide +kernel
theorem dX10_build_61 : decode cX10_build 61 = .ok (.invokevirtual 81, 3) := by decide +kernel
theorem dX10_build_64 : decode cX10_build 64 = .ok (.ireturn, 1) := by decide +kernel
theorem dX10_build_65 : decode cX10_build 65 = .ok (.aload_n 0, 1) := by decide +kernel
theorem dX10_build_66 : decode cX10_build 66 = .ok (.getfield 10, 3) := by decide +kernel
theorem dX10_build_69 : decode cX10_build 69 = .ok (.iload_n 1, 1) := by decide +kernel
theorem dX10_build_70 : decode cX10_build 70 = .ok (.iload_n 2, 1) := by decide +kernel
theorem dX10_build_71 : decode cX10_build 71 = .ok (.iload_n 3, 1) := by decide +kernel
theorem dX10_build_72 : decode cX10_build 72 = .ok (.invokestatic 89, 3) := by decide +kernel
theorem dX10_build_75 : decode cX10_build 75 = .ok (.invokevirtual 115, 3) := by decide +kernel
theorem dX10_build_78 : decode cX10_build 78 = .ok (.aload_n 0, 1) := by decide +kernel
theorem dX10_build_79 : decode cX10_build 79 = .ok (.getfield 10, 3) := by decide +kernel
theorem dX10_build_82 : decode cX10_build 82 = .ok (.invokevirtual 118, 3) := by decide +kernel
theorem dX10_build_85 : decode cX10_build 85 = .ok (.ireturn, 1) := by decide +kernel
theorem i_RX10_112 {Z : qZ} {G : qG} {cc : ByteArray} {nL k n : Nat} {rm : Room} {ret : Option FieldType} {μ : qM} {pc : Nat} {L : List (Nat × Value)} {rest : List Value} {K : Int32 → qM → Prop} {o : Nat} {v1 : Int32} {v2 : Int32} (C : qX Z G RX10 cc nL rm ret) (hn : 66 ≤ gn G) (hk_o : qk o = 8) (hR : (Nat.ble (5 + 1) rm.frames && Nat.ble (8 + (3 + 11) + 118) rm.locals) = true) (hf : k + 0 ≤ rm.cells ∧ n + 0 ≤ rm.slots) (hsz : Nat.ble (rest.map fun v => v.category).sum 8 = true) (hd : decode cc pc = .ok (.invokevirtual 112, 3)) (h : w_X9_allows o v1 v2 K μ) (hk : ∀ (r : Int32) (μ1 : qM), K r μ1 → qV Z G nL k n μ1 (pc + 3) L (.int r :: rest)) : qV Z G nL k n μ pc L (.int v2 :: .int v1 :: .ref (ga G o) :: rest) := x_Vi [.int v1, .int v2] rest C o 8 (wp := fun K => w_X9_allows o v1 v2 K μ) (y_X9_allows : qY yX9_allows cX9_allows 3 (some .boolean) 2 ({ frames := 5, cells := 0, slots := 0, locals := 118 } : Room) 0 0) (qm_9 _ (List.mem_of_getElem? (i := 16) rfl)) (qm_9 _ (List.mem_of_getElem? (i := 17) rfl)) (qm_9 _ (List.mem_of_getElem? (i := 15) rfl)) (c_X9_allows Z.2.1 G hn hk_o) (q_lt hk_o rfl hn) hk_o (by decide) rfl rfl hR hf rfl rfl hsz hd h hk
theorem i_RX10_115 {Z : qZ} {G : qG} {cc : ByteArray} {nL k n : Nat} {rm : Room} {ret : Option FieldType} {μ : qM} {pc : Nat} {L : List (Nat × Value)} {rest : List Value} {K : qM → Prop} {o : Nat} {v1 : Int32} {v2 : Int32} (C : qX Z G RX10 cc nL rm ret) (hn : 66 ≤ gn G) (hk_o : qk o = 8) (hR : (Nat.ble (2 + 1) rm.frames && Nat.ble (8 + (3 + 11) + 42) rm.locals) = true) (hf : k + 0 ≤ rm.cells ∧ n + 0 ≤ rm.slots) (hsz : Nat.ble (rest.map fun v => v.category).sum 8 = true) (hd : decode cc pc = .ok (.invokevirtual 115, 3)) (h : w_X9_raise o v1 v2 K μ) (hk : ∀ (μ1 : qM), K μ1 → qV Z G nL k n μ1 (pc + 3) L rest) : qV Z G nL k n μ pc L (.int v2 :: .int v1 :: .ref (ga G o) :: rest) := x_Vv [.int v1, .int v2] rest C o 8 (wp := fun K => w_X9_raise o v1 v2 K μ) (y_X9_raise : qY yX9_raise cX9_raise 3 none 2 ({ frames := 2, cells := 0, slots := 0, locals := 42 } : Room) 0 0) (qm_10 _ (List.mem_of_getElem? (i := 23) rfl)) (qm_11 _ (List.mem_of_getElem? (i := 0) rfl)) (qm_10 _ (List.mem_of_getElem? (i := 22) rfl)) (c_X9_raise Z.2.1 G hn hk_o) (q_lt hk_o rfl hn) hk_o (by decide) rfl rfl hR hf rfl rfl hsz hd h hk
theorem i_RX10_118 {Z : qZ} {G : qG} {cc : ByteArray} {nL k n : Nat} {rm : Room} {ret : Option FieldType} {μ : qM} {pc : Nat} {L : List (Nat × Value)} {rest : List Value} {K : Int32 → qM → Prop} {o : Nat} (C : qX Z G RX10 cc nL rm ret) (hn : 66 ≤ gn G) (hk_o : qk o = 8) (hR : (Nat.ble (0 + 1) rm.frames && Nat.ble (8 + (1 + 11) + 0) rm.locals) = true) (hf : k + 0 ≤ rm.cells ∧ n + 0 ≤ rm.slots) (hsz : Nat.ble (rest.map fun v => v.category).sum 8 = true) (hd : decode cc pc = .ok (.invokevirtual 118, 3)) (h : w_X9_purse o K μ) (hk : ∀ (r : Int32) (μ1 : qM), K r μ1 → qV Z G nL k n μ1 (pc + 3) L (.int r :: rest)) : qV Z G nL k n μ pc L (.ref (ga G o) :: rest) := x_Vi [] rest C o 8 (wp := fun K => w_X9_purse o K μ) (y_X9_purse : qY yX9_purse cX9_purse 1 (some .int) 0 ({ frames := 0, cells := 0, slots := 0, locals := 0 } : Room) 0 0) (qm_11 _ (List.mem_of_getElem? (i := 8) rfl)) (qm_11 _ (List.mem_of_getElem? (i := 9) rfl)) (qm_11 _ (List.mem_of_getElem? (i := 7) rfl)) (c_X9_purse Z.2.1 G hn hk_o) (q_lt hk_o rfl hn) hk_o (by decide) rfl rfl hR hf rfl rfl hsz hd h hk
theorem b_X10_build_15 {Z : qZ} {G : qG} {μ : qM} {post : Int32 → qM → Prop} (C : qX Z G RX10 cX10_build 4 ({ frames := 6, cells := 0, slots := 0, locals := 140 } : Room) (some .int)) (hQ : qQi Z G 0 0 post) (hn : 66 ≤ gn G) (h : q_X10_build_15 post μ) : qV Z G 4 0 0 μ 15 [(0, .ref (ga G 0))] [] := by
  unfold q_X10_build_15 at h
  refine x_aload_n C 0 dX10_build_15 rfl rfl ?_
  refine x_ldc C (v := -1000001) (qm_6 _ (List.mem_of_getElem? (i := 16) rfl)) dX10_build_16 ?_
  refine i_RX10_81 (rest := []) C hn  rfl (by decide) rfl dX10_build_18 h (fun r18 μ18 h => ?_)
  exact x_iret C hQ dX10_build_21 h
theorem y_X10_build : qY yX10_build cX10_build 4 (some .int) 3 ({ frames := 6, cells := 0, slots := 0, locals := 140 } : Room) 0 0 := ⟨(qm_9 _ (List.mem_of_getElem? (i := 14) rfl)), (qm_1 _ (List.mem_of_getElem? (i := 2) rfl)), by decide +kernel, by decide +kernel, rfl, rfl⟩
theorem c_X10_build (l : Launch) (G : qG) {v1 : Int32} {v2 : Int32} {v3 : Int32} {μ : qM} (hn : 66 ≤ gn G) : qCi l G yX10_build cX10_build 4 (some .int) ({ frames := 6, cells := 0, slots := 0, locals := 140 } : Room) 0 0 [.ref (ga G 0), .int v1, .int v2, .int v3] μ (fun post => w_X10_build v1 v2 v3 post μ) := by
  refine qCi_of (L := [(0, .ref (ga G 0)), (1, .int v1), (2, .int v2), (3, .int v3)]) (by decide) rfl rfl ?_
  intro Z post hl C hQ h
  have C : qX Z G RX10 cX10_build 4 ({ frames := 6, cells := 0, slots := 0, locals := 140 } : Room) (some .int) := C
  have h : w_X10_build v1 v2 v3 post μ := h
  unfold w_X10_build at h
  refine x_iload_n C 1 dX10_build_0 rfl rfl ?_
  refine i_RX10_72 (rest := []) C hn  rfl (by decide) rfl dX10_build_1 h (fun r1 μ1 h => ?_)
  refine x_if_eq C dX10_build_4 (tgt := 15) (by decide) h (fun h => ?_) (fun h => ?_)
  · exact qV_sub [0] rfl (b_X10_build_15 C hQ hn h)
  · refine x_iload_n C 2 dX10_build_7 rfl rfl ?_
    refine x_iload_n C 3 dX10_build_8 rfl rfl ?_
    refine i_RX10_76 (rest := []) C hn  rfl (by decide) rfl dX10_build_9 h (fun r9 μ9 h => ?_)
    refine x_if_ne C dX10_build_12 (tgt := 22) (by decide) h (fun h => ?_) (fun h => ?_)
    · refine x_aload_n C 0 dX10_build_22 rfl rfl ?_
      refine g_RX10_10 C hn dX10_build_23 ?_
      refine x_iload_n C 1 dX10_build_26 rfl rfl ?_
      refine x_iload_n C 2 dX10_build_27 rfl rfl ?_
      refine x_iload_n C 3 dX10_build_28 rfl rfl ?_
      refine i_RX10_89 (rest := [.int v1, .ref (ga G 1)]) C hn  rfl (by decide) rfl dX10_build_29 h (fun r29 μ29 h => ?_)
      refine i_RX10_112 (rest := []) C hn rfl rfl (by decide) rfl dX10_build_32 h (fun r32 μ32 h => ?_)
      refine x_if_ne C dX10_build_35 (tgt := 45) (by decide) h (fun h => ?_) (fun h => ?_)
      · refine x_aload_n C 0 dX10_build_45 rfl rfl ?_
        refine g_RX10_10 C hn dX10_build_46 ?_
        refine i_RX10_85 (rest := []) C hn rfl rfl (by decide) rfl dX10_build_49 h (fun r49 μ49 h => ?_)
        obtain ⟨rfl, h⟩ := h
        refine i_RX10_99 (rest := []) C hn rfl rfl (by decide) rfl dX10_build_52 h (fun r52 μ52 h => ?_)
        refine x_if_eq C dX10_build_55 (tgt := 65) (by decide) h (fun h => ?_) (fun h => ?_)
        · refine x_aload_n C 0 dX10_build_65 rfl rfl ?_
          refine g_RX10_10 C hn dX10_build_66 ?_
          refine x_iload_n C 1 dX10_build_69 rfl rfl ?_
          refine x_iload_n C 2 dX10_build_70 rfl rfl ?_
          refine x_iload_n C 3 dX10_build_71 rfl rfl ?_
          refine i_RX10_89 (rest := [.int v1, .ref (ga G 1)]) C hn  rfl (by decide) rfl dX10_build_72 h (fun r72 μ72 h => ?_)
          refine i_RX10_115 (rest := []) C hn rfl rfl (by decide) rfl dX10_build_75 h (fun μ75 h => ?_)
          refine x_aload_n C 0 dX10_build_78 rfl rfl ?_
          refine g_RX10_10 C hn dX10_build_79 ?_
          refine i_RX10_118 (rest := []) C hn rfl rfl (by decide) rfl dX10_build_82 h (fun r82 μ82 h => ?_)
          exact x_iret C hQ dX10_build_85 h
        · refine x_aload_n C 0 dX10_build_58 rfl rfl ?_
          refine x_ldc C (v := -1000002) (qm_6 _ (List.mem_of_getElem? (i := 18) rfl)) dX10_build_59 ?_
          refine i_RX10_81 (rest := []) C hn  rfl (by decide) rfl dX10_build_61 h (fun r61 μ61 h => ?_)
          exact x_iret C hQ dX10_build_64 h
      · refine x_aload_n C 0 dX10_build_38 rfl rfl ?_
        refine x_ldc C (v := -1000005) (qm_6 _ (List.mem_of_getElem? (i := 17) rfl)) dX10_build_39 ?_
        refine i_RX10_81 (rest := []) C hn  rfl (by decide) rfl dX10_build_41 h (fun r41 μ41 h => ?_)
        exact x_iret C hQ dX10_build_44 h
    · exact qV_sub [0] rfl (b_X10_build_15 C hQ hn h)
theorem dX10_of_0 : decode cX10_of 0 = .ok (.aload_n 0, 1) := by decide +kernel
theorem dX10_of_1 : decode cX10_of 1 = .ok (.getfield 10, 3) := by decide +kernel
theorem dX10_of_4 : decode cX10_of 4 = .ok (.invokevirtual 85, 3) := by decide +kernel
theorem dX10_of_7 : decode cX10_of 7 = .ok (.astore_n 3, 1) := by decide +kernel
theorem dX10_of_8 : decode cX10_of 8 = .ok (.aload_n 3, 1) := by decide +kernel
theorem dX10_of_9 : decode cX10_of 9 = .ok (.iload_n 1, 1) := by decide +kernel
theorem dX10_of_10 : decode cX10_of 10 = .ok (.invokevirtual 121, 3) := by decide +kernel
theorem dX10_of_13 : decode cX10_of 13 = .ok (.ifCond .eq 12, 3) := by decide +kernel
theorem dX10_of_16 : decode cX10_of 16 = .ok (.iload_n 2, 1) := by decide +kernel
theorem dX10_of_17 : decode cX10_of 17 = .ok (.ifCond .lt 8, 3) := by decide +kernel
theorem dX10_of_20 : decode cX10_of 20 = .ok (.iload_n 2, 1) := by decide +kernel
theorem dX10_of_21 : decode cX10_of 21 = .ok (.iconst 4, 1) := by decide +kernel
theorem dX10_of_22 : decode cX10_of 22 = .ok (.if_icmp .le 10, 3) := by decide +kernel
theorem dX10_of_25 : decode cX10_of 25 = .ok (.aload_n 0, 1) := by decide +kernel
theorem dX10_of_26 : decode cX10_of 26 = .ok (.ldc 80, 2) := by decide +kernel
theorem dX10_of_28 : decode cX10_of 28 = .ok (.invokevirtual 81, 3) := by decide +kernel
theorem dX10_of_31 : decode cX10_of 31 = .ok (.ireturn, 1) := by decide +kernel
theorem dX10_of_32 : decode cX10_of 32 = .ok (.iload_n 2, 1) := by decide +kernel
theorem dX10_of_33 : decode cX10_of 33 = .ok (.tableswitch 64 0 3 #[31, 37, 46, 55], 31) := by decide +kernel
theorem dX10_of_64 : decode cX10_of 64 = .ok (.aload_n 3, 1) := by decide +kernel
theorem dX10_of_65 : decode cX10_of 65 = .ok (.iload_n 1, 1) := by decide +kernel
theorem dX10_of_66 : decode cX10_of 66 = .ok (.invokevirtual 124, 3) := by decide +kernel
theorem dX10_of_69 : decode cX10_of 69 = .ok (.ireturn, 1) := by decide +kernel
theorem dX10_of_70 : decode cX10_of 70 = .ok (.aload_n 3, 1) := by decide +kernel
theorem dX10_of_71 : decode cX10_of 71 = .ok (.iload_n 1, 1) := by decide +kernel
theorem dX10_of_72 : decode cX10_of 72 = .ok (.invokevirtual 127, 3) := by decide +kernel
theorem dX10_of_75 : decode cX10_of 75 = .ok (.bipush 12, 2) := by decide +kernel
theorem dX10_of_77 : decode cX10_of 77 = .ok (.irem, 1) := by decide +kernel
theorem dX10_of_78 : decode cX10_of 78 = .ok (.ireturn, 1) := by decide +kernel
theorem dX10_of_79 : decode cX10_of 79 = .ok (.aload_n 3, 1) := by decide +kernel
theorem dX10_of_80 : decode cX10_of 80 = .ok (.iload_n 1, 1) := by decide +kernel
theorem dX10_of_81 : decode cX10_of 81 = .ok (.invokevirtual 127, 3) := by decide +kernel
theorem dX10_of_84 : decode cX10_of 84 = .ok (.bipush 12, 2) := by decide +kernel
theorem dX10_of_86 : decode cX10_of 86 = .ok (.idiv, 1) := by decide +kernel
theorem dX10_of_87 : decode cX10_of 87 = .ok (.ireturn, 1) := by decide +kernel
theorem dX10_of_88 : decode cX10_of 88 = .ok (.aload_n 3, 1) := by decide +kernel
theorem dX10_of_89 : decode cX10_of 89 = .ok (.iload_n 1, 1) := by decide +kernel
theorem dX10_of_90 : decode cX10_of 90 = .ok (.invokevirtual 124, 3) := by decide +kernel
theorem dX10_of_93 : decode cX10_of 93 = .ok (.invokestatic 130, 3) := by decide +kernel
theorem dX10_of_96 : decode cX10_of 96 = .ok (.ireturn, 1) := by decide +kernel
theorem dX10_of_97 : decode cX10_of 97 = .ok (.aload_n 3, 1) := by decide +kernel
theorem dX10_of_98 : decode cX10_of 98 = .ok (.iload_n 1, 1) := by decide +kernel
theorem dX10_of_99 : decode cX10_of 99 = .ok (.invokevirtual 135, 3) := by decide +kernel
theorem dX10_of_102 : decode cX10_of 102 = .ok (.ireturn, 1) := by decide +kernel
theorem i_RX10_121 {Z : qZ} {G : qG} {cc : ByteArray} {nL k n : Nat} {rm : Room} {ret : Option FieldType} {μ : qM} {pc : Nat} {L : List (Nat × Value)} {rest : List Value} {K : Int32 → qM → Prop} {o : Nat} {v1 : Int32} (C : qX Z G RX10 cc nL rm ret) (hn : 66 ≤ gn G) (hk_o : qk o = 1) (hR : (Nat.ble (0 + 1) rm.frames && Nat.ble (8 + (2 + 11) + 0) rm.locals) = true) (hf : k + 0 ≤ rm.cells ∧ n + 0 ≤ rm.slots) (hsz : Nat.ble (rest.map fun v => v.category).sum 8 = true) (hd : decode cc pc = .ok (.invokevirtual 121, 3)) (h : w_X1_has o v1 K μ) (hk : ∀ (r : Int32) (μ1 : qM), K r μ1 → qV Z G nL k n μ1 (pc + 3) L (.int r :: rest)) : qV Z G nL k n μ pc L (.int v1 :: .ref (ga G o) :: rest) := x_Vi [.int v1] rest C o 1 (wp := fun K => w_X1_has o v1 K μ) (y_X1_has : qY yX1_has cX1_has 2 (some .boolean) 1 ({ frames := 0, cells := 0, slots := 0, locals := 0 } : Room) 0 0) (qm_13 _ (List.mem_of_getElem? (i := 2) rfl)) (qm_13 _ (List.mem_of_getElem? (i := 3) rfl)) (qm_13 _ (List.mem_of_getElem? (i := 1) rfl)) (c_X1_has Z.2.1 G hn hk_o) (q_lt hk_o rfl hn) hk_o (by decide) rfl rfl hR hf rfl rfl hsz hd h hk
theorem i_RX10_124 {Z : qZ} {G : qG} {cc : ByteArray} {nL k n : Nat} {rm : Room} {ret : Option FieldType} {μ : qM} {pc : Nat} {L : List (Nat × Value)} {rest : List Value} {K : Int32 → qM → Prop} {o : Nat} {v1 : Int32} (C : qX Z G RX10 cc nL rm ret) (hn : 66 ≤ gn G) (hk_o : qk o = 1) (hR : (Nat.ble (1 + 1) rm.frames && Nat.ble (8 + (2 + 11) + 21) rm.locals) = true) (hf : k + 0 ≤ rm.cells ∧ n + 0 ≤ rm.slots) (hsz : Nat.ble (rest.map fun v => v.category).sum 8 = true) (hd : decode cc pc = .ok (.invokevirtual 124, 3)) (h : w_X1_kindOf o v1 K μ) (hk : ∀ (r : Int32) (μ1 : qM), K r μ1 → qV Z G nL k n μ1 (pc + 3) L (.int r :: rest)) : qV Z G nL k n μ pc L (.int v1 :: .ref (ga G o) :: rest) := x_Vi [.int v1] rest C o 1 (wp := fun K => w_X1_kindOf o v1 K μ) (y_X1_kindOf : qY yX1_kindOf cX1_kindOf 2 (some .int) 1 ({ frames := 1, cells := 0, slots := 0, locals := 21 } : Room) 0 0) (qm_13 _ (List.mem_of_getElem? (i := 6) rfl)) (qm_13 _ (List.mem_of_getElem? (i := 7) rfl)) (qm_13 _ (List.mem_of_getElem? (i := 5) rfl)) (c_X1_kindOf Z.2.1 G hn hk_o) (q_lt hk_o rfl hn) hk_o (by decide) rfl rfl hR hf rfl rfl hsz hd h hk
theorem i_RX10_127 {Z : qZ} {G : qG} {cc : ByteArray} {nL k n : Nat} {rm : Room} {ret : Option FieldType} {μ : qM} {pc : Nat} {L : List (Nat × Value)} {rest : List Value} {K : Int32 → qM → Prop} {o : Nat} {v1 : Int32} (C : qX Z G RX10 cc nL rm ret) (hn : 66 ≤ gn G) (hk_o : qk o = 1) (hR : (Nat.ble (1 + 1) rm.frames && Nat.ble (8 + (2 + 11) + 21) rm.locals) = true) (hf : k + 0 ≤ rm.cells ∧ n + 0 ≤ rm.slots) (hsz : Nat.ble (rest.map fun v => v.category).sum 8 = true) (hd : decode cc pc = .ok (.invokevirtual 127, 3)) (h : w_X1_homeOf o v1 K μ) (hk : ∀ (r : Int32) (μ1 : qM), K r μ1 → qV Z G nL k n μ1 (pc + 3) L (.int r :: rest)) : qV Z G nL k n μ pc L (.int v1 :: .ref (ga G o) :: rest) := x_Vi [.int v1] rest C o 1 (wp := fun K => w_X1_homeOf o v1 K μ) (y_X1_homeOf : qY yX1_homeOf cX1_homeOf 2 (some .int) 1 ({ frames := 1, cells := 0, slots := 0, locals := 21 } : Room) 0 0) (qm_13 _ (List.mem_of_getElem? (i := 11) rfl)) (qm_13 _ (List.mem_of_getElem? (i := 12) rfl)) (qm_13 _ (List.mem_of_getElem? (i := 10) rfl)) (c_X1_homeOf Z.2.1 G hn hk_o) (q_lt hk_o rfl hn) hk_o (by decide) rfl rfl hR hf rfl rfl hsz hd h hk
theorem i_RX10_130 {Z : qZ} {G : qG} {cc : ByteArray} {nL k n : Nat} {rm : Room} {ret : Option FieldType} {μ : qM} {pc : Nat} {L : List (Nat × Value)} {rest : List Value} {K : Int32 → qM → Prop} {v0 : Int32} (C : qX Z G RX10 cc nL rm ret) (hn : 66 ≤ gn G) (hR : (Nat.ble (0 + 1) rm.frames && Nat.ble (8 + (1 + 11) + 0) rm.locals) = true) (hf : k + 0 ≤ rm.cells ∧ n + 0 ≤ rm.slots) (hsz : Nat.ble (rest.map fun v => v.category).sum 8 = true) (hd : decode cc pc = .ok (.invokestatic 130, 3)) (h : w_X2_costs v0 K μ) (hk : ∀ (r : Int32) (μ1 : qM), K r μ1 → qV Z G nL k n μ1 (pc + 3) L (.int r :: rest)) : qV Z G nL k n μ pc L (.int v0 :: rest) := x_Si [.int v0] rest C (wp := fun K => w_X2_costs v0 K μ) (y_X2_costs : qY yX2_costs cX2_costs 1 (some .int) 1 ({ frames := 0, cells := 0, slots := 0, locals := 0 } : Room) 0 0) (qm_9 _ (List.mem_of_getElem? (i := 20) rfl)) (qm_13 _ (List.mem_of_getElem? (i := 14) rfl)) (c_X2_costs Z.2.1 G hn ) hR hf rfl rfl hsz hd h hk
theorem i_RX10_135 {Z : qZ} {G : qG} {cc : ByteArray} {nL k n : Nat} {rm : Room} {ret : Option FieldType} {μ : qM} {pc : Nat} {L : List (Nat × Value)} {rest : List Value} {K : Int32 → qM → Prop} {o : Nat} {v1 : Int32} (C : qX Z G RX10 cc nL rm ret) (hn : 66 ≤ gn G) (hk_o : qk o = 1) (hR : (Nat.ble (4 + 1) rm.frames && Nat.ble (8 + (4 + 11) + 93) rm.locals) = true) (hf : k + 0 ≤ rm.cells ∧ n + 0 ≤ rm.slots) (hsz : Nat.ble (rest.map fun v => v.category).sum 8 = true) (hd : decode cc pc = .ok (.invokevirtual 135, 3)) (h : w_X1_partners o v1 K μ) (hk : ∀ (r : Int32) (μ1 : qM), K r μ1 → qV Z G nL k n μ1 (pc + 3) L (.int r :: rest)) : qV Z G nL k n μ pc L (.int v1 :: .ref (ga G o) :: rest) := x_Vi [.int v1] rest C o 1 (wp := fun K => w_X1_partners o v1 K μ) (y_X1_partners : qY yX1_partners cX1_partners 4 (some .int) 1 ({ frames := 4, cells := 0, slots := 0, locals := 93 } : Room) 0 0) (qm_13 _ (List.mem_of_getElem? (i := 16) rfl)) (qm_13 _ (List.mem_of_getElem? (i := 17) rfl)) (qm_13 _ (List.mem_of_getElem? (i := 15) rfl)) (c_X1_partners Z.2.1 G hn hk_o) (q_lt hk_o rfl hn) hk_o (by decide) rfl rfl hR hf rfl rfl hsz hd h hk
theorem b_X10_of_25 {Z : qZ} {G : qG} {μ : qM} {post : Int32 → qM → Prop} (C : qX Z G RX10 cX10_of 4 ({ frames := 5, cells := 0, slots := 0, locals := 116 } : Room) (some .int)) (hQ : qQi Z G 0 0 post) (hn : 66 ≤ gn G) (h : q_X10_of_25 post μ) : qV Z G 4 0 0 μ 25 [(0, .ref (ga G 0))] [] := by
  unfold q_X10_of_25 at h
  refine x_aload_n C 0 dX10_of_25 rfl rfl ?_
  refine x_ldc C (v := -1000001) (qm_6 _ (List.mem_of_getElem? (i := 16) rfl)) dX10_of_26 ?_
  refine i_RX10_81 (rest := []) C hn  rfl (by decide) rfl dX10_of_28 h (fun r28 μ28 h => ?_)
  exact x_iret C hQ dX10_of_31 h
theorem y_X10_of : qY yX10_of cX10_of 4 (some .int) 2 ({ frames := 5, cells := 0, slots := 0, locals := 116 } : Room) 0 0 := ⟨(qm_13 _ (List.mem_of_getElem? (i := 0) rfl)), (qm_1 _ (List.mem_of_getElem? (i := 2) rfl)), by decide +kernel, by decide +kernel, rfl, rfl⟩
theorem c_X10_of (l : Launch) (G : qG) {v1 : Int32} {v2 : Int32} {μ : qM} (hn : 66 ≤ gn G) : qCi l G yX10_of cX10_of 4 (some .int) ({ frames := 5, cells := 0, slots := 0, locals := 116 } : Room) 0 0 [.ref (ga G 0), .int v1, .int v2] μ (fun post => w_X10_of v1 v2 post μ) := by
  refine qCi_of (L := [(0, .ref (ga G 0)), (1, .int v1), (2, .int v2)]) (by decide) rfl rfl ?_
  intro Z post hl C hQ h
  have C : qX Z G RX10 cX10_of 4 ({ frames := 5, cells := 0, slots := 0, locals := 116 } : Room) (some .int) := C
  have h : w_X10_of v1 v2 post μ := h
  unfold w_X10_of at h
  refine x_aload_n C 0 dX10_of_0 rfl rfl ?_
  refine g_RX10_10 C hn dX10_of_1 ?_
  refine i_RX10_85 (rest := []) C hn rfl rfl (by decide) rfl dX10_of_4 h (fun r4 μ4 h => ?_)
  obtain ⟨rfl, h⟩ := h
  refine x_astore_n C (L' := [(3, .ref (ga G 2)), (0, .ref (ga G 0)), (1, .int v1), (2, .int v2)]) dX10_of_7 rfl (by decide) rfl ?_
  refine x_aload_n C 0 dX10_of_8 rfl rfl ?_
  refine x_iload_n C 2 dX10_of_9 rfl rfl ?_
  refine i_RX10_121 (rest := []) C hn rfl rfl (by decide) rfl dX10_of_10 h (fun r10 μ10 h => ?_)
  refine x_if_eq C dX10_of_13 (tgt := 25) (by decide) h (fun h => ?_) (fun h => ?_)
  · exact qV_sub [1] rfl (b_X10_of_25 C hQ hn h)
  · refine x_iload_n C 3 dX10_of_16 rfl rfl ?_
    refine x_if_lt C dX10_of_17 (tgt := 25) (by decide) h (fun h => ?_) (fun h => ?_)
    · exact qV_sub [1] rfl (b_X10_of_25 C hQ hn h)
    · refine x_iload_n C 3 dX10_of_20 rfl rfl ?_
      refine x_iconst C dX10_of_21 (v := 4) (by decide) ?_
      refine x_icmp_le C dX10_of_22 (tgt := 32) (by decide) h (fun h => ?_) (fun h => ?_)
      · refine x_iload_n C 3 dX10_of_32 rfl rfl ?_
        by_cases hv0 : v2 = (0 : Int32)
        · have h := h.1 hv0
          refine x_tin C (v := 0) dX10_of_33 hv0 (by decide) (by decide) rfl (tgt := 64) (by decide) ?_
          refine x_aload_n C 0 dX10_of_64 rfl rfl ?_
          refine x_iload_n C 2 dX10_of_65 rfl rfl ?_
          refine i_RX10_124 (rest := []) C hn rfl rfl (by decide) rfl dX10_of_66 h (fun r66 μ66 h => ?_)
          exact x_iret C hQ dX10_of_69 h
        have h := h.2 hv0
        by_cases hv1 : v2 = (1 : Int32)
        · have h := h.1 hv1
          refine x_tin C (v := 1) dX10_of_33 hv1 (by decide) (by decide) rfl (tgt := 70) (by decide) ?_
          refine x_aload_n C 0 dX10_of_70 rfl rfl ?_
          refine x_iload_n C 2 dX10_of_71 rfl rfl ?_
          refine i_RX10_127 (rest := []) C hn rfl rfl (by decide) rfl dX10_of_72 h (fun r72 μ72 h => ?_)
          refine x_bipush C dX10_of_75 (v := 12) (by decide) ?_
          refine x_irem C dX10_of_77 h (fun h => ?_)
          exact x_iret C hQ dX10_of_78 h
        have h := h.2 hv1
        by_cases hv2 : v2 = (2 : Int32)
        · have h := h.1 hv2
          refine x_tin C (v := 2) dX10_of_33 hv2 (by decide) (by decide) rfl (tgt := 79) (by decide) ?_
          refine x_aload_n C 0 dX10_of_79 rfl rfl ?_
          refine x_iload_n C 2 dX10_of_80 rfl rfl ?_
          refine i_RX10_127 (rest := []) C hn rfl rfl (by decide) rfl dX10_of_81 h (fun r81 μ81 h => ?_)
          refine x_bipush C dX10_of_84 (v := 12) (by decide) ?_
          refine x_idiv C dX10_of_86 h (fun h => ?_)
          exact x_iret C hQ dX10_of_87 h
        have h := h.2 hv2
        by_cases hv3 : v2 = (3 : Int32)
        · have h := h.1 hv3
          refine x_tin C (v := 3) dX10_of_33 hv3 (by decide) (by decide) rfl (tgt := 88) (by decide) ?_
          refine x_aload_n C 0 dX10_of_88 rfl rfl ?_
          refine x_iload_n C 2 dX10_of_89 rfl rfl ?_
          refine i_RX10_124 (rest := []) C hn rfl rfl (by decide) rfl dX10_of_90 h (fun r90 μ90 h => ?_)
          refine i_RX10_130 (rest := []) C hn  rfl (by decide) rfl dX10_of_93 h (fun r93 μ93 h => ?_)
          exact x_iret C hQ dX10_of_96 h
        have h := h.2 hv3
        refine x_tout C [(0 : Int32), (1 : Int32), (2 : Int32), (3 : Int32)] (List.forall_mem_cons.mpr ⟨hv0, List.forall_mem_cons.mpr ⟨hv1, List.forall_mem_cons.mpr ⟨hv2, List.forall_mem_cons.mpr ⟨hv3, fun _ h => absurd h List.not_mem_nil⟩⟩⟩⟩) dX10_of_33 (by decide) (tgt := 97) (by decide) ?_
        refine x_aload_n C 0 dX10_of_97 rfl rfl ?_
        refine x_iload_n C 2 dX10_of_98 rfl rfl ?_
        refine i_RX10_135 (rest := []) C hn rfl rfl (by decide) rfl dX10_of_99 h (fun r99 μ99 h => ?_)
        exact x_iret C hQ dX10_of_102 h
      · exact qV_sub [1] rfl (b_X10_of_25 C hQ hn h)
theorem dX10_change_0 : decode cX10_change 0 = .ok (.aload_n 0, 1) := by decide +kernel
theorem dX10_change_1 : decode cX10_change 1 = .ok (.getfield 10, 3) := by decide +kernel
theorem dX10_change_4 : decode cX10_change 4 = .ok (.invokevirtual 85, 3) := by decide +kernel
theorem dX10_change_7 : decode cX10_change 7 = .ok (.astore_n 3, 1) := by decide +kernel
theorem dX10_change_8 : decode cX10_change 8 = .ok (.aload_n 3, 1) := by decide +kernel
theorem dX10_change_9 : decode cX10_change 9 = .ok (.iload_n 1, 1) := by decide +kernel
theorem dX10_change_10 : decode cX10_change 10 = .ok (.invokevirtual 121, 3) := by decide +kernel
theorem dX10_change_13 : decode cX10_change 13 = .ok (.ifCond .eq 10, 3) := by decide +kernel
theorem dX10_change_16 : decode cX10_change 16 = .ok (.iload_n 2, 1) := by decide +kernel
theorem dX10_change_17 : decode cX10_change 17 = .ok (.invokestatic 72, 3) := by decide +kernel
theorem dX10_change_20 : decode cX10_change 20 = .ok (.ifCond .ne 10, 3) := by decide +kernel
theorem dX10_change_23 : decode cX10_change 23 = .ok (.aload_n 0, 1) := by decide +kernel
theorem dX10_change_24 : decode cX10_change 24 = .ok (.ldc 80, 2) := by decide +kernel
theorem dX10_change_26 : decode cX10_change 26 = .ok (.invokevirtual 81, 3) := by decide +kernel
theorem dX10_change_29 : decode cX10_change 29 = .ok (.ireturn, 1) := by decide +kernel
theorem dX10_change_30 : decode cX10_change 30 = .ok (.aload_n 3, 1) := by decide +kernel
theorem dX10_change_31 : decode cX10_change 31 = .ok (.iload_n 1, 1) := by decide +kernel
theorem dX10_change_32 : decode cX10_change 32 = .ok (.invokevirtual 124, 3) := by decide +kernel
theorem dX10_change_35 : decode cX10_change 35 = .ok (.istore 4, 2) := by decide +kernel
theorem dX10_change_37 : decode cX10_change 37 = .ok (.aload_n 3, 1) := by decide +kernel
theorem dX10_change_38 : decode cX10_change 38 = .ok (.iload_n 1, 1) := by decide +kernel
theorem dX10_change_39 : decode cX10_change 39 = .ok (.iload_n 2, 1) := by decide +kernel
theorem dX10_change_40 : decode cX10_change 40 = .ok (.invokevirtual 138, 3) := by decide +kernel
theorem dX10_change_43 : decode cX10_change 43 = .ok (.iload 4, 2) := by decide +kernel
theorem dX10_change_45 : decode cX10_change 45 = .ok (.ireturn, 1) := by decide +kernel
theorem i_RX10_138 {Z : qZ} {G : qG} {cc : ByteArray} {nL k n : Nat} {rm : Room} {ret : Option FieldType} {μ : qM} {pc : Nat} {L : List (Nat × Value)} {rest : List Value} {K : qM → Prop} {o : Nat} {v1 : Int32} {v2 : Int32} (C : qX Z G RX10 cc nL rm ret) (hn : 66 ≤ gn G) (hk_o : qk o = 1) (hR : (Nat.ble (1 + 1) rm.frames && Nat.ble (8 + (3 + 11) + 21) rm.locals) = true) (hf : k + 0 ≤ rm.cells ∧ n + 0 ≤ rm.slots) (hsz : Nat.ble (rest.map fun v => v.category).sum 8 = true) (hd : decode cc pc = .ok (.invokevirtual 138, 3)) (h : w_X1_become o v1 v2 K μ) (hk : ∀ (μ1 : qM), K μ1 → qV Z G nL k n μ1 (pc + 3) L rest) : qV Z G nL k n μ pc L (.int v2 :: .int v1 :: .ref (ga G o) :: rest) := x_Vv [.int v1, .int v2] rest C o 1 (wp := fun K => w_X1_become o v1 v2 K μ) (y_X1_become : qY yX1_become cX1_become 3 none 2 ({ frames := 1, cells := 0, slots := 0, locals := 21 } : Room) 0 0) (qm_14 _ (List.mem_of_getElem? (i := 16) rfl)) (qm_14 _ (List.mem_of_getElem? (i := 17) rfl)) (qm_14 _ (List.mem_of_getElem? (i := 15) rfl)) (c_X1_become Z.2.1 G hn hk_o) (q_lt hk_o rfl hn) hk_o (by decide) rfl rfl hR hf rfl rfl hsz hd h hk
theorem b_X10_change_23 {Z : qZ} {G : qG} {μ : qM} {post : Int32 → qM → Prop} (C : qX Z G RX10 cX10_change 5 ({ frames := 2, cells := 0, slots := 0, locals := 43 } : Room) (some .int)) (hQ : qQi Z G 0 0 post) (hn : 66 ≤ gn G) (h : q_X10_change_23 post μ) : qV Z G 5 0 0 μ 23 [(0, .ref (ga G 0))] [] := by
  unfold q_X10_change_23 at h
  refine x_aload_n C 0 dX10_change_23 rfl rfl ?_
  refine x_ldc C (v := -1000001) (qm_6 _ (List.mem_of_getElem? (i := 16) rfl)) dX10_change_24 ?_
  refine i_RX10_81 (rest := []) C hn  rfl (by decide) rfl dX10_change_26 h (fun r26 μ26 h => ?_)
  exact x_iret C hQ dX10_change_29 h
theorem y_X10_change : qY yX10_change cX10_change 5 (some .int) 2 ({ frames := 2, cells := 0, slots := 0, locals := 43 } : Room) 0 0 := ⟨(qm_14 _ (List.mem_of_getElem? (i := 14) rfl)), (qm_1 _ (List.mem_of_getElem? (i := 2) rfl)), by decide +kernel, by decide +kernel, rfl, rfl⟩
theorem c_X10_change (l : Launch) (G : qG) {v1 : Int32} {v2 : Int32} {μ : qM} (hn : 66 ≤ gn G) : qCi l G yX10_change cX10_change 5 (some .int) ({ frames := 2, cells := 0, slots := 0, locals := 43 } : Room) 0 0 [.ref (ga G 0), .int v1, .int v2] μ (fun post => w_X10_change v1 v2 post μ) := by
  refine qCi_of (L := [(0, .ref (ga G 0)), (1, .int v1), (2, .int v2)]) (by decide) rfl rfl ?_
  intro Z post hl C hQ h
  have C : qX Z G RX10 cX10_change 5 ({ frames := 2, cells := 0, slots := 0, locals := 43 } : Room) (some .int) := C
  have h : w_X10_change v1 v2 post μ := h
  unfold w_X10_change at h
  refine x_aload_n C 0 dX10_change_0 rfl rfl ?_
  refine g_RX10_10 C hn dX10_change_1 ?_
  refine i_RX10_85 (rest := []) C hn rfl rfl (by decide) rfl dX10_change_4 h (fun r4 μ4 h => ?_)
  obtain ⟨rfl, h⟩ := h
  refine x_astore_n C (L' := [(3, .ref (ga G 2)), (0, .ref (ga G 0)), (1, .int v1), (2, .int v2)]) dX10_change_7 rfl (by decide) rfl ?_
  refine x_aload_n C 0 dX10_change_8 rfl rfl ?_
  refine x_iload_n C 2 dX10_change_9 rfl rfl ?_
  refine i_RX10_121 (rest := []) C hn rfl rfl (by decide) rfl dX10_change_10 h (fun r10 μ10 h => ?_)
  refine x_if_eq C dX10_change_13 (tgt := 23) (by decide) h (fun h => ?_) (fun h => ?_)
  · exact qV_sub [1] rfl (b_X10_change_23 C hQ hn h)
  · refine x_iload_n C 3 dX10_change_16 rfl rfl ?_
    refine i_RX10_72 (rest := []) C hn  rfl (by decide) rfl dX10_change_17 h (fun r17 μ17 h => ?_)
    refine x_if_ne C dX10_change_20 (tgt := 30) (by decide) h (fun h => ?_) (fun h => ?_)
    · refine x_aload_n C 0 dX10_change_30 rfl rfl ?_
      refine x_iload_n C 2 dX10_change_31 rfl rfl ?_
      refine i_RX10_124 (rest := []) C hn rfl rfl (by decide) rfl dX10_change_32 h (fun r32 μ32 h => ?_)
      refine x_istore C (L' := [(4, .int r32), (3, .ref (ga G 2)), (0, .ref (ga G 0)), (1, .int v1), (2, .int v2)]) dX10_change_35 (by decide) rfl ?_
      refine x_aload_n C 1 dX10_change_37 rfl rfl ?_
      refine x_iload_n C 3 dX10_change_38 rfl rfl ?_
      refine x_iload_n C 4 dX10_change_39 rfl rfl ?_
      refine i_RX10_138 (rest := []) C hn rfl rfl (by decide) rfl dX10_change_40 h (fun μ40 h => ?_)
      refine x_iload C 0 dX10_change_43 rfl ?_
      exact x_iret C hQ dX10_change_45 h
    · exact qV_sub [1] rfl (b_X10_change_23 C hQ hn h)
theorem dX10_fire_0 : decode cX10_fire 0 = .ok (.aload_n 0, 1) := by decide +kernel
theorem dX10_fire_1 : decode cX10_fire 1 = .ok (.getfield 10, 3) := by decide +kernel
theorem dX10_fire_4 : decode cX10_fire 4 = .ok (.invokevirtual 85, 3) := by decide +kernel
theorem dX10_fire_7 : decode cX10_fire 7 = .ok (.astore_n 1, 1) := by decide +kernel
theorem dX10_fire_8 : decode cX10_fire 8 = .ok (.aload_n 1, 1) := by decide +kernel
theorem dX10_fire_9 : decode cX10_fire 9 = .ok (.invokevirtual 108, 3) := by decide +kernel
theorem dX10_fire_12 : decode cX10_fire 12 = .ok (.ifCond .ne 10, 3) := by decide +kernel
theorem dX10_fire_15 : decode cX10_fire 15 = .ok (.aload_n 0, 1) := by decide +kernel
theorem dX10_fire_16 : decode cX10_fire 16 = .ok (.ldc 141, 2) := by decide +kernel
theorem dX10_fire_18 : decode cX10_fire 18 = .ok (.invokevirtual 81, 3) := by decide +kernel
theorem dX10_fire_21 : decode cX10_fire 21 = .ok (.ireturn, 1) := by decide +kernel
theorem dX10_fire_22 : decode cX10_fire 22 = .ok (.aload_n 1, 1) := by decide +kernel
theorem dX10_fire_23 : decode cX10_fire 23 = .ok (.aload_n 1, 1) := by decide +kernel
theorem dX10_fire_24 : decode cX10_fire 24 = .ok (.invokevirtual 108, 3) := by decide +kernel
theorem dX10_fire_27 : decode cX10_fire 27 = .ok (.iconst 1, 1) := by decide +kernel
theorem dX10_fire_28 : decode cX10_fire 28 = .ok (.isub, 1) := by decide +kernel
theorem dX10_fire_29 : decode cX10_fire 29 = .ok (.invokevirtual 127, 3) := by decide +kernel
theorem dX10_fire_32 : decode cX10_fire 32 = .ok (.istore_n 2, 1) := by decide +kernel
theorem dX10_fire_33 : decode cX10_fire 33 = .ok (.aload_n 1, 1) := by decide +kernel
theorem dX10_fire_34 : decode cX10_fire 34 = .ok (.invokevirtual 142, 3) := by decide +kernel
theorem dX10_fire_37 : decode cX10_fire 37 = .ok (.iload_n 2, 1) := by decide +kernel
theorem dX10_fire_38 : decode cX10_fire 38 = .ok (.ireturn, 1) := by decide +kernel
theorem i_RX10_142 {Z : qZ} {G : qG} {cc : ByteArray} {nL k n : Nat} {rm : Room} {ret : Option FieldType} {μ : qM} {pc : Nat} {L : List (Nat × Value)} {rest : List Value} {K : qM → Prop} {o : Nat} (C : qX Z G RX10 cc nL rm ret) (hn : 66 ≤ gn G) (hk_o : qk o = 1) (hR : (Nat.ble (0 + 1) rm.frames && Nat.ble (8 + (1 + 11) + 0) rm.locals) = true) (hf : k + 0 ≤ rm.cells ∧ n + 0 ≤ rm.slots) (hsz : Nat.ble (rest.map fun v => v.category).sum 8 = true) (hd : decode cc pc = .ok (.invokevirtual 142, 3)) (h : w_X1_burnLast o K μ) (hk : ∀ (μ1 : qM), K μ1 → qV Z G nL k n μ1 (pc + 3) L rest) : qV Z G nL k n μ pc L (.ref (ga G o) :: rest) := x_Vv [] rest C o 1 (wp := fun K => w_X1_burnLast o K μ) (y_X1_burnLast : qY yX1_burnLast cX1_burnLast 1 none 0 ({ frames := 0, cells := 0, slots := 0, locals := 0 } : Room) 0 0) (qm_15 _ (List.mem_of_getElem? (i := 5) rfl)) (qm_15 _ (List.mem_of_getElem? (i := 6) rfl)) (qm_15 _ (List.mem_of_getElem? (i := 4) rfl)) (c_X1_burnLast Z.2.1 G hn hk_o) (q_lt hk_o rfl hn) hk_o (by decide) rfl rfl hR hf rfl rfl hsz hd h hk
theorem y_X10_fire : qY yX10_fire cX10_fire 3 (some .int) 0 ({ frames := 2, cells := 0, slots := 0, locals := 42 } : Room) 0 0 := ⟨(qm_15 _ (List.mem_of_getElem? (i := 2) rfl)), (qm_1 _ (List.mem_of_getElem? (i := 2) rfl)), by decide +kernel, by decide +kernel, rfl, rfl⟩
theorem c_X10_fire (l : Launch) (G : qG) {μ : qM} (hn : 66 ≤ gn G) : qCi l G yX10_fire cX10_fire 3 (some .int) ({ frames := 2, cells := 0, slots := 0, locals := 42 } : Room) 0 0 [.ref (ga G 0)] μ (fun post => w_X10_fire  post μ) := by
  refine qCi_of (L := [(0, .ref (ga G 0))]) (by decide) rfl rfl ?_
  intro Z post hl C hQ h
  have C : qX Z G RX10 cX10_fire 3 ({ frames := 2, cells := 0, slots := 0, locals := 42 } : Room) (some .int) := C
  have h : w_X10_fire  post μ := h
  unfold w_X10_fire at h
  refine x_aload_n C 0 dX10_fire_0 rfl rfl ?_
  refine g_RX10_10 C hn dX10_fire_1 ?_
  refine i_RX10_85 (rest := []) C hn rfl rfl (by decide) rfl dX10_fire_4 h (fun r4 μ4 h => ?_)
  obtain ⟨rfl, h⟩ := h
  refine x_astore_n C (L' := [(1, .ref (ga G 2)), (0, .ref (ga G 0))]) dX10_fire_7 rfl (by decide) rfl ?_
  refine x_aload_n C 0 dX10_fire_8 rfl rfl ?_
  refine i_RX10_108 (rest := []) C hn rfl rfl (by decide) rfl dX10_fire_9 h (fun r9 μ9 h => ?_)
  refine x_if_ne C dX10_fire_12 (tgt := 22) (by decide) h (fun h => ?_) (fun h => ?_)
  · refine x_aload_n C 0 dX10_fire_22 rfl rfl ?_
    refine x_aload_n C 0 dX10_fire_23 rfl rfl ?_
    refine i_RX10_108 (rest := [.ref (ga G 2)]) C hn rfl rfl (by decide) rfl dX10_fire_24 h (fun r24 μ24 h => ?_)
    refine x_iconst C dX10_fire_27 (v := 1) (by decide) ?_
    refine x_isub C dX10_fire_28 ?_
    refine i_RX10_127 (rest := []) C hn rfl rfl (by decide) rfl dX10_fire_29 h (fun r29 μ29 h => ?_)
    refine x_istore_n C (L' := [(2, .int r29), (1, .ref (ga G 2)), (0, .ref (ga G 0))]) dX10_fire_32 rfl (by decide) rfl ?_
    refine x_aload_n C 1 dX10_fire_33 rfl rfl ?_
    refine i_RX10_142 (rest := []) C hn rfl rfl (by decide) rfl dX10_fire_34 h (fun μ34 h => ?_)
    refine x_iload_n C 0 dX10_fire_37 rfl rfl ?_
    exact x_iret C hQ dX10_fire_38 h
  · refine x_aload_n C 1 dX10_fire_15 rfl rfl ?_
    refine x_ldc C (v := -1000004) (qm_15 _ (List.mem_of_getElem? (i := 3) rfl)) dX10_fire_16 ?_
    refine i_RX10_81 (rest := []) C hn  rfl (by decide) rfl dX10_fire_18 h (fun r18 μ18 h => ?_)
    exact x_iret C hQ dX10_fire_21 h
theorem dX10_worth_0 : decode cX10_worth 0 = .ok (.iload_n 1, 1) := by decide +kernel
theorem dX10_worth_1 : decode cX10_worth 1 = .ok (.iload_n 2, 1) := by decide +kernel
theorem dX10_worth_2 : decode cX10_worth 2 = .ok (.invokestatic 76, 3) := by decide +kernel
theorem dX10_worth_5 : decode cX10_worth 5 = .ok (.ifCond .eq 13, 3) := by decide +kernel
theorem dX10_worth_8 : decode cX10_worth 8 = .ok (.iload_n 3, 1) := by decide +kernel
theorem dX10_worth_9 : decode cX10_worth 9 = .ok (.ifCond .lt 9, 3) := by decide +kernel
theorem dX10_worth_12 : decode cX10_worth 12 = .ok (.iload_n 3, 1) := by decide +kernel
theorem dX10_worth_13 : decode cX10_worth 13 = .ok (.bipush 99, 2) := by decide +kernel
theorem dX10_worth_15 : decode cX10_worth 15 = .ok (.if_icmp .le 10, 3) := by decide +kernel
theorem dX10_worth_18 : decode cX10_worth 18 = .ok (.aload_n 0, 1) := by decide +kernel
theorem dX10_worth_19 : decode cX10_worth 19 = .ok (.ldc 80, 2) := by decide +kernel
theorem dX10_worth_21 : decode cX10_worth 21 = .ok (.invokevirtual 81, 3) := by decide +kernel
theorem dX10_worth_24 : decode cX10_worth 24 = .ok (.ireturn, 1) := by decide +kernel
theorem dX10_worth_25 : decode cX10_worth 25 = .ok (.aload_n 0, 1) := by decide +kernel
theorem dX10_worth_26 : decode cX10_worth 26 = .ok (.getfield 10, 3) := by decide +kernel
theorem dX10_worth_29 : decode cX10_worth 29 = .ok (.iload_n 1, 1) := by decide +kernel
theorem dX10_worth_30 : decode cX10_worth 30 = .ok (.iload_n 2, 1) := by decide +kernel
theorem dX10_worth_31 : decode cX10_worth 31 = .ok (.invokestatic 89, 3) := by decide +kernel
theorem dX10_worth_34 : decode cX10_worth 34 = .ok (.invokevirtual 145, 3) := by decide +kernel
theorem dX10_worth_37 : decode cX10_worth 37 = .ok (.istore 4, 2) := by decide +kernel
theorem dX10_worth_39 : decode cX10_worth 39 = .ok (.aload_n 0, 1) := by decide +kernel
theorem dX10_worth_40 : decode cX10_worth 40 = .ok (.getfield 10, 3) := by decide +kernel
theorem dX10_worth_43 : decode cX10_worth 43 = .ok (.iload_n 1, 1) := by decide +kernel
theorem dX10_worth_44 : decode cX10_worth 44 = .ok (.iload_n 2, 1) := by decide +kernel
theorem dX10_worth_45 : decode cX10_worth 45 = .ok (.invokestatic 89, 3) := by decide +kernel
theorem dX10_worth_48 : decode cX10_worth 48 = .ok (.iload_n 3, 1) := by decide +kernel
theorem dX10_worth_49 : decode cX10_worth 49 = .ok (.invokevirtual 148, 3) := by decide +kernel
theorem dX10_worth_52 : decode cX10_worth 52 = .ok (.iload 4, 2) := by decide +kernel
theorem dX10_worth_54 : decode cX10_worth 54 = .ok (.ireturn, 1) := by decide +kernel
theorem i_RX10_145 {Z : qZ} {G : qG} {cc : ByteArray} {nL k n : Nat} {rm : Room} {ret : Option FieldType} {μ : qM} {pc : Nat} {L : List (Nat × Value)} {rest : List Value} {K : Int32 → qM → Prop} {o : Nat} {v1 : Int32} (C : qX Z G RX10 cc nL rm ret) (hn : 66 ≤ gn G) (hk_o : qk o = 8) (hR : (Nat.ble (0 + 1) rm.frames && Nat.ble (8 + (2 + 11) + 0) rm.locals) = true) (hf : k + 0 ≤ rm.cells ∧ n + 0 ≤ rm.slots) (hsz : Nat.ble (rest.map fun v => v.category).sum 8 = true) (hd : decode cc pc = .ok (.invokevirtual 145, 3)) (h : w_X9_worthOf o v1 K μ) (hk : ∀ (r : Int32) (μ1 : qM), K r μ1 → qV Z G nL k n μ1 (pc + 3) L (.int r :: rest)) : qV Z G nL k n μ pc L (.int v1 :: .ref (ga G o) :: rest) := x_Vi [.int v1] rest C o 8 (wp := fun K => w_X9_worthOf o v1 K μ) (y_X9_worthOf : qY yX9_worthOf cX9_worthOf 2 (some .int) 1 ({ frames := 0, cells := 0, slots := 0, locals := 0 } : Room) 0 0) (qm_11 _ (List.mem_of_getElem? (i := 4) rfl)) (qm_11 _ (List.mem_of_getElem? (i := 5) rfl)) (qm_15 _ (List.mem_of_getElem? (i := 16) rfl)) (c_X9_worthOf Z.2.1 G hn hk_o) (q_lt hk_o rfl hn) hk_o (by decide) rfl rfl hR hf rfl rfl hsz hd h hk
theorem i_RX10_148 {Z : qZ} {G : qG} {cc : ByteArray} {nL k n : Nat} {rm : Room} {ret : Option FieldType} {μ : qM} {pc : Nat} {L : List (Nat × Value)} {rest : List Value} {K : qM → Prop} {o : Nat} {v1 : Int32} {v2 : Int32} (C : qX Z G RX10 cc nL rm ret) (hn : 66 ≤ gn G) (hk_o : qk o = 8) (hR : (Nat.ble (0 + 1) rm.frames && Nat.ble (8 + (3 + 11) + 0) rm.locals) = true) (hf : k + 0 ≤ rm.cells ∧ n + 0 ≤ rm.slots) (hsz : Nat.ble (rest.map fun v => v.category).sum 8 = true) (hd : decode cc pc = .ok (.invokevirtual 148, 3)) (h : w_X9_setWorth o v1 v2 K μ) (hk : ∀ (μ1 : qM), K μ1 → qV Z G nL k n μ1 (pc + 3) L rest) : qV Z G nL k n μ pc L (.int v2 :: .int v1 :: .ref (ga G o) :: rest) := x_Vv [.int v1, .int v2] rest C o 8 (wp := fun K => w_X9_setWorth o v1 v2 K μ) (y_X9_setWorth : qY yX9_setWorth cX9_setWorth 3 none 2 ({ frames := 0, cells := 0, slots := 0, locals := 0 } : Room) 0 0) (qm_15 _ (List.mem_of_getElem? (i := 18) rfl)) (qm_15 _ (List.mem_of_getElem? (i := 19) rfl)) (qm_15 _ (List.mem_of_getElem? (i := 17) rfl)) (c_X9_setWorth Z.2.1 G hn hk_o) (q_lt hk_o rfl hn) hk_o (by decide) rfl rfl hR hf rfl rfl hsz hd h hk
theorem b_X10_worth_18 {Z : qZ} {G : qG} {μ : qM} {post : Int32 → qM → Prop} (C : qX Z G RX10 cX10_worth 5 ({ frames := 2, cells := 0, slots := 0, locals := 41 } : Room) (some .int)) (hQ : qQi Z G 0 0 post) (hn : 66 ≤ gn G) (h : q_X10_worth_18 post μ) : qV Z G 5 0 0 μ 18 [(0, .ref (ga G 0))] [] := by
  unfold q_X10_worth_18 at h
  refine x_aload_n C 0 dX10_worth_18 rfl rfl ?_
  refine x_ldc C (v := -1000001) (qm_6 _ (List.mem_of_getElem? (i := 16) rfl)) dX10_worth_19 ?_
  refine i_RX10_81 (rest := []) C hn  rfl (by decide) rfl dX10_worth_21 h (fun r21 μ21 h => ?_)
  exact x_iret C hQ dX10_worth_24 h
theorem y_X10_worth : qY yX10_worth cX10_worth 5 (some .int) 3 ({ frames := 2, cells := 0, slots := 0, locals := 41 } : Room) 0 0 := ⟨(qm_15 _ (List.mem_of_getElem? (i := 15) rfl)), (qm_1 _ (List.mem_of_getElem? (i := 2) rfl)), by decide +kernel, by decide +kernel, rfl, rfl⟩
theorem c_X10_worth (l : Launch) (G : qG) {v1 : Int32} {v2 : Int32} {v3 : Int32} {μ : qM} (hn : 66 ≤ gn G) : qCi l G yX10_worth cX10_worth 5 (some .int) ({ frames := 2, cells := 0, slots := 0, locals := 41 } : Room) 0 0 [.ref (ga G 0), .int v1, .int v2, .int v3] μ (fun post => w_X10_worth v1 v2 v3 post μ) := by
  refine qCi_of (L := [(0, .ref (ga G 0)), (1, .int v1), (2, .int v2), (3, .int v3)]) (by decide) rfl rfl ?_
  intro Z post hl C hQ h
  have C : qX Z G RX10 cX10_worth 5 ({ frames := 2, cells := 0, slots := 0, locals := 41 } : Room) (some .int) := C
  have h : w_X10_worth v1 v2 v3 post μ := h
  unfold w_X10_worth at h
  refine x_iload_n C 1 dX10_worth_0 rfl rfl ?_
  refine x_iload_n C 2 dX10_worth_1 rfl rfl ?_
  refine i_RX10_76 (rest := []) C hn  rfl (by decide) rfl dX10_worth_2 h (fun r2 μ2 h => ?_)
  refine x_if_eq C dX10_worth_5 (tgt := 18) (by decide) h (fun h => ?_) (fun h => ?_)
  · exact qV_sub [0] rfl (b_X10_worth_18 C hQ hn h)
  · refine x_iload_n C 3 dX10_worth_8 rfl rfl ?_
    refine x_if_lt C dX10_worth_9 (tgt := 18) (by decide) h (fun h => ?_) (fun h => ?_)
    · exact qV_sub [0] rfl (b_X10_worth_18 C hQ hn h)
    · refine x_iload_n C 3 dX10_worth_12 rfl rfl ?_
      refine x_bipush C dX10_worth_13 (v := 99) (by decide) ?_
      refine x_icmp_le C dX10_worth_15 (tgt := 25) (by decide) h (fun h => ?_) (fun h => ?_)
      · refine x_aload_n C 0 dX10_worth_25 rfl rfl ?_
        refine g_RX10_10 C hn dX10_worth_26 ?_
        refine x_iload_n C 1 dX10_worth_29 rfl rfl ?_
        refine x_iload_n C 2 dX10_worth_30 rfl rfl ?_
        refine i_RX10_89 (rest := [.ref (ga G 1)]) C hn  rfl (by decide) rfl dX10_worth_31 h (fun r31 μ31 h => ?_)
        refine i_RX10_145 (rest := []) C hn rfl rfl (by decide) rfl dX10_worth_34 h (fun r34 μ34 h => ?_)
        refine x_istore C (L' := [(4, .int r34), (0, .ref (ga G 0)), (1, .int v1), (2, .int v2), (3, .int v3)]) dX10_worth_37 (by decide) rfl ?_
        refine x_aload_n C 1 dX10_worth_39 rfl rfl ?_
        refine g_RX10_10 C hn dX10_worth_40 ?_
        refine x_iload_n C 2 dX10_worth_43 rfl rfl ?_
        refine x_iload_n C 3 dX10_worth_44 rfl rfl ?_
        refine i_RX10_89 (rest := [.ref (ga G 1)]) C hn  rfl (by decide) rfl dX10_worth_45 h (fun r45 μ45 h => ?_)
        refine x_iload_n C 4 dX10_worth_48 rfl rfl ?_
        refine i_RX10_148 (rest := []) C hn rfl rfl (by decide) rfl dX10_worth_49 h (fun μ49 h => ?_)
        refine x_iload C 0 dX10_worth_52 rfl ?_
        exact x_iret C hQ dX10_worth_54 h
      · exact qV_sub [0] rfl (b_X10_worth_18 C hQ hn h)
theorem dX10_coin_0 : decode cX10_coin 0 = .ok (.iload_n 1, 1) := by decide +kernel
theorem dX10_coin_1 : decode cX10_coin 1 = .ok (.ifCond .lt 9, 3) := by decide +kernel
theorem dX10_coin_4 : decode cX10_coin 4 = .ok (.iload_n 1, 1) := by decide +kernel
theorem dX10_coin_5 : decode cX10_coin 5 = .ok (.ldc 151, 2) := by decide +kernel
theorem dX10_coin_7 : decode cX10_coin 7 = .ok (.if_icmp .le 10, 3) := by decide +kernel
theorem dX10_coin_10 : decode cX10_coin 10 = .ok (.aload_n 0, 1) := by decide +kernel
theorem dX10_coin_11 : decode cX10_coin 11 = .ok (.ldc 80, 2) := by decide +kernel
theorem dX10_coin_13 : decode cX10_coin 13 = .ok (.invokevirtual 81, 3) := by decide +kernel
theorem dX10_coin_16 : decode cX10_coin 16 = .ok (.ireturn, 1) := by decide +kernel
theorem dX10_coin_17 : decode cX10_coin 17 = .ok (.aload_n 0, 1) := by decide +kernel
theorem dX10_coin_18 : decode cX10_coin 18 = .ok (.getfield 10, 3) := by decide +kernel
theorem dX10_coin_21 : decode cX10_coin 21 = .ok (.invokevirtual 118, 3) := by decide +kernel
theorem dX10_coin_24 : decode cX10_coin 24 = .ok (.istore_n 2, 1) := by decide +kernel
theorem dX10_coin_25 : decode cX10_coin 25 = .ok (.aload_n 0, 1) := by decide +kernel
theorem dX10_coin_26 : decode cX10_coin 26 = .ok (.getfield 10, 3) := by decide +kernel
theorem dX10_coin_29 : decode cX10_coin 29 = .ok (.iload_n 1, 1) := by decide +kernel
theorem dX10_coin_30 : decode cX10_coin 30 = .ok (.invokevirtual 152, 3) := by decide +kernel
theorem dX10_coin_33 : decode cX10_coin 33 = .ok (.iload_n 2, 1) := by decide +kernel
theorem dX10_coin_34 : decode cX10_coin 34 = .ok (.ireturn, 1) := by decide +kernel
theorem i_RX10_152 {Z : qZ} {G : qG} {cc : ByteArray} {nL k n : Nat} {rm : Room} {ret : Option FieldType} {μ : qM} {pc : Nat} {L : List (Nat × Value)} {rest : List Value} {K : qM → Prop} {o : Nat} {v1 : Int32} (C : qX Z G RX10 cc nL rm ret) (hn : 66 ≤ gn G) (hk_o : qk o = 8) (hR : (Nat.ble (0 + 1) rm.frames && Nat.ble (8 + (2 + 11) + 0) rm.locals) = true) (hf : k + 0 ≤ rm.cells ∧ n + 0 ≤ rm.slots) (hsz : Nat.ble (rest.map fun v => v.category).sum 8 = true) (hd : decode cc pc = .ok (.invokevirtual 152, 3)) (h : w_X9_setPurse o v1 K μ) (hk : ∀ (μ1 : qM), K μ1 → qV Z G nL k n μ1 (pc + 3) L rest) : qV Z G nL k n μ pc L (.int v1 :: .ref (ga G o) :: rest) := x_Vv [.int v1] rest C o 8 (wp := fun K => w_X9_setPurse o v1 K μ) (y_X9_setPurse : qY yX9_setPurse cX9_setPurse 2 none 1 ({ frames := 0, cells := 0, slots := 0, locals := 0 } : Room) 0 0) (qm_16 _ (List.mem_of_getElem? (i := 7) rfl)) (qm_16 _ (List.mem_of_getElem? (i := 8) rfl)) (qm_16 _ (List.mem_of_getElem? (i := 6) rfl)) (c_X9_setPurse Z.2.1 G hn hk_o) (q_lt hk_o rfl hn) hk_o (by decide) rfl rfl hR hf rfl rfl hsz hd h hk
theorem b_X10_coin_10 {Z : qZ} {G : qG} {μ : qM} {post : Int32 → qM → Prop} (C : qX Z G RX10 cX10_coin 3 ({ frames := 1, cells := 0, slots := 0, locals := 22 } : Room) (some .int)) (hQ : qQi Z G 0 0 post) (hn : 66 ≤ gn G) (h : q_X10_coin_10 post μ) : qV Z G 3 0 0 μ 10 [(0, .ref (ga G 0))] [] := by
  unfold q_X10_coin_10 at h
  refine x_aload_n C 0 dX10_coin_10 rfl rfl ?_
  refine x_ldc C (v := -1000001) (qm_6 _ (List.mem_of_getElem? (i := 16) rfl)) dX10_coin_11 ?_
  refine i_RX10_81 (rest := []) C hn  rfl (by decide) rfl dX10_coin_13 h (fun r13 μ13 h => ?_)
  exact x_iret C hQ dX10_coin_16 h
theorem y_X10_coin : qY yX10_coin cX10_coin 3 (some .int) 1 ({ frames := 1, cells := 0, slots := 0, locals := 22 } : Room) 0 0 := ⟨(qm_16 _ (List.mem_of_getElem? (i := 4) rfl)), (qm_1 _ (List.mem_of_getElem? (i := 2) rfl)), by decide +kernel, by decide +kernel, rfl, rfl⟩
theorem c_X10_coin (l : Launch) (G : qG) {v1 : Int32} {μ : qM} (hn : 66 ≤ gn G) : qCi l G yX10_coin cX10_coin 3 (some .int) ({ frames := 1, cells := 0, slots := 0, locals := 22 } : Room) 0 0 [.ref (ga G 0), .int v1] μ (fun post => w_X10_coin v1 post μ) := by
  refine qCi_of (L := [(0, .ref (ga G 0)), (1, .int v1)]) (by decide) rfl rfl ?_
  intro Z post hl C hQ h
  have C : qX Z G RX10 cX10_coin 3 ({ frames := 1, cells := 0, slots := 0, locals := 22 } : Room) (some .int) := C
  have h : w_X10_coin v1 post μ := h
  unfold w_X10_coin at h
  refine x_iload_n C 1 dX10_coin_0 rfl rfl ?_
  refine x_if_lt C dX10_coin_1 (tgt := 10) (by decide) h (fun h => ?_) (fun h => ?_)
  · exact qV_sub [0] rfl (b_X10_coin_10 C hQ hn h)
  · refine x_iload_n C 1 dX10_coin_4 rfl rfl ?_
    refine x_ldc C (v := 99999) (qm_16 _ (List.mem_of_getElem? (i := 5) rfl)) dX10_coin_5 ?_
    refine x_icmp_le C dX10_coin_7 (tgt := 17) (by decide) h (fun h => ?_) (fun h => ?_)
    · refine x_aload_n C 0 dX10_coin_17 rfl rfl ?_
      refine g_RX10_10 C hn dX10_coin_18 ?_
      refine i_RX10_118 (rest := []) C hn rfl rfl (by decide) rfl dX10_coin_21 h (fun r21 μ21 h => ?_)
      refine x_istore_n C (L' := [(2, .int r21), (0, .ref (ga G 0)), (1, .int v1)]) dX10_coin_24 rfl (by decide) rfl ?_
      refine x_aload_n C 1 dX10_coin_25 rfl rfl ?_
      refine g_RX10_10 C hn dX10_coin_26 ?_
      refine x_iload_n C 2 dX10_coin_29 rfl rfl ?_
      refine i_RX10_152 (rest := []) C hn rfl rfl (by decide) rfl dX10_coin_30 h (fun μ30 h => ?_)
      refine x_iload_n C 0 dX10_coin_33 rfl rfl ?_
      exact x_iret C hQ dX10_coin_34 h
    · exact qV_sub [0] rfl (b_X10_coin_10 C hQ hn h)
theorem dX10_far_0 : decode cX10_far 0 = .ok (.aload_n 0, 1) := by decide +kernel
theorem dX10_far_1 : decode cX10_far 1 = .ok (.getfield 10, 3) := by decide +kernel
theorem dX10_far_4 : decode cX10_far 4 = .ok (.invokevirtual 85, 3) := by decide +kernel
theorem dX10_far_7 : decode cX10_far 7 = .ok (.astore 4, 2) := by decide +kernel
theorem dX10_far_9 : decode cX10_far 9 = .ok (.aload 4, 2) := by decide +kernel
theorem dX10_far_11 : decode cX10_far 11 = .ok (.iload_n 1, 1) := by decide +kernel
theorem dX10_far_12 : decode cX10_far 12 = .ok (.invokevirtual 121, 3) := by decide +kernel
theorem dX10_far_15 : decode cX10_far 15 = .ok (.ifCond .eq 11, 3) := by decide +kernel
theorem dX10_far_18 : decode cX10_far 18 = .ok (.iload_n 2, 1) := by decide +kernel
theorem dX10_far_19 : decode cX10_far 19 = .ok (.iload_n 3, 1) := by decide +kernel
theorem dX10_far_20 : decode cX10_far 20 = .ok (.invokestatic 76, 3) := by decide +kernel
theorem dX10_far_23 : decode cX10_far 23 = .ok (.ifCond .ne 10, 3) := by decide +kernel
theorem dX10_far_26 : decode cX10_far 26 = .ok (.aload_n 0, 1) := by decide +kernel
theorem dX10_far_27 : decode cX10_far 27 = .ok (.ldc 80, 2) := by decide +kernel
theorem dX10_far_29 : decode cX10_far 29 = .ok (.invokevirtual 81, 3) := by decide +kernel
theorem dX10_far_32 : decode cX10_far 32 = .ok (.ireturn, 1) := by decide +kernel
theorem dX10_far_33 : decode cX10_far 33 = .ok (.aload 4, 2) := by decide +kernel
theorem dX10_far_35 : decode cX10_far 35 = .ok (.iload_n 1, 1) := by decide +kernel
theorem dX10_far_36 : decode cX10_far 36 = .ok (.iload_n 2, 1) := by decide +kernel
theorem dX10_far_37 : decode cX10_far 37 = .ok (.iload_n 3, 1) := by decide +kernel
theorem dX10_far_38 : decode cX10_far 38 = .ok (.invokestatic 89, 3) := by decide +kernel
theorem dX10_far_41 : decode cX10_far 41 = .ok (.invokevirtual 156, 3) := by decide +kernel
theorem dX10_far_44 : decode cX10_far 44 = .ok (.ireturn, 1) := by decide +kernel
theorem i_RX10_156 {Z : qZ} {G : qG} {cc : ByteArray} {nL k n : Nat} {rm : Room} {ret : Option FieldType} {μ : qM} {pc : Nat} {L : List (Nat × Value)} {rest : List Value} {K : Int32 → qM → Prop} {o : Nat} {v1 : Int32} {v2 : Int32} (C : qX Z G RX10 cc nL rm ret) (hn : 66 ≤ gn G) (hk_o : qk o = 1) (hR : (Nat.ble (1 + 1) rm.frames && Nat.ble (8 + (3 + 11) + 25) rm.locals) = true) (hf : k + 0 ≤ rm.cells ∧ n + 0 ≤ rm.slots) (hsz : Nat.ble (rest.map fun v => v.category).sum 8 = true) (hd : decode cc pc = .ok (.invokevirtual 156, 3)) (h : w_X1_farOf o v1 v2 K μ) (hk : ∀ (r : Int32) (μ1 : qM), K r μ1 → qV Z G nL k n μ1 (pc + 3) L (.int r :: rest)) : qV Z G nL k n μ pc L (.int v2 :: .int v1 :: .ref (ga G o) :: rest) := x_Vi [.int v1, .int v2] rest C o 1 (wp := fun K => w_X1_farOf o v1 v2 K μ) (y_X1_farOf : qY yX1_farOf cX1_farOf 3 (some .int) 2 ({ frames := 1, cells := 0, slots := 0, locals := 25 } : Room) 0 0) (qm_16 _ (List.mem_of_getElem? (i := 20) rfl)) (qm_16 _ (List.mem_of_getElem? (i := 21) rfl)) (qm_16 _ (List.mem_of_getElem? (i := 19) rfl)) (c_X1_farOf Z.2.1 G hn hk_o) (q_lt hk_o rfl hn) hk_o (by decide) rfl rfl hR hf rfl rfl hsz hd h hk
theorem b_X10_far_26 {Z : qZ} {G : qG} {μ : qM} {post : Int32 → qM → Prop} (C : qX Z G RX10 cX10_far 5 ({ frames := 2, cells := 0, slots := 0, locals := 47 } : Room) (some .int)) (hQ : qQi Z G 0 0 post) (hn : 66 ≤ gn G) (h : q_X10_far_26 post μ) : qV Z G 5 0 0 μ 26 [(0, .ref (ga G 0))] [] := by
  unfold q_X10_far_26 at h
  refine x_aload_n C 0 dX10_far_26 rfl rfl ?_
  refine x_ldc C (v := -1000001) (qm_6 _ (List.mem_of_getElem? (i := 16) rfl)) dX10_far_27 ?_
  refine i_RX10_81 (rest := []) C hn  rfl (by decide) rfl dX10_far_29 h (fun r29 μ29 h => ?_)
  exact x_iret C hQ dX10_far_32 h
theorem y_X10_far : qY yX10_far cX10_far 5 (some .int) 3 ({ frames := 2, cells := 0, slots := 0, locals := 47 } : Room) 0 0 := ⟨(qm_16 _ (List.mem_of_getElem? (i := 18) rfl)), (qm_1 _ (List.mem_of_getElem? (i := 2) rfl)), by decide +kernel, by decide +kernel, rfl, rfl⟩
theorem c_X10_far (l : Launch) (G : qG) {v1 : Int32} {v2 : Int32} {v3 : Int32} {μ : qM} (hn : 66 ≤ gn G) : qCi l G yX10_far cX10_far 5 (some .int) ({ frames := 2, cells := 0, slots := 0, locals := 47 } : Room) 0 0 [.ref (ga G 0), .int v1, .int v2, .int v3] μ (fun post => w_X10_far v1 v2 v3 post μ) := by
  refine qCi_of (L := [(0, .ref (ga G 0)), (1, .int v1), (2, .int v2), (3, .int v3)]) (by decide) rfl rfl ?_
  intro Z post hl C hQ h
  have C : qX Z G RX10 cX10_far 5 ({ frames := 2, cells := 0, slots := 0, locals := 47 } : Room) (some .int) := C
  have h : w_X10_far v1 v2 v3 post μ := h
  unfold w_X10_far at h
  refine x_aload_n C 0 dX10_far_0 rfl rfl ?_
  refine g_RX10_10 C hn dX10_far_1 ?_
  refine i_RX10_85 (rest := []) C hn rfl rfl (by decide) rfl dX10_far_4 h (fun r4 μ4 h => ?_)
  obtain ⟨rfl, h⟩ := h
  refine x_astore C (L' := [(4, .ref (ga G 2)), (0, .ref (ga G 0)), (1, .int v1), (2, .int v2), (3, .int v3)]) dX10_far_7 (by decide) rfl ?_
  refine x_aload C 0 dX10_far_9 rfl ?_
  refine x_iload_n C 2 dX10_far_11 rfl rfl ?_
  refine i_RX10_121 (rest := []) C hn rfl rfl (by decide) rfl dX10_far_12 h (fun r12 μ12 h => ?_)
  refine x_if_eq C dX10_far_15 (tgt := 26) (by decide) h (fun h => ?_) (fun h => ?_)
  · exact qV_sub [1] rfl (b_X10_far_26 C hQ hn h)
  · refine x_iload_n C 3 dX10_far_18 rfl rfl ?_
    refine x_iload_n C 4 dX10_far_19 rfl rfl ?_
    refine i_RX10_76 (rest := []) C hn  rfl (by decide) rfl dX10_far_20 h (fun r20 μ20 h => ?_)
    refine x_if_ne C dX10_far_23 (tgt := 33) (by decide) h (fun h => ?_) (fun h => ?_)
    · refine x_aload C 0 dX10_far_33 rfl ?_
      refine x_iload_n C 2 dX10_far_35 rfl rfl ?_
      refine x_iload_n C 3 dX10_far_36 rfl rfl ?_
      refine x_iload_n C 4 dX10_far_37 rfl rfl ?_
      refine i_RX10_89 (rest := [.int v1, .ref (ga G 2)]) C hn  rfl (by decide) rfl dX10_far_38 h (fun r38 μ38 h => ?_)
      refine i_RX10_156 (rest := []) C hn rfl rfl (by decide) rfl dX10_far_41 h (fun r41 μ41 h => ?_)
      exact x_iret C hQ dX10_far_44 h
    · exact qV_sub [1] rfl (b_X10_far_26 C hQ hn h)
theorem dX10_pairs_0 : decode cX10_pairs 0 = .ok (.iload_n 1, 1) := by decide +kernel
theorem dX10_pairs_1 : decode cX10_pairs 1 = .ok (.iload_n 2, 1) := by decide +kernel
theorem dX10_pairs_2 : decode cX10_pairs 2 = .ok (.invokestatic 76, 3) := by decide +kernel
theorem dX10_pairs_5 : decode cX10_pairs 5 = .ok (.ifCond .ne 10, 3) := by decide +kernel
theorem dX10_pairs_8 : decode cX10_pairs 8 = .ok (.aload_n 0, 1) := by decide +kernel
theorem dX10_pairs_9 : decode cX10_pairs 9 = .ok (.ldc 80, 2) := by decide +kernel
theorem dX10_pairs_11 : decode cX10_pairs 11 = .ok (.invokevirtual 81, 3) := by decide +kernel
theorem dX10_pairs_14 : decode cX10_pairs 14 = .ok (.ireturn, 1) := by decide +kernel
theorem dX10_pairs_15 : decode cX10_pairs 15 = .ok (.aload_n 0, 1) := by decide +kernel
theorem dX10_pairs_16 : decode cX10_pairs 16 = .ok (.getfield 10, 3) := by decide +kernel
theorem dX10_pairs_19 : decode cX10_pairs 19 = .ok (.invokevirtual 85, 3) := by decide +kernel
theorem dX10_pairs_22 : decode cX10_pairs 22 = .ok (.iload_n 1, 1) := by decide +kernel
theorem dX10_pairs_23 : decode cX10_pairs 23 = .ok (.iload_n 2, 1) := by decide +kernel
theorem dX10_pairs_24 : decode cX10_pairs 24 = .ok (.invokestatic 89, 3) := by decide +kernel
theorem dX10_pairs_27 : decode cX10_pairs 27 = .ok (.invokevirtual 159, 3) := by decide +kernel
theorem dX10_pairs_30 : decode cX10_pairs 30 = .ok (.ireturn, 1) := by decide +kernel
theorem i_RX10_159 {Z : qZ} {G : qG} {cc : ByteArray} {nL k n : Nat} {rm : Room} {ret : Option FieldType} {μ : qM} {pc : Nat} {L : List (Nat × Value)} {rest : List Value} {K : Int32 → qM → Prop} {o : Nat} {v1 : Int32} (C : qX Z G RX10 cc nL rm ret) (hn : 66 ≤ gn G) (hk_o : qk o = 1) (hR : (Nat.ble (4 + 1) rm.frames && Nat.ble (8 + (2 + 11) + 97) rm.locals) = true) (hf : k + 0 ≤ rm.cells ∧ n + 0 ≤ rm.slots) (hsz : Nat.ble (rest.map fun v => v.category).sum 8 = true) (hd : decode cc pc = .ok (.invokevirtual 159, 3)) (h : w_X1_freeings o v1 K μ) (hk : ∀ (r : Int32) (μ1 : qM), K r μ1 → qV Z G nL k n μ1 (pc + 3) L (.int r :: rest)) : qV Z G nL k n μ pc L (.int v1 :: .ref (ga G o) :: rest) := x_Vi [.int v1] rest C o 1 (wp := fun K => w_X1_freeings o v1 K μ) (y_X1_freeings : qY yX1_freeings cX1_freeings 2 (some .int) 1 ({ frames := 4, cells := 0, slots := 0, locals := 97 } : Room) 0 0) (qm_17 _ (List.mem_of_getElem? (i := 8) rfl)) (qm_17 _ (List.mem_of_getElem? (i := 9) rfl)) (qm_17 _ (List.mem_of_getElem? (i := 7) rfl)) (c_X1_freeings Z.2.1 G hn hk_o) (q_lt hk_o rfl hn) hk_o (by decide) rfl rfl hR hf rfl rfl hsz hd h hk
theorem y_X10_pairs : qY yX10_pairs cX10_pairs 3 (some .int) 2 ({ frames := 5, cells := 0, slots := 0, locals := 118 } : Room) 0 0 := ⟨(qm_17 _ (List.mem_of_getElem? (i := 6) rfl)), (qm_1 _ (List.mem_of_getElem? (i := 2) rfl)), by decide +kernel, by decide +kernel, rfl, rfl⟩
theorem c_X10_pairs (l : Launch) (G : qG) {v1 : Int32} {v2 : Int32} {μ : qM} (hn : 66 ≤ gn G) : qCi l G yX10_pairs cX10_pairs 3 (some .int) ({ frames := 5, cells := 0, slots := 0, locals := 118 } : Room) 0 0 [.ref (ga G 0), .int v1, .int v2] μ (fun post => w_X10_pairs v1 v2 post μ) := by
  refine qCi_of (L := [(0, .ref (ga G 0)), (1, .int v1), (2, .int v2)]) (by decide) rfl rfl ?_
  intro Z post hl C hQ h
  have C : qX Z G RX10 cX10_pairs 3 ({ frames := 5, cells := 0, slots := 0, locals := 118 } : Room) (some .int) := C
  have h : w_X10_pairs v1 v2 post μ := h
  unfold w_X10_pairs at h
  refine x_iload_n C 1 dX10_pairs_0 rfl rfl ?_
  refine x_iload_n C 2 dX10_pairs_1 rfl rfl ?_
  refine i_RX10_76 (rest := []) C hn  rfl (by decide) rfl dX10_pairs_2 h (fun r2 μ2 h => ?_)
  refine x_if_ne C dX10_pairs_5 (tgt := 15) (by decide) h (fun h => ?_) (fun h => ?_)
  · refine x_aload_n C 0 dX10_pairs_15 rfl rfl ?_
    refine g_RX10_10 C hn dX10_pairs_16 ?_
    refine i_RX10_85 (rest := []) C hn rfl rfl (by decide) rfl dX10_pairs_19 h (fun r19 μ19 h => ?_)
    obtain ⟨rfl, h⟩ := h
    refine x_iload_n C 1 dX10_pairs_22 rfl rfl ?_
    refine x_iload_n C 2 dX10_pairs_23 rfl rfl ?_
    refine i_RX10_89 (rest := [.ref (ga G 2)]) C hn  rfl (by decide) rfl dX10_pairs_24 h (fun r24 μ24 h => ?_)
    refine i_RX10_159 (rest := []) C hn rfl rfl (by decide) rfl dX10_pairs_27 h (fun r27 μ27 h => ?_)
    exact x_iret C hQ dX10_pairs_30 h
  · refine x_aload_n C 0 dX10_pairs_8 rfl rfl ?_
    refine x_ldc C (v := -1000001) (qm_6 _ (List.mem_of_getElem? (i := 16) rfl)) dX10_pairs_9 ?_
    refine i_RX10_81 (rest := []) C hn  rfl (by decide) rfl dX10_pairs_11 h (fun r11 μ11 h => ?_)
    exact x_iret C hQ dX10_pairs_14 h
theorem dX10_pair_0 : decode cX10_pair 0 = .ok (.iload_n 1, 1) := by decide +kernel
theorem dX10_pair_1 : decode cX10_pair 1 = .ok (.iload_n 2, 1) := by decide +kernel
theorem dX10_pair_2 : decode cX10_pair 2 = .ok (.invokestatic 76, 3) := by decide +kernel
theorem dX10_pair_5 : decode cX10_pair 5 = .ok (.ifCond .ne 10, 3) := by decide +kernel
theorem dX10_pair_8 : decode cX10_pair 8 = .ok (.aload_n 0, 1) := by decide +kernel
theorem dX10_pair_9 : decode cX10_pair 9 = .ok (.ldc 80, 2) := by decide +kernel
theorem dX10_pair_11 : decode cX10_pair 11 = .ok (.invokevirtual 81, 3) := by decide +kernel
theorem dX10_pair_14 : decode cX10_pair 14 = .ok (.ireturn, 1) := by decide +kernel
theorem dX10_pair_15 : decode cX10_pair 15 = .ok (.aload_n 0, 1) := by decide +kernel
theorem dX10_pair_16 : decode cX10_pair 16 = .ok (.getfield 10, 3) := by decide +kernel
theorem dX10_pair_19 : decode cX10_pair 19 = .ok (.invokevirtual 85, 3) := by decide +kernel
theorem dX10_pair_22 : decode cX10_pair 22 = .ok (.astore_n 3, 1) := by decide +kernel
theorem dX10_pair_23 : decode cX10_pair 23 = .ok (.aload_n 3, 1) := by decide +kernel
theorem dX10_pair_24 : decode cX10_pair 24 = .ok (.iload_n 1, 1) := by decide +kernel
theorem dX10_pair_25 : decode cX10_pair 25 = .ok (.iload_n 2, 1) := by decide +kernel
theorem dX10_pair_26 : decode cX10_pair 26 = .ok (.invokestatic 89, 3) := by decide +kernel
theorem dX10_pair_29 : decode cX10_pair 29 = .ok (.invokevirtual 162, 3) := by decide +kernel
theorem dX10_pair_32 : decode cX10_pair 32 = .ok (.ifCond .ne 10, 3) := by decide +kernel
theorem dX10_pair_35 : decode cX10_pair 35 = .ok (.aload_n 0, 1) := by decide +kernel
theorem dX10_pair_36 : decode cX10_pair 36 = .ok (.ldc 141, 2) := by decide +kernel
theorem dX10_pair_38 : decode cX10_pair 38 = .ok (.invokevirtual 81, 3) := by decide +kernel
theorem dX10_pair_41 : decode cX10_pair 41 = .ok (.ireturn, 1) := by decide +kernel
theorem dX10_pair_42 : decode cX10_pair 42 = .ok (.aload_n 3, 1) := by decide +kernel
theorem dX10_pair_43 : decode cX10_pair 43 = .ok (.iload_n 1, 1) := by decide +kernel
theorem dX10_pair_44 : decode cX10_pair 44 = .ok (.iload_n 2, 1) := by decide +kernel
theorem dX10_pair_45 : decode cX10_pair 45 = .ok (.invokestatic 89, 3) := by decide +kernel
theorem dX10_pair_48 : decode cX10_pair 48 = .ok (.invokevirtual 165, 3) := by decide +kernel
theorem dX10_pair_51 : decode cX10_pair 51 = .ok (.ireturn, 1) := by decide +kernel
theorem i_RX10_162 {Z : qZ} {G : qG} {cc : ByteArray} {nL k n : Nat} {rm : Room} {ret : Option FieldType} {μ : qM} {pc : Nat} {L : List (Nat × Value)} {rest : List Value} {K : Int32 → qM → Prop} {o : Nat} {v1 : Int32} (C : qX Z G RX10 cc nL rm ret) (hn : 66 ≤ gn G) (hk_o : qk o = 1) (hR : (Nat.ble (4 + 1) rm.frames && Nat.ble (8 + (2 + 11) + 97) rm.locals) = true) (hf : k + 0 ≤ rm.cells ∧ n + 0 ≤ rm.slots) (hsz : Nat.ble (rest.map fun v => v.category).sum 8 = true) (hd : decode cc pc = .ok (.invokevirtual 162, 3)) (h : w_X1_isFree o v1 K μ) (hk : ∀ (r : Int32) (μ1 : qM), K r μ1 → qV Z G nL k n μ1 (pc + 3) L (.int r :: rest)) : qV Z G nL k n μ pc L (.int v1 :: .ref (ga G o) :: rest) := x_Vi [.int v1] rest C o 1 (wp := fun K => w_X1_isFree o v1 K μ) (y_X1_isFree : qY yX1_isFree cX1_isFree 2 (some .boolean) 1 ({ frames := 4, cells := 0, slots := 0, locals := 97 } : Room) 0 0) (qm_10 _ (List.mem_of_getElem? (i := 0) rfl)) (qm_10 _ (List.mem_of_getElem? (i := 1) rfl)) (qm_17 _ (List.mem_of_getElem? (i := 23) rfl)) (c_X1_isFree Z.2.1 G hn hk_o) (q_lt hk_o rfl hn) hk_o (by decide) rfl rfl hR hf rfl rfl hsz hd h hk
theorem i_RX10_165 {Z : qZ} {G : qG} {cc : ByteArray} {nL k n : Nat} {rm : Room} {ret : Option FieldType} {μ : qM} {pc : Nat} {L : List (Nat × Value)} {rest : List Value} {K : Int32 → qM → Prop} {o : Nat} {v1 : Int32} (C : qX Z G RX10 cc nL rm ret) (hn : 66 ≤ gn G) (hk_o : qk o = 1) (hR : (Nat.ble (4 + 1) rm.frames && Nat.ble (8 + (4 + 11) + 93) rm.locals) = true) (hf : k + 0 ≤ rm.cells ∧ n + 0 ≤ rm.slots) (hsz : Nat.ble (rest.map fun v => v.category).sum 8 = true) (hd : decode cc pc = .ok (.invokevirtual 165, 3)) (h : w_X1_firstPair o v1 K μ) (hk : ∀ (r : Int32) (μ1 : qM), K r μ1 → qV Z G nL k n μ1 (pc + 3) L (.int r :: rest)) : qV Z G nL k n μ pc L (.int v1 :: .ref (ga G o) :: rest) := x_Vi [.int v1] rest C o 1 (wp := fun K => w_X1_firstPair o v1 K μ) (y_X1_firstPair : qY yX1_firstPair cX1_firstPair 4 (some .int) 1 ({ frames := 4, cells := 0, slots := 0, locals := 93 } : Room) 0 0) (qm_18 _ (List.mem_of_getElem? (i := 1) rfl)) (qm_18 _ (List.mem_of_getElem? (i := 2) rfl)) (qm_18 _ (List.mem_of_getElem? (i := 0) rfl)) (c_X1_firstPair Z.2.1 G hn hk_o) (q_lt hk_o rfl hn) hk_o (by decide) rfl rfl hR hf rfl rfl hsz hd h hk
theorem y_X10_pair : qY yX10_pair cX10_pair 4 (some .int) 2 ({ frames := 5, cells := 0, slots := 0, locals := 118 } : Room) 0 0 := ⟨(qm_17 _ (List.mem_of_getElem? (i := 22) rfl)), (qm_1 _ (List.mem_of_getElem? (i := 2) rfl)), by decide +kernel, by decide +kernel, rfl, rfl⟩
theorem c_X10_pair (l : Launch) (G : qG) {v1 : Int32} {v2 : Int32} {μ : qM} (hn : 66 ≤ gn G) : qCi l G yX10_pair cX10_pair 4 (some .int) ({ frames := 5, cells := 0, slots := 0, locals := 118 } : Room) 0 0 [.ref (ga G 0), .int v1, .int v2] μ (fun post => w_X10_pair v1 v2 post μ) := by
  refine qCi_of (L := [(0, .ref (ga G 0)), (1, .int v1), (2, .int v2)]) (by decide) rfl rfl ?_
  intro Z post hl C hQ h
  have C : qX Z G RX10 cX10_pair 4 ({ frames := 5, cells := 0, slots := 0, locals := 118 } : Room) (some .int) := C
  have h : w_X10_pair v1 v2 post μ := h
  unfold w_X10_pair at h
  refine x_iload_n C 1 dX10_pair_0 rfl rfl ?_
  refine x_iload_n C 2 dX10_pair_1 rfl rfl ?_
  refine i_RX10_76 (rest := []) C hn  rfl (by decide) rfl dX10_pair_2 h (fun r2 μ2 h => ?_)
  refine x_if_ne C dX10_pair_5 (tgt := 15) (by decide) h (fun h => ?_) (fun h => ?_)
  · refine x_aload_n C 0 dX10_pair_15 rfl rfl ?_
    refine g_RX10_10 C hn dX10_pair_16 ?_
    refine i_RX10_85 (rest := []) C hn rfl rfl (by decide) rfl dX10_pair_19 h (fun r19 μ19 h => ?_)
    obtain ⟨rfl, h⟩ := h
    refine x_astore_n C (L' := [(3, .ref (ga G 2)), (0, .ref (ga G 0)), (1, .int v1), (2, .int v2)]) dX10_pair_22 rfl (by decide) rfl ?_
    refine x_aload_n C 0 dX10_pair_23 rfl rfl ?_
    refine x_iload_n C 2 dX10_pair_24 rfl rfl ?_
    refine x_iload_n C 3 dX10_pair_25 rfl rfl ?_
    refine i_RX10_89 (rest := [.ref (ga G 2)]) C hn  rfl (by decide) rfl dX10_pair_26 h (fun r26 μ26 h => ?_)
    refine i_RX10_162 (rest := []) C hn rfl rfl (by decide) rfl dX10_pair_29 h (fun r29 μ29 h => ?_)
    refine x_if_ne C dX10_pair_32 (tgt := 42) (by decide) h (fun h => ?_) (fun h => ?_)
    · refine x_aload_n C 0 dX10_pair_42 rfl rfl ?_
      refine x_iload_n C 2 dX10_pair_43 rfl rfl ?_
      refine x_iload_n C 3 dX10_pair_44 rfl rfl ?_
      refine i_RX10_89 (rest := [.ref (ga G 2)]) C hn  rfl (by decide) rfl dX10_pair_45 h (fun r45 μ45 h => ?_)
      refine i_RX10_165 (rest := []) C hn rfl rfl (by decide) rfl dX10_pair_48 h (fun r48 μ48 h => ?_)
      exact x_iret C hQ dX10_pair_51 h
    · refine x_aload_n C 1 dX10_pair_35 rfl rfl ?_
      refine x_ldc C (v := -1000004) (qm_15 _ (List.mem_of_getElem? (i := 3) rfl)) dX10_pair_36 ?_
      refine i_RX10_81 (rest := []) C hn  rfl (by decide) rfl dX10_pair_38 h (fun r38 μ38 h => ?_)
      exact x_iret C hQ dX10_pair_41 h
  · refine x_aload_n C 0 dX10_pair_8 rfl rfl ?_
    refine x_ldc C (v := -1000001) (qm_6 _ (List.mem_of_getElem? (i := 16) rfl)) dX10_pair_9 ?_
    refine i_RX10_81 (rest := []) C hn  rfl (by decide) rfl dX10_pair_11 h (fun r11 μ11 h => ?_)
    exact x_iret C hQ dX10_pair_14 h
theorem dX10_row_0 : decode cX10_row 0 = .ok (.iload_n 1, 1) := by decide +kernel
theorem dX10_row_1 : decode cX10_row 1 = .ok (.invokestatic 168, 3) := by decide +kernel
theorem dX10_row_4 : decode cX10_row 4 = .ok (.ifCond .ne 10, 3) := by decide +kernel
theorem dX10_row_7 : decode cX10_row 7 = .ok (.aload_n 0, 1) := by decide +kernel
theorem dX10_row_8 : decode cX10_row 8 = .ok (.ldc 80, 2) := by decide +kernel
theorem dX10_row_10 : decode cX10_row 10 = .ok (.invokevirtual 81, 3) := by decide +kernel
theorem dX10_row_13 : decode cX10_row 13 = .ok (.ireturn, 1) := by decide +kernel
theorem dX10_row_14 : decode cX10_row 14 = .ok (.iconst 0, 1) := by decide +kernel
theorem dX10_row_15 : decode cX10_row 15 = .ok (.istore_n 2, 1) := by decide +kernel
theorem dX10_row_16 : decode cX10_row 16 = .ok (.iconst 0, 1) := by decide +kernel
theorem dX10_row_17 : decode cX10_row 17 = .ok (.istore_n 3, 1) := by decide +kernel
theorem dX10_row_18 : decode cX10_row 18 = .ok (.iload_n 3, 1) := by decide +kernel
theorem dX10_row_19 : decode cX10_row 19 = .ok (.bipush 12, 2) := by decide +kernel
theorem dX10_row_21 : decode cX10_row 21 = .ok (.if_icmp .ge 33, 3) := by decide +kernel
theorem dX10_row_24 : decode cX10_row 24 = .ok (.aload_n 0, 1) := by decide +kernel
theorem dX10_row_25 : decode cX10_row 25 = .ok (.getfield 10, 3) := by decide +kernel
theorem dX10_row_28 : decode cX10_row 28 = .ok (.invokevirtual 85, 3) := by decide +kernel
theorem dX10_row_31 : decode cX10_row 31 = .ok (.iload_n 3, 1) := by decide +kernel
theorem dX10_row_32 : decode cX10_row 32 = .ok (.iload_n 1, 1) := by decide +kernel
theorem dX10_row_33 : decode cX10_row 33 = .ok (.invokestatic 89, 3) := by decide +kernel
theorem dX10_row_36 : decode cX10_row 36 = .ok (.invokevirtual 162, 3) := by decide +kernel
theorem dX10_row_39 : decode cX10_row 39 = .ok (.ifCond .eq 9, 3) := by decide +kernel
theorem dX10_row_42 : decode cX10_row 42 = .ok (.iload_n 2, 1) := by decide +kernel
theorem dX10_row_43 : decode cX10_row 43 = .ok (.iconst 1, 1) := by decide +kernel
theorem dX10_row_44 : decode cX10_row 44 = .ok (.iload_n 3, 1) := by decide +kernel
theorem dX10_row_45 : decode cX10_row 45 = .ok (.ishl, 1) := by decide +kernel
theorem dX10_row_46 : decode cX10_row 46 = .ok (.ior, 1) := by decide +kernel
theorem dX10_row_47 : decode cX10_row 47 = .ok (.istore_n 2, 1) := by decide +kernel
theorem dX10_row_48 : decode cX10_row 48 = .ok (.iinc 3 1, 3) := by decide +kernel
theorem dX10_row_51 : decode cX10_row 51 = .ok (.goto (-33), 3) := by decide +kernel
theorem dX10_row_54 : decode cX10_row 54 = .ok (.iload_n 2, 1) := by decide +kernel
theorem dX10_row_55 : decode cX10_row 55 = .ok (.ireturn, 1) := by decide +kernel
theorem b_X10_row_48 {Z : qZ} {G : qG} {v1 : Int32} {v2 : Int32} {v3 : Int32} {μ : qM} {P18 : Int32 → Int32 → qM → Prop} {post : Int32 → qM → Prop} (C : qX Z G RX10 cX10_row 4 ({ frames := 5, cells := 0, slots := 0, locals := 118 } : Room) (some .int)) (hQ : qQi Z G 0 0 post) (hn : 66 ≤ gn G) (hP18 : ∀ (b2 : Int32) (b3 : Int32) (μ1 : qM), P18 b2 b3 μ1 → qV Z G 4 0 0 μ1 18 [(0, .ref (ga G 0)), (1, .int v1), (2, .int b2), (3, .int b3)] []) (h : q_X10_row_48 P18 post v1 v2 v3 μ) : qV Z G 4 0 0 μ 48 [(0, .ref (ga G 0)), (1, .int v1), (2, .int v2), (3, .int v3)] [] := by
  unfold q_X10_row_48 at h
  refine x_iinc C 3 (v := 1) (L' := [(3, .int ((v3 + 1))), (0, .ref (ga G 0)), (1, .int v1), (2, .int v2)]) dX10_row_48 rfl (by decide) (by decide) rfl ?_
  refine x_goto C dX10_row_51 (tgt := 18) (by decide) ?_
  exact qV_sub [1, 2, 3, 0] rfl ((hP18 _ _ _ h))
theorem b_X10_row_18 {Z : qZ} {G : qG} {v1 : Int32} {v2 : Int32} {v3 : Int32} {μ : qM} {post : Int32 → qM → Prop} (C : qX Z G RX10 cX10_row 4 ({ frames := 5, cells := 0, slots := 0, locals := 118 } : Room) (some .int)) (hQ : qQi Z G 0 0 post) (hn : 66 ≤ gn G) (h : q_X10_row_18 v1 post v2 v3 μ) : qV Z G 4 0 0 μ 18 [(0, .ref (ga G 0)), (1, .int v1), (2, .int v2), (3, .int v3)] [] := by
  refine h (fun v2 v3 μ => qV Z G 4 0 0 μ 18 [(0, .ref (ga G 0)), (1, .int v1), (2, .int v2), (3, .int v3)] []) (fun v2 v3 μ h => ?_)
  refine x_iload_n C 3 dX10_row_18 rfl rfl ?_
  refine x_bipush C dX10_row_19 (v := 12) (by decide) ?_
  refine x_icmp_ge C dX10_row_21 (tgt := 54) (by decide) h (fun h => ?_) (fun h => ?_)
  · refine x_iload_n C 2 dX10_row_54 rfl rfl ?_
    exact x_iret C hQ dX10_row_55 h
  · refine x_aload_n C 0 dX10_row_24 rfl rfl ?_
    refine g_RX10_10 C hn dX10_row_25 ?_
    refine i_RX10_85 (rest := []) C hn rfl rfl (by decide) rfl dX10_row_28 h (fun r28 μ28 h => ?_)
    obtain ⟨rfl, h⟩ := h
    refine x_iload_n C 3 dX10_row_31 rfl rfl ?_
    refine x_iload_n C 1 dX10_row_32 rfl rfl ?_
    refine i_RX10_89 (rest := [.ref (ga G 2)]) C hn  rfl (by decide) rfl dX10_row_33 h (fun r33 μ33 h => ?_)
    refine i_RX10_162 (rest := []) C hn rfl rfl (by decide) rfl dX10_row_36 h (fun r36 μ36 h => ?_)
    refine x_if_eq C dX10_row_39 (tgt := 48) (by decide) h (fun h => ?_) (fun h => ?_)
    · exact b_X10_row_48 C hQ hn (fun _ _ _ h => h) h
    · refine x_iload_n C 2 dX10_row_42 rfl rfl ?_
      refine x_iconst C dX10_row_43 (v := 1) (by decide) ?_
      refine x_iload_n C 3 dX10_row_44 rfl rfl ?_
      refine x_ishl C dX10_row_45 ?_
      refine x_ior C dX10_row_46 ?_
      refine x_istore_n C (L' := [(2, .int ((v2 ||| ((1 : Int32) <<< (v3 &&& 31))))), (0, .ref (ga G 0)), (1, .int v1), (3, .int v3)]) dX10_row_47 rfl (by decide) rfl ?_
      exact qV_sub [1, 2, 0, 3] rfl (b_X10_row_48 C hQ hn (fun _ _ _ h => h) h)
theorem y_X10_row : qY yX10_row cX10_row 4 (some .int) 1 ({ frames := 5, cells := 0, slots := 0, locals := 118 } : Room) 0 0 := ⟨(qm_18 _ (List.mem_of_getElem? (i := 11) rfl)), (qm_1 _ (List.mem_of_getElem? (i := 2) rfl)), by decide +kernel, by decide +kernel, rfl, rfl⟩
theorem c_X10_row (l : Launch) (G : qG) {v1 : Int32} {μ : qM} (hn : 66 ≤ gn G) : qCi l G yX10_row cX10_row 4 (some .int) ({ frames := 5, cells := 0, slots := 0, locals := 118 } : Room) 0 0 [.ref (ga G 0), .int v1] μ (fun post => w_X10_row v1 post μ) := by
  refine qCi_of (L := [(0, .ref (ga G 0)), (1, .int v1)]) (by decide) rfl rfl ?_
  intro Z post hl C hQ h
  have C : qX Z G RX10 cX10_row 4 ({ frames := 5, cells := 0, slots := 0, locals := 118 } : Room) (some .int) := C
  have h : w_X10_row v1 post μ := h
  unfold w_X10_row at h
  refine x_iload_n C 1 dX10_row_0 rfl rfl ?_
  refine i_RX10_168 (rest := []) C hn  rfl (by decide) rfl dX10_row_1 h (fun r1 μ1 h => ?_)
  refine x_if_ne C dX10_row_4 (tgt := 14) (by decide) h (fun h => ?_) (fun h => ?_)
  · refine x_iconst C dX10_row_14 (v := 0) (by decide) ?_
    refine x_istore_n C (L' := [(2, .int ((0 : Int32))), (0, .ref (ga G 0)), (1, .int v1)]) dX10_row_15 rfl (by decide) rfl ?_
    refine x_iconst C dX10_row_16 (v := 0) (by decide) ?_
    refine x_istore_n C (L' := [(3, .int ((0 : Int32))), (2, .int ((0 : Int32))), (0, .ref (ga G 0)), (1, .int v1)]) dX10_row_17 rfl (by decide) rfl ?_
    exact qV_sub [2, 3, 1, 0] rfl (b_X10_row_18 C hQ hn h)
  · refine x_aload_n C 0 dX10_row_7 rfl rfl ?_
    refine x_ldc C (v := -1000001) (qm_6 _ (List.mem_of_getElem? (i := 16) rfl)) dX10_row_8 ?_
    refine i_RX10_81 (rest := []) C hn  rfl (by decide) rfl dX10_row_10 h (fun r10 μ10 h => ?_)
    exact x_iret C hQ dX10_row_13 h
theorem dX10_lots_0 : decode cX10_lots 0 = .ok (.iload_n 1, 1) := by decide +kernel
theorem dX10_lots_1 : decode cX10_lots 1 = .ok (.tableswitch 64 0 2 #[27, 38, 49], 27) := by decide +kernel
theorem dX10_lots_28 : decode cX10_lots 28 = .ok (.aload_n 0, 1) := by decide +kernel
theorem dX10_lots_29 : decode cX10_lots 29 = .ok (.getfield 10, 3) := by decide +kernel
theorem dX10_lots_32 : decode cX10_lots 32 = .ok (.invokevirtual 85, 3) := by decide +kernel
theorem dX10_lots_35 : decode cX10_lots 35 = .ok (.invokevirtual 171, 3) := by decide +kernel
theorem dX10_lots_38 : decode cX10_lots 38 = .ok (.ireturn, 1) := by decide +kernel
theorem dX10_lots_39 : decode cX10_lots 39 = .ok (.aload_n 0, 1) := by decide +kernel
theorem dX10_lots_40 : decode cX10_lots 40 = .ok (.getfield 10, 3) := by decide +kernel
theorem dX10_lots_43 : decode cX10_lots 43 = .ok (.invokevirtual 85, 3) := by decide +kernel
theorem dX10_lots_46 : decode cX10_lots 46 = .ok (.invokevirtual 174, 3) := by decide +kernel
theorem dX10_lots_49 : decode cX10_lots 49 = .ok (.ireturn, 1) := by decide +kernel
theorem dX10_lots_50 : decode cX10_lots 50 = .ok (.aload_n 0, 1) := by decide +kernel
theorem dX10_lots_51 : decode cX10_lots 51 = .ok (.getfield 46, 3) := by decide +kernel
theorem dX10_lots_54 : decode cX10_lots 54 = .ok (.aload_n 0, 1) := by decide +kernel
theorem dX10_lots_55 : decode cX10_lots 55 = .ok (.getfield 10, 3) := by decide +kernel
theorem dX10_lots_58 : decode cX10_lots 58 = .ok (.invokevirtual 85, 3) := by decide +kernel
theorem dX10_lots_61 : decode cX10_lots 61 = .ok (.invokevirtual 177, 3) := by decide +kernel
theorem dX10_lots_64 : decode cX10_lots 64 = .ok (.ireturn, 1) := by decide +kernel
theorem dX10_lots_65 : decode cX10_lots 65 = .ok (.aload_n 0, 1) := by decide +kernel
theorem dX10_lots_66 : decode cX10_lots 66 = .ok (.ldc 80, 2) := by decide +kernel
theorem dX10_lots_68 : decode cX10_lots 68 = .ok (.invokevirtual 81, 3) := by decide +kernel
theorem dX10_lots_71 : decode cX10_lots 71 = .ok (.ireturn, 1) := by decide +kernel
theorem i_RX10_171 {Z : qZ} {G : qG} {cc : ByteArray} {nL k n : Nat} {rm : Room} {ret : Option FieldType} {μ : qM} {pc : Nat} {L : List (Nat × Value)} {rest : List Value} {K : Int32 → qM → Prop} {o : Nat} (C : qX Z G RX10 cc nL rm ret) (hn : 66 ≤ gn G) (hk_o : qk o = 1) (hR : (Nat.ble (5 + 1) rm.frames && Nat.ble (8 + (3 + 11) + 118) rm.locals) = true) (hf : k + 0 ≤ rm.cells ∧ n + 0 ≤ rm.slots) (hsz : Nat.ble (rest.map fun v => v.category).sum 8 = true) (hd : decode cc pc = .ok (.invokevirtual 171, 3)) (h : w_X1_countFree o K μ) (hk : ∀ (r : Int32) (μ1 : qM), K r μ1 → qV Z G nL k n μ1 (pc + 3) L (.int r :: rest)) : qV Z G nL k n μ pc L (.ref (ga G o) :: rest) := x_Vi [] rest C o 1 (wp := fun K => w_X1_countFree o K μ) (y_X1_countFree : qY yX1_countFree cX1_countFree 3 (some .int) 0 ({ frames := 5, cells := 0, slots := 0, locals := 118 } : Room) 0 0) (qm_19 _ (List.mem_of_getElem? (i := 5) rfl)) (qm_19 _ (List.mem_of_getElem? (i := 6) rfl)) (qm_19 _ (List.mem_of_getElem? (i := 4) rfl)) (c_X1_countFree Z.2.1 G hn hk_o) (q_lt hk_o rfl hn) hk_o (by decide) rfl rfl hR hf rfl rfl hsz hd h hk
theorem i_RX10_174 {Z : qZ} {G : qG} {cc : ByteArray} {nL k n : Nat} {rm : Room} {ret : Option FieldType} {μ : qM} {pc : Nat} {L : List (Nat × Value)} {rest : List Value} {K : Int32 → qM → Prop} {o : Nat} (C : qX Z G RX10 cc nL rm ret) (hn : 66 ≤ gn G) (hk_o : qk o = 1) (hR : (Nat.ble (5 + 1) rm.frames && Nat.ble (8 + (3 + 11) + 118) rm.locals) = true) (hf : k + 0 ≤ rm.cells ∧ n + 0 ≤ rm.slots) (hsz : Nat.ble (rest.map fun v => v.category).sum 8 = true) (hd : decode cc pc = .ok (.invokevirtual 174, 3)) (h : w_X1_countFreeByOne o K μ) (hk : ∀ (r : Int32) (μ1 : qM), K r μ1 → qV Z G nL k n μ1 (pc + 3) L (.int r :: rest)) : qV Z G nL k n μ pc L (.ref (ga G o) :: rest) := x_Vi [] rest C o 1 (wp := fun K => w_X1_countFreeByOne o K μ) (y_X1_countFreeByOne : qY yX1_countFreeByOne cX1_countFreeByOne 3 (some .int) 0 ({ frames := 5, cells := 0, slots := 0, locals := 118 } : Room) 0 0) (qm_19 _ (List.mem_of_getElem? (i := 10) rfl)) (qm_19 _ (List.mem_of_getElem? (i := 11) rfl)) (qm_19 _ (List.mem_of_getElem? (i := 9) rfl)) (c_X1_countFreeByOne Z.2.1 G hn hk_o) (q_lt hk_o rfl hn) hk_o (by decide) rfl rfl hR hf rfl rfl hsz hd h hk
theorem i_RX10_177 {Z : qZ} {G : qG} {cc : ByteArray} {nL k n : Nat} {rm : Room} {ret : Option FieldType} {μ : qM} {pc : Nat} {L : List (Nat × Value)} {rest : List Value} {K : Int32 → qM → Prop} {o : Nat} {o1 : Nat} (C : qX Z G RX10 cc nL rm ret) (hn : 66 ≤ gn G) (hk_o : qk o = 6) (hk_o1 : qk o1 = 1) (hR : (Nat.ble (5 + 1) rm.frames && Nat.ble (8 + (4 + 11) + 121) rm.locals) = true) (hf : k + 0 ≤ rm.cells ∧ n + 0 ≤ rm.slots) (hsz : Nat.ble (rest.map fun v => v.category).sum 8 = true) (hd : decode cc pc = .ok (.invokevirtual 177, 3)) (h : w_X7_reach o o1 K μ) (hk : ∀ (r : Int32) (μ1 : qM), K r μ1 → qV Z G nL k n μ1 (pc + 3) L (.int r :: rest)) : qV Z G nL k n μ pc L (.ref (ga G o1) :: .ref (ga G o) :: rest) := x_Vi [.ref (ga G o1)] rest C o 6 (wp := fun K => w_X7_reach o o1 K μ) (y_X7_reach : qY yX7_reach cX7_reach 4 (some .int) 1 ({ frames := 5, cells := 0, slots := 0, locals := 121 } : Room) 0 0) (qm_19 _ (List.mem_of_getElem? (i := 15) rfl)) (qm_19 _ (List.mem_of_getElem? (i := 16) rfl)) (qm_19 _ (List.mem_of_getElem? (i := 14) rfl)) (c_X7_reach Z.2.1 G hn hk_o hk_o1) (q_lt hk_o rfl hn) hk_o (by decide) rfl rfl hR hf rfl rfl hsz hd h hk
theorem g_RX10_46 {Z : qZ} {G : qG} {cc : ByteArray} {nL k n : Nat} {rm : Room} {ret : Option FieldType} {μ : qM} {pc : Nat} {L : List (Nat × Value)} {st : List Value} (C : qX Z G RX10 cc nL rm ret) (hn : 66 ≤ gn G) (hd : decode cc pc = .ok (.getfield 46, 3)) (h : qV Z G nL k n μ (pc + 3) L (.ref (ga G 34) :: st)) : qV Z G nL k n μ pc L (.ref (ga G 0) :: st) := x_getr C 0 9 7 34 34 (C0 := RX10) (fn := "spread") (fd := "LEqualPlain$Spread;") (Nat.lt_of_lt_of_le (by decide) hn) rfl (by decide) rfl (by decide) rfl inlX10 (qm_2 _ (List.mem_of_getElem? (i := 6) rfl)) rfl rfl rfl hd h
theorem y_X10_lots : qY yX10_lots cX10_lots 2 (some .int) 1 ({ frames := 6, cells := 0, slots := 0, locals := 144 } : Room) 0 0 := ⟨(qm_19 _ (List.mem_of_getElem? (i := 3) rfl)), (qm_1 _ (List.mem_of_getElem? (i := 2) rfl)), by decide +kernel, by decide +kernel, rfl, rfl⟩
theorem c_X10_lots (l : Launch) (G : qG) {v1 : Int32} {μ : qM} (hn : 66 ≤ gn G) : qCi l G yX10_lots cX10_lots 2 (some .int) ({ frames := 6, cells := 0, slots := 0, locals := 144 } : Room) 0 0 [.ref (ga G 0), .int v1] μ (fun post => w_X10_lots v1 post μ) := by
  refine qCi_of (L := [(0, .ref (ga G 0)), (1, .int v1)]) (by decide) rfl rfl ?_
  intro Z post hl C hQ h
  have C : qX Z G RX10 cX10_lots 2 ({ frames := 6, cells := 0, slots := 0, locals := 144 } : Room) (some .int) := C
  have h : w_X10_lots v1 post μ := h
  unfold w_X10_lots at h
  refine x_iload_n C 1 dX10_lots_0 rfl rfl ?_
  by_cases hv0 : v1 = (0 : Int32)
  · have h := h.1 hv0
    refine x_tin C (v := 0) dX10_lots_1 hv0 (by decide) (by decide) rfl (tgt := 28) (by decide) ?_
    refine x_aload_n C 0 dX10_lots_28 rfl rfl ?_
    refine g_RX10_10 C hn dX10_lots_29 ?_
    refine i_RX10_85 (rest := []) C hn rfl rfl (by decide) rfl dX10_lots_32 h (fun r32 μ32 h => ?_)
    obtain ⟨rfl, h⟩ := h
    refine i_RX10_171 (rest := []) C hn rfl rfl (by decide) rfl dX10_lots_35 h (fun r35 μ35 h => ?_)
    exact x_iret C hQ dX10_lots_38 h
  have h := h.2 hv0
  by_cases hv1 : v1 = (1 : Int32)
  · have h := h.1 hv1
    refine x_tin C (v := 1) dX10_lots_1 hv1 (by decide) (by decide) rfl (tgt := 39) (by decide) ?_
    refine x_aload_n C 0 dX10_lots_39 rfl rfl ?_
    refine g_RX10_10 C hn dX10_lots_40 ?_
    refine i_RX10_85 (rest := []) C hn rfl rfl (by decide) rfl dX10_lots_43 h (fun r43 μ43 h => ?_)
    obtain ⟨rfl, h⟩ := h
    refine i_RX10_174 (rest := []) C hn rfl rfl (by decide) rfl dX10_lots_46 h (fun r46 μ46 h => ?_)
    exact x_iret C hQ dX10_lots_49 h
  have h := h.2 hv1
  by_cases hv2 : v1 = (2 : Int32)
  · have h := h.1 hv2
    refine x_tin C (v := 2) dX10_lots_1 hv2 (by decide) (by decide) rfl (tgt := 50) (by decide) ?_
    refine x_aload_n C 0 dX10_lots_50 rfl rfl ?_
    refine g_RX10_46 C hn dX10_lots_51 ?_
    refine x_aload_n C 0 dX10_lots_54 rfl rfl ?_
    refine g_RX10_10 C hn dX10_lots_55 ?_
    refine i_RX10_85 (rest := [.ref (ga G 34)]) C hn rfl rfl (by decide) rfl dX10_lots_58 h (fun r58 μ58 h => ?_)
    obtain ⟨rfl, h⟩ := h
    refine i_RX10_177 (rest := []) C hn rfl rfl rfl (by decide) rfl dX10_lots_61 h (fun r61 μ61 h => ?_)
    exact x_iret C hQ dX10_lots_64 h
  have h := h.2 hv2
  refine x_tout C [(0 : Int32), (1 : Int32), (2 : Int32)] (List.forall_mem_cons.mpr ⟨hv0, List.forall_mem_cons.mpr ⟨hv1, List.forall_mem_cons.mpr ⟨hv2, fun _ h => absurd h List.not_mem_nil⟩⟩⟩) dX10_lots_1 (by decide) (tgt := 65) (by decide) ?_
  refine x_aload_n C 0 dX10_lots_65 rfl rfl ?_
  refine x_ldc C (v := -1000001) (qm_6 _ (List.mem_of_getElem? (i := 16) rfl)) dX10_lots_66 ?_
  refine i_RX10_81 (rest := []) C hn  rfl (by decide) rfl dX10_lots_68 h (fun r68 μ68 h => ?_)
  exact x_iret C hQ dX10_lots_71 h
theorem dX10_only_0 : decode cX10_only 0 = .ok (.iload_n 1, 1) := by decide +kernel
theorem dX10_only_1 : decode cX10_only 1 = .ok (.invokestatic 168, 3) := by decide +kernel
theorem dX10_only_4 : decode cX10_only 4 = .ok (.ifCond .ne 10, 3) := by decide +kernel
theorem dX10_only_7 : decode cX10_only 7 = .ok (.aload_n 0, 1) := by decide +kernel
theorem dX10_only_8 : decode cX10_only 8 = .ok (.ldc 80, 2) := by decide +kernel
theorem dX10_only_10 : decode cX10_only 10 = .ok (.invokevirtual 81, 3) := by decide +kernel
theorem dX10_only_13 : decode cX10_only 13 = .ok (.ireturn, 1) := by decide +kernel
theorem dX10_only_14 : decode cX10_only 14 = .ok (.iconst 0, 1) := by decide +kernel
theorem dX10_only_15 : decode cX10_only 15 = .ok (.istore_n 2, 1) := by decide +kernel
theorem dX10_only_16 : decode cX10_only 16 = .ok (.iconst 0, 1) := by decide +kernel
theorem dX10_only_17 : decode cX10_only 17 = .ok (.istore_n 3, 1) := by decide +kernel
theorem dX10_only_18 : decode cX10_only 18 = .ok (.iload_n 3, 1) := by decide +kernel
theorem dX10_only_19 : decode cX10_only 19 = .ok (.bipush 12, 2) := by decide +kernel
theorem dX10_only_21 : decode cX10_only 21 = .ok (.if_icmp .ge 34, 3) := by decide +kernel
theorem dX10_only_24 : decode cX10_only 24 = .ok (.aload_n 0, 1) := by decide +kernel
theorem dX10_only_25 : decode cX10_only 25 = .ok (.getfield 10, 3) := by decide +kernel
theorem dX10_only_28 : decode cX10_only 28 = .ok (.invokevirtual 85, 3) := by decide +kernel
theorem dX10_only_31 : decode cX10_only 31 = .ok (.iload_n 3, 1) := by decide +kernel
theorem dX10_only_32 : decode cX10_only 32 = .ok (.iload_n 1, 1) := by decide +kernel
theorem dX10_only_33 : decode cX10_only 33 = .ok (.invokestatic 89, 3) := by decide +kernel
theorem dX10_only_36 : decode cX10_only 36 = .ok (.invokevirtual 159, 3) := by decide +kernel
theorem dX10_only_39 : decode cX10_only 39 = .ok (.iconst 1, 1) := by decide +kernel
theorem dX10_only_40 : decode cX10_only 40 = .ok (.if_icmp .ne 9, 3) := by decide +kernel
theorem dX10_only_43 : decode cX10_only 43 = .ok (.iload_n 2, 1) := by decide +kernel
theorem dX10_only_44 : decode cX10_only 44 = .ok (.iconst 1, 1) := by decide +kernel
theorem dX10_only_45 : decode cX10_only 45 = .ok (.iload_n 3, 1) := by decide +kernel
theorem dX10_only_46 : decode cX10_only 46 = .ok (.ishl, 1) := by decide +kernel
theorem dX10_only_47 : decode cX10_only 47 = .ok (.ior, 1) := by decide +kernel
theorem dX10_only_48 : decode cX10_only 48 = .ok (.istore_n 2, 1) := by decide +kernel
theorem dX10_only_49 : decode cX10_only 49 = .ok (.iinc 3 1, 3) := by decide +kernel
theorem dX10_only_52 : decode cX10_only 52 = .ok (.goto (-34), 3) := by decide +kernel
theorem dX10_only_55 : decode cX10_only 55 = .ok (.iload_n 2, 1) := by decide +kernel
theorem dX10_only_56 : decode cX10_only 56 = .ok (.ireturn, 1) := by decide +kernel
theorem b_X10_only_49 {Z : qZ} {G : qG} {v1 : Int32} {v2 : Int32} {v3 : Int32} {μ : qM} {P18 : Int32 → Int32 → qM → Prop} {post : Int32 → qM → Prop} (C : qX Z G RX10 cX10_only 4 ({ frames := 5, cells := 0, slots := 0, locals := 118 } : Room) (some .int)) (hQ : qQi Z G 0 0 post) (hn : 66 ≤ gn G) (hP18 : ∀ (b2 : Int32) (b3 : Int32) (μ1 : qM), P18 b2 b3 μ1 → qV Z G 4 0 0 μ1 18 [(0, .ref (ga G 0)), (1, .int v1), (2, .int b2), (3, .int b3)] []) (h : q_X10_only_49 P18 post v1 v2 v3 μ) : qV Z G 4 0 0 μ 49 [(0, .ref (ga G 0)), (1, .int v1), (2, .int v2), (3, .int v3)] [] := by
  unfold q_X10_only_49 at h
  refine x_iinc C 3 (v := 1) (L' := [(3, .int ((v3 + 1))), (0, .ref (ga G 0)), (1, .int v1), (2, .int v2)]) dX10_only_49 rfl (by decide) (by decide) rfl ?_
  refine x_goto C dX10_only_52 (tgt := 18) (by decide) ?_
  exact qV_sub [1, 2, 3, 0] rfl ((hP18 _ _ _ h))
theorem b_X10_only_18 {Z : qZ} {G : qG} {v1 : Int32} {v2 : Int32} {v3 : Int32} {μ : qM} {post : Int32 → qM → Prop} (C : qX Z G RX10 cX10_only 4 ({ frames := 5, cells := 0, slots := 0, locals := 118 } : Room) (some .int)) (hQ : qQi Z G 0 0 post) (hn : 66 ≤ gn G) (h : q_X10_only_18 v1 post v2 v3 μ) : qV Z G 4 0 0 μ 18 [(0, .ref (ga G 0)), (1, .int v1), (2, .int v2), (3, .int v3)] [] := by
  refine h (fun v2 v3 μ => qV Z G 4 0 0 μ 18 [(0, .ref (ga G 0)), (1, .int v1), (2, .int v2), (3, .int v3)] []) (fun v2 v3 μ h => ?_)
  refine x_iload_n C 3 dX10_only_18 rfl rfl ?_
  refine x_bipush C dX10_only_19 (v := 12) (by decide) ?_
  refine x_icmp_ge C dX10_only_21 (tgt := 55) (by decide) h (fun h => ?_) (fun h => ?_)
  · refine x_iload_n C 2 dX10_only_55 rfl rfl ?_
    exact x_iret C hQ dX10_only_56 h
  · refine x_aload_n C 0 dX10_only_24 rfl rfl ?_
    refine g_RX10_10 C hn dX10_only_25 ?_
    refine i_RX10_85 (rest := []) C hn rfl rfl (by decide) rfl dX10_only_28 h (fun r28 μ28 h => ?_)
    obtain ⟨rfl, h⟩ := h
    refine x_iload_n C 3 dX10_only_31 rfl rfl ?_
    refine x_iload_n C 1 dX10_only_32 rfl rfl ?_
    refine i_RX10_89 (rest := [.ref (ga G 2)]) C hn  rfl (by decide) rfl dX10_only_33 h (fun r33 μ33 h => ?_)
    refine i_RX10_159 (rest := []) C hn rfl rfl (by decide) rfl dX10_only_36 h (fun r36 μ36 h => ?_)
    refine x_iconst C dX10_only_39 (v := 1) (by decide) ?_
    refine x_icmp_ne C dX10_only_40 (tgt := 49) (by decide) h (fun h => ?_) (fun h => ?_)
    · exact b_X10_only_49 C hQ hn (fun _ _ _ h => h) h
    · refine x_iload_n C 2 dX10_only_43 rfl rfl ?_
      refine x_iconst C dX10_only_44 (v := 1) (by decide) ?_
      refine x_iload_n C 3 dX10_only_45 rfl rfl ?_
      refine x_ishl C dX10_only_46 ?_
      refine x_ior C dX10_only_47 ?_
      refine x_istore_n C (L' := [(2, .int ((v2 ||| ((1 : Int32) <<< (v3 &&& 31))))), (0, .ref (ga G 0)), (1, .int v1), (3, .int v3)]) dX10_only_48 rfl (by decide) rfl ?_
      exact qV_sub [1, 2, 0, 3] rfl (b_X10_only_49 C hQ hn (fun _ _ _ h => h) h)
theorem y_X10_only : qY yX10_only cX10_only 4 (some .int) 1 ({ frames := 5, cells := 0, slots := 0, locals := 118 } : Room) 0 0 := ⟨(qm_20 _ (List.mem_of_getElem? (i := 20) rfl)), (qm_1 _ (List.mem_of_getElem? (i := 2) rfl)), by decide +kernel, by decide +kernel, rfl, rfl⟩
theorem c_X10_only (l : Launch) (G : qG) {v1 : Int32} {μ : qM} (hn : 66 ≤ gn G) : qCi l G yX10_only cX10_only 4 (some .int) ({ frames := 5, cells := 0, slots := 0, locals := 118 } : Room) 0 0 [.ref (ga G 0), .int v1] μ (fun post => w_X10_only v1 post μ) := by
  refine qCi_of (L := [(0, .ref (ga G 0)), (1, .int v1)]) (by decide) rfl rfl ?_
  intro Z post hl C hQ h
  have C : qX Z G RX10 cX10_only 4 ({ frames := 5, cells := 0, slots := 0, locals := 118 } : Room) (some .int) := C
  have h : w_X10_only v1 post μ := h
  unfold w_X10_only at h
  refine x_iload_n C 1 dX10_only_0 rfl rfl ?_
  refine i_RX10_168 (rest := []) C hn  rfl (by decide) rfl dX10_only_1 h (fun r1 μ1 h => ?_)
  refine x_if_ne C dX10_only_4 (tgt := 14) (by decide) h (fun h => ?_) (fun h => ?_)
  · refine x_iconst C dX10_only_14 (v := 0) (by decide) ?_
    refine x_istore_n C (L' := [(2, .int ((0 : Int32))), (0, .ref (ga G 0)), (1, .int v1)]) dX10_only_15 rfl (by decide) rfl ?_
    refine x_iconst C dX10_only_16 (v := 0) (by decide) ?_
    refine x_istore_n C (L' := [(3, .int ((0 : Int32))), (2, .int ((0 : Int32))), (0, .ref (ga G 0)), (1, .int v1)]) dX10_only_17 rfl (by decide) rfl ?_
    exact qV_sub [2, 3, 1, 0] rfl (b_X10_only_18 C hQ hn h)
  · refine x_aload_n C 0 dX10_only_7 rfl rfl ?_
    refine x_ldc C (v := -1000001) (qm_6 _ (List.mem_of_getElem? (i := 16) rfl)) dX10_only_8 ?_
    refine i_RX10_81 (rest := []) C hn  rfl (by decide) rfl dX10_only_10 h (fun r10 μ10 h => ?_)
    exact x_iret C hQ dX10_only_13 h
theorem dX10_ever_0 : decode cX10_ever 0 = .ok (.iload_n 1, 1) := by decide +kernel
theorem dX10_ever_1 : decode cX10_ever 1 = .ok (.invokestatic 168, 3) := by decide +kernel
theorem dX10_ever_4 : decode cX10_ever 4 = .ok (.ifCond .ne 10, 3) := by decide +kernel
theorem dX10_ever_7 : decode cX10_ever 7 = .ok (.aload_n 0, 1) := by decide +kernel
theorem dX10_ever_8 : decode cX10_ever 8 = .ok (.ldc 80, 2) := by decide +kernel
theorem dX10_ever_10 : decode cX10_ever 10 = .ok (.invokevirtual 81, 3) := by decide +kernel
theorem dX10_ever_13 : decode cX10_ever 13 = .ok (.ireturn, 1) := by decide +kernel
theorem dX10_ever_14 : decode cX10_ever 14 = .ok (.aload_n 0, 1) := by decide +kernel
theorem dX10_ever_15 : decode cX10_ever 15 = .ok (.getfield 46, 3) := by decide +kernel
theorem dX10_ever_18 : decode cX10_ever 18 = .ok (.aload_n 0, 1) := by decide +kernel
theorem dX10_ever_19 : decode cX10_ever 19 = .ok (.getfield 10, 3) := by decide +kernel
theorem dX10_ever_22 : decode cX10_ever 22 = .ok (.invokevirtual 85, 3) := by decide +kernel
theorem dX10_ever_25 : decode cX10_ever 25 = .ok (.invokevirtual 177, 3) := by decide +kernel
theorem dX10_ever_28 : decode cX10_ever 28 = .ok (.pop, 1) := by decide +kernel
theorem dX10_ever_29 : decode cX10_ever 29 = .ok (.iconst 0, 1) := by decide +kernel
theorem dX10_ever_30 : decode cX10_ever 30 = .ok (.istore_n 2, 1) := by decide +kernel
theorem dX10_ever_31 : decode cX10_ever 31 = .ok (.iconst 0, 1) := by decide +kernel
theorem dX10_ever_32 : decode cX10_ever 32 = .ok (.istore_n 3, 1) := by decide +kernel
theorem dX10_ever_33 : decode cX10_ever 33 = .ok (.iload_n 3, 1) := by decide +kernel
theorem dX10_ever_34 : decode cX10_ever 34 = .ok (.bipush 12, 2) := by decide +kernel
theorem dX10_ever_36 : decode cX10_ever 36 = .ok (.if_icmp .ge 30, 3) := by decide +kernel
theorem dX10_ever_39 : decode cX10_ever 39 = .ok (.aload_n 0, 1) := by decide +kernel
theorem dX10_ever_40 : decode cX10_ever 40 = .ok (.getfield 46, 3) := by decide +kernel
theorem dX10_ever_43 : decode cX10_ever 43 = .ok (.iload_n 3, 1) := by decide +kernel
theorem dX10_ever_44 : decode cX10_ever 44 = .ok (.iload_n 1, 1) := by decide +kernel
theorem dX10_ever_45 : decode cX10_ever 45 = .ok (.invokestatic 89, 3) := by decide +kernel
theorem dX10_ever_48 : decode cX10_ever 48 = .ok (.invokevirtual 181, 3) := by decide +kernel
theorem dX10_ever_51 : decode cX10_ever 51 = .ok (.ifCond .eq 9, 3) := by decide +kernel
theorem dX10_ever_54 : decode cX10_ever 54 = .ok (.iload_n 2, 1) := by decide +kernel
theorem dX10_ever_55 : decode cX10_ever 55 = .ok (.iconst 1, 1) := by decide +kernel
theorem dX10_ever_56 : decode cX10_ever 56 = .ok (.iload_n 3, 1) := by decide +kernel
theorem dX10_ever_57 : decode cX10_ever 57 = .ok (.ishl, 1) := by decide +kernel
theorem dX10_ever_58 : decode cX10_ever 58 = .ok (.ior, 1) := by decide +kernel
theorem dX10_ever_59 : decode cX10_ever 59 = .ok (.istore_n 2, 1) := by decide +kernel
theorem dX10_ever_60 : decode cX10_ever 60 = .ok (.iinc 3 1, 3) := by decide +kernel
theorem dX10_ever_63 : decode cX10_ever 63 = .ok (.goto (-30), 3) := by decide +kernel
theorem dX10_ever_66 : decode cX10_ever 66 = .ok (.iload_n 2, 1) := by decide +kernel
theorem dX10_ever_67 : decode cX10_ever 67 = .ok (.ireturn, 1) := by decide +kernel
theorem i_RX10_181 {Z : qZ} {G : qG} {cc : ByteArray} {nL k n : Nat} {rm : Room} {ret : Option FieldType} {μ : qM} {pc : Nat} {L : List (Nat × Value)} {rest : List Value} {K : Int32 → qM → Prop} {o : Nat} {v1 : Int32} (C : qX Z G RX10 cc nL rm ret) (hn : 66 ≤ gn G) (hk_o : qk o = 6) (hR : (Nat.ble (0 + 1) rm.frames && Nat.ble (8 + (2 + 11) + 0) rm.locals) = true) (hf : k + 0 ≤ rm.cells ∧ n + 0 ≤ rm.slots) (hsz : Nat.ble (rest.map fun v => v.category).sum 8 = true) (hd : decode cc pc = .ok (.invokevirtual 181, 3)) (h : w_X7_isHad o v1 K μ) (hk : ∀ (r : Int32) (μ1 : qM), K r μ1 → qV Z G nL k n μ1 (pc + 3) L (.int r :: rest)) : qV Z G nL k n μ pc L (.int v1 :: .ref (ga G o) :: rest) := x_Vi [.int v1] rest C o 6 (wp := fun K => w_X7_isHad o v1 K μ) (y_X7_isHad : qY yX7_isHad cX7_isHad 2 (some .boolean) 1 ({ frames := 0, cells := 0, slots := 0, locals := 0 } : Room) 0 0) (qm_21 _ (List.mem_of_getElem? (i := 6) rfl)) (qm_21 _ (List.mem_of_getElem? (i := 7) rfl)) (qm_21 _ (List.mem_of_getElem? (i := 5) rfl)) (c_X7_isHad Z.2.1 G hn hk_o) (q_lt hk_o rfl hn) hk_o (by decide) rfl rfl hR hf rfl rfl hsz hd h hk
theorem b_X10_ever_60 {Z : qZ} {G : qG} {v1 : Int32} {v2 : Int32} {v3 : Int32} {μ : qM} {P33 : Int32 → Int32 → qM → Prop} {post : Int32 → qM → Prop} (C : qX Z G RX10 cX10_ever 4 ({ frames := 6, cells := 0, slots := 0, locals := 144 } : Room) (some .int)) (hQ : qQi Z G 0 0 post) (hn : 66 ≤ gn G) (hP33 : ∀ (b2 : Int32) (b3 : Int32) (μ1 : qM), P33 b2 b3 μ1 → qV Z G 4 0 0 μ1 33 [(0, .ref (ga G 0)), (1, .int v1), (2, .int b2), (3, .int b3)] []) (h : q_X10_ever_60 P33 post v1 v2 v3 μ) : qV Z G 4 0 0 μ 60 [(0, .ref (ga G 0)), (1, .int v1), (2, .int v2), (3, .int v3)] [] := by
  unfold q_X10_ever_60 at h
  refine x_iinc C 3 (v := 1) (L' := [(3, .int ((v3 + 1))), (0, .ref (ga G 0)), (1, .int v1), (2, .int v2)]) dX10_ever_60 rfl (by decide) (by decide) rfl ?_
  refine x_goto C dX10_ever_63 (tgt := 33) (by decide) ?_
  exact qV_sub [1, 2, 3, 0] rfl ((hP33 _ _ _ h))
theorem b_X10_ever_33 {Z : qZ} {G : qG} {v1 : Int32} {v2 : Int32} {v3 : Int32} {μ : qM} {post : Int32 → qM → Prop} (C : qX Z G RX10 cX10_ever 4 ({ frames := 6, cells := 0, slots := 0, locals := 144 } : Room) (some .int)) (hQ : qQi Z G 0 0 post) (hn : 66 ≤ gn G) (h : q_X10_ever_33 v1 post v2 v3 μ) : qV Z G 4 0 0 μ 33 [(0, .ref (ga G 0)), (1, .int v1), (2, .int v2), (3, .int v3)] [] := by
  refine h (fun v2 v3 μ => qV Z G 4 0 0 μ 33 [(0, .ref (ga G 0)), (1, .int v1), (2, .int v2), (3, .int v3)] []) (fun v2 v3 μ h => ?_)
  refine x_iload_n C 3 dX10_ever_33 rfl rfl ?_
  refine x_bipush C dX10_ever_34 (v := 12) (by decide) ?_
  refine x_icmp_ge C dX10_ever_36 (tgt := 66) (by decide) h (fun h => ?_) (fun h => ?_)
  · refine x_iload_n C 2 dX10_ever_66 rfl rfl ?_
    exact x_iret C hQ dX10_ever_67 h
  · refine x_aload_n C 0 dX10_ever_39 rfl rfl ?_
    refine g_RX10_46 C hn dX10_ever_40 ?_
    refine x_iload_n C 3 dX10_ever_43 rfl rfl ?_
    refine x_iload_n C 1 dX10_ever_44 rfl rfl ?_
    refine i_RX10_89 (rest := [.ref (ga G 34)]) C hn  rfl (by decide) rfl dX10_ever_45 h (fun r45 μ45 h => ?_)
    refine i_RX10_181 (rest := []) C hn rfl rfl (by decide) rfl dX10_ever_48 h (fun r48 μ48 h => ?_)
    refine x_if_eq C dX10_ever_51 (tgt := 60) (by decide) h (fun h => ?_) (fun h => ?_)
    · exact b_X10_ever_60 C hQ hn (fun _ _ _ h => h) h
    · refine x_iload_n C 2 dX10_ever_54 rfl rfl ?_
      refine x_iconst C dX10_ever_55 (v := 1) (by decide) ?_
      refine x_iload_n C 3 dX10_ever_56 rfl rfl ?_
      refine x_ishl C dX10_ever_57 ?_
      refine x_ior C dX10_ever_58 ?_
      refine x_istore_n C (L' := [(2, .int ((v2 ||| ((1 : Int32) <<< (v3 &&& 31))))), (0, .ref (ga G 0)), (1, .int v1), (3, .int v3)]) dX10_ever_59 rfl (by decide) rfl ?_
      exact qV_sub [1, 2, 0, 3] rfl (b_X10_ever_60 C hQ hn (fun _ _ _ h => h) h)
theorem y_X10_ever : qY yX10_ever cX10_ever 4 (some .int) 1 ({ frames := 6, cells := 0, slots := 0, locals := 144 } : Room) 0 0 := ⟨(qm_21 _ (List.mem_of_getElem? (i := 4) rfl)), (qm_1 _ (List.mem_of_getElem? (i := 2) rfl)), by decide +kernel, by decide +kernel, rfl, rfl⟩
theorem c_X10_ever (l : Launch) (G : qG) {v1 : Int32} {μ : qM} (hn : 66 ≤ gn G) : qCi l G yX10_ever cX10_ever 4 (some .int) ({ frames := 6, cells := 0, slots := 0, locals := 144 } : Room) 0 0 [.ref (ga G 0), .int v1] μ (fun post => w_X10_ever v1 post μ) := by
  refine qCi_of (L := [(0, .ref (ga G 0)), (1, .int v1)]) (by decide) rfl rfl ?_
  intro Z post hl C hQ h
  have C : qX Z G RX10 cX10_ever 4 ({ frames := 6, cells := 0, slots := 0, locals := 144 } : Room) (some .int) := C
  have h : w_X10_ever v1 post μ := h
  unfold w_X10_ever at h
  refine x_iload_n C 1 dX10_ever_0 rfl rfl ?_
  refine i_RX10_168 (rest := []) C hn  rfl (by decide) rfl dX10_ever_1 h (fun r1 μ1 h => ?_)
  refine x_if_ne C dX10_ever_4 (tgt := 14) (by decide) h (fun h => ?_) (fun h => ?_)
  · refine x_aload_n C 0 dX10_ever_14 rfl rfl ?_
    refine g_RX10_46 C hn dX10_ever_15 ?_
    refine x_aload_n C 0 dX10_ever_18 rfl rfl ?_
    refine g_RX10_10 C hn dX10_ever_19 ?_
    refine i_RX10_85 (rest := [.ref (ga G 34)]) C hn rfl rfl (by decide) rfl dX10_ever_22 h (fun r22 μ22 h => ?_)
    obtain ⟨rfl, h⟩ := h
    refine i_RX10_177 (rest := []) C hn rfl rfl rfl (by decide) rfl dX10_ever_25 h (fun r25 μ25 h => ?_)
    refine x_pop C dX10_ever_28 rfl ?_
    refine x_iconst C dX10_ever_29 (v := 0) (by decide) ?_
    refine x_istore_n C (L' := [(2, .int ((0 : Int32))), (0, .ref (ga G 0)), (1, .int v1)]) dX10_ever_30 rfl (by decide) rfl ?_
    refine x_iconst C dX10_ever_31 (v := 0) (by decide) ?_
    refine x_istore_n C (L' := [(3, .int ((0 : Int32))), (2, .int ((0 : Int32))), (0, .ref (ga G 0)), (1, .int v1)]) dX10_ever_32 rfl (by decide) rfl ?_
    exact qV_sub [2, 3, 1, 0] rfl (b_X10_ever_33 C hQ hn h)
  · refine x_aload_n C 0 dX10_ever_7 rfl rfl ?_
    refine x_ldc C (v := -1000001) (qm_6 _ (List.mem_of_getElem? (i := 16) rfl)) dX10_ever_8 ?_
    refine i_RX10_81 (rest := []) C hn  rfl (by decide) rfl dX10_ever_10 h (fun r10 μ10 h => ?_)
    exact x_iret C hQ dX10_ever_13 h
theorem dX10_sum_0 : decode cX10_sum 0 = .ok (.iconst 0, 1) := by decide +kernel
theorem dX10_sum_1 : decode cX10_sum 1 = .ok (.istore_n 1, 1) := by decide +kernel
theorem dX10_sum_2 : decode cX10_sum 2 = .ok (.iconst 0, 1) := by decide +kernel
theorem dX10_sum_3 : decode cX10_sum 3 = .ok (.istore_n 2, 1) := by decide +kernel
theorem dX10_sum_4 : decode cX10_sum 4 = .ok (.iload_n 2, 1) := by decide +kernel
theorem dX10_sum_5 : decode cX10_sum 5 = .ok (.sipush 144, 3) := by decide +kernel
theorem dX10_sum_8 : decode cX10_sum 8 = .ok (.if_icmp .ge 34, 3) := by decide +kernel
theorem dX10_sum_11 : decode cX10_sum 11 = .ok (.aload_n 0, 1) := by decide +kernel
theorem dX10_sum_12 : decode cX10_sum 12 = .ok (.getfield 10, 3) := by decide +kernel
theorem dX10_sum_15 : decode cX10_sum 15 = .ok (.invokevirtual 85, 3) := by decide +kernel
theorem dX10_sum_18 : decode cX10_sum 18 = .ok (.iload_n 2, 1) := by decide +kernel
theorem dX10_sum_19 : decode cX10_sum 19 = .ok (.invokevirtual 162, 3) := by decide +kernel
theorem dX10_sum_22 : decode cX10_sum 22 = .ok (.ifCond .eq 14, 3) := by decide +kernel
theorem dX10_sum_25 : decode cX10_sum 25 = .ok (.iload_n 1, 1) := by decide +kernel
theorem dX10_sum_26 : decode cX10_sum 26 = .ok (.aload_n 0, 1) := by decide +kernel
theorem dX10_sum_27 : decode cX10_sum 27 = .ok (.getfield 10, 3) := by decide +kernel
theorem dX10_sum_30 : decode cX10_sum 30 = .ok (.iload_n 2, 1) := by decide +kernel
theorem dX10_sum_31 : decode cX10_sum 31 = .ok (.invokevirtual 145, 3) := by decide +kernel
theorem dX10_sum_34 : decode cX10_sum 34 = .ok (.iadd, 1) := by decide +kernel
theorem dX10_sum_35 : decode cX10_sum 35 = .ok (.istore_n 1, 1) := by decide +kernel
theorem dX10_sum_36 : decode cX10_sum 36 = .ok (.iinc 2 1, 3) := by decide +kernel
theorem dX10_sum_39 : decode cX10_sum 39 = .ok (.goto (-35), 3) := by decide +kernel
theorem dX10_sum_42 : decode cX10_sum 42 = .ok (.iload_n 1, 1) := by decide +kernel
theorem dX10_sum_43 : decode cX10_sum 43 = .ok (.ireturn, 1) := by decide +kernel
theorem b_X10_sum_36 {Z : qZ} {G : qG} {v1 : Int32} {v2 : Int32} {μ : qM} {P4 : Int32 → Int32 → qM → Prop} {post : Int32 → qM → Prop} (C : qX Z G RX10 cX10_sum 3 ({ frames := 5, cells := 0, slots := 0, locals := 118 } : Room) (some .int)) (hQ : qQi Z G 0 0 post) (hn : 66 ≤ gn G) (hP4 : ∀ (b1 : Int32) (b2 : Int32) (μ1 : qM), P4 b1 b2 μ1 → qV Z G 3 0 0 μ1 4 [(0, .ref (ga G 0)), (1, .int b1), (2, .int b2)] []) (h : q_X10_sum_36 P4 post v1 v2 μ) : qV Z G 3 0 0 μ 36 [(0, .ref (ga G 0)), (1, .int v1), (2, .int v2)] [] := by
  unfold q_X10_sum_36 at h
  refine x_iinc C 2 (v := 1) (L' := [(2, .int ((v2 + 1))), (0, .ref (ga G 0)), (1, .int v1)]) dX10_sum_36 rfl (by decide) (by decide) rfl ?_
  refine x_goto C dX10_sum_39 (tgt := 4) (by decide) ?_
  exact qV_sub [1, 2, 0] rfl ((hP4 _ _ _ h))
theorem b_X10_sum_4 {Z : qZ} {G : qG} {v1 : Int32} {v2 : Int32} {μ : qM} {post : Int32 → qM → Prop} (C : qX Z G RX10 cX10_sum 3 ({ frames := 5, cells := 0, slots := 0, locals := 118 } : Room) (some .int)) (hQ : qQi Z G 0 0 post) (hn : 66 ≤ gn G) (h : q_X10_sum_4 post v1 v2 μ) : qV Z G 3 0 0 μ 4 [(0, .ref (ga G 0)), (1, .int v1), (2, .int v2)] [] := by
  refine h (fun v1 v2 μ => qV Z G 3 0 0 μ 4 [(0, .ref (ga G 0)), (1, .int v1), (2, .int v2)] []) (fun v1 v2 μ h => ?_)
  refine x_iload_n C 2 dX10_sum_4 rfl rfl ?_
  refine x_sipush C dX10_sum_5 (v := 144) (by decide) ?_
  refine x_icmp_ge C dX10_sum_8 (tgt := 42) (by decide) h (fun h => ?_) (fun h => ?_)
  · refine x_iload_n C 1 dX10_sum_42 rfl rfl ?_
    exact x_iret C hQ dX10_sum_43 h
  · refine x_aload_n C 0 dX10_sum_11 rfl rfl ?_
    refine g_RX10_10 C hn dX10_sum_12 ?_
    refine i_RX10_85 (rest := []) C hn rfl rfl (by decide) rfl dX10_sum_15 h (fun r15 μ15 h => ?_)
    obtain ⟨rfl, h⟩ := h
    refine x_iload_n C 2 dX10_sum_18 rfl rfl ?_
    refine i_RX10_162 (rest := []) C hn rfl rfl (by decide) rfl dX10_sum_19 h (fun r19 μ19 h => ?_)
    refine x_if_eq C dX10_sum_22 (tgt := 36) (by decide) h (fun h => ?_) (fun h => ?_)
    · exact b_X10_sum_36 C hQ hn (fun _ _ _ h => h) h
    · refine x_iload_n C 1 dX10_sum_25 rfl rfl ?_
      refine x_aload_n C 0 dX10_sum_26 rfl rfl ?_
      refine g_RX10_10 C hn dX10_sum_27 ?_
      refine x_iload_n C 2 dX10_sum_30 rfl rfl ?_
      refine i_RX10_145 (rest := [.int v1]) C hn rfl rfl (by decide) rfl dX10_sum_31 h (fun r31 μ31 h => ?_)
      refine x_iadd C dX10_sum_34 ?_
      refine x_istore_n C (L' := [(1, .int ((v1 + r31))), (0, .ref (ga G 0)), (2, .int v2)]) dX10_sum_35 rfl (by decide) rfl ?_
      exact qV_sub [1, 0, 2] rfl (b_X10_sum_36 C hQ hn (fun _ _ _ h => h) h)
theorem y_X10_sum : qY yX10_sum cX10_sum 3 (some .int) 0 ({ frames := 5, cells := 0, slots := 0, locals := 118 } : Room) 0 0 := ⟨(qm_21 _ (List.mem_of_getElem? (i := 16) rfl)), (qm_1 _ (List.mem_of_getElem? (i := 2) rfl)), by decide +kernel, by decide +kernel, rfl, rfl⟩
theorem c_X10_sum (l : Launch) (G : qG) {μ : qM} (hn : 66 ≤ gn G) : qCi l G yX10_sum cX10_sum 3 (some .int) ({ frames := 5, cells := 0, slots := 0, locals := 118 } : Room) 0 0 [.ref (ga G 0)] μ (fun post => w_X10_sum  post μ) := by
  refine qCi_of (L := [(0, .ref (ga G 0))]) (by decide) rfl rfl ?_
  intro Z post hl C hQ h
  have C : qX Z G RX10 cX10_sum 3 ({ frames := 5, cells := 0, slots := 0, locals := 118 } : Room) (some .int) := C
  have h : w_X10_sum  post μ := h
  unfold w_X10_sum at h
  refine x_iconst C dX10_sum_0 (v := 0) (by decide) ?_
  refine x_istore_n C (L' := [(1, .int ((0 : Int32))), (0, .ref (ga G 0))]) dX10_sum_1 rfl (by decide) rfl ?_
  refine x_iconst C dX10_sum_2 (v := 0) (by decide) ?_
  refine x_istore_n C (L' := [(2, .int ((0 : Int32))), (1, .int ((0 : Int32))), (0, .ref (ga G 0))]) dX10_sum_3 rfl (by decide) rfl ?_
  exact qV_sub [2, 1, 0] rfl (b_X10_sum_4 C hQ hn h)
theorem dX10_best_0 : decode cX10_best 0 = .ok (.iconst (-1), 1) := by decide +kernel
theorem dX10_best_1 : decode cX10_best 1 = .ok (.istore_n 1, 1) := by decide +kernel
theorem dX10_best_2 : decode cX10_best 2 = .ok (.iconst 0, 1) := by decide +kernel
theorem dX10_best_3 : decode cX10_best 3 = .ok (.istore_n 2, 1) := by decide +kernel
theorem dX10_best_4 : decode cX10_best 4 = .ok (.iload_n 2, 1) := by decide +kernel
theorem dX10_best_5 : decode cX10_best 5 = .ok (.sipush 144, 3) := by decide +kernel
theorem dX10_best_8 : decode cX10_best 8 = .ok (.if_icmp .ge 48, 3) := by decide +kernel
theorem dX10_best_11 : decode cX10_best 11 = .ok (.aload_n 0, 1) := by decide +kernel
theorem dX10_best_12 : decode cX10_best 12 = .ok (.getfield 10, 3) := by decide +kernel
theorem dX10_best_15 : decode cX10_best 15 = .ok (.invokevirtual 85, 3) := by decide +kernel
theorem dX10_best_18 : decode cX10_best 18 = .ok (.iload_n 2, 1) := by decide +kernel
theorem dX10_best_19 : decode cX10_best 19 = .ok (.invokevirtual 162, 3) := by decide +kernel
theorem dX10_best_22 : decode cX10_best 22 = .ok (.ifCond .eq 28, 3) := by decide +kernel
theorem dX10_best_25 : decode cX10_best 25 = .ok (.iload_n 1, 1) := by decide +kernel
theorem dX10_best_26 : decode cX10_best 26 = .ok (.ifCond .lt 22, 3) := by decide +kernel
theorem dX10_best_29 : decode cX10_best 29 = .ok (.aload_n 0, 1) := by decide +kernel
theorem dX10_best_30 : decode cX10_best 30 = .ok (.getfield 10, 3) := by decide +kernel
theorem dX10_best_33 : decode cX10_best 33 = .ok (.iload_n 2, 1) := by decide +kernel
theorem dX10_best_34 : decode cX10_best 34 = .ok (.invokevirtual 145, 3) := by decide +kernel
theorem dX10_best_37 : decode cX10_best 37 = .ok (.aload_n 0, 1) := by decide +kernel
theorem dX10_best_38 : decode cX10_best 38 = .ok (.getfield 10, 3) := by decide +kernel
theorem dX10_best_41 : decode cX10_best 41 = .ok (.iload_n 1, 1) := by decide +kernel
theorem dX10_best_42 : decode cX10_best 42 = .ok (.invokevirtual 145, 3) := by decide +kernel
theorem dX10_best_45 : decode cX10_best 45 = .ok (.if_icmp .le 5, 3) := by decide +kernel
theorem dX10_best_48 : decode cX10_best 48 = .ok (.iload_n 2, 1) := by decide +kernel
theorem dX10_best_49 : decode cX10_best 49 = .ok (.istore_n 1, 1) := by decide +kernel
theorem dX10_best_50 : decode cX10_best 50 = .ok (.iinc 2 1, 3) := by decide +kernel
theorem dX10_best_53 : decode cX10_best 53 = .ok (.goto (-49), 3) := by decide +kernel
theorem dX10_best_56 : decode cX10_best 56 = .ok (.iload_n 1, 1) := by decide +kernel
theorem dX10_best_57 : decode cX10_best 57 = .ok (.ifCond .ge 12, 3) := by decide +kernel
theorem dX10_best_60 : decode cX10_best 60 = .ok (.aload_n 0, 1) := by decide +kernel
theorem dX10_best_61 : decode cX10_best 61 = .ok (.ldc 141, 2) := by decide +kernel
theorem dX10_best_63 : decode cX10_best 63 = .ok (.invokevirtual 81, 3) := by decide +kernel
theorem dX10_best_66 : decode cX10_best 66 = .ok (.goto 4, 3) := by decide +kernel
theorem dX10_best_69 : decode cX10_best 69 = .ok (.iload_n 1, 1) := by decide +kernel
theorem dX10_best_70 : decode cX10_best 70 = .ok (.ireturn, 1) := by decide +kernel
theorem b_X10_best_50 {Z : qZ} {G : qG} {v1 : Int32} {v2 : Int32} {μ : qM} {P4 : Int32 → Int32 → qM → Prop} {post : Int32 → qM → Prop} (C : qX Z G RX10 cX10_best 3 ({ frames := 5, cells := 0, slots := 0, locals := 118 } : Room) (some .int)) (hQ : qQi Z G 0 0 post) (hn : 66 ≤ gn G) (hP4 : ∀ (b1 : Int32) (b2 : Int32) (μ1 : qM), P4 b1 b2 μ1 → qV Z G 3 0 0 μ1 4 [(0, .ref (ga G 0)), (1, .int b1), (2, .int b2)] []) (h : q_X10_best_50 P4 post v1 v2 μ) : qV Z G 3 0 0 μ 50 [(0, .ref (ga G 0)), (1, .int v1), (2, .int v2)] [] := by
  unfold q_X10_best_50 at h
  refine x_iinc C 2 (v := 1) (L' := [(2, .int ((v2 + 1))), (0, .ref (ga G 0)), (1, .int v1)]) dX10_best_50 rfl (by decide) (by decide) rfl ?_
  refine x_goto C dX10_best_53 (tgt := 4) (by decide) ?_
  exact qV_sub [1, 2, 0] rfl ((hP4 _ _ _ h))
theorem b_X10_best_48 {Z : qZ} {G : qG} {v2 : Int32} {μ : qM} {P4 : Int32 → Int32 → qM → Prop} {post : Int32 → qM → Prop} (C : qX Z G RX10 cX10_best 3 ({ frames := 5, cells := 0, slots := 0, locals := 118 } : Room) (some .int)) (hQ : qQi Z G 0 0 post) (hn : 66 ≤ gn G) (hP4 : ∀ (b1 : Int32) (b2 : Int32) (μ1 : qM), P4 b1 b2 μ1 → qV Z G 3 0 0 μ1 4 [(0, .ref (ga G 0)), (1, .int b1), (2, .int b2)] []) (h : q_X10_best_48 P4 post v2 μ) : qV Z G 3 0 0 μ 48 [(0, .ref (ga G 0)), (2, .int v2)] [] := by
  unfold q_X10_best_48 at h
  refine x_iload_n C 1 dX10_best_48 rfl rfl ?_
  refine x_istore_n C (L' := [(1, .int v2), (0, .ref (ga G 0)), (2, .int v2)]) dX10_best_49 rfl (by decide) rfl ?_
  exact qV_sub [1, 0, 2] rfl (b_X10_best_50 C hQ hn hP4 h)
theorem b_X10_best_4 {Z : qZ} {G : qG} {v1 : Int32} {v2 : Int32} {μ : qM} {post : Int32 → qM → Prop} (C : qX Z G RX10 cX10_best 3 ({ frames := 5, cells := 0, slots := 0, locals := 118 } : Room) (some .int)) (hQ : qQi Z G 0 0 post) (hn : 66 ≤ gn G) (h : q_X10_best_4 post v1 v2 μ) : qV Z G 3 0 0 μ 4 [(0, .ref (ga G 0)), (1, .int v1), (2, .int v2)] [] := by
  refine h (fun v1 v2 μ => qV Z G 3 0 0 μ 4 [(0, .ref (ga G 0)), (1, .int v1), (2, .int v2)] []) (fun v1 v2 μ h => ?_)
  refine x_iload_n C 2 dX10_best_4 rfl rfl ?_
  refine x_sipush C dX10_best_5 (v := 144) (by decide) ?_
  refine x_icmp_ge C dX10_best_8 (tgt := 56) (by decide) h (fun h => ?_) (fun h => ?_)
  · refine x_iload_n C 1 dX10_best_56 rfl rfl ?_
    refine x_if_ge C dX10_best_57 (tgt := 69) (by decide) h (fun h => ?_) (fun h => ?_)
    · refine x_iload_n C 1 dX10_best_69 rfl rfl ?_
      exact x_iret C hQ dX10_best_70 h
    · refine x_aload_n C 0 dX10_best_60 rfl rfl ?_
      refine x_ldc C (v := -1000004) (qm_15 _ (List.mem_of_getElem? (i := 3) rfl)) dX10_best_61 ?_
      refine i_RX10_81 (rest := []) C hn  rfl (by decide) rfl dX10_best_63 h (fun r63 μ63 h => ?_)
      refine x_goto C dX10_best_66 (tgt := 70) (by decide) ?_
      exact x_iret C hQ dX10_best_70 h
  · refine x_aload_n C 0 dX10_best_11 rfl rfl ?_
    refine g_RX10_10 C hn dX10_best_12 ?_
    refine i_RX10_85 (rest := []) C hn rfl rfl (by decide) rfl dX10_best_15 h (fun r15 μ15 h => ?_)
    obtain ⟨rfl, h⟩ := h
    refine x_iload_n C 2 dX10_best_18 rfl rfl ?_
    refine i_RX10_162 (rest := []) C hn rfl rfl (by decide) rfl dX10_best_19 h (fun r19 μ19 h => ?_)
    refine x_if_eq C dX10_best_22 (tgt := 50) (by decide) h (fun h => ?_) (fun h => ?_)
    · exact b_X10_best_50 C hQ hn (fun _ _ _ h => h) h
    · refine x_iload_n C 1 dX10_best_25 rfl rfl ?_
      refine x_if_lt C dX10_best_26 (tgt := 48) (by decide) h (fun h => ?_) (fun h => ?_)
      · exact qV_sub [0, 2] rfl (b_X10_best_48 C hQ hn (fun _ _ _ h => h) h)
      · refine x_aload_n C 0 dX10_best_29 rfl rfl ?_
        refine g_RX10_10 C hn dX10_best_30 ?_
        refine x_iload_n C 2 dX10_best_33 rfl rfl ?_
        refine i_RX10_145 (rest := []) C hn rfl rfl (by decide) rfl dX10_best_34 h (fun r34 μ34 h => ?_)
        refine x_aload_n C 0 dX10_best_37 rfl rfl ?_
        refine g_RX10_10 C hn dX10_best_38 ?_
        refine x_iload_n C 1 dX10_best_41 rfl rfl ?_
        refine i_RX10_145 (rest := [.int r34]) C hn rfl rfl (by decide) rfl dX10_best_42 h (fun r42 μ42 h => ?_)
        refine x_icmp_le C dX10_best_45 (tgt := 50) (by decide) h (fun h => ?_) (fun h => ?_)
        · exact b_X10_best_50 C hQ hn (fun _ _ _ h => h) h
        · exact qV_sub [0, 2] rfl (b_X10_best_48 C hQ hn (fun _ _ _ h => h) h)
theorem y_X10_best : qY yX10_best cX10_best 3 (some .int) 0 ({ frames := 5, cells := 0, slots := 0, locals := 118 } : Room) 0 0 := ⟨(qm_22 _ (List.mem_of_getElem? (i := 0) rfl)), (qm_1 _ (List.mem_of_getElem? (i := 2) rfl)), by decide +kernel, by decide +kernel, rfl, rfl⟩
theorem c_X10_best (l : Launch) (G : qG) {μ : qM} (hn : 66 ≤ gn G) : qCi l G yX10_best cX10_best 3 (some .int) ({ frames := 5, cells := 0, slots := 0, locals := 118 } : Room) 0 0 [.ref (ga G 0)] μ (fun post => w_X10_best  post μ) := by
  refine qCi_of (L := [(0, .ref (ga G 0))]) (by decide) rfl rfl ?_
  intro Z post hl C hQ h
  have C : qX Z G RX10 cX10_best 3 ({ frames := 5, cells := 0, slots := 0, locals := 118 } : Room) (some .int) := C
  have h : w_X10_best  post μ := h
  unfold w_X10_best at h
  refine x_iconst C dX10_best_0 (v := -1) (by decide) ?_
  refine x_istore_n C (L' := [(1, .int ((-1 : Int32))), (0, .ref (ga G 0))]) dX10_best_1 rfl (by decide) rfl ?_
  refine x_iconst C dX10_best_2 (v := 0) (by decide) ?_
  refine x_istore_n C (L' := [(2, .int ((0 : Int32))), (1, .int ((-1 : Int32))), (0, .ref (ga G 0))]) dX10_best_3 rfl (by decide) rfl ?_
  exact qV_sub [2, 1, 0] rfl (b_X10_best_4 C hQ hn h)
theorem dX10_loses_0 : decode cX10_loses 0 = .ok (.aload_n 0, 1) := by decide +kernel
theorem dX10_loses_1 : decode cX10_loses 1 = .ok (.getfield 10, 3) := by decide +kernel
theorem dX10_loses_4 : decode cX10_loses 4 = .ok (.invokevirtual 85, 3) := by decide +kernel
theorem dX10_loses_7 : decode cX10_loses 7 = .ok (.astore_n 2, 1) := by decide +kernel
theorem dX10_loses_8 : decode cX10_loses 8 = .ok (.aload_n 2, 1) := by decide +kernel
theorem dX10_loses_9 : decode cX10_loses 9 = .ok (.iload_n 1, 1) := by decide +kernel
theorem dX10_loses_10 : decode cX10_loses 10 = .ok (.invokevirtual 121, 3) := by decide +kernel
theorem dX10_loses_13 : decode cX10_loses 13 = .ok (.ifCond .ne 10, 3) := by decide +kernel
theorem dX10_loses_16 : decode cX10_loses 16 = .ok (.aload_n 0, 1) := by decide +kernel
theorem dX10_loses_17 : decode cX10_loses 17 = .ok (.ldc 80, 2) := by decide +kernel
theorem dX10_loses_19 : decode cX10_loses 19 = .ok (.invokevirtual 81, 3) := by decide +kernel
theorem dX10_loses_22 : decode cX10_loses 22 = .ok (.ireturn, 1) := by decide +kernel
theorem dX10_loses_23 : decode cX10_loses 23 = .ok (.iconst 0, 1) := by decide +kernel
theorem dX10_loses_24 : decode cX10_loses 24 = .ok (.istore_n 3, 1) := by decide +kernel
theorem dX10_loses_25 : decode cX10_loses 25 = .ok (.iconst 0, 1) := by decide +kernel
theorem dX10_loses_26 : decode cX10_loses 26 = .ok (.istore 4, 2) := by decide +kernel
theorem dX10_loses_28 : decode cX10_loses 28 = .ok (.iload 4, 2) := by decide +kernel
theorem dX10_loses_30 : decode cX10_loses 30 = .ok (.sipush 144, 3) := by decide +kernel
theorem dX10_loses_33 : decode cX10_loses 33 = .ok (.if_icmp .ge 31, 3) := by decide +kernel
theorem dX10_loses_36 : decode cX10_loses 36 = .ok (.aload_n 2, 1) := by decide +kernel
theorem dX10_loses_37 : decode cX10_loses 37 = .ok (.iload 4, 2) := by decide +kernel
theorem dX10_loses_39 : decode cX10_loses 39 = .ok (.invokevirtual 162, 3) := by decide +kernel
theorem dX10_loses_42 : decode cX10_loses 42 = .ok (.ifCond .eq 16, 3) := by decide +kernel
theorem dX10_loses_45 : decode cX10_loses 45 = .ok (.aload_n 2, 1) := by decide +kernel
theorem dX10_loses_46 : decode cX10_loses 46 = .ok (.iload 4, 2) := by decide +kernel
theorem dX10_loses_48 : decode cX10_loses 48 = .ok (.iload_n 1, 1) := by decide +kernel
theorem dX10_loses_49 : decode cX10_loses 49 = .ok (.invokevirtual 184, 3) := by decide +kernel
theorem dX10_loses_52 : decode cX10_loses 52 = .ok (.ifCond .ne 6, 3) := by decide +kernel
theorem dX10_loses_55 : decode cX10_loses 55 = .ok (.iinc 3 1, 3) := by decide +kernel
theorem dX10_loses_58 : decode cX10_loses 58 = .ok (.iinc 4 1, 3) := by decide +kernel
theorem dX10_loses_61 : decode cX10_loses 61 = .ok (.goto (-33), 3) := by decide +kernel
theorem dX10_loses_64 : decode cX10_loses 64 = .ok (.iload_n 3, 1) := by decide +kernel
theorem dX10_loses_65 : decode cX10_loses 65 = .ok (.ireturn, 1) := by decide +kernel
theorem i_RX10_184 {Z : qZ} {G : qG} {cc : ByteArray} {nL k n : Nat} {rm : Room} {ret : Option FieldType} {μ : qM} {pc : Nat} {L : List (Nat × Value)} {rest : List Value} {K : Int32 → qM → Prop} {o : Nat} {v1 : Int32} {v2 : Int32} (C : qX Z G RX10 cc nL rm ret) (hn : 66 ≤ gn G) (hk_o : qk o = 1) (hR : (Nat.ble (4 + 1) rm.frames && Nat.ble (8 + (3 + 11) + 97) rm.locals) = true) (hf : k + 0 ≤ rm.cells ∧ n + 0 ≤ rm.slots) (hsz : Nat.ble (rest.map fun v => v.category).sum 8 = true) (hd : decode cc pc = .ok (.invokevirtual 184, 3)) (h : w_X1_isFreeWithout o v1 v2 K μ) (hk : ∀ (r : Int32) (μ1 : qM), K r μ1 → qV Z G nL k n μ1 (pc + 3) L (.int r :: rest)) : qV Z G nL k n μ pc L (.int v2 :: .int v1 :: .ref (ga G o) :: rest) := x_Vi [.int v1, .int v2] rest C o 1 (wp := fun K => w_X1_isFreeWithout o v1 v2 K μ) (y_X1_isFreeWithout : qY yX1_isFreeWithout cX1_isFreeWithout 3 (some .boolean) 2 ({ frames := 4, cells := 0, slots := 0, locals := 97 } : Room) 0 0) (qm_22 _ (List.mem_of_getElem? (i := 10) rfl)) (qm_22 _ (List.mem_of_getElem? (i := 11) rfl)) (qm_22 _ (List.mem_of_getElem? (i := 9) rfl)) (c_X1_isFreeWithout Z.2.1 G hn hk_o) (q_lt hk_o rfl hn) hk_o (by decide) rfl rfl hR hf rfl rfl hsz hd h hk
theorem b_X10_loses_58 {Z : qZ} {G : qG} {v1 : Int32} {v3 : Int32} {v4 : Int32} {μ : qM} {P28 : Int32 → Int32 → qM → Prop} {post : Int32 → qM → Prop} (C : qX Z G RX10 cX10_loses 5 ({ frames := 5, cells := 0, slots := 0, locals := 119 } : Room) (some .int)) (hQ : qQi Z G 0 0 post) (hn : 66 ≤ gn G) (hP28 : ∀ (b3 : Int32) (b4 : Int32) (μ1 : qM), P28 b3 b4 μ1 → qV Z G 5 0 0 μ1 28 [(1, .int v1), (2, .ref (ga G 2)), (3, .int b3), (4, .int b4)] []) (h : q_X10_loses_58 P28 post v1 v3 v4 μ) : qV Z G 5 0 0 μ 58 [(1, .int v1), (2, .ref (ga G 2)), (3, .int v3), (4, .int v4)] [] := by
  unfold q_X10_loses_58 at h
  refine x_iinc C 3 (v := 1) (L' := [(4, .int ((v4 + 1))), (1, .int v1), (2, .ref (ga G 2)), (3, .int v3)]) dX10_loses_58 rfl (by decide) (by decide) rfl ?_
  refine x_goto C dX10_loses_61 (tgt := 28) (by decide) ?_
  exact qV_sub [1, 2, 3, 0] rfl ((hP28 _ _ _ h))
theorem b_X10_loses_28 {Z : qZ} {G : qG} {v1 : Int32} {v3 : Int32} {v4 : Int32} {μ : qM} {post : Int32 → qM → Prop} (C : qX Z G RX10 cX10_loses 5 ({ frames := 5, cells := 0, slots := 0, locals := 119 } : Room) (some .int)) (hQ : qQi Z G 0 0 post) (hn : 66 ≤ gn G) (h : q_X10_loses_28 v1 post v3 v4 μ) : qV Z G 5 0 0 μ 28 [(1, .int v1), (2, .ref (ga G 2)), (3, .int v3), (4, .int v4)] [] := by
  refine h (fun v3 v4 μ => qV Z G 5 0 0 μ 28 [(1, .int v1), (2, .ref (ga G 2)), (3, .int v3), (4, .int v4)] []) (fun v3 v4 μ h => ?_)
  refine x_iload C 3 dX10_loses_28 rfl ?_
  refine x_sipush C dX10_loses_30 (v := 144) (by decide) ?_
  refine x_icmp_ge C dX10_loses_33 (tgt := 64) (by decide) h (fun h => ?_) (fun h => ?_)
  · refine x_iload_n C 2 dX10_loses_64 rfl rfl ?_
    exact x_iret C hQ dX10_loses_65 h
  · refine x_aload_n C 1 dX10_loses_36 rfl rfl ?_
    refine x_iload C 3 dX10_loses_37 rfl ?_
    refine i_RX10_162 (rest := []) C hn rfl rfl (by decide) rfl dX10_loses_39 h (fun r39 μ39 h => ?_)
    refine x_if_eq C dX10_loses_42 (tgt := 58) (by decide) h (fun h => ?_) (fun h => ?_)
    · exact b_X10_loses_58 C hQ hn (fun _ _ _ h => h) h
    · refine x_aload_n C 1 dX10_loses_45 rfl rfl ?_
      refine x_iload C 3 dX10_loses_46 rfl ?_
      refine x_iload_n C 0 dX10_loses_48 rfl rfl ?_
      refine i_RX10_184 (rest := []) C hn rfl rfl (by decide) rfl dX10_loses_49 h (fun r49 μ49 h => ?_)
      refine x_if_ne C dX10_loses_52 (tgt := 58) (by decide) h (fun h => ?_) (fun h => ?_)
      · exact b_X10_loses_58 C hQ hn (fun _ _ _ h => h) h
      · refine x_iinc C 2 (v := 1) (L' := [(3, .int ((v3 + 1))), (1, .int v1), (2, .ref (ga G 2)), (4, .int v4)]) dX10_loses_55 rfl (by decide) (by decide) rfl ?_
        exact qV_sub [1, 2, 0, 3] rfl (b_X10_loses_58 C hQ hn (fun _ _ _ h => h) h)
theorem y_X10_loses : qY yX10_loses cX10_loses 5 (some .int) 1 ({ frames := 5, cells := 0, slots := 0, locals := 119 } : Room) 0 0 := ⟨(qm_22 _ (List.mem_of_getElem? (i := 8) rfl)), (qm_1 _ (List.mem_of_getElem? (i := 2) rfl)), by decide +kernel, by decide +kernel, rfl, rfl⟩
theorem c_X10_loses (l : Launch) (G : qG) {v1 : Int32} {μ : qM} (hn : 66 ≤ gn G) : qCi l G yX10_loses cX10_loses 5 (some .int) ({ frames := 5, cells := 0, slots := 0, locals := 119 } : Room) 0 0 [.ref (ga G 0), .int v1] μ (fun post => w_X10_loses v1 post μ) := by
  refine qCi_of (L := [(0, .ref (ga G 0)), (1, .int v1)]) (by decide) rfl rfl ?_
  intro Z post hl C hQ h
  have C : qX Z G RX10 cX10_loses 5 ({ frames := 5, cells := 0, slots := 0, locals := 119 } : Room) (some .int) := C
  have h : w_X10_loses v1 post μ := h
  unfold w_X10_loses at h
  refine x_aload_n C 0 dX10_loses_0 rfl rfl ?_
  refine g_RX10_10 C hn dX10_loses_1 ?_
  refine i_RX10_85 (rest := []) C hn rfl rfl (by decide) rfl dX10_loses_4 h (fun r4 μ4 h => ?_)
  obtain ⟨rfl, h⟩ := h
  refine x_astore_n C (L' := [(2, .ref (ga G 2)), (0, .ref (ga G 0)), (1, .int v1)]) dX10_loses_7 rfl (by decide) rfl ?_
  refine x_aload_n C 0 dX10_loses_8 rfl rfl ?_
  refine x_iload_n C 2 dX10_loses_9 rfl rfl ?_
  refine i_RX10_121 (rest := []) C hn rfl rfl (by decide) rfl dX10_loses_10 h (fun r10 μ10 h => ?_)
  refine x_if_ne C dX10_loses_13 (tgt := 23) (by decide) h (fun h => ?_) (fun h => ?_)
  · refine x_iconst C dX10_loses_23 (v := 0) (by decide) ?_
    refine x_istore_n C (L' := [(3, .int ((0 : Int32))), (2, .ref (ga G 2)), (0, .ref (ga G 0)), (1, .int v1)]) dX10_loses_24 rfl (by decide) rfl ?_
    refine x_iconst C dX10_loses_25 (v := 0) (by decide) ?_
    refine x_istore C (L' := [(4, .int ((0 : Int32))), (3, .int ((0 : Int32))), (2, .ref (ga G 2)), (0, .ref (ga G 0)), (1, .int v1)]) dX10_loses_26 (by decide) rfl ?_
    exact qV_sub [4, 2, 1, 0] rfl (b_X10_loses_28 C hQ hn h)
  · refine x_aload_n C 1 dX10_loses_16 rfl rfl ?_
    refine x_ldc C (v := -1000001) (qm_6 _ (List.mem_of_getElem? (i := 16) rfl)) dX10_loses_17 ?_
    refine i_RX10_81 (rest := []) C hn  rfl (by decide) rfl dX10_loses_19 h (fun r19 μ19 h => ?_)
    exact x_iret C hQ dX10_loses_22 h
theorem dX10_dear_0 : decode cX10_dear 0 = .ok (.aload_n 0, 1) := by decide +kernel
theorem dX10_dear_1 : decode cX10_dear 1 = .ok (.getfield 10, 3) := by decide +kernel
theorem dX10_dear_4 : decode cX10_dear 4 = .ok (.invokevirtual 85, 3) := by decide +kernel
theorem dX10_dear_7 : decode cX10_dear 7 = .ok (.iload_n 1, 1) := by decide +kernel
theorem dX10_dear_8 : decode cX10_dear 8 = .ok (.invokevirtual 121, 3) := by decide +kernel
theorem dX10_dear_11 : decode cX10_dear 11 = .ok (.ifCond .ne 10, 3) := by decide +kernel
theorem dX10_dear_14 : decode cX10_dear 14 = .ok (.aload_n 0, 1) := by decide +kernel
theorem dX10_dear_15 : decode cX10_dear 15 = .ok (.ldc 80, 2) := by decide +kernel
theorem dX10_dear_17 : decode cX10_dear 17 = .ok (.invokevirtual 81, 3) := by decide +kernel
theorem dX10_dear_20 : decode cX10_dear 20 = .ok (.ireturn, 1) := by decide +kernel
theorem dX10_dear_21 : decode cX10_dear 21 = .ok (.aload_n 0, 1) := by decide +kernel
theorem dX10_dear_22 : decode cX10_dear 22 = .ok (.getfield 10, 3) := by decide +kernel
theorem dX10_dear_25 : decode cX10_dear 25 = .ok (.iload_n 1, 1) := by decide +kernel
theorem dX10_dear_26 : decode cX10_dear 26 = .ok (.invokevirtual 187, 3) := by decide +kernel
theorem dX10_dear_29 : decode cX10_dear 29 = .ok (.ireturn, 1) := by decide +kernel
theorem i_RX10_187 {Z : qZ} {G : qG} {cc : ByteArray} {nL k n : Nat} {rm : Room} {ret : Option FieldType} {μ : qM} {pc : Nat} {L : List (Nat × Value)} {rest : List Value} {K : Int32 → qM → Prop} {o : Nat} {v1 : Int32} (C : qX Z G RX10 cc nL rm ret) (hn : 66 ≤ gn G) (hk_o : qk o = 8) (hR : (Nat.ble (5 + 1) rm.frames && Nat.ble (8 + (4 + 11) + 119) rm.locals) = true) (hf : k + 0 ≤ rm.cells ∧ n + 0 ≤ rm.slots) (hsz : Nat.ble (rest.map fun v => v.category).sum 8 = true) (hd : decode cc pc = .ok (.invokevirtual 187, 3)) (h : w_X9_worthLost o v1 K μ) (hk : ∀ (r : Int32) (μ1 : qM), K r μ1 → qV Z G nL k n μ1 (pc + 3) L (.int r :: rest)) : qV Z G nL k n μ pc L (.int v1 :: .ref (ga G o) :: rest) := x_Vi [.int v1] rest C o 8 (wp := fun K => w_X9_worthLost o v1 K μ) (y_X9_worthLost : qY yX9_worthLost cX9_worthLost 4 (some .int) 1 ({ frames := 5, cells := 0, slots := 0, locals := 119 } : Room) 0 0) (qm_23 _ (List.mem_of_getElem? (i := 6) rfl)) (qm_23 _ (List.mem_of_getElem? (i := 7) rfl)) (qm_23 _ (List.mem_of_getElem? (i := 5) rfl)) (c_X9_worthLost Z.2.1 G hn hk_o) (q_lt hk_o rfl hn) hk_o (by decide) rfl rfl hR hf rfl rfl hsz hd h hk
theorem y_X10_dear : qY yX10_dear cX10_dear 2 (some .int) 1 ({ frames := 6, cells := 0, slots := 0, locals := 142 } : Room) 0 0 := ⟨(qm_23 _ (List.mem_of_getElem? (i := 4) rfl)), (qm_1 _ (List.mem_of_getElem? (i := 2) rfl)), by decide +kernel, by decide +kernel, rfl, rfl⟩
theorem c_X10_dear (l : Launch) (G : qG) {v1 : Int32} {μ : qM} (hn : 66 ≤ gn G) : qCi l G yX10_dear cX10_dear 2 (some .int) ({ frames := 6, cells := 0, slots := 0, locals := 142 } : Room) 0 0 [.ref (ga G 0), .int v1] μ (fun post => w_X10_dear v1 post μ) := by
  refine qCi_of (L := [(0, .ref (ga G 0)), (1, .int v1)]) (by decide) rfl rfl ?_
  intro Z post hl C hQ h
  have C : qX Z G RX10 cX10_dear 2 ({ frames := 6, cells := 0, slots := 0, locals := 142 } : Room) (some .int) := C
  have h : w_X10_dear v1 post μ := h
  unfold w_X10_dear at h
  refine x_aload_n C 0 dX10_dear_0 rfl rfl ?_
  refine g_RX10_10 C hn dX10_dear_1 ?_
  refine i_RX10_85 (rest := []) C hn rfl rfl (by decide) rfl dX10_dear_4 h (fun r4 μ4 h => ?_)
  obtain ⟨rfl, h⟩ := h
  refine x_iload_n C 1 dX10_dear_7 rfl rfl ?_
  refine i_RX10_121 (rest := []) C hn rfl rfl (by decide) rfl dX10_dear_8 h (fun r8 μ8 h => ?_)
  refine x_if_ne C dX10_dear_11 (tgt := 21) (by decide) h (fun h => ?_) (fun h => ?_)
  · refine x_aload_n C 0 dX10_dear_21 rfl rfl ?_
    refine g_RX10_10 C hn dX10_dear_22 ?_
    refine x_iload_n C 1 dX10_dear_25 rfl rfl ?_
    refine i_RX10_187 (rest := []) C hn rfl rfl (by decide) rfl dX10_dear_26 h (fun r26 μ26 h => ?_)
    exact x_iret C hQ dX10_dear_29 h
  · refine x_aload_n C 0 dX10_dear_14 rfl rfl ?_
    refine x_ldc C (v := -1000001) (qm_6 _ (List.mem_of_getElem? (i := 16) rfl)) dX10_dear_15 ?_
    refine i_RX10_81 (rest := []) C hn  rfl (by decide) rfl dX10_dear_17 h (fun r17 μ17 h => ?_)
    exact x_iret C hQ dX10_dear_20 h
theorem dX10_dearest_0 : decode cX10_dearest 0 = .ok (.iconst (-1), 1) := by decide +kernel
theorem dX10_dearest_1 : decode cX10_dearest 1 = .ok (.istore_n 1, 1) := by decide +kernel
theorem dX10_dearest_2 : decode cX10_dearest 2 = .ok (.iconst 0, 1) := by decide +kernel
theorem dX10_dearest_3 : decode cX10_dearest 3 = .ok (.istore_n 2, 1) := by decide +kernel
theorem dX10_dearest_4 : decode cX10_dearest 4 = .ok (.iconst 0, 1) := by decide +kernel
theorem dX10_dearest_5 : decode cX10_dearest 5 = .ok (.istore_n 3, 1) := by decide +kernel
theorem dX10_dearest_6 : decode cX10_dearest 6 = .ok (.iload_n 3, 1) := by decide +kernel
theorem dX10_dearest_7 : decode cX10_dearest 7 = .ok (.aload_n 0, 1) := by decide +kernel
theorem dX10_dearest_8 : decode cX10_dearest 8 = .ok (.getfield 10, 3) := by decide +kernel
theorem dX10_dearest_11 : decode cX10_dearest 11 = .ok (.invokevirtual 85, 3) := by decide +kernel
theorem dX10_dearest_14 : decode cX10_dearest 14 = .ok (.invokevirtual 108, 3) := by decide +kernel
theorem dX10_dearest_17 : decode cX10_dearest 17 = .ok (.if_icmp .ge 34, 3) := by decide +kernel
theorem dX10_dearest_20 : decode cX10_dearest 20 = .ok (.aload_n 0, 1) := by decide +kernel
theorem dX10_dearest_21 : decode cX10_dearest 21 = .ok (.getfield 10, 3) := by decide +kernel
theorem dX10_dearest_24 : decode cX10_dearest 24 = .ok (.iload_n 3, 1) := by decide +kernel
theorem dX10_dearest_25 : decode cX10_dearest 25 = .ok (.invokevirtual 187, 3) := by decide +kernel
theorem dX10_dearest_28 : decode cX10_dearest 28 = .ok (.istore 4, 2) := by decide +kernel
theorem dX10_dearest_30 : decode cX10_dearest 30 = .ok (.iload_n 1, 1) := by decide +kernel
theorem dX10_dearest_31 : decode cX10_dearest 31 = .ok (.ifCond .lt 9, 3) := by decide +kernel
theorem dX10_dearest_34 : decode cX10_dearest 34 = .ok (.iload 4, 2) := by decide +kernel
theorem dX10_dearest_36 : decode cX10_dearest 36 = .ok (.iload_n 2, 1) := by decide +kernel
theorem dX10_dearest_37 : decode cX10_dearest 37 = .ok (.if_icmp .le 8, 3) := by decide +kernel
theorem dX10_dearest_40 : decode cX10_dearest 40 = .ok (.iload_n 3, 1) := by decide +kernel
theorem dX10_dearest_41 : decode cX10_dearest 41 = .ok (.istore_n 1, 1) := by decide +kernel
theorem dX10_dearest_42 : decode cX10_dearest 42 = .ok (.iload 4, 2) := by decide +kernel
theorem dX10_dearest_44 : decode cX10_dearest 44 = .ok (.istore_n 2, 1) := by decide +kernel
theorem dX10_dearest_45 : decode cX10_dearest 45 = .ok (.iinc 3 1, 3) := by decide +kernel
theorem dX10_dearest_48 : decode cX10_dearest 48 = .ok (.goto (-42), 3) := by decide +kernel
theorem dX10_dearest_51 : decode cX10_dearest 51 = .ok (.iload_n 1, 1) := by decide +kernel
theorem dX10_dearest_52 : decode cX10_dearest 52 = .ok (.ifCond .ge 12, 3) := by decide +kernel
theorem dX10_dearest_55 : decode cX10_dearest 55 = .ok (.aload_n 0, 1) := by decide +kernel
theorem dX10_dearest_56 : decode cX10_dearest 56 = .ok (.ldc 141, 2) := by decide +kernel
theorem dX10_dearest_58 : decode cX10_dearest 58 = .ok (.invokevirtual 81, 3) := by decide +kernel
theorem dX10_dearest_61 : decode cX10_dearest 61 = .ok (.goto 4, 3) := by decide +kernel
theorem dX10_dearest_64 : decode cX10_dearest 64 = .ok (.iload_n 1, 1) := by decide +kernel
theorem dX10_dearest_65 : decode cX10_dearest 65 = .ok (.ireturn, 1) := by decide +kernel
theorem b_X10_dearest_45 {Z : qZ} {G : qG} {v1 : Int32} {v2 : Int32} {v3 : Int32} {μ : qM} {P6 : Int32 → Int32 → Int32 → qM → Prop} {post : Int32 → qM → Prop} (C : qX Z G RX10 cX10_dearest 5 ({ frames := 6, cells := 0, slots := 0, locals := 142 } : Room) (some .int)) (hQ : qQi Z G 0 0 post) (hn : 66 ≤ gn G) (hP6 : ∀ (b1 : Int32) (b2 : Int32) (b3 : Int32) (μ1 : qM), P6 b1 b2 b3 μ1 → qV Z G 5 0 0 μ1 6 [(0, .ref (ga G 0)), (1, .int b1), (2, .int b2), (3, .int b3)] []) (h : q_X10_dearest_45 P6 post v1 v2 v3 μ) : qV Z G 5 0 0 μ 45 [(0, .ref (ga G 0)), (1, .int v1), (2, .int v2), (3, .int v3)] [] := by
  unfold q_X10_dearest_45 at h
  refine x_iinc C 3 (v := 1) (L' := [(3, .int ((v3 + 1))), (0, .ref (ga G 0)), (1, .int v1), (2, .int v2)]) dX10_dearest_45 rfl (by decide) (by decide) rfl ?_
  refine x_goto C dX10_dearest_48 (tgt := 6) (by decide) ?_
  exact qV_sub [1, 2, 3, 0] rfl ((hP6 _ _ _ _ h))
theorem b_X10_dearest_40 {Z : qZ} {G : qG} {v3 : Int32} {v4 : Int32} {μ : qM} {P6 : Int32 → Int32 → Int32 → qM → Prop} {post : Int32 → qM → Prop} (C : qX Z G RX10 cX10_dearest 5 ({ frames := 6, cells := 0, slots := 0, locals := 142 } : Room) (some .int)) (hQ : qQi Z G 0 0 post) (hn : 66 ≤ gn G) (hP6 : ∀ (b1 : Int32) (b2 : Int32) (b3 : Int32) (μ1 : qM), P6 b1 b2 b3 μ1 → qV Z G 5 0 0 μ1 6 [(0, .ref (ga G 0)), (1, .int b1), (2, .int b2), (3, .int b3)] []) (h : q_X10_dearest_40 P6 post v3 v4 μ) : qV Z G 5 0 0 μ 40 [(0, .ref (ga G 0)), (3, .int v3), (4, .int v4)] [] := by
  unfold q_X10_dearest_40 at h
  refine x_iload_n C 1 dX10_dearest_40 rfl rfl ?_
  refine x_istore_n C (L' := [(1, .int v3), (0, .ref (ga G 0)), (3, .int v3), (4, .int v4)]) dX10_dearest_41 rfl (by decide) rfl ?_
  refine x_iload C 3 dX10_dearest_42 rfl ?_
  refine x_istore_n C (L' := [(2, .int v4), (1, .int v3), (0, .ref (ga G 0)), (3, .int v3), (4, .int v4)]) dX10_dearest_44 rfl (by decide) rfl ?_
  exact qV_sub [2, 1, 0, 3] rfl (b_X10_dearest_45 C hQ hn hP6 h)
theorem b_X10_dearest_6 {Z : qZ} {G : qG} {v1 : Int32} {v2 : Int32} {v3 : Int32} {μ : qM} {post : Int32 → qM → Prop} (C : qX Z G RX10 cX10_dearest 5 ({ frames := 6, cells := 0, slots := 0, locals := 142 } : Room) (some .int)) (hQ : qQi Z G 0 0 post) (hn : 66 ≤ gn G) (h : q_X10_dearest_6 post v1 v2 v3 μ) : qV Z G 5 0 0 μ 6 [(0, .ref (ga G 0)), (1, .int v1), (2, .int v2), (3, .int v3)] [] := by
  refine h (fun v1 v2 v3 μ => qV Z G 5 0 0 μ 6 [(0, .ref (ga G 0)), (1, .int v1), (2, .int v2), (3, .int v3)] []) (fun v1 v2 v3 μ h => ?_)
  refine x_iload_n C 3 dX10_dearest_6 rfl rfl ?_
  refine x_aload_n C 0 dX10_dearest_7 rfl rfl ?_
  refine g_RX10_10 C hn dX10_dearest_8 ?_
  refine i_RX10_85 (rest := [.int v3]) C hn rfl rfl (by decide) rfl dX10_dearest_11 h (fun r11 μ11 h => ?_)
  obtain ⟨rfl, h⟩ := h
  refine i_RX10_108 (rest := [.int v3]) C hn rfl rfl (by decide) rfl dX10_dearest_14 h (fun r14 μ14 h => ?_)
  refine x_icmp_ge C dX10_dearest_17 (tgt := 51) (by decide) h (fun h => ?_) (fun h => ?_)
  · refine x_iload_n C 1 dX10_dearest_51 rfl rfl ?_
    refine x_if_ge C dX10_dearest_52 (tgt := 64) (by decide) h (fun h => ?_) (fun h => ?_)
    · refine x_iload_n C 1 dX10_dearest_64 rfl rfl ?_
      exact x_iret C hQ dX10_dearest_65 h
    · refine x_aload_n C 0 dX10_dearest_55 rfl rfl ?_
      refine x_ldc C (v := -1000004) (qm_15 _ (List.mem_of_getElem? (i := 3) rfl)) dX10_dearest_56 ?_
      refine i_RX10_81 (rest := []) C hn  rfl (by decide) rfl dX10_dearest_58 h (fun r58 μ58 h => ?_)
      refine x_goto C dX10_dearest_61 (tgt := 65) (by decide) ?_
      exact x_iret C hQ dX10_dearest_65 h
  · refine x_aload_n C 0 dX10_dearest_20 rfl rfl ?_
    refine g_RX10_10 C hn dX10_dearest_21 ?_
    refine x_iload_n C 3 dX10_dearest_24 rfl rfl ?_
    refine i_RX10_187 (rest := []) C hn rfl rfl (by decide) rfl dX10_dearest_25 h (fun r25 μ25 h => ?_)
    refine x_istore C (L' := [(4, .int r25), (0, .ref (ga G 0)), (1, .int v1), (2, .int v2), (3, .int v3)]) dX10_dearest_28 (by decide) rfl ?_
    refine x_iload_n C 2 dX10_dearest_30 rfl rfl ?_
    refine x_if_lt C dX10_dearest_31 (tgt := 40) (by decide) h (fun h => ?_) (fun h => ?_)
    · exact qV_sub [1, 4, 0] rfl (b_X10_dearest_40 C hQ hn (fun _ _ _ _ h => h) h)
    · refine x_iload C 0 dX10_dearest_34 rfl ?_
      refine x_iload_n C 3 dX10_dearest_36 rfl rfl ?_
      refine x_icmp_le C dX10_dearest_37 (tgt := 45) (by decide) h (fun h => ?_) (fun h => ?_)
      · exact qV_sub [1, 2, 3, 4] rfl (b_X10_dearest_45 C hQ hn (fun _ _ _ _ h => h) h)
      · exact qV_sub [1, 4, 0] rfl (b_X10_dearest_40 C hQ hn (fun _ _ _ _ h => h) h)
theorem y_X10_dearest : qY yX10_dearest cX10_dearest 5 (some .int) 0 ({ frames := 6, cells := 0, slots := 0, locals := 142 } : Room) 0 0 := ⟨(qm_23 _ (List.mem_of_getElem? (i := 17) rfl)), (qm_1 _ (List.mem_of_getElem? (i := 2) rfl)), by decide +kernel, by decide +kernel, rfl, rfl⟩
theorem c_X10_dearest (l : Launch) (G : qG) {μ : qM} (hn : 66 ≤ gn G) : qCi l G yX10_dearest cX10_dearest 5 (some .int) ({ frames := 6, cells := 0, slots := 0, locals := 142 } : Room) 0 0 [.ref (ga G 0)] μ (fun post => w_X10_dearest  post μ) := by
  refine qCi_of (L := [(0, .ref (ga G 0))]) (by decide) rfl rfl ?_
  intro Z post hl C hQ h
  have C : qX Z G RX10 cX10_dearest 5 ({ frames := 6, cells := 0, slots := 0, locals := 142 } : Room) (some .int) := C
  have h : w_X10_dearest  post μ := h
  unfold w_X10_dearest at h
  refine x_iconst C dX10_dearest_0 (v := -1) (by decide) ?_
  refine x_istore_n C (L' := [(1, .int ((-1 : Int32))), (0, .ref (ga G 0))]) dX10_dearest_1 rfl (by decide) rfl ?_
  refine x_iconst C dX10_dearest_2 (v := 0) (by decide) ?_
  refine x_istore_n C (L' := [(2, .int ((0 : Int32))), (1, .int ((-1 : Int32))), (0, .ref (ga G 0))]) dX10_dearest_3 rfl (by decide) rfl ?_
  refine x_iconst C dX10_dearest_4 (v := 0) (by decide) ?_
  refine x_istore_n C (L' := [(3, .int ((0 : Int32))), (2, .int ((0 : Int32))), (1, .int ((-1 : Int32))), (0, .ref (ga G 0))]) dX10_dearest_5 rfl (by decide) rfl ?_
  exact qV_sub [3, 2, 1, 0] rfl (b_X10_dearest_6 C hQ hn h)
theorem dX10_keepers_0 : decode cX10_keepers 0 = .ok (.iload_n 1, 1) := by decide +kernel
theorem dX10_keepers_1 : decode cX10_keepers 1 = .ok (.iload_n 2, 1) := by decide +kernel
theorem dX10_keepers_2 : decode cX10_keepers 2 = .ok (.invokestatic 76, 3) := by decide +kernel
theorem dX10_keepers_5 : decode cX10_keepers 5 = .ok (.ifCond .ne 10, 3) := by decide +kernel
theorem dX10_keepers_8 : decode cX10_keepers 8 = .ok (.aload_n 0, 1) := by decide +kernel
theorem dX10_keepers_9 : decode cX10_keepers 9 = .ok (.ldc 80, 2) := by decide +kernel
theorem dX10_keepers_11 : decode cX10_keepers 11 = .ok (.invokevirtual 81, 3) := by decide +kernel
theorem dX10_keepers_14 : decode cX10_keepers 14 = .ok (.ireturn, 1) := by decide +kernel
theorem dX10_keepers_15 : decode cX10_keepers 15 = .ok (.aload_n 0, 1) := by decide +kernel
theorem dX10_keepers_16 : decode cX10_keepers 16 = .ok (.getfield 10, 3) := by decide +kernel
theorem dX10_keepers_19 : decode cX10_keepers 19 = .ok (.invokevirtual 85, 3) := by decide +kernel
theorem dX10_keepers_22 : decode cX10_keepers 22 = .ok (.astore_n 3, 1) := by decide +kernel
theorem dX10_keepers_23 : decode cX10_keepers 23 = .ok (.aload_n 3, 1) := by decide +kernel
theorem dX10_keepers_24 : decode cX10_keepers 24 = .ok (.iload_n 1, 1) := by decide +kernel
theorem dX10_keepers_25 : decode cX10_keepers 25 = .ok (.iload_n 2, 1) := by decide +kernel
theorem dX10_keepers_26 : decode cX10_keepers 26 = .ok (.invokestatic 89, 3) := by decide +kernel
theorem dX10_keepers_29 : decode cX10_keepers 29 = .ok (.invokevirtual 162, 3) := by decide +kernel
theorem dX10_keepers_32 : decode cX10_keepers 32 = .ok (.ifCond .ne 10, 3) := by decide +kernel
theorem dX10_keepers_35 : decode cX10_keepers 35 = .ok (.aload_n 0, 1) := by decide +kernel
theorem dX10_keepers_36 : decode cX10_keepers 36 = .ok (.ldc 141, 2) := by decide +kernel
theorem dX10_keepers_38 : decode cX10_keepers 38 = .ok (.invokevirtual 81, 3) := by decide +kernel
theorem dX10_keepers_41 : decode cX10_keepers 41 = .ok (.ireturn, 1) := by decide +kernel
theorem dX10_keepers_42 : decode cX10_keepers 42 = .ok (.iconst 0, 1) := by decide +kernel
theorem dX10_keepers_43 : decode cX10_keepers 43 = .ok (.istore 4, 2) := by decide +kernel
theorem dX10_keepers_45 : decode cX10_keepers 45 = .ok (.iconst 0, 1) := by decide +kernel
theorem dX10_keepers_46 : decode cX10_keepers 46 = .ok (.istore 5, 2) := by decide +kernel
theorem dX10_keepers_48 : decode cX10_keepers 48 = .ok (.iload 5, 2) := by decide +kernel
theorem dX10_keepers_50 : decode cX10_keepers 50 = .ok (.aload_n 3, 1) := by decide +kernel
theorem dX10_keepers_51 : decode cX10_keepers 51 = .ok (.invokevirtual 108, 3) := by decide +kernel
theorem dX10_keepers_54 : decode cX10_keepers 54 = .ok (.if_icmp .ge 32, 3) := by decide +kernel
theorem dX10_keepers_57 : decode cX10_keepers 57 = .ok (.aload_n 3, 1) := by decide +kernel
theorem dX10_keepers_58 : decode cX10_keepers 58 = .ok (.iload_n 1, 1) := by decide +kernel
theorem dX10_keepers_59 : decode cX10_keepers 59 = .ok (.iload_n 2, 1) := by decide +kernel
theorem dX10_keepers_60 : decode cX10_keepers 60 = .ok (.invokestatic 89, 3) := by decide +kernel
theorem dX10_keepers_63 : decode cX10_keepers 63 = .ok (.iload 5, 2) := by decide +kernel
theorem dX10_keepers_65 : decode cX10_keepers 65 = .ok (.invokevirtual 184, 3) := by decide +kernel
theorem dX10_keepers_68 : decode cX10_keepers 68 = .ok (.ifCond .ne 12, 3) := by decide +kernel
theorem dX10_keepers_71 : decode cX10_keepers 71 = .ok (.iload 4, 2) := by decide +kernel
theorem dX10_keepers_73 : decode cX10_keepers 73 = .ok (.iconst 1, 1) := by decide +kernel
theorem dX10_keepers_74 : decode cX10_keepers 74 = .ok (.iload 5, 2) := by decide +kernel
theorem dX10_keepers_76 : decode cX10_keepers 76 = .ok (.ishl, 1) := by decide +kernel
theorem dX10_keepers_77 : decode cX10_keepers 77 = .ok (.ior, 1) := by decide +kernel
theorem dX10_keepers_78 : decode cX10_keepers 78 = .ok (.istore 4, 2) := by decide +kernel
theorem dX10_keepers_80 : decode cX10_keepers 80 = .ok (.iinc 5 1, 3) := by decide +kernel
theorem dX10_keepers_83 : decode cX10_keepers 83 = .ok (.goto (-35), 3) := by decide +kernel
theorem dX10_keepers_86 : decode cX10_keepers 86 = .ok (.iload 4, 2) := by decide +kernel
theorem dX10_keepers_88 : decode cX10_keepers 88 = .ok (.ireturn, 1) := by decide +kernel
theorem b_X10_keepers_80 {Z : qZ} {G : qG} {v1 : Int32} {v2 : Int32} {v4 : Int32} {v5 : Int32} {μ : qM} {P48 : Int32 → Int32 → qM → Prop} {post : Int32 → qM → Prop} (C : qX Z G RX10 cX10_keepers 6 ({ frames := 5, cells := 0, slots := 0, locals := 119 } : Room) (some .int)) (hQ : qQi Z G 0 0 post) (hn : 66 ≤ gn G) (hP48 : ∀ (b4 : Int32) (b5 : Int32) (μ1 : qM), P48 b4 b5 μ1 → qV Z G 6 0 0 μ1 48 [(1, .int v1), (2, .int v2), (3, .ref (ga G 2)), (4, .int b4), (5, .int b5)] []) (h : q_X10_keepers_80 P48 post v1 v2 v4 v5 μ) : qV Z G 6 0 0 μ 80 [(1, .int v1), (2, .int v2), (3, .ref (ga G 2)), (4, .int v4), (5, .int v5)] [] := by
  unfold q_X10_keepers_80 at h
  refine x_iinc C 4 (v := 1) (L' := [(5, .int ((v5 + 1))), (1, .int v1), (2, .int v2), (3, .ref (ga G 2)), (4, .int v4)]) dX10_keepers_80 rfl (by decide) (by decide) rfl ?_
  refine x_goto C dX10_keepers_83 (tgt := 48) (by decide) ?_
  exact qV_sub [1, 2, 3, 4, 0] rfl ((hP48 _ _ _ h))
theorem b_X10_keepers_48 {Z : qZ} {G : qG} {v1 : Int32} {v2 : Int32} {v4 : Int32} {v5 : Int32} {μ : qM} {post : Int32 → qM → Prop} (C : qX Z G RX10 cX10_keepers 6 ({ frames := 5, cells := 0, slots := 0, locals := 119 } : Room) (some .int)) (hQ : qQi Z G 0 0 post) (hn : 66 ≤ gn G) (h : q_X10_keepers_48 v1 v2 post v4 v5 μ) : qV Z G 6 0 0 μ 48 [(1, .int v1), (2, .int v2), (3, .ref (ga G 2)), (4, .int v4), (5, .int v5)] [] := by
  refine h (fun v4 v5 μ => qV Z G 6 0 0 μ 48 [(1, .int v1), (2, .int v2), (3, .ref (ga G 2)), (4, .int v4), (5, .int v5)] []) (fun v4 v5 μ h => ?_)
  refine x_iload C 4 dX10_keepers_48 rfl ?_
  refine x_aload_n C 2 dX10_keepers_50 rfl rfl ?_
  refine i_RX10_108 (rest := [.int v5]) C hn rfl rfl (by decide) rfl dX10_keepers_51 h (fun r51 μ51 h => ?_)
  refine x_icmp_ge C dX10_keepers_54 (tgt := 86) (by decide) h (fun h => ?_) (fun h => ?_)
  · refine x_iload C 3 dX10_keepers_86 rfl ?_
    exact x_iret C hQ dX10_keepers_88 h
  · refine x_aload_n C 2 dX10_keepers_57 rfl rfl ?_
    refine x_iload_n C 0 dX10_keepers_58 rfl rfl ?_
    refine x_iload_n C 1 dX10_keepers_59 rfl rfl ?_
    refine i_RX10_89 (rest := [.ref (ga G 2)]) C hn  rfl (by decide) rfl dX10_keepers_60 h (fun r60 μ60 h => ?_)
    refine x_iload C 4 dX10_keepers_63 rfl ?_
    refine i_RX10_184 (rest := []) C hn rfl rfl (by decide) rfl dX10_keepers_65 h (fun r65 μ65 h => ?_)
    refine x_if_ne C dX10_keepers_68 (tgt := 80) (by decide) h (fun h => ?_) (fun h => ?_)
    · exact b_X10_keepers_80 C hQ hn (fun _ _ _ h => h) h
    · refine x_iload C 3 dX10_keepers_71 rfl ?_
      refine x_iconst C dX10_keepers_73 (v := 1) (by decide) ?_
      refine x_iload C 4 dX10_keepers_74 rfl ?_
      refine x_ishl C dX10_keepers_76 ?_
      refine x_ior C dX10_keepers_77 ?_
      refine x_istore C (L' := [(4, .int ((v4 ||| ((1 : Int32) <<< (v5 &&& 31))))), (1, .int v1), (2, .int v2), (3, .ref (ga G 2)), (5, .int v5)]) dX10_keepers_78 (by decide) rfl ?_
      exact qV_sub [1, 2, 3, 0, 4] rfl (b_X10_keepers_80 C hQ hn (fun _ _ _ h => h) h)
theorem y_X10_keepers : qY yX10_keepers cX10_keepers 6 (some .int) 2 ({ frames := 5, cells := 0, slots := 0, locals := 119 } : Room) 0 0 := ⟨(qm_24 _ (List.mem_of_getElem? (i := 1) rfl)), (qm_1 _ (List.mem_of_getElem? (i := 2) rfl)), by decide +kernel, by decide +kernel, rfl, rfl⟩
theorem c_X10_keepers (l : Launch) (G : qG) {v1 : Int32} {v2 : Int32} {μ : qM} (hn : 66 ≤ gn G) : qCi l G yX10_keepers cX10_keepers 6 (some .int) ({ frames := 5, cells := 0, slots := 0, locals := 119 } : Room) 0 0 [.ref (ga G 0), .int v1, .int v2] μ (fun post => w_X10_keepers v1 v2 post μ) := by
  refine qCi_of (L := [(0, .ref (ga G 0)), (1, .int v1), (2, .int v2)]) (by decide) rfl rfl ?_
  intro Z post hl C hQ h
  have C : qX Z G RX10 cX10_keepers 6 ({ frames := 5, cells := 0, slots := 0, locals := 119 } : Room) (some .int) := C
  have h : w_X10_keepers v1 v2 post μ := h
  unfold w_X10_keepers at h
  refine x_iload_n C 1 dX10_keepers_0 rfl rfl ?_
  refine x_iload_n C 2 dX10_keepers_1 rfl rfl ?_
  refine i_RX10_76 (rest := []) C hn  rfl (by decide) rfl dX10_keepers_2 h (fun r2 μ2 h => ?_)
  refine x_if_ne C dX10_keepers_5 (tgt := 15) (by decide) h (fun h => ?_) (fun h => ?_)
  · refine x_aload_n C 0 dX10_keepers_15 rfl rfl ?_
    refine g_RX10_10 C hn dX10_keepers_16 ?_
    refine i_RX10_85 (rest := []) C hn rfl rfl (by decide) rfl dX10_keepers_19 h (fun r19 μ19 h => ?_)
    obtain ⟨rfl, h⟩ := h
    refine x_astore_n C (L' := [(3, .ref (ga G 2)), (0, .ref (ga G 0)), (1, .int v1), (2, .int v2)]) dX10_keepers_22 rfl (by decide) rfl ?_
    refine x_aload_n C 0 dX10_keepers_23 rfl rfl ?_
    refine x_iload_n C 2 dX10_keepers_24 rfl rfl ?_
    refine x_iload_n C 3 dX10_keepers_25 rfl rfl ?_
    refine i_RX10_89 (rest := [.ref (ga G 2)]) C hn  rfl (by decide) rfl dX10_keepers_26 h (fun r26 μ26 h => ?_)
    refine i_RX10_162 (rest := []) C hn rfl rfl (by decide) rfl dX10_keepers_29 h (fun r29 μ29 h => ?_)
    refine x_if_ne C dX10_keepers_32 (tgt := 42) (by decide) h (fun h => ?_) (fun h => ?_)
    · refine x_iconst C dX10_keepers_42 (v := 0) (by decide) ?_
      refine x_istore C (L' := [(4, .int ((0 : Int32))), (3, .ref (ga G 2)), (0, .ref (ga G 0)), (1, .int v1), (2, .int v2)]) dX10_keepers_43 (by decide) rfl ?_
      refine x_iconst C dX10_keepers_45 (v := 0) (by decide) ?_
      refine x_istore C (L' := [(5, .int ((0 : Int32))), (4, .int ((0 : Int32))), (3, .ref (ga G 2)), (0, .ref (ga G 0)), (1, .int v1), (2, .int v2)]) dX10_keepers_46 (by decide) rfl ?_
      exact qV_sub [4, 5, 2, 1, 0] rfl (b_X10_keepers_48 C hQ hn h)
    · refine x_aload_n C 1 dX10_keepers_35 rfl rfl ?_
      refine x_ldc C (v := -1000004) (qm_15 _ (List.mem_of_getElem? (i := 3) rfl)) dX10_keepers_36 ?_
      refine i_RX10_81 (rest := []) C hn  rfl (by decide) rfl dX10_keepers_38 h (fun r38 μ38 h => ?_)
      exact x_iret C hQ dX10_keepers_41 h
  · refine x_aload_n C 0 dX10_keepers_8 rfl rfl ?_
    refine x_ldc C (v := -1000001) (qm_6 _ (List.mem_of_getElem? (i := 16) rfl)) dX10_keepers_9 ?_
    refine i_RX10_81 (rest := []) C hn  rfl (by decide) rfl dX10_keepers_11 h (fun r11 μ11 h => ?_)
    exact x_iret C hQ dX10_keepers_14 h
