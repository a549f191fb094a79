theorem dX10_kindFor_0 : decode cX10_kindFor 0 = .ok (.aload_n 0, 1) := by decide +kernel
theorem dX10_kindFor_1 : decode cX10_kindFor 1 = .ok (.getfield 10, 3) := by decide +kernel
theorem dX10_kindFor_4 : decode cX10_kindFor 4 = .ok (.invokevirtual 85, 3) := by decide +kernel
theorem dX10_kindFor_7 : decode cX10_kindFor 7 = .ok (.iload_n 1, 1) := by decide +kernel
theorem dX10_kindFor_8 : decode cX10_kindFor 8 = .ok (.invokevirtual 121, 3) := by decide +kernel
theorem dX10_kindFor_11 : decode cX10_kindFor 11 = .ok (.ifCond .ne 10, 3) := by decide +kernel
theorem dX10_kindFor_14 : decode cX10_kindFor 14 = .ok (.aload_n 0, 1) := by decide +kernel
theorem dX10_kindFor_15 : decode cX10_kindFor 15 = .ok (.ldc 80, 2) := by decide +kernel
theorem dX10_kindFor_17 : decode cX10_kindFor 17 = .ok (.invokevirtual 81, 3) := by decide +kernel
theorem dX10_kindFor_20 : decode cX10_kindFor 20 = .ok (.ireturn, 1) := by decide +kernel
theorem dX10_kindFor_21 : decode cX10_kindFor 21 = .ok (.aload_n 0, 1) := by decide +kernel
theorem dX10_kindFor_22 : decode cX10_kindFor 22 = .ok (.getfield 23, 3) := by decide +kernel
theorem dX10_kindFor_25 : decode cX10_kindFor 25 = .ok (.invokevirtual 85, 3) := by decide +kernel
theorem dX10_kindFor_28 : decode cX10_kindFor 28 = .ok (.astore_n 2, 1) := by decide +kernel
theorem dX10_kindFor_29 : decode cX10_kindFor 29 = .ok (.aload_n 2, 1) := by decide +kernel
theorem dX10_kindFor_30 : decode cX10_kindFor 30 = .ok (.aload_n 0, 1) := by decide +kernel
theorem dX10_kindFor_31 : decode cX10_kindFor 31 = .ok (.getfield 10, 3) := by decide +kernel
theorem dX10_kindFor_34 : decode cX10_kindFor 34 = .ok (.invokevirtual 85, 3) := by decide +kernel
theorem dX10_kindFor_37 : decode cX10_kindFor 37 = .ok (.invokevirtual 190, 3) := by decide +kernel
theorem dX10_kindFor_40 : decode cX10_kindFor 40 = .ok (.iconst 0, 1) := by decide +kernel
theorem dX10_kindFor_41 : decode cX10_kindFor 41 = .ok (.istore_n 3, 1) := by decide +kernel
theorem dX10_kindFor_42 : decode cX10_kindFor 42 = .ok (.iconst (-1), 1) := by decide +kernel
theorem dX10_kindFor_43 : decode cX10_kindFor 43 = .ok (.istore 4, 2) := by decide +kernel
theorem dX10_kindFor_45 : decode cX10_kindFor 45 = .ok (.iconst 0, 1) := by decide +kernel
theorem dX10_kindFor_46 : decode cX10_kindFor 46 = .ok (.istore 5, 2) := by decide +kernel
theorem dX10_kindFor_48 : decode cX10_kindFor 48 = .ok (.iload 5, 2) := by decide +kernel
theorem dX10_kindFor_50 : decode cX10_kindFor 50 = .ok (.bipush 7, 2) := by decide +kernel
theorem dX10_kindFor_52 : decode cX10_kindFor 52 = .ok (.if_icmp .ge 36, 3) := by decide +kernel
theorem dX10_kindFor_55 : decode cX10_kindFor 55 = .ok (.aload_n 2, 1) := by decide +kernel
theorem dX10_kindFor_56 : decode cX10_kindFor 56 = .ok (.iload_n 1, 1) := by decide +kernel
theorem dX10_kindFor_57 : decode cX10_kindFor 57 = .ok (.iload 5, 2) := by decide +kernel
theorem dX10_kindFor_59 : decode cX10_kindFor 59 = .ok (.invokevirtual 138, 3) := by decide +kernel
theorem dX10_kindFor_62 : decode cX10_kindFor 62 = .ok (.aload_n 2, 1) := by decide +kernel
theorem dX10_kindFor_63 : decode cX10_kindFor 63 = .ok (.invokevirtual 171, 3) := by decide +kernel
theorem dX10_kindFor_66 : decode cX10_kindFor 66 = .ok (.istore 6, 2) := by decide +kernel
theorem dX10_kindFor_68 : decode cX10_kindFor 68 = .ok (.iload 6, 2) := by decide +kernel
theorem dX10_kindFor_70 : decode cX10_kindFor 70 = .ok (.iload 4, 2) := by decide +kernel
theorem dX10_kindFor_72 : decode cX10_kindFor 72 = .ok (.if_icmp .le 10, 3) := by decide +kernel
theorem dX10_kindFor_75 : decode cX10_kindFor 75 = .ok (.iload 5, 2) := by decide +kernel
theorem dX10_kindFor_77 : decode cX10_kindFor 77 = .ok (.istore_n 3, 1) := by decide +kernel
theorem dX10_kindFor_78 : decode cX10_kindFor 78 = .ok (.iload 6, 2) := by decide +kernel
theorem dX10_kindFor_80 : decode cX10_kindFor 80 = .ok (.istore 4, 2) := by decide +kernel
theorem dX10_kindFor_82 : decode cX10_kindFor 82 = .ok (.iinc 5 1, 3) := by decide +kernel
theorem dX10_kindFor_85 : decode cX10_kindFor 85 = .ok (.goto (-37), 3) := by decide +kernel
theorem dX10_kindFor_88 : decode cX10_kindFor 88 = .ok (.iload_n 3, 1) := by decide +kernel
theorem dX10_kindFor_89 : decode cX10_kindFor 89 = .ok (.ireturn, 1) := by decide +kernel
theorem i_RX10_190 {Z : qZ} {G : qG} {cc : ByteArray} {nL k n : Nat} {rm : Room} {ret : Option FieldType} {μ : qM} {pc : Nat} {L : List (Nat × Value)} {rest : List Value} {K : qM → Prop} {o : Nat} {o1 : Nat} (C : qX Z G RX10 cc nL rm ret) (hn : 66 ≤ gn G) (hk_o : qk o = 1) (hk_o1 : qk o1 = 1) (hR : (Nat.ble (0 + 1) rm.frames && Nat.ble (8 + (3 + 11) + 0) rm.locals) = true) (hf : k + 0 ≤ rm.cells ∧ n + 0 ≤ rm.slots) (hsz : Nat.ble (rest.map fun v => v.category).sum 8 = true) (hd : decode cc pc = .ok (.invokevirtual 190, 3)) (h : w_X1_becomeAs o o1 K μ) (hk : ∀ (μ1 : qM), K μ1 → qV Z G nL k n μ1 (pc + 3) L rest) : qV Z G nL k n μ pc L (.ref (ga G o1) :: .ref (ga G o) :: rest) := x_Vv [.ref (ga G o1)] rest C o 1 (wp := fun K => w_X1_becomeAs o o1 K μ) (y_X1_becomeAs : qY yX1_becomeAs cX1_becomeAs 3 none 1 ({ frames := 0, cells := 0, slots := 0, locals := 0 } : Room) 0 0) (qm_24 _ (List.mem_of_getElem? (i := 11) rfl)) (qm_24 _ (List.mem_of_getElem? (i := 12) rfl)) (qm_24 _ (List.mem_of_getElem? (i := 10) rfl)) (c_X1_becomeAs Z.2.1 G hn hk_o hk_o1) (q_lt hk_o rfl hn) hk_o (by decide) rfl rfl hR hf rfl rfl hsz hd h hk
theorem g_RX10_23 {Z : qZ} {G : qG} {cc : ByteArray} {nL k n : Nat} {rm : Room} {ret : Option FieldType} {μ : qM} {pc : Nat} {L : List (Nat × Value)} {st : List Value} (C : qX Z G RX10 cc nL rm ret) (hn : 66 ≤ gn G) (hd : decode cc pc = .ok (.getfield 23, 3)) (h : qV Z G nL k n μ (pc + 3) L (.ref (ga G 15) :: st)) : qV Z G nL k n μ pc L (.ref (ga G 0) :: st) := x_getr C 0 9 3 15 15 (C0 := RX10) (fn := "trial") (fd := "LEqualPlain$Town;") (Nat.lt_of_lt_of_le (by decide) hn) rfl (by decide) rfl (by decide) rfl inlX10 (qm_1 _ (List.mem_of_getElem? (i := 18) rfl)) rfl rfl rfl hd h
theorem b_X10_kindFor_82 {Z : qZ} {G : qG} {v1 : Int32} {v3 : Int32} {v4 : Int32} {v5 : Int32} {μ : qM} {P48 : Int32 → Int32 → Int32 → qM → Prop} {post : Int32 → qM → Prop} (C : qX Z G RX10 cX10_kindFor 7 ({ frames := 6, cells := 0, slots := 0, locals := 140 } : Room) (some .int)) (hQ : qQi Z G 0 0 post) (hn : 66 ≤ gn G) (hP48 : ∀ (b3 : Int32) (b4 : Int32) (b5 : Int32) (μ1 : qM), P48 b3 b4 b5 μ1 → qV Z G 7 0 0 μ1 48 [(1, .int v1), (2, .ref (ga G 16)), (3, .int b3), (4, .int b4), (5, .int b5)] []) (h : q_X10_kindFor_82 P48 post v1 v3 v4 v5 μ) : qV Z G 7 0 0 μ 82 [(1, .int v1), (2, .ref (ga G 16)), (3, .int v3), (4, .int v4), (5, .int v5)] [] := by
  unfold q_X10_kindFor_82 at h
  refine x_iinc C 4 (v := 1) (L' := [(5, .int ((v5 + 1))), (1, .int v1), (2, .ref (ga G 16)), (3, .int v3), (4, .int v4)]) dX10_kindFor_82 rfl (by decide) (by decide) rfl ?_
  refine x_goto C dX10_kindFor_85 (tgt := 48) (by decide) ?_
  exact qV_sub [1, 2, 3, 4, 0] rfl ((hP48 _ _ _ _ h))
theorem b_X10_kindFor_48 {Z : qZ} {G : qG} {v1 : Int32} {v3 : Int32} {v4 : Int32} {v5 : Int32} {μ : qM} {post : Int32 → qM → Prop} (C : qX Z G RX10 cX10_kindFor 7 ({ frames := 6, cells := 0, slots := 0, locals := 140 } : Room) (some .int)) (hQ : qQi Z G 0 0 post) (hn : 66 ≤ gn G) (h : q_X10_kindFor_48 v1 post v3 v4 v5 μ) : qV Z G 7 0 0 μ 48 [(1, .int v1), (2, .ref (ga G 16)), (3, .int v3), (4, .int v4), (5, .int v5)] [] := by
  refine h (fun v3 v4 v5 μ => qV Z G 7 0 0 μ 48 [(1, .int v1), (2, .ref (ga G 16)), (3, .int v3), (4, .int v4), (5, .int v5)] []) (fun v3 v4 v5 μ h => ?_)
  refine x_iload C 4 dX10_kindFor_48 rfl ?_
  refine x_bipush C dX10_kindFor_50 (v := 7) (by decide) ?_
  refine x_icmp_ge C dX10_kindFor_52 (tgt := 88) (by decide) h (fun h => ?_) (fun h => ?_)
  · refine x_iload_n C 2 dX10_kindFor_88 rfl rfl ?_
    exact x_iret C hQ dX10_kindFor_89 h
  · refine x_aload_n C 1 dX10_kindFor_55 rfl rfl ?_
    refine x_iload_n C 0 dX10_kindFor_56 rfl rfl ?_
    refine x_iload C 4 dX10_kindFor_57 rfl ?_
    refine i_RX10_138 (rest := []) C hn rfl rfl (by decide) rfl dX10_kindFor_59 h (fun μ59 h => ?_)
    refine x_aload_n C 1 dX10_kindFor_62 rfl rfl ?_
    refine i_RX10_171 (rest := []) C hn rfl rfl (by decide) rfl dX10_kindFor_63 h (fun r63 μ63 h => ?_)
    refine x_istore C (L' := [(6, .int r63), (1, .int v1), (2, .ref (ga G 16)), (3, .int v3), (4, .int v4), (5, .int v5)]) dX10_kindFor_66 (by decide) rfl ?_
    refine x_iload C 0 dX10_kindFor_68 rfl ?_
    refine x_iload C 4 dX10_kindFor_70 rfl ?_
    refine x_icmp_le C dX10_kindFor_72 (tgt := 82) (by decide) h (fun h => ?_) (fun h => ?_)
    · exact qV_sub [1, 2, 3, 4, 5] rfl (b_X10_kindFor_82 C hQ hn (fun _ _ _ _ h => h) h)
    · refine x_iload C 5 dX10_kindFor_75 rfl ?_
      refine x_istore_n C (L' := [(3, .int v5), (6, .int r63), (1, .int v1), (2, .ref (ga G 16)), (4, .int v4), (5, .int v5)]) dX10_kindFor_77 rfl (by decide) rfl ?_
      refine x_iload C 1 dX10_kindFor_78 rfl ?_
      refine x_istore C (L' := [(4, .int r63), (3, .int v5), (6, .int r63), (1, .int v1), (2, .ref (ga G 16)), (5, .int v5)]) dX10_kindFor_80 (by decide) rfl ?_
      exact qV_sub [3, 4, 1, 0, 5] rfl (b_X10_kindFor_82 C hQ hn (fun _ _ _ _ h => h) h)
theorem y_X10_kindFor : qY yX10_kindFor cX10_kindFor 7 (some .int) 1 ({ frames := 6, cells := 0, slots := 0, locals := 140 } : Room) 0 0 := ⟨(qm_24 _ (List.mem_of_getElem? (i := 9) rfl)), (qm_1 _ (List.mem_of_getElem? (i := 2) rfl)), by decide +kernel, by decide +kernel, rfl, rfl⟩
theorem c_X10_kindFor (l : Launch) (G : qG) {v1 : Int32} {μ : qM} (hn : 66 ≤ gn G) : qCi l G yX10_kindFor cX10_kindFor 7 (some .int) ({ frames := 6, cells := 0, slots := 0, locals := 140 } : Room) 0 0 [.ref (ga G 0), .int v1] μ (fun post => w_X10_kindFor v1 post μ) := by
  refine qCi_of (L := [(0, .ref (ga G 0)), (1, .int v1)]) (by decide) rfl rfl ?_
  intro Z post hl C hQ h
  have C : qX Z G RX10 cX10_kindFor 7 ({ frames := 6, cells := 0, slots := 0, locals := 140 } : Room) (some .int) := C
  have h : w_X10_kindFor v1 post μ := h
  unfold w_X10_kindFor at h
  refine x_aload_n C 0 dX10_kindFor_0 rfl rfl ?_
  refine g_RX10_10 C hn dX10_kindFor_1 ?_
  refine i_RX10_85 (rest := []) C hn rfl rfl (by decide) rfl dX10_kindFor_4 h (fun r4 μ4 h => ?_)
  obtain ⟨rfl, h⟩ := h
  refine x_iload_n C 1 dX10_kindFor_7 rfl rfl ?_
  refine i_RX10_121 (rest := []) C hn rfl rfl (by decide) rfl dX10_kindFor_8 h (fun r8 μ8 h => ?_)
  refine x_if_ne C dX10_kindFor_11 (tgt := 21) (by decide) h (fun h => ?_) (fun h => ?_)
  · refine x_aload_n C 0 dX10_kindFor_21 rfl rfl ?_
    refine g_RX10_23 C hn dX10_kindFor_22 ?_
    refine i_RX10_85 (rest := []) C hn rfl rfl (by decide) rfl dX10_kindFor_25 h (fun r25 μ25 h => ?_)
    obtain ⟨rfl, h⟩ := h
    refine x_astore_n C (L' := [(2, .ref (ga G 16)), (0, .ref (ga G 0)), (1, .int v1)]) dX10_kindFor_28 rfl (by decide) rfl ?_
    refine x_aload_n C 0 dX10_kindFor_29 rfl rfl ?_
    refine x_aload_n C 1 dX10_kindFor_30 rfl rfl ?_
    refine g_RX10_10 C hn dX10_kindFor_31 ?_
    refine i_RX10_85 (rest := [.ref (ga G 16)]) C hn rfl rfl (by decide) rfl dX10_kindFor_34 h (fun r34 μ34 h => ?_)
    obtain ⟨rfl, h⟩ := h
    refine i_RX10_190 (rest := []) C hn rfl rfl rfl (by decide) rfl dX10_kindFor_37 h (fun μ37 h => ?_)
    refine x_iconst C dX10_kindFor_40 (v := 0) (by decide) ?_
    refine x_istore_n C (L' := [(3, .int ((0 : Int32))), (2, .ref (ga G 16)), (0, .ref (ga G 0)), (1, .int v1)]) dX10_kindFor_41 rfl (by decide) rfl ?_
    refine x_iconst C dX10_kindFor_42 (v := -1) (by decide) ?_
    refine x_istore C (L' := [(4, .int ((-1 : Int32))), (3, .int ((0 : Int32))), (2, .ref (ga G 16)), (0, .ref (ga G 0)), (1, .int v1)]) dX10_kindFor_43 (by decide) rfl ?_
    refine x_iconst C dX10_kindFor_45 (v := 0) (by decide) ?_
    refine x_istore C (L' := [(5, .int ((0 : Int32))), (4, .int ((-1 : Int32))), (3, .int ((0 : Int32))), (2, .ref (ga G 16)), (0, .ref (ga G 0)), (1, .int v1)]) dX10_kindFor_46 (by decide) rfl ?_
    exact qV_sub [5, 3, 2, 1, 0] rfl (b_X10_kindFor_48 C hQ hn h)
  · refine x_aload_n C 0 dX10_kindFor_14 rfl rfl ?_
    refine x_ldc C (v := -1000001) (qm_6 _ (List.mem_of_getElem? (i := 16) rfl)) dX10_kindFor_15 ?_
    refine i_RX10_81 (rest := []) C hn  rfl (by decide) rfl dX10_kindFor_17 h (fun r17 μ17 h => ?_)
    exact x_iret C hQ dX10_kindFor_20 h
theorem dX10_law_0 : decode cX10_law 0 = .ok (.aload_n 0, 1) := by decide +kernel
theorem dX10_law_1 : decode cX10_law 1 = .ok (.getfield 23, 3) := by decide +kernel
theorem dX10_law_4 : decode cX10_law 4 = .ok (.invokevirtual 85, 3) := by decide +kernel
theorem dX10_law_7 : decode cX10_law 7 = .ok (.astore_n 1, 1) := by decide +kernel
theorem dX10_law_8 : decode cX10_law 8 = .ok (.aload_n 1, 1) := by decide +kernel
theorem dX10_law_9 : decode cX10_law 9 = .ok (.aload_n 0, 1) := by decide +kernel
theorem dX10_law_10 : decode cX10_law 10 = .ok (.getfield 10, 3) := by decide +kernel
theorem dX10_law_13 : decode cX10_law 13 = .ok (.invokevirtual 85, 3) := by decide +kernel
theorem dX10_law_16 : decode cX10_law 16 = .ok (.invokevirtual 190, 3) := by decide +kernel
theorem dX10_law_19 : decode cX10_law 19 = .ok (.iconst 0, 1) := by decide +kernel
theorem dX10_law_20 : decode cX10_law 20 = .ok (.istore_n 2, 1) := by decide +kernel
theorem dX10_law_21 : decode cX10_law 21 = .ok (.iconst (-1), 1) := by decide +kernel
theorem dX10_law_22 : decode cX10_law 22 = .ok (.istore_n 3, 1) := by decide +kernel
theorem dX10_law_23 : decode cX10_law 23 = .ok (.iconst 0, 1) := by decide +kernel
theorem dX10_law_24 : decode cX10_law 24 = .ok (.istore 4, 2) := by decide +kernel
theorem dX10_law_26 : decode cX10_law 26 = .ok (.iload 4, 2) := by decide +kernel
theorem dX10_law_28 : decode cX10_law 28 = .ok (.bipush 7, 2) := by decide +kernel
theorem dX10_law_30 : decode cX10_law 30 = .ok (.if_icmp .ge 33, 3) := by decide +kernel
theorem dX10_law_33 : decode cX10_law 33 = .ok (.aload_n 1, 1) := by decide +kernel
theorem dX10_law_34 : decode cX10_law 34 = .ok (.iload 4, 2) := by decide +kernel
theorem dX10_law_36 : decode cX10_law 36 = .ok (.invokevirtual 194, 3) := by decide +kernel
theorem dX10_law_39 : decode cX10_law 39 = .ok (.aload_n 1, 1) := by decide +kernel
theorem dX10_law_40 : decode cX10_law 40 = .ok (.invokevirtual 171, 3) := by decide +kernel
theorem dX10_law_43 : decode cX10_law 43 = .ok (.istore 5, 2) := by decide +kernel
theorem dX10_law_45 : decode cX10_law 45 = .ok (.iload 5, 2) := by decide +kernel
theorem dX10_law_47 : decode cX10_law 47 = .ok (.iload_n 3, 1) := by decide +kernel
theorem dX10_law_48 : decode cX10_law 48 = .ok (.if_icmp .le 9, 3) := by decide +kernel
theorem dX10_law_51 : decode cX10_law 51 = .ok (.iload 4, 2) := by decide +kernel
theorem dX10_law_53 : decode cX10_law 53 = .ok (.istore_n 2, 1) := by decide +kernel
theorem dX10_law_54 : decode cX10_law 54 = .ok (.iload 5, 2) := by decide +kernel
theorem dX10_law_56 : decode cX10_law 56 = .ok (.istore_n 3, 1) := by decide +kernel
theorem dX10_law_57 : decode cX10_law 57 = .ok (.iinc 4 1, 3) := by decide +kernel
theorem dX10_law_60 : decode cX10_law 60 = .ok (.goto (-34), 3) := by decide +kernel
theorem dX10_law_63 : decode cX10_law 63 = .ok (.iload_n 2, 1) := by decide +kernel
theorem dX10_law_64 : decode cX10_law 64 = .ok (.ireturn, 1) := by decide +kernel
theorem i_RX10_194 {Z : qZ} {G : qG} {cc : ByteArray} {nL k n : Nat} {rm : Room} {ret : Option FieldType} {μ : qM} {pc : Nat} {L : List (Nat × Value)} {rest : List Value} {K : qM → Prop} {o : Nat} {v1 : Int32} (C : qX Z G RX10 cc nL rm ret) (hn : 66 ≤ gn G) (hk_o : qk o = 1) (hR : (Nat.ble (0 + 1) rm.frames && Nat.ble (8 + (3 + 11) + 0) rm.locals) = true) (hf : k + 0 ≤ rm.cells ∧ n + 0 ≤ rm.slots) (hsz : Nat.ble (rest.map fun v => v.category).sum 8 = true) (hd : decode cc pc = .ok (.invokevirtual 194, 3)) (h : w_X1_allBecome o v1 K μ) (hk : ∀ (μ1 : qM), K μ1 → qV Z G nL k n μ1 (pc + 3) L rest) : qV Z G nL k n μ pc L (.int v1 :: .ref (ga G o) :: rest) := x_Vv [.int v1] rest C o 1 (wp := fun K => w_X1_allBecome o v1 K μ) (y_X1_allBecome : qY yX1_allBecome cX1_allBecome 3 none 1 ({ frames := 0, cells := 0, slots := 0, locals := 0 } : Room) 0 0) (qm_25 _ (List.mem_of_getElem? (i := 3) rfl)) (qm_25 _ (List.mem_of_getElem? (i := 4) rfl)) (qm_25 _ (List.mem_of_getElem? (i := 2) rfl)) (c_X1_allBecome Z.2.1 G hn hk_o) (q_lt hk_o rfl hn) hk_o (by decide) rfl rfl hR hf rfl rfl hsz hd h hk
theorem b_X10_law_57 {Z : qZ} {G : qG} {v2 : Int32} {v3 : Int32} {v4 : Int32} {μ : qM} {P26 : Int32 → Int32 → Int32 → qM → Prop} {post : Int32 → qM → Prop} (C : qX Z G RX10 cX10_law 6 ({ frames := 6, cells := 0, slots := 0, locals := 140 } : Room) (some .int)) (hQ : qQi Z G 0 0 post) (hn : 66 ≤ gn G) (hP26 : ∀ (b2 : Int32) (b3 : Int32) (b4 : Int32) (μ1 : qM), P26 b2 b3 b4 μ1 → qV Z G 6 0 0 μ1 26 [(1, .ref (ga G 16)), (2, .int b2), (3, .int b3), (4, .int b4)] []) (h : q_X10_law_57 P26 post v2 v3 v4 μ) : qV Z G 6 0 0 μ 57 [(1, .ref (ga G 16)), (2, .int v2), (3, .int v3), (4, .int v4)] [] := by
  unfold q_X10_law_57 at h
  refine x_iinc C 3 (v := 1) (L' := [(4, .int ((v4 + 1))), (1, .ref (ga G 16)), (2, .int v2), (3, .int v3)]) dX10_law_57 rfl (by decide) (by decide) rfl ?_
  refine x_goto C dX10_law_60 (tgt := 26) (by decide) ?_
  exact qV_sub [1, 2, 3, 0] rfl ((hP26 _ _ _ _ h))
theorem b_X10_law_26 {Z : qZ} {G : qG} {v2 : Int32} {v3 : Int32} {v4 : Int32} {μ : qM} {post : Int32 → qM → Prop} (C : qX Z G RX10 cX10_law 6 ({ frames := 6, cells := 0, slots := 0, locals := 140 } : Room) (some .int)) (hQ : qQi Z G 0 0 post) (hn : 66 ≤ gn G) (h : q_X10_law_26 post v2 v3 v4 μ) : qV Z G 6 0 0 μ 26 [(1, .ref (ga G 16)), (2, .int v2), (3, .int v3), (4, .int v4)] [] := by
  refine h (fun v2 v3 v4 μ => qV Z G 6 0 0 μ 26 [(1, .ref (ga G 16)), (2, .int v2), (3, .int v3), (4, .int v4)] []) (fun v2 v3 v4 μ h => ?_)
  refine x_iload C 3 dX10_law_26 rfl ?_
  refine x_bipush C dX10_law_28 (v := 7) (by decide) ?_
  refine x_icmp_ge C dX10_law_30 (tgt := 63) (by decide) h (fun h => ?_) (fun h => ?_)
  · refine x_iload_n C 1 dX10_law_63 rfl rfl ?_
    exact x_iret C hQ dX10_law_64 h
  · refine x_aload_n C 0 dX10_law_33 rfl rfl ?_
    refine x_iload C 3 dX10_law_34 rfl ?_
    refine i_RX10_194 (rest := []) C hn rfl rfl (by decide) rfl dX10_law_36 h (fun μ36 h => ?_)
    refine x_aload_n C 0 dX10_law_39 rfl rfl ?_
    refine i_RX10_171 (rest := []) C hn rfl rfl (by decide) rfl dX10_law_40 h (fun r40 μ40 h => ?_)
    refine x_istore C (L' := [(5, .int r40), (1, .ref (ga G 16)), (2, .int v2), (3, .int v3), (4, .int v4)]) dX10_law_43 (by decide) rfl ?_
    refine x_iload C 0 dX10_law_45 rfl ?_
    refine x_iload_n C 3 dX10_law_47 rfl rfl ?_
    refine x_icmp_le C dX10_law_48 (tgt := 57) (by decide) h (fun h => ?_) (fun h => ?_)
    · exact qV_sub [1, 2, 3, 4] rfl (b_X10_law_57 C hQ hn (fun _ _ _ _ h => h) h)
    · refine x_iload C 4 dX10_law_51 rfl ?_
      refine x_istore_n C (L' := [(2, .int v4), (5, .int r40), (1, .ref (ga G 16)), (3, .int v3), (4, .int v4)]) dX10_law_53 rfl (by decide) rfl ?_
      refine x_iload C 1 dX10_law_54 rfl ?_
      refine x_istore_n C (L' := [(3, .int r40), (2, .int v4), (5, .int r40), (1, .ref (ga G 16)), (4, .int v4)]) dX10_law_56 rfl (by decide) rfl ?_
      exact qV_sub [3, 1, 0, 4] rfl (b_X10_law_57 C hQ hn (fun _ _ _ _ h => h) h)
theorem y_X10_law : qY yX10_law cX10_law 6 (some .int) 0 ({ frames := 6, cells := 0, slots := 0, locals := 140 } : Room) 0 0 := ⟨(qm_25 _ (List.mem_of_getElem? (i := 1) rfl)), (qm_1 _ (List.mem_of_getElem? (i := 2) rfl)), by decide +kernel, by decide +kernel, rfl, rfl⟩
theorem c_X10_law (l : Launch) (G : qG) {μ : qM} (hn : 66 ≤ gn G) : qCi l G yX10_law cX10_law 6 (some .int) ({ frames := 6, cells := 0, slots := 0, locals := 140 } : Room) 0 0 [.ref (ga G 0)] μ (fun post => w_X10_law  post μ) := by
  refine qCi_of (L := [(0, .ref (ga G 0))]) (by decide) rfl rfl ?_
  intro Z post hl C hQ h
  have C : qX Z G RX10 cX10_law 6 ({ frames := 6, cells := 0, slots := 0, locals := 140 } : Room) (some .int) := C
  have h : w_X10_law  post μ := h
  unfold w_X10_law at h
  refine x_aload_n C 0 dX10_law_0 rfl rfl ?_
  refine g_RX10_23 C hn dX10_law_1 ?_
  refine i_RX10_85 (rest := []) C hn rfl rfl (by decide) rfl dX10_law_4 h (fun r4 μ4 h => ?_)
  obtain ⟨rfl, h⟩ := h
  refine x_astore_n C (L' := [(1, .ref (ga G 16)), (0, .ref (ga G 0))]) dX10_law_7 rfl (by decide) rfl ?_
  refine x_aload_n C 0 dX10_law_8 rfl rfl ?_
  refine x_aload_n C 1 dX10_law_9 rfl rfl ?_
  refine g_RX10_10 C hn dX10_law_10 ?_
  refine i_RX10_85 (rest := [.ref (ga G 16)]) C hn rfl rfl (by decide) rfl dX10_law_13 h (fun r13 μ13 h => ?_)
  obtain ⟨rfl, h⟩ := h
  refine i_RX10_190 (rest := []) C hn rfl rfl rfl (by decide) rfl dX10_law_16 h (fun μ16 h => ?_)
  refine x_iconst C dX10_law_19 (v := 0) (by decide) ?_
  refine x_istore_n C (L' := [(2, .int ((0 : Int32))), (1, .ref (ga G 16)), (0, .ref (ga G 0))]) dX10_law_20 rfl (by decide) rfl ?_
  refine x_iconst C dX10_law_21 (v := -1) (by decide) ?_
  refine x_istore_n C (L' := [(3, .int ((-1 : Int32))), (2, .int ((0 : Int32))), (1, .ref (ga G 16)), (0, .ref (ga G 0))]) dX10_law_22 rfl (by decide) rfl ?_
  refine x_iconst C dX10_law_23 (v := 0) (by decide) ?_
  refine x_istore C (L' := [(4, .int ((0 : Int32))), (3, .int ((-1 : Int32))), (2, .int ((0 : Int32))), (1, .ref (ga G 16)), (0, .ref (ga G 0))]) dX10_law_24 (by decide) rfl ?_
  exact qV_sub [3, 2, 1, 0] rfl (b_X10_law_26 C hQ hn h)
theorem dX10_huts_0 : decode cX10_huts 0 = .ok (.iload_n 1, 1) := by decide +kernel
theorem dX10_huts_1 : decode cX10_huts 1 = .ok (.iload_n 2, 1) := by decide +kernel
theorem dX10_huts_2 : decode cX10_huts 2 = .ok (.invokestatic 76, 3) := by decide +kernel
theorem dX10_huts_5 : decode cX10_huts 5 = .ok (.ifCond .ne 10, 3) := by decide +kernel
theorem dX10_huts_8 : decode cX10_huts 8 = .ok (.aload_n 0, 1) := by decide +kernel
theorem dX10_huts_9 : decode cX10_huts 9 = .ok (.ldc 80, 2) := by decide +kernel
theorem dX10_huts_11 : decode cX10_huts 11 = .ok (.invokevirtual 81, 3) := by decide +kernel
theorem dX10_huts_14 : decode cX10_huts 14 = .ok (.ireturn, 1) := by decide +kernel
theorem dX10_huts_15 : decode cX10_huts 15 = .ok (.aload_n 0, 1) := by decide +kernel
theorem dX10_huts_16 : decode cX10_huts 16 = .ok (.getfield 10, 3) := by decide +kernel
theorem dX10_huts_19 : decode cX10_huts 19 = .ok (.invokevirtual 85, 3) := by decide +kernel
theorem dX10_huts_22 : decode cX10_huts 22 = .ok (.iload_n 1, 1) := by decide +kernel
theorem dX10_huts_23 : decode cX10_huts 23 = .ok (.iload_n 2, 1) := by decide +kernel
theorem dX10_huts_24 : decode cX10_huts 24 = .ok (.invokestatic 89, 3) := by decide +kernel
theorem dX10_huts_27 : decode cX10_huts 27 = .ok (.invokevirtual 93, 3) := by decide +kernel
theorem dX10_huts_30 : decode cX10_huts 30 = .ok (.ifCond .eq 10, 3) := by decide +kernel
theorem dX10_huts_33 : decode cX10_huts 33 = .ok (.aload_n 0, 1) := by decide +kernel
theorem dX10_huts_34 : decode cX10_huts 34 = .ok (.ldc 98, 2) := by decide +kernel
theorem dX10_huts_36 : decode cX10_huts 36 = .ok (.invokevirtual 81, 3) := by decide +kernel
theorem dX10_huts_39 : decode cX10_huts 39 = .ok (.ireturn, 1) := by decide +kernel
theorem dX10_huts_40 : decode cX10_huts 40 = .ok (.aload_n 0, 1) := by decide +kernel
theorem dX10_huts_41 : decode cX10_huts 41 = .ok (.getfield 53, 3) := by decide +kernel
theorem dX10_huts_44 : decode cX10_huts 44 = .ok (.aload_n 0, 1) := by decide +kernel
theorem dX10_huts_45 : decode cX10_huts 45 = .ok (.getfield 10, 3) := by decide +kernel
theorem dX10_huts_48 : decode cX10_huts 48 = .ok (.invokevirtual 85, 3) := by decide +kernel
theorem dX10_huts_51 : decode cX10_huts 51 = .ok (.iload_n 1, 1) := by decide +kernel
theorem dX10_huts_52 : decode cX10_huts 52 = .ok (.iload_n 2, 1) := by decide +kernel
theorem dX10_huts_53 : decode cX10_huts 53 = .ok (.invokestatic 89, 3) := by decide +kernel
theorem dX10_huts_56 : decode cX10_huts 56 = .ok (.invokevirtual 197, 3) := by decide +kernel
theorem dX10_huts_59 : decode cX10_huts 59 = .ok (.istore_n 3, 1) := by decide +kernel
theorem dX10_huts_60 : decode cX10_huts 60 = .ok (.iload_n 3, 1) := by decide +kernel
theorem dX10_huts_61 : decode cX10_huts 61 = .ok (.ifCond .ge 12, 3) := by decide +kernel
theorem dX10_huts_64 : decode cX10_huts 64 = .ok (.aload_n 0, 1) := by decide +kernel
theorem dX10_huts_65 : decode cX10_huts 65 = .ok (.ldc 141, 2) := by decide +kernel
theorem dX10_huts_67 : decode cX10_huts 67 = .ok (.invokevirtual 81, 3) := by decide +kernel
theorem dX10_huts_70 : decode cX10_huts 70 = .ok (.goto 4, 3) := by decide +kernel
theorem dX10_huts_73 : decode cX10_huts 73 = .ok (.iload_n 3, 1) := by decide +kernel
theorem dX10_huts_74 : decode cX10_huts 74 = .ok (.ireturn, 1) := by decide +kernel
theorem i_RX10_197 {Z : qZ} {G : qG} {cc : ByteArray} {nL k n : Nat} {rm : Room} {ret : Option FieldType} {μ : qM} {pc : Nat} {L : List (Nat × Value)} {rest : List Value} {K : Int32 → qM → Prop} {o : Nat} {o1 : Nat} {v2 : Int32} (C : qX Z G RX10 cc nL rm ret) (hn : 66 ≤ gn G) (hk_o : qk o = 2) (hk_o1 : qk o1 = 1) (hR : (Nat.ble (5 + 1) rm.frames && Nat.ble (8 + (4 + 11) + 122) rm.locals) = true) (hf : k + 0 ≤ rm.cells ∧ n + 0 ≤ rm.slots) (hsz : Nat.ble (rest.map fun v => v.category).sum 8 = true) (hd : decode cc pc = .ok (.invokevirtual 197, 3)) (h : w_X3_find o o1 v2 K μ) (hk : ∀ (r : Int32) (μ1 : qM), K r μ1 → qV Z G nL k n μ1 (pc + 3) L (.int r :: rest)) : qV Z G nL k n μ pc L (.int v2 :: .ref (ga G o1) :: .ref (ga G o) :: rest) := x_Vi [.ref (ga G o1), .int v2] rest C o 2 (wp := fun K => w_X3_find o o1 v2 K μ) (y_X3_find : qY yX3_find cX3_find 4 (some .int) 2 ({ frames := 5, cells := 0, slots := 0, locals := 122 } : Room) 0 0) (qm_25 _ (List.mem_of_getElem? (i := 15) rfl)) (qm_25 _ (List.mem_of_getElem? (i := 16) rfl)) (qm_25 _ (List.mem_of_getElem? (i := 14) rfl)) (c_X3_find Z.2.1 G hn hk_o hk_o1) (q_lt hk_o rfl hn) hk_o (by decide) rfl rfl hR hf rfl rfl hsz hd h hk
theorem g_RX10_53 {Z : qZ} {G : qG} {cc : ByteArray} {nL k n : Nat} {rm : Room} {ret : Option FieldType} {μ : qM} {pc : Nat} {L : List (Nat × Value)} {st : List Value} (C : qX Z G RX10 cc nL rm ret) (hn : 66 ≤ gn G) (hd : decode cc pc = .ok (.getfield 53, 3)) (h : qV Z G nL k n μ (pc + 3) L (.ref (ga G 37) :: st)) : qV Z G nL k n μ pc L (.ref (ga G 0) :: st) := x_getr C 0 9 8 37 37 (C0 := RX10) (fn := "ladder") (fd := "LEqualPlain$Ladder;") (Nat.lt_of_lt_of_le (by decide) hn) rfl (by decide) rfl (by decide) rfl inlX10 (qm_2 _ (List.mem_of_getElem? (i := 10) rfl)) rfl rfl rfl hd h
theorem y_X10_huts : qY yX10_huts cX10_huts 4 (some .int) 2 ({ frames := 6, cells := 0, slots := 0, locals := 145 } : Room) 0 0 := ⟨(qm_25 _ (List.mem_of_getElem? (i := 13) rfl)), (qm_1 _ (List.mem_of_getElem? (i := 2) rfl)), by decide +kernel, by decide +kernel, rfl, rfl⟩
theorem c_X10_huts (l : Launch) (G : qG) {v1 : Int32} {v2 : Int32} {μ : qM} (hn : 66 ≤ gn G) : qCi l G yX10_huts cX10_huts 4 (some .int) ({ frames := 6, cells := 0, slots := 0, locals := 145 } : Room) 0 0 [.ref (ga G 0), .int v1, .int v2] μ (fun post => w_X10_huts v1 v2 post μ) := by
  refine qCi_of (L := [(0, .ref (ga G 0)), (1, .int v1), (2, .int v2)]) (by decide) rfl rfl ?_
  intro Z post hl C hQ h
  have C : qX Z G RX10 cX10_huts 4 ({ frames := 6, cells := 0, slots := 0, locals := 145 } : Room) (some .int) := C
  have h : w_X10_huts v1 v2 post μ := h
  unfold w_X10_huts at h
  refine x_iload_n C 1 dX10_huts_0 rfl rfl ?_
  refine x_iload_n C 2 dX10_huts_1 rfl rfl ?_
  refine i_RX10_76 (rest := []) C hn  rfl (by decide) rfl dX10_huts_2 h (fun r2 μ2 h => ?_)
  refine x_if_ne C dX10_huts_5 (tgt := 15) (by decide) h (fun h => ?_) (fun h => ?_)
  · refine x_aload_n C 0 dX10_huts_15 rfl rfl ?_
    refine g_RX10_10 C hn dX10_huts_16 ?_
    refine i_RX10_85 (rest := []) C hn rfl rfl (by decide) rfl dX10_huts_19 h (fun r19 μ19 h => ?_)
    obtain ⟨rfl, h⟩ := h
    refine x_iload_n C 1 dX10_huts_22 rfl rfl ?_
    refine x_iload_n C 2 dX10_huts_23 rfl rfl ?_
    refine i_RX10_89 (rest := [.ref (ga G 2)]) C hn  rfl (by decide) rfl dX10_huts_24 h (fun r24 μ24 h => ?_)
    refine i_RX10_93 (rest := []) C hn rfl rfl (by decide) rfl dX10_huts_27 h (fun r27 μ27 h => ?_)
    refine x_if_eq C dX10_huts_30 (tgt := 40) (by decide) h (fun h => ?_) (fun h => ?_)
    · refine x_aload_n C 0 dX10_huts_40 rfl rfl ?_
      refine g_RX10_53 C hn dX10_huts_41 ?_
      refine x_aload_n C 0 dX10_huts_44 rfl rfl ?_
      refine g_RX10_10 C hn dX10_huts_45 ?_
      refine i_RX10_85 (rest := [.ref (ga G 37)]) C hn rfl rfl (by decide) rfl dX10_huts_48 h (fun r48 μ48 h => ?_)
      obtain ⟨rfl, h⟩ := h
      refine x_iload_n C 1 dX10_huts_51 rfl rfl ?_
      refine x_iload_n C 2 dX10_huts_52 rfl rfl ?_
      refine i_RX10_89 (rest := [.ref (ga G 2), .ref (ga G 37)]) C hn  rfl (by decide) rfl dX10_huts_53 h (fun r53 μ53 h => ?_)
      refine i_RX10_197 (rest := []) C hn rfl rfl rfl (by decide) rfl dX10_huts_56 h (fun r56 μ56 h => ?_)
      refine x_istore_n C (L' := [(3, .int r56), (0, .ref (ga G 0)), (1, .int v1), (2, .int v2)]) dX10_huts_59 rfl (by decide) rfl ?_
      refine x_iload_n C 0 dX10_huts_60 rfl rfl ?_
      refine x_if_ge C dX10_huts_61 (tgt := 73) (by decide) h (fun h => ?_) (fun h => ?_)
      · refine x_iload_n C 0 dX10_huts_73 rfl rfl ?_
        exact x_iret C hQ dX10_huts_74 h
      · refine x_aload_n C 1 dX10_huts_64 rfl rfl ?_
        refine x_ldc C (v := -1000004) (qm_15 _ (List.mem_of_getElem? (i := 3) rfl)) dX10_huts_65 ?_
        refine i_RX10_81 (rest := []) C hn  rfl (by decide) rfl dX10_huts_67 h (fun r67 μ67 h => ?_)
        refine x_goto C dX10_huts_70 (tgt := 74) (by decide) ?_
        exact x_iret C hQ dX10_huts_74 h
    · refine x_aload_n C 0 dX10_huts_33 rfl rfl ?_
      refine x_ldc C (v := -1000005) (qm_6 _ (List.mem_of_getElem? (i := 17) rfl)) dX10_huts_34 ?_
      refine i_RX10_81 (rest := []) C hn  rfl (by decide) rfl dX10_huts_36 h (fun r36 μ36 h => ?_)
      exact x_iret C hQ dX10_huts_39 h
  · refine x_aload_n C 0 dX10_huts_8 rfl rfl ?_
    refine x_ldc C (v := -1000001) (qm_6 _ (List.mem_of_getElem? (i := 16) rfl)) dX10_huts_9 ?_
    refine i_RX10_81 (rest := []) C hn  rfl (by decide) rfl dX10_huts_11 h (fun r11 μ11 h => ?_)
    exact x_iret C hQ dX10_huts_14 h
theorem dX10_hut_0 : decode cX10_hut 0 = .ok (.iload_n 1, 1) := by decide +kernel
theorem dX10_hut_1 : decode cX10_hut 1 = .ok (.iload_n 2, 1) := by decide +kernel
theorem dX10_hut_2 : decode cX10_hut 2 = .ok (.invokestatic 76, 3) := by decide +kernel
theorem dX10_hut_5 : decode cX10_hut 5 = .ok (.ifCond .eq 12, 3) := by decide +kernel
theorem dX10_hut_8 : decode cX10_hut 8 = .ok (.iload_n 3, 1) := by decide +kernel
theorem dX10_hut_9 : decode cX10_hut 9 = .ok (.ifCond .lt 8, 3) := by decide +kernel
theorem dX10_hut_12 : decode cX10_hut 12 = .ok (.iload_n 3, 1) := by decide +kernel
theorem dX10_hut_13 : decode cX10_hut 13 = .ok (.iconst 1, 1) := by decide +kernel
theorem dX10_hut_14 : decode cX10_hut 14 = .ok (.if_icmp .le 10, 3) := by decide +kernel
theorem dX10_hut_17 : decode cX10_hut 17 = .ok (.aload_n 0, 1) := by decide +kernel
theorem dX10_hut_18 : decode cX10_hut 18 = .ok (.ldc 80, 2) := by decide +kernel
theorem dX10_hut_20 : decode cX10_hut 20 = .ok (.invokevirtual 81, 3) := by decide +kernel
theorem dX10_hut_23 : decode cX10_hut 23 = .ok (.ireturn, 1) := by decide +kernel
theorem dX10_hut_24 : decode cX10_hut 24 = .ok (.aload_n 0, 1) := by decide +kernel
theorem dX10_hut_25 : decode cX10_hut 25 = .ok (.getfield 10, 3) := by decide +kernel
theorem dX10_hut_28 : decode cX10_hut 28 = .ok (.invokevirtual 85, 3) := by decide +kernel
theorem dX10_hut_31 : decode cX10_hut 31 = .ok (.iload_n 1, 1) := by decide +kernel
theorem dX10_hut_32 : decode cX10_hut 32 = .ok (.iload_n 2, 1) := by decide +kernel
theorem dX10_hut_33 : decode cX10_hut 33 = .ok (.invokestatic 89, 3) := by decide +kernel
theorem dX10_hut_36 : decode cX10_hut 36 = .ok (.invokevirtual 93, 3) := by decide +kernel
theorem dX10_hut_39 : decode cX10_hut 39 = .ok (.ifCond .eq 10, 3) := by decide +kernel
theorem dX10_hut_42 : decode cX10_hut 42 = .ok (.aload_n 0, 1) := by decide +kernel
theorem dX10_hut_43 : decode cX10_hut 43 = .ok (.ldc 98, 2) := by decide +kernel
theorem dX10_hut_45 : decode cX10_hut 45 = .ok (.invokevirtual 81, 3) := by decide +kernel
theorem dX10_hut_48 : decode cX10_hut 48 = .ok (.ireturn, 1) := by decide +kernel
theorem dX10_hut_49 : decode cX10_hut 49 = .ok (.aload_n 0, 1) := by decide +kernel
theorem dX10_hut_50 : decode cX10_hut 50 = .ok (.getfield 53, 3) := by decide +kernel
theorem dX10_hut_53 : decode cX10_hut 53 = .ok (.aload_n 0, 1) := by decide +kernel
theorem dX10_hut_54 : decode cX10_hut 54 = .ok (.getfield 10, 3) := by decide +kernel
theorem dX10_hut_57 : decode cX10_hut 57 = .ok (.invokevirtual 85, 3) := by decide +kernel
theorem dX10_hut_60 : decode cX10_hut 60 = .ok (.iload_n 1, 1) := by decide +kernel
theorem dX10_hut_61 : decode cX10_hut 61 = .ok (.iload_n 2, 1) := by decide +kernel
theorem dX10_hut_62 : decode cX10_hut 62 = .ok (.invokestatic 89, 3) := by decide +kernel
theorem dX10_hut_65 : decode cX10_hut 65 = .ok (.invokevirtual 197, 3) := by decide +kernel
theorem dX10_hut_68 : decode cX10_hut 68 = .ok (.istore 4, 2) := by decide +kernel
theorem dX10_hut_70 : decode cX10_hut 70 = .ok (.iload_n 3, 1) := by decide +kernel
theorem dX10_hut_71 : decode cX10_hut 71 = .ok (.iload 4, 2) := by decide +kernel
theorem dX10_hut_73 : decode cX10_hut 73 = .ok (.if_icmp .lt 10, 3) := by decide +kernel
theorem dX10_hut_76 : decode cX10_hut 76 = .ok (.aload_n 0, 1) := by decide +kernel
theorem dX10_hut_77 : decode cX10_hut 77 = .ok (.ldc 141, 2) := by decide +kernel
theorem dX10_hut_79 : decode cX10_hut 79 = .ok (.invokevirtual 81, 3) := by decide +kernel
theorem dX10_hut_82 : decode cX10_hut 82 = .ok (.ireturn, 1) := by decide +kernel
theorem dX10_hut_83 : decode cX10_hut 83 = .ok (.iload_n 3, 1) := by decide +kernel
theorem dX10_hut_84 : decode cX10_hut 84 = .ok (.ifCond .ne 13, 3) := by decide +kernel
theorem dX10_hut_87 : decode cX10_hut 87 = .ok (.aload_n 0, 1) := by decide +kernel
theorem dX10_hut_88 : decode cX10_hut 88 = .ok (.getfield 53, 3) := by decide +kernel
theorem dX10_hut_91 : decode cX10_hut 91 = .ok (.invokevirtual 201, 3) := by decide +kernel
theorem dX10_hut_94 : decode cX10_hut 94 = .ok (.goto 10, 3) := by decide +kernel
theorem dX10_hut_97 : decode cX10_hut 97 = .ok (.aload_n 0, 1) := by decide +kernel
theorem dX10_hut_98 : decode cX10_hut 98 = .ok (.getfield 53, 3) := by decide +kernel
theorem dX10_hut_101 : decode cX10_hut 101 = .ok (.invokevirtual 204, 3) := by decide +kernel
theorem dX10_hut_104 : decode cX10_hut 104 = .ok (.ireturn, 1) := by decide +kernel
theorem i_RX10_201 {Z : qZ} {G : qG} {cc : ByteArray} {nL k n : Nat} {rm : Room} {ret : Option FieldType} {μ : qM} {pc : Nat} {L : List (Nat × Value)} {rest : List Value} {K : Int32 → qM → Prop} {o : Nat} (C : qX Z G RX10 cc nL rm ret) (hn : 66 ≤ gn G) (hk_o : qk o = 2) (hR : (Nat.ble (0 + 1) rm.frames && Nat.ble (8 + (1 + 11) + 0) rm.locals) = true) (hf : k + 0 ≤ rm.cells ∧ n + 0 ≤ rm.slots) (hsz : Nat.ble (rest.map fun v => v.category).sum 8 = true) (hd : decode cc pc = .ok (.invokevirtual 201, 3)) (h : w_X3_first o K μ) (hk : ∀ (r : Int32) (μ1 : qM), K r μ1 → qV Z G nL k n μ1 (pc + 3) L (.int r :: rest)) : qV Z G nL k n μ pc L (.ref (ga G o) :: rest) := x_Vi [] rest C o 2 (wp := fun K => w_X3_first o K μ) (y_X3_first : qY yX3_first cX3_first 1 (some .int) 0 ({ frames := 0, cells := 0, slots := 0, locals := 0 } : Room) 0 0) (qm_26 _ (List.mem_of_getElem? (i := 21) rfl)) (qm_26 _ (List.mem_of_getElem? (i := 22) rfl)) (qm_26 _ (List.mem_of_getElem? (i := 20) rfl)) (c_X3_first Z.2.1 G hn hk_o) (q_lt hk_o rfl hn) hk_o (by decide) rfl rfl hR hf rfl rfl hsz hd h hk
theorem i_RX10_204 {Z : qZ} {G : qG} {cc : ByteArray} {nL k n : Nat} {rm : Room} {ret : Option FieldType} {μ : qM} {pc : Nat} {L : List (Nat × Value)} {rest : List Value} {K : Int32 → qM → Prop} {o : Nat} (C : qX Z G RX10 cc nL rm ret) (hn : 66 ≤ gn G) (hk_o : qk o = 2) (hR : (Nat.ble (0 + 1) rm.frames && Nat.ble (8 + (1 + 11) + 0) rm.locals) = true) (hf : k + 0 ≤ rm.cells ∧ n + 0 ≤ rm.slots) (hsz : Nat.ble (rest.map fun v => v.category).sum 8 = true) (hd : decode cc pc = .ok (.invokevirtual 204, 3)) (h : w_X3_second o K μ) (hk : ∀ (r : Int32) (μ1 : qM), K r μ1 → qV Z G nL k n μ1 (pc + 3) L (.int r :: rest)) : qV Z G nL k n μ pc L (.ref (ga G o) :: rest) := x_Vi [] rest C o 2 (wp := fun K => w_X3_second o K μ) (y_X3_second : qY yX3_second cX3_second 1 (some .int) 0 ({ frames := 0, cells := 0, slots := 0, locals := 0 } : Room) 0 0) (qm_27 _ (List.mem_of_getElem? (i := 1) rfl)) (qm_27 _ (List.mem_of_getElem? (i := 2) rfl)) (qm_27 _ (List.mem_of_getElem? (i := 0) rfl)) (c_X3_second Z.2.1 G hn hk_o) (q_lt hk_o rfl hn) hk_o (by decide) rfl rfl hR hf rfl rfl hsz hd h hk
theorem b_X10_hut_17 {Z : qZ} {G : qG} {μ : qM} {post : Int32 → qM → Prop} (C : qX Z G RX10 cX10_hut 5 ({ frames := 6, cells := 0, slots := 0, locals := 145 } : Room) (some .int)) (hQ : qQi Z G 0 0 post) (hn : 66 ≤ gn G) (h : q_X10_hut_17 post μ) : qV Z G 5 0 0 μ 17 [(0, .ref (ga G 0))] [] := by
  unfold q_X10_hut_17 at h
  refine x_aload_n C 0 dX10_hut_17 rfl rfl ?_
  refine x_ldc C (v := -1000001) (qm_6 _ (List.mem_of_getElem? (i := 16) rfl)) dX10_hut_18 ?_
  refine i_RX10_81 (rest := []) C hn  rfl (by decide) rfl dX10_hut_20 h (fun r20 μ20 h => ?_)
  exact x_iret C hQ dX10_hut_23 h
theorem y_X10_hut : qY yX10_hut cX10_hut 5 (some .int) 3 ({ frames := 6, cells := 0, slots := 0, locals := 145 } : Room) 0 0 := ⟨(qm_26 _ (List.mem_of_getElem? (i := 19) rfl)), (qm_1 _ (List.mem_of_getElem? (i := 2) rfl)), by decide +kernel, by decide +kernel, rfl, rfl⟩
theorem c_X10_hut (l : Launch) (G : qG) {v1 : Int32} {v2 : Int32} {v3 : Int32} {μ : qM} (hn : 66 ≤ gn G) : qCi l G yX10_hut cX10_hut 5 (some .int) ({ frames := 6, cells := 0, slots := 0, locals := 145 } : Room) 0 0 [.ref (ga G 0), .int v1, .int v2, .int v3] μ (fun post => w_X10_hut v1 v2 v3 post μ) := by
  refine qCi_of (L := [(0, .ref (ga G 0)), (1, .int v1), (2, .int v2), (3, .int v3)]) (by decide) rfl rfl ?_
  intro Z post hl C hQ h
  have C : qX Z G RX10 cX10_hut 5 ({ frames := 6, cells := 0, slots := 0, locals := 145 } : Room) (some .int) := C
  have h : w_X10_hut v1 v2 v3 post μ := h
  unfold w_X10_hut at h
  refine x_iload_n C 1 dX10_hut_0 rfl rfl ?_
  refine x_iload_n C 2 dX10_hut_1 rfl rfl ?_
  refine i_RX10_76 (rest := []) C hn  rfl (by decide) rfl dX10_hut_2 h (fun r2 μ2 h => ?_)
  refine x_if_eq C dX10_hut_5 (tgt := 17) (by decide) h (fun h => ?_) (fun h => ?_)
  · exact qV_sub [0] rfl (b_X10_hut_17 C hQ hn h)
  · refine x_iload_n C 3 dX10_hut_8 rfl rfl ?_
    refine x_if_lt C dX10_hut_9 (tgt := 17) (by decide) h (fun h => ?_) (fun h => ?_)
    · exact qV_sub [0] rfl (b_X10_hut_17 C hQ hn h)
    · refine x_iload_n C 3 dX10_hut_12 rfl rfl ?_
      refine x_iconst C dX10_hut_13 (v := 1) (by decide) ?_
      refine x_icmp_le C dX10_hut_14 (tgt := 24) (by decide) h (fun h => ?_) (fun h => ?_)
      · refine x_aload_n C 0 dX10_hut_24 rfl rfl ?_
        refine g_RX10_10 C hn dX10_hut_25 ?_
        refine i_RX10_85 (rest := []) C hn rfl rfl (by decide) rfl dX10_hut_28 h (fun r28 μ28 h => ?_)
        obtain ⟨rfl, h⟩ := h
        refine x_iload_n C 1 dX10_hut_31 rfl rfl ?_
        refine x_iload_n C 2 dX10_hut_32 rfl rfl ?_
        refine i_RX10_89 (rest := [.ref (ga G 2)]) C hn  rfl (by decide) rfl dX10_hut_33 h (fun r33 μ33 h => ?_)
        refine i_RX10_93 (rest := []) C hn rfl rfl (by decide) rfl dX10_hut_36 h (fun r36 μ36 h => ?_)
        refine x_if_eq C dX10_hut_39 (tgt := 49) (by decide) h (fun h => ?_) (fun h => ?_)
        · refine x_aload_n C 0 dX10_hut_49 rfl rfl ?_
          refine g_RX10_53 C hn dX10_hut_50 ?_
          refine x_aload_n C 0 dX10_hut_53 rfl rfl ?_
          refine g_RX10_10 C hn dX10_hut_54 ?_
          refine i_RX10_85 (rest := [.ref (ga G 37)]) C hn rfl rfl (by decide) rfl dX10_hut_57 h (fun r57 μ57 h => ?_)
          obtain ⟨rfl, h⟩ := h
          refine x_iload_n C 1 dX10_hut_60 rfl rfl ?_
          refine x_iload_n C 2 dX10_hut_61 rfl rfl ?_
          refine i_RX10_89 (rest := [.ref (ga G 2), .ref (ga G 37)]) C hn  rfl (by decide) rfl dX10_hut_62 h (fun r62 μ62 h => ?_)
          refine i_RX10_197 (rest := []) C hn rfl rfl rfl (by decide) rfl dX10_hut_65 h (fun r65 μ65 h => ?_)
          refine x_istore C (L' := [(4, .int r65), (0, .ref (ga G 0)), (1, .int v1), (2, .int v2), (3, .int v3)]) dX10_hut_68 (by decide) rfl ?_
          refine x_iload_n C 4 dX10_hut_70 rfl rfl ?_
          refine x_iload C 0 dX10_hut_71 rfl ?_
          refine x_icmp_lt C dX10_hut_73 (tgt := 83) (by decide) h (fun h => ?_) (fun h => ?_)
          · refine x_iload_n C 4 dX10_hut_83 rfl rfl ?_
            refine x_if_ne C dX10_hut_84 (tgt := 97) (by decide) h (fun h => ?_) (fun h => ?_)
            · refine x_aload_n C 1 dX10_hut_97 rfl rfl ?_
              refine g_RX10_53 C hn dX10_hut_98 ?_
              refine i_RX10_204 (rest := []) C hn rfl rfl (by decide) rfl dX10_hut_101 h (fun r101 μ101 h => ?_)
              exact x_iret C hQ dX10_hut_104 h
            · refine x_aload_n C 1 dX10_hut_87 rfl rfl ?_
              refine g_RX10_53 C hn dX10_hut_88 ?_
              refine i_RX10_201 (rest := []) C hn rfl rfl (by decide) rfl dX10_hut_91 h (fun r91 μ91 h => ?_)
              refine x_goto C dX10_hut_94 (tgt := 104) (by decide) ?_
              exact x_iret C hQ dX10_hut_104 h
          · refine x_aload_n C 1 dX10_hut_76 rfl rfl ?_
            refine x_ldc C (v := -1000004) (qm_15 _ (List.mem_of_getElem? (i := 3) rfl)) dX10_hut_77 ?_
            refine i_RX10_81 (rest := []) C hn  rfl (by decide) rfl dX10_hut_79 h (fun r79 μ79 h => ?_)
            exact x_iret C hQ dX10_hut_82 h
        · refine x_aload_n C 0 dX10_hut_42 rfl rfl ?_
          refine x_ldc C (v := -1000005) (qm_6 _ (List.mem_of_getElem? (i := 17) rfl)) dX10_hut_43 ?_
          refine i_RX10_81 (rest := []) C hn  rfl (by decide) rfl dX10_hut_45 h (fun r45 μ45 h => ?_)
          exact x_iret C hQ dX10_hut_48 h
      · exact qV_sub [0] rfl (b_X10_hut_17 C hQ hn h)
theorem dX10_opens_0 : decode cX10_opens 0 = .ok (.iload_n 1, 1) := by decide +kernel
theorem dX10_opens_1 : decode cX10_opens 1 = .ok (.invokestatic 72, 3) := by decide +kernel
theorem dX10_opens_4 : decode cX10_opens 4 = .ok (.ifCond .ne 10, 3) := by decide +kernel
theorem dX10_opens_7 : decode cX10_opens 7 = .ok (.aload_n 0, 1) := by decide +kernel
theorem dX10_opens_8 : decode cX10_opens 8 = .ok (.ldc 80, 2) := by decide +kernel
theorem dX10_opens_10 : decode cX10_opens 10 = .ok (.invokevirtual 81, 3) := by decide +kernel
theorem dX10_opens_13 : decode cX10_opens 13 = .ok (.ireturn, 1) := by decide +kernel
theorem dX10_opens_14 : decode cX10_opens 14 = .ok (.aload_n 0, 1) := by decide +kernel
theorem dX10_opens_15 : decode cX10_opens 15 = .ok (.getfield 60, 3) := by decide +kernel
theorem dX10_opens_18 : decode cX10_opens 18 = .ok (.aload_n 0, 1) := by decide +kernel
theorem dX10_opens_19 : decode cX10_opens 19 = .ok (.getfield 10, 3) := by decide +kernel
theorem dX10_opens_22 : decode cX10_opens 22 = .ok (.invokevirtual 85, 3) := by decide +kernel
theorem dX10_opens_25 : decode cX10_opens 25 = .ok (.iload_n 1, 1) := by decide +kernel
theorem dX10_opens_26 : decode cX10_opens 26 = .ok (.invokevirtual 207, 3) := by decide +kernel
theorem dX10_opens_29 : decode cX10_opens 29 = .ok (.istore_n 2, 1) := by decide +kernel
theorem dX10_opens_30 : decode cX10_opens 30 = .ok (.iload_n 2, 1) := by decide +kernel
theorem dX10_opens_31 : decode cX10_opens 31 = .ok (.ifCond .ge 10, 3) := by decide +kernel
theorem dX10_opens_34 : decode cX10_opens 34 = .ok (.aload_n 0, 1) := by decide +kernel
theorem dX10_opens_35 : decode cX10_opens 35 = .ok (.ldc 141, 2) := by decide +kernel
theorem dX10_opens_37 : decode cX10_opens 37 = .ok (.invokevirtual 81, 3) := by decide +kernel
theorem dX10_opens_40 : decode cX10_opens 40 = .ok (.ireturn, 1) := by decide +kernel
theorem dX10_opens_41 : decode cX10_opens 41 = .ok (.aload_n 0, 1) := by decide +kernel
theorem dX10_opens_42 : decode cX10_opens 42 = .ok (.getfield 10, 3) := by decide +kernel
theorem dX10_opens_45 : decode cX10_opens 45 = .ok (.invokevirtual 85, 3) := by decide +kernel
theorem dX10_opens_48 : decode cX10_opens 48 = .ok (.invokevirtual 99, 3) := by decide +kernel
theorem dX10_opens_51 : decode cX10_opens 51 = .ok (.ifCond .eq 12, 3) := by decide +kernel
theorem dX10_opens_54 : decode cX10_opens 54 = .ok (.aload_n 0, 1) := by decide +kernel
theorem dX10_opens_55 : decode cX10_opens 55 = .ok (.ldc 103, 2) := by decide +kernel
theorem dX10_opens_57 : decode cX10_opens 57 = .ok (.invokevirtual 81, 3) := by decide +kernel
theorem dX10_opens_60 : decode cX10_opens 60 = .ok (.goto 4, 3) := by decide +kernel
theorem dX10_opens_63 : decode cX10_opens 63 = .ok (.iload_n 2, 1) := by decide +kernel
theorem dX10_opens_64 : decode cX10_opens 64 = .ok (.ireturn, 1) := by decide +kernel
theorem i_RX10_207 {Z : qZ} {G : qG} {cc : ByteArray} {nL k n : Nat} {rm : Room} {ret : Option FieldType} {μ : qM} {pc : Nat} {L : List (Nat × Value)} {rest : List Value} {K : Int32 → qM → Prop} {o : Nat} {o1 : Nat} {v2 : Int32} (C : qX Z G RX10 cc nL rm ret) (hn : 66 ≤ gn G) (hk_o : qk o = 3) (hk_o1 : qk o1 = 1) (hR : (Nat.ble (5 + 1) rm.frames && Nat.ble (8 + (6 + 11) + 121) rm.locals) = true) (hf : k + 0 ≤ rm.cells ∧ n + 0 ≤ rm.slots) (hsz : Nat.ble (rest.map fun v => v.category).sum 8 = true) (hd : decode cc pc = .ok (.invokevirtual 207, 3)) (h : w_X4_find o o1 v2 K μ) (hk : ∀ (r : Int32) (μ1 : qM), K r μ1 → qV Z G nL k n μ1 (pc + 3) L (.int r :: rest)) : qV Z G nL k n μ pc L (.int v2 :: .ref (ga G o1) :: .ref (ga G o) :: rest) := x_Vi [.ref (ga G o1), .int v2] rest C o 3 (wp := fun K => w_X4_find o o1 v2 K μ) (y_X4_find : qY yX4_find cX4_find 6 (some .int) 2 ({ frames := 5, cells := 0, slots := 0, locals := 121 } : Room) 0 0) (qm_27 _ (List.mem_of_getElem? (i := 13) rfl)) (qm_27 _ (List.mem_of_getElem? (i := 14) rfl)) (qm_27 _ (List.mem_of_getElem? (i := 12) rfl)) (c_X4_find Z.2.1 G hn hk_o hk_o1) (q_lt hk_o rfl hn) hk_o (by decide) rfl rfl hR hf rfl rfl hsz hd h hk
theorem g_RX10_60 {Z : qZ} {G : qG} {cc : ByteArray} {nL k n : Nat} {rm : Room} {ret : Option FieldType} {μ : qM} {pc : Nat} {L : List (Nat × Value)} {st : List Value} (C : qX Z G RX10 cc nL rm ret) (hn : 66 ≤ gn G) (hd : decode cc pc = .ok (.getfield 60, 3)) (h : qV Z G nL k n μ (pc + 3) L (.ref (ga G 40) :: st)) : qV Z G nL k n μ pc L (.ref (ga G 0) :: st) := x_getr C 0 9 9 40 40 (C0 := RX10) (fn := "openings") (fd := "LEqualPlain$Openings;") (Nat.lt_of_lt_of_le (by decide) hn) rfl (by decide) rfl (by decide) rfl inlX10 (qm_2 _ (List.mem_of_getElem? (i := 14) rfl)) rfl rfl rfl hd h
theorem y_X10_opens : qY yX10_opens cX10_opens 3 (some .int) 1 ({ frames := 6, cells := 0, slots := 0, locals := 146 } : Room) 0 0 := ⟨(qm_27 _ (List.mem_of_getElem? (i := 11) rfl)), (qm_1 _ (List.mem_of_getElem? (i := 2) rfl)), by decide +kernel, by decide +kernel, rfl, rfl⟩
theorem c_X10_opens (l : Launch) (G : qG) {v1 : Int32} {μ : qM} (hn : 66 ≤ gn G) : qCi l G yX10_opens cX10_opens 3 (some .int) ({ frames := 6, cells := 0, slots := 0, locals := 146 } : Room) 0 0 [.ref (ga G 0), .int v1] μ (fun post => w_X10_opens v1 post μ) := by
  refine qCi_of (L := [(0, .ref (ga G 0)), (1, .int v1)]) (by decide) rfl rfl ?_
  intro Z post hl C hQ h
  have C : qX Z G RX10 cX10_opens 3 ({ frames := 6, cells := 0, slots := 0, locals := 146 } : Room) (some .int) := C
  have h : w_X10_opens v1 post μ := h
  unfold w_X10_opens at h
  refine x_iload_n C 1 dX10_opens_0 rfl rfl ?_
  refine i_RX10_72 (rest := []) C hn  rfl (by decide) rfl dX10_opens_1 h (fun r1 μ1 h => ?_)
  refine x_if_ne C dX10_opens_4 (tgt := 14) (by decide) h (fun h => ?_) (fun h => ?_)
  · refine x_aload_n C 0 dX10_opens_14 rfl rfl ?_
    refine g_RX10_60 C hn dX10_opens_15 ?_
    refine x_aload_n C 0 dX10_opens_18 rfl rfl ?_
    refine g_RX10_10 C hn dX10_opens_19 ?_
    refine i_RX10_85 (rest := [.ref (ga G 40)]) C hn rfl rfl (by decide) rfl dX10_opens_22 h (fun r22 μ22 h => ?_)
    obtain ⟨rfl, h⟩ := h
    refine x_iload_n C 1 dX10_opens_25 rfl rfl ?_
    refine i_RX10_207 (rest := []) C hn rfl rfl rfl (by decide) rfl dX10_opens_26 h (fun r26 μ26 h => ?_)
    refine x_istore_n C (L' := [(2, .int r26), (0, .ref (ga G 0)), (1, .int v1)]) dX10_opens_29 rfl (by decide) rfl ?_
    refine x_iload_n C 0 dX10_opens_30 rfl rfl ?_
    refine x_if_ge C dX10_opens_31 (tgt := 41) (by decide) h (fun h => ?_) (fun h => ?_)
    · refine x_aload_n C 1 dX10_opens_41 rfl rfl ?_
      refine g_RX10_10 C hn dX10_opens_42 ?_
      refine i_RX10_85 (rest := []) C hn rfl rfl (by decide) rfl dX10_opens_45 h (fun r45 μ45 h => ?_)
      obtain ⟨rfl, h⟩ := h
      refine i_RX10_99 (rest := []) C hn rfl rfl (by decide) rfl dX10_opens_48 h (fun r48 μ48 h => ?_)
      refine x_if_eq C dX10_opens_51 (tgt := 63) (by decide) h (fun h => ?_) (fun h => ?_)
      · refine x_iload_n C 0 dX10_opens_63 rfl rfl ?_
        exact x_iret C hQ dX10_opens_64 h
      · refine x_aload_n C 1 dX10_opens_54 rfl rfl ?_
        refine x_ldc C (v := -1000002) (qm_6 _ (List.mem_of_getElem? (i := 18) rfl)) dX10_opens_55 ?_
        refine i_RX10_81 (rest := []) C hn  rfl (by decide) rfl dX10_opens_57 h (fun r57 μ57 h => ?_)
        refine x_goto C dX10_opens_60 (tgt := 64) (by decide) ?_
        exact x_iret C hQ dX10_opens_64 h
    · refine x_aload_n C 1 dX10_opens_34 rfl rfl ?_
      refine x_ldc C (v := -1000004) (qm_15 _ (List.mem_of_getElem? (i := 3) rfl)) dX10_opens_35 ?_
      refine i_RX10_81 (rest := []) C hn  rfl (by decide) rfl dX10_opens_37 h (fun r37 μ37 h => ?_)
      exact x_iret C hQ dX10_opens_40 h
  · refine x_aload_n C 0 dX10_opens_7 rfl rfl ?_
    refine x_ldc C (v := -1000001) (qm_6 _ (List.mem_of_getElem? (i := 16) rfl)) dX10_opens_8 ?_
    refine i_RX10_81 (rest := []) C hn  rfl (by decide) rfl dX10_opens_10 h (fun r10 μ10 h => ?_)
    exact x_iret C hQ dX10_opens_13 h
theorem dX10_opened_0 : decode cX10_opened 0 = .ok (.iload_n 1, 1) := by decide +kernel
theorem dX10_opened_1 : decode cX10_opened 1 = .ok (.invokestatic 72, 3) := by decide +kernel
theorem dX10_opened_4 : decode cX10_opened 4 = .ok (.ifCond .ne 10, 3) := by decide +kernel
theorem dX10_opened_7 : decode cX10_opened 7 = .ok (.aload_n 0, 1) := by decide +kernel
theorem dX10_opened_8 : decode cX10_opened 8 = .ok (.ldc 80, 2) := by decide +kernel
theorem dX10_opened_10 : decode cX10_opened 10 = .ok (.invokevirtual 81, 3) := by decide +kernel
theorem dX10_opened_13 : decode cX10_opened 13 = .ok (.ireturn, 1) := by decide +kernel
theorem dX10_opened_14 : decode cX10_opened 14 = .ok (.aload_n 0, 1) := by decide +kernel
theorem dX10_opened_15 : decode cX10_opened 15 = .ok (.getfield 60, 3) := by decide +kernel
theorem dX10_opened_18 : decode cX10_opened 18 = .ok (.aload_n 0, 1) := by decide +kernel
theorem dX10_opened_19 : decode cX10_opened 19 = .ok (.getfield 10, 3) := by decide +kernel
theorem dX10_opened_22 : decode cX10_opened 22 = .ok (.invokevirtual 85, 3) := by decide +kernel
theorem dX10_opened_25 : decode cX10_opened 25 = .ok (.iload_n 1, 1) := by decide +kernel
theorem dX10_opened_26 : decode cX10_opened 26 = .ok (.invokevirtual 207, 3) := by decide +kernel
theorem dX10_opened_29 : decode cX10_opened 29 = .ok (.istore_n 2, 1) := by decide +kernel
theorem dX10_opened_30 : decode cX10_opened 30 = .ok (.iload_n 2, 1) := by decide +kernel
theorem dX10_opened_31 : decode cX10_opened 31 = .ok (.ifCond .ge 10, 3) := by decide +kernel
theorem dX10_opened_34 : decode cX10_opened 34 = .ok (.aload_n 0, 1) := by decide +kernel
theorem dX10_opened_35 : decode cX10_opened 35 = .ok (.ldc 141, 2) := by decide +kernel
theorem dX10_opened_37 : decode cX10_opened 37 = .ok (.invokevirtual 81, 3) := by decide +kernel
theorem dX10_opened_40 : decode cX10_opened 40 = .ok (.ireturn, 1) := by decide +kernel
theorem dX10_opened_41 : decode cX10_opened 41 = .ok (.aload_n 0, 1) := by decide +kernel
theorem dX10_opened_42 : decode cX10_opened 42 = .ok (.getfield 10, 3) := by decide +kernel
theorem dX10_opened_45 : decode cX10_opened 45 = .ok (.invokevirtual 85, 3) := by decide +kernel
theorem dX10_opened_48 : decode cX10_opened 48 = .ok (.invokevirtual 99, 3) := by decide +kernel
theorem dX10_opened_51 : decode cX10_opened 51 = .ok (.ifCond .eq 12, 3) := by decide +kernel
theorem dX10_opened_54 : decode cX10_opened 54 = .ok (.aload_n 0, 1) := by decide +kernel
theorem dX10_opened_55 : decode cX10_opened 55 = .ok (.ldc 103, 2) := by decide +kernel
theorem dX10_opened_57 : decode cX10_opened 57 = .ok (.invokevirtual 81, 3) := by decide +kernel
theorem dX10_opened_60 : decode cX10_opened 60 = .ok (.goto 10, 3) := by decide +kernel
theorem dX10_opened_63 : decode cX10_opened 63 = .ok (.aload_n 0, 1) := by decide +kernel
theorem dX10_opened_64 : decode cX10_opened 64 = .ok (.getfield 60, 3) := by decide +kernel
theorem dX10_opened_67 : decode cX10_opened 67 = .ok (.invokevirtual 208, 3) := by decide +kernel
theorem dX10_opened_70 : decode cX10_opened 70 = .ok (.ireturn, 1) := by decide +kernel
theorem i_RX10_208 {Z : qZ} {G : qG} {cc : ByteArray} {nL k n : Nat} {rm : Room} {ret : Option FieldType} {μ : qM} {pc : Nat} {L : List (Nat × Value)} {rest : List Value} {K : Int32 → qM → Prop} {o : Nat} (C : qX Z G RX10 cc nL rm ret) (hn : 66 ≤ gn G) (hk_o : qk o = 3) (hR : (Nat.ble (0 + 1) rm.frames && Nat.ble (8 + (1 + 11) + 0) rm.locals) = true) (hf : k + 0 ≤ rm.cells ∧ n + 0 ≤ rm.slots) (hsz : Nat.ble (rest.map fun v => v.category).sum 8 = true) (hd : decode cc pc = .ok (.invokevirtual 208, 3)) (h : w_X4_most o K μ) (hk : ∀ (r : Int32) (μ1 : qM), K r μ1 → qV Z G nL k n μ1 (pc + 3) L (.int r :: rest)) : qV Z G nL k n μ pc L (.ref (ga G o) :: rest) := x_Vi [] rest C o 3 (wp := fun K => w_X4_most o K μ) (y_X4_most : qY yX4_most cX4_most 1 (some .int) 0 ({ frames := 0, cells := 0, slots := 0, locals := 0 } : Room) 0 0) (qm_28 _ (List.mem_of_getElem? (i := 17) rfl)) (qm_28 _ (List.mem_of_getElem? (i := 18) rfl)) (qm_28 _ (List.mem_of_getElem? (i := 16) rfl)) (c_X4_most Z.2.1 G hn hk_o) (q_lt hk_o rfl hn) hk_o (by decide) rfl rfl hR hf rfl rfl hsz hd h hk
theorem y_X10_opened : qY yX10_opened cX10_opened 3 (some .int) 1 ({ frames := 6, cells := 0, slots := 0, locals := 146 } : Room) 0 0 := ⟨(qm_28 _ (List.mem_of_getElem? (i := 15) rfl)), (qm_1 _ (List.mem_of_getElem? (i := 2) rfl)), by decide +kernel, by decide +kernel, rfl, rfl⟩
theorem c_X10_opened (l : Launch) (G : qG) {v1 : Int32} {μ : qM} (hn : 66 ≤ gn G) : qCi l G yX10_opened cX10_opened 3 (some .int) ({ frames := 6, cells := 0, slots := 0, locals := 146 } : Room) 0 0 [.ref (ga G 0), .int v1] μ (fun post => w_X10_opened v1 post μ) := by
  refine qCi_of (L := [(0, .ref (ga G 0)), (1, .int v1)]) (by decide) rfl rfl ?_
  intro Z post hl C hQ h
  have C : qX Z G RX10 cX10_opened 3 ({ frames := 6, cells := 0, slots := 0, locals := 146 } : Room) (some .int) := C
  have h : w_X10_opened v1 post μ := h
  unfold w_X10_opened at h
  refine x_iload_n C 1 dX10_opened_0 rfl rfl ?_
  refine i_RX10_72 (rest := []) C hn  rfl (by decide) rfl dX10_opened_1 h (fun r1 μ1 h => ?_)
  refine x_if_ne C dX10_opened_4 (tgt := 14) (by decide) h (fun h => ?_) (fun h => ?_)
  · refine x_aload_n C 0 dX10_opened_14 rfl rfl ?_
    refine g_RX10_60 C hn dX10_opened_15 ?_
    refine x_aload_n C 0 dX10_opened_18 rfl rfl ?_
    refine g_RX10_10 C hn dX10_opened_19 ?_
    refine i_RX10_85 (rest := [.ref (ga G 40)]) C hn rfl rfl (by decide) rfl dX10_opened_22 h (fun r22 μ22 h => ?_)
    obtain ⟨rfl, h⟩ := h
    refine x_iload_n C 1 dX10_opened_25 rfl rfl ?_
    refine i_RX10_207 (rest := []) C hn rfl rfl rfl (by decide) rfl dX10_opened_26 h (fun r26 μ26 h => ?_)
    refine x_istore_n C (L' := [(2, .int r26), (0, .ref (ga G 0)), (1, .int v1)]) dX10_opened_29 rfl (by decide) rfl ?_
    refine x_iload_n C 0 dX10_opened_30 rfl rfl ?_
    refine x_if_ge C dX10_opened_31 (tgt := 41) (by decide) h (fun h => ?_) (fun h => ?_)
    · refine x_aload_n C 1 dX10_opened_41 rfl rfl ?_
      refine g_RX10_10 C hn dX10_opened_42 ?_
      refine i_RX10_85 (rest := []) C hn rfl rfl (by decide) rfl dX10_opened_45 h (fun r45 μ45 h => ?_)
      obtain ⟨rfl, h⟩ := h
      refine i_RX10_99 (rest := []) C hn rfl rfl (by decide) rfl dX10_opened_48 h (fun r48 μ48 h => ?_)
      refine x_if_eq C dX10_opened_51 (tgt := 63) (by decide) h (fun h => ?_) (fun h => ?_)
      · refine x_aload_n C 1 dX10_opened_63 rfl rfl ?_
        refine g_RX10_60 C hn dX10_opened_64 ?_
        refine i_RX10_208 (rest := []) C hn rfl rfl (by decide) rfl dX10_opened_67 h (fun r67 μ67 h => ?_)
        exact x_iret C hQ dX10_opened_70 h
      · refine x_aload_n C 1 dX10_opened_54 rfl rfl ?_
        refine x_ldc C (v := -1000002) (qm_6 _ (List.mem_of_getElem? (i := 18) rfl)) dX10_opened_55 ?_
        refine i_RX10_81 (rest := []) C hn  rfl (by decide) rfl dX10_opened_57 h (fun r57 μ57 h => ?_)
        refine x_goto C dX10_opened_60 (tgt := 70) (by decide) ?_
        exact x_iret C hQ dX10_opened_70 h
    · refine x_aload_n C 1 dX10_opened_34 rfl rfl ?_
      refine x_ldc C (v := -1000004) (qm_15 _ (List.mem_of_getElem? (i := 3) rfl)) dX10_opened_35 ?_
      refine i_RX10_81 (rest := []) C hn  rfl (by decide) rfl dX10_opened_37 h (fun r37 μ37 h => ?_)
      exact x_iret C hQ dX10_opened_40 h
  · refine x_aload_n C 0 dX10_opened_7 rfl rfl ?_
    refine x_ldc C (v := -1000001) (qm_6 _ (List.mem_of_getElem? (i := 16) rfl)) dX10_opened_8 ?_
    refine i_RX10_81 (rest := []) C hn  rfl (by decide) rfl dX10_opened_10 h (fun r10 μ10 h => ?_)
    exact x_iret C hQ dX10_opened_13 h
theorem dX10_orders_0 : decode cX10_orders 0 = .ok (.aload_n 0, 1) := by decide +kernel
theorem dX10_orders_1 : decode cX10_orders 1 = .ok (.getfield 67, 3) := by decide +kernel
theorem dX10_orders_4 : decode cX10_orders 4 = .ok (.aload_n 0, 1) := by decide +kernel
theorem dX10_orders_5 : decode cX10_orders 5 = .ok (.getfield 10, 3) := by decide +kernel
theorem dX10_orders_8 : decode cX10_orders 8 = .ok (.invokevirtual 85, 3) := by decide +kernel
theorem dX10_orders_11 : decode cX10_orders 11 = .ok (.iconst (-1), 1) := by decide +kernel
theorem dX10_orders_12 : decode cX10_orders 12 = .ok (.invokevirtual 211, 3) := by decide +kernel
theorem dX10_orders_15 : decode cX10_orders 15 = .ok (.ireturn, 1) := by decide +kernel
theorem i_RX10_211 {Z : qZ} {G : qG} {cc : ByteArray} {nL k n : Nat} {rm : Room} {ret : Option FieldType} {μ : qM} {pc : Nat} {L : List (Nat × Value)} {rest : List Value} {K : Int32 → qM → Prop} {o : Nat} {o1 : Nat} {v2 : Int32} (C : qX Z G RX10 cc nL rm ret) (hn : 66 ≤ gn G) (hk_o : qk o = 0) (hk_o1 : qk o1 = 1) (hR : (Nat.ble (5 + 1) rm.frames && Nat.ble (8 + (5 + 11) + 119) rm.locals) = true) (hf : k + 0 ≤ rm.cells ∧ n + 0 ≤ rm.slots) (hsz : Nat.ble (rest.map fun v => v.category).sum 8 = true) (hd : decode cc pc = .ok (.invokevirtual 211, 3)) (h : w_X0_tell o o1 v2 K μ) (hk : ∀ (r : Int32) (μ1 : qM), K r μ1 → qV Z G nL k n μ1 (pc + 3) L (.int r :: rest)) : qV Z G nL k n μ pc L (.int v2 :: .ref (ga G o1) :: .ref (ga G o) :: rest) := x_Vi [.ref (ga G o1), .int v2] rest C o 0 (wp := fun K => w_X0_tell o o1 v2 K μ) (y_X0_tell : qY yX0_tell cX0_tell 5 (some .int) 2 ({ frames := 5, cells := 0, slots := 0, locals := 119 } : Room) 0 0) (qm_29 _ (List.mem_of_getElem? (i := 5) rfl)) (qm_29 _ (List.mem_of_getElem? (i := 6) rfl)) (qm_29 _ (List.mem_of_getElem? (i := 4) rfl)) (c_X0_tell Z.2.1 G hn hk_o hk_o1) (q_lt hk_o rfl hn) hk_o (by decide) rfl rfl hR hf rfl rfl hsz hd h hk
theorem g_RX10_67 {Z : qZ} {G : qG} {cc : ByteArray} {nL k n : Nat} {rm : Room} {ret : Option FieldType} {μ : qM} {pc : Nat} {L : List (Nat × Value)} {st : List Value} (C : qX Z G RX10 cc nL rm ret) (hn : 66 ≤ gn G) (hd : decode cc pc = .ok (.getfield 67, 3)) (h : qV Z G nL k n μ (pc + 3) L (.ref (ga G 43) :: st)) : qV Z G nL k n μ pc L (.ref (ga G 0) :: st) := x_getr C 0 9 10 43 43 (C0 := RX10) (fn := "history") (fd := "LEqualPlain$History;") (Nat.lt_of_lt_of_le (by decide) hn) rfl (by decide) rfl (by decide) rfl inlX10 (qm_2 _ (List.mem_of_getElem? (i := 18) rfl)) rfl rfl rfl hd h
theorem y_X10_orders : qY yX10_orders cX10_orders 1 (some .int) 0 ({ frames := 6, cells := 0, slots := 0, locals := 143 } : Room) 0 0 := ⟨(qm_29 _ (List.mem_of_getElem? (i := 3) rfl)), (qm_1 _ (List.mem_of_getElem? (i := 2) rfl)), by decide +kernel, by decide +kernel, rfl, rfl⟩
theorem c_X10_orders (l : Launch) (G : qG) {μ : qM} (hn : 66 ≤ gn G) : qCi l G yX10_orders cX10_orders 1 (some .int) ({ frames := 6, cells := 0, slots := 0, locals := 143 } : Room) 0 0 [.ref (ga G 0)] μ (fun post => w_X10_orders  post μ) := by
  refine qCi_of (L := [(0, .ref (ga G 0))]) (by decide) rfl rfl ?_
  intro Z post hl C hQ h
  have C : qX Z G RX10 cX10_orders 1 ({ frames := 6, cells := 0, slots := 0, locals := 143 } : Room) (some .int) := C
  have h : w_X10_orders  post μ := h
  unfold w_X10_orders at h
  refine x_aload_n C 0 dX10_orders_0 rfl rfl ?_
  refine g_RX10_67 C hn dX10_orders_1 ?_
  refine x_aload_n C 0 dX10_orders_4 rfl rfl ?_
  refine g_RX10_10 C hn dX10_orders_5 ?_
  refine i_RX10_85 (rest := [.ref (ga G 43)]) C hn rfl rfl (by decide) rfl dX10_orders_8 h (fun r8 μ8 h => ?_)
  obtain ⟨rfl, h⟩ := h
  refine x_iconst C dX10_orders_11 (v := -1) (by decide) ?_
  refine i_RX10_211 (rest := []) C hn rfl rfl rfl (by decide) rfl dX10_orders_12 h (fun r12 μ12 h => ?_)
  exact x_iret C hQ dX10_orders_15 h
theorem dX10_founders_0 : decode cX10_founders 0 = .ok (.aload_n 0, 1) := by decide +kernel
theorem dX10_founders_1 : decode cX10_founders 1 = .ok (.getfield 10, 3) := by decide +kernel
theorem dX10_founders_4 : decode cX10_founders 4 = .ok (.invokevirtual 85, 3) := by decide +kernel
theorem dX10_founders_7 : decode cX10_founders 7 = .ok (.iload_n 1, 1) := by decide +kernel
theorem dX10_founders_8 : decode cX10_founders 8 = .ok (.invokevirtual 121, 3) := by decide +kernel
theorem dX10_founders_11 : decode cX10_founders 11 = .ok (.ifCond .ne 10, 3) := by decide +kernel
theorem dX10_founders_14 : decode cX10_founders 14 = .ok (.aload_n 0, 1) := by decide +kernel
theorem dX10_founders_15 : decode cX10_founders 15 = .ok (.ldc 80, 2) := by decide +kernel
theorem dX10_founders_17 : decode cX10_founders 17 = .ok (.invokevirtual 81, 3) := by decide +kernel
theorem dX10_founders_20 : decode cX10_founders 20 = .ok (.ireturn, 1) := by decide +kernel
theorem dX10_founders_21 : decode cX10_founders 21 = .ok (.aload_n 0, 1) := by decide +kernel
theorem dX10_founders_22 : decode cX10_founders 22 = .ok (.getfield 67, 3) := by decide +kernel
theorem dX10_founders_25 : decode cX10_founders 25 = .ok (.aload_n 0, 1) := by decide +kernel
theorem dX10_founders_26 : decode cX10_founders 26 = .ok (.getfield 10, 3) := by decide +kernel
theorem dX10_founders_29 : decode cX10_founders 29 = .ok (.invokevirtual 85, 3) := by decide +kernel
theorem dX10_founders_32 : decode cX10_founders 32 = .ok (.iload_n 1, 1) := by decide +kernel
theorem dX10_founders_33 : decode cX10_founders 33 = .ok (.invokevirtual 211, 3) := by decide +kernel
theorem dX10_founders_36 : decode cX10_founders 36 = .ok (.ireturn, 1) := by decide +kernel
theorem y_X10_founders : qY yX10_founders cX10_founders 2 (some .int) 1 ({ frames := 6, cells := 0, slots := 0, locals := 143 } : Room) 0 0 := ⟨(qm_31 _ (List.mem_of_getElem? (i := 5) rfl)), (qm_1 _ (List.mem_of_getElem? (i := 2) rfl)), by decide +kernel, by decide +kernel, rfl, rfl⟩
theorem c_X10_founders (l : Launch) (G : qG) {v1 : Int32} {μ : qM} (hn : 66 ≤ gn G) : qCi l G yX10_founders cX10_founders 2 (some .int) ({ frames := 6, cells := 0, slots := 0, locals := 143 } : Room) 0 0 [.ref (ga G 0), .int v1] μ (fun post => w_X10_founders v1 post μ) := by
  refine qCi_of (L := [(0, .ref (ga G 0)), (1, .int v1)]) (by decide) rfl rfl ?_
  intro Z post hl C hQ h
  have C : qX Z G RX10 cX10_founders 2 ({ frames := 6, cells := 0, slots := 0, locals := 143 } : Room) (some .int) := C
  have h : w_X10_founders v1 post μ := h
  unfold w_X10_founders at h
  refine x_aload_n C 0 dX10_founders_0 rfl rfl ?_
  refine g_RX10_10 C hn dX10_founders_1 ?_
  refine i_RX10_85 (rest := []) C hn rfl rfl (by decide) rfl dX10_founders_4 h (fun r4 μ4 h => ?_)
  obtain ⟨rfl, h⟩ := h
  refine x_iload_n C 1 dX10_founders_7 rfl rfl ?_
  refine i_RX10_121 (rest := []) C hn rfl rfl (by decide) rfl dX10_founders_8 h (fun r8 μ8 h => ?_)
  refine x_if_ne C dX10_founders_11 (tgt := 21) (by decide) h (fun h => ?_) (fun h => ?_)
  · refine x_aload_n C 0 dX10_founders_21 rfl rfl ?_
    refine g_RX10_67 C hn dX10_founders_22 ?_
    refine x_aload_n C 0 dX10_founders_25 rfl rfl ?_
    refine g_RX10_10 C hn dX10_founders_26 ?_
    refine i_RX10_85 (rest := [.ref (ga G 43)]) C hn rfl rfl (by decide) rfl dX10_founders_29 h (fun r29 μ29 h => ?_)
    obtain ⟨rfl, h⟩ := h
    refine x_iload_n C 1 dX10_founders_32 rfl rfl ?_
    refine i_RX10_211 (rest := []) C hn rfl rfl rfl (by decide) rfl dX10_founders_33 h (fun r33 μ33 h => ?_)
    exact x_iret C hQ dX10_founders_36 h
  · refine x_aload_n C 0 dX10_founders_14 rfl rfl ?_
    refine x_ldc C (v := -1000001) (qm_6 _ (List.mem_of_getElem? (i := 16) rfl)) dX10_founders_15 ?_
    refine i_RX10_81 (rest := []) C hn  rfl (by decide) rfl dX10_founders_17 h (fun r17 μ17 h => ?_)
    exact x_iret C hQ dX10_founders_20 h
theorem dX10_latest_0 : decode cX10_latest 0 = .ok (.aload_n 0, 1) := by decide +kernel
theorem dX10_latest_1 : decode cX10_latest 1 = .ok (.getfield 67, 3) := by decide +kernel
theorem dX10_latest_4 : decode cX10_latest 4 = .ok (.aload_n 0, 1) := by decide +kernel
theorem dX10_latest_5 : decode cX10_latest 5 = .ok (.getfield 10, 3) := by decide +kernel
theorem dX10_latest_8 : decode cX10_latest 8 = .ok (.invokevirtual 85, 3) := by decide +kernel
theorem dX10_latest_11 : decode cX10_latest 11 = .ok (.iconst (-1), 1) := by decide +kernel
theorem dX10_latest_12 : decode cX10_latest 12 = .ok (.invokevirtual 211, 3) := by decide +kernel
theorem dX10_latest_15 : decode cX10_latest 15 = .ok (.pop, 1) := by decide +kernel
theorem dX10_latest_16 : decode cX10_latest 16 = .ok (.aload_n 0, 1) := by decide +kernel
theorem dX10_latest_17 : decode cX10_latest 17 = .ok (.getfield 67, 3) := by decide +kernel
theorem dX10_latest_20 : decode cX10_latest 20 = .ok (.invokevirtual 214, 3) := by decide +kernel
theorem dX10_latest_23 : decode cX10_latest 23 = .ok (.istore_n 1, 1) := by decide +kernel
theorem dX10_latest_24 : decode cX10_latest 24 = .ok (.iload_n 1, 1) := by decide +kernel
theorem dX10_latest_25 : decode cX10_latest 25 = .ok (.ifCond .ge 12, 3) := by decide +kernel
theorem dX10_latest_28 : decode cX10_latest 28 = .ok (.aload_n 0, 1) := by decide +kernel
theorem dX10_latest_29 : decode cX10_latest 29 = .ok (.ldc 141, 2) := by decide +kernel
theorem dX10_latest_31 : decode cX10_latest 31 = .ok (.invokevirtual 81, 3) := by decide +kernel
theorem dX10_latest_34 : decode cX10_latest 34 = .ok (.goto 4, 3) := by decide +kernel
theorem dX10_latest_37 : decode cX10_latest 37 = .ok (.iload_n 1, 1) := by decide +kernel
theorem dX10_latest_38 : decode cX10_latest 38 = .ok (.ireturn, 1) := by decide +kernel
theorem i_RX10_214 {Z : qZ} {G : qG} {cc : ByteArray} {nL k n : Nat} {rm : Room} {ret : Option FieldType} {μ : qM} {pc : Nat} {L : List (Nat × Value)} {rest : List Value} {K : Int32 → qM → Prop} {o : Nat} (C : qX Z G RX10 cc nL rm ret) (hn : 66 ≤ gn G) (hk_o : qk o = 0) (hR : (Nat.ble (1 + 1) rm.frames && Nat.ble (8 + (4 + 11) + 23) rm.locals) = true) (hf : k + 0 ≤ rm.cells ∧ n + 0 ≤ rm.slots) (hsz : Nat.ble (rest.map fun v => v.category).sum 8 = true) (hd : decode cc pc = .ok (.invokevirtual 214, 3)) (h : w_X0_lastOne o K μ) (hk : ∀ (r : Int32) (μ1 : qM), K r μ1 → qV Z G nL k n μ1 (pc + 3) L (.int r :: rest)) : qV Z G nL k n μ pc L (.ref (ga G o) :: rest) := x_Vi [] rest C o 0 (wp := fun K => w_X0_lastOne o K μ) (y_X0_lastOne : qY yX0_lastOne cX0_lastOne 4 (some .int) 0 ({ frames := 1, cells := 0, slots := 0, locals := 23 } : Room) 0 0) (qm_31 _ (List.mem_of_getElem? (i := 15) rfl)) (qm_31 _ (List.mem_of_getElem? (i := 16) rfl)) (qm_31 _ (List.mem_of_getElem? (i := 14) rfl)) (c_X0_lastOne Z.2.1 G hn hk_o) (q_lt hk_o rfl hn) hk_o (by decide) rfl rfl hR hf rfl rfl hsz hd h hk
theorem y_X10_latest : qY yX10_latest cX10_latest 2 (some .int) 0 ({ frames := 6, cells := 0, slots := 0, locals := 143 } : Room) 0 0 := ⟨(qm_31 _ (List.mem_of_getElem? (i := 13) rfl)), (qm_1 _ (List.mem_of_getElem? (i := 2) rfl)), by decide +kernel, by decide +kernel, rfl, rfl⟩
theorem c_X10_latest (l : Launch) (G : qG) {μ : qM} (hn : 66 ≤ gn G) : qCi l G yX10_latest cX10_latest 2 (some .int) ({ frames := 6, cells := 0, slots := 0, locals := 143 } : Room) 0 0 [.ref (ga G 0)] μ (fun post => w_X10_latest  post μ) := by
  refine qCi_of (L := [(0, .ref (ga G 0))]) (by decide) rfl rfl ?_
  intro Z post hl C hQ h
  have C : qX Z G RX10 cX10_latest 2 ({ frames := 6, cells := 0, slots := 0, locals := 143 } : Room) (some .int) := C
  have h : w_X10_latest  post μ := h
  unfold w_X10_latest at h
  refine x_aload_n C 0 dX10_latest_0 rfl rfl ?_
  refine g_RX10_67 C hn dX10_latest_1 ?_
  refine x_aload_n C 0 dX10_latest_4 rfl rfl ?_
  refine g_RX10_10 C hn dX10_latest_5 ?_
  refine i_RX10_85 (rest := [.ref (ga G 43)]) C hn rfl rfl (by decide) rfl dX10_latest_8 h (fun r8 μ8 h => ?_)
  obtain ⟨rfl, h⟩ := h
  refine x_iconst C dX10_latest_11 (v := -1) (by decide) ?_
  refine i_RX10_211 (rest := []) C hn rfl rfl rfl (by decide) rfl dX10_latest_12 h (fun r12 μ12 h => ?_)
  refine x_pop C dX10_latest_15 rfl ?_
  refine x_aload_n C 0 dX10_latest_16 rfl rfl ?_
  refine g_RX10_67 C hn dX10_latest_17 ?_
  refine i_RX10_214 (rest := []) C hn rfl rfl (by decide) rfl dX10_latest_20 h (fun r20 μ20 h => ?_)
  refine x_istore_n C (L' := [(1, .int r20), (0, .ref (ga G 0))]) dX10_latest_23 rfl (by decide) rfl ?_
  refine x_iload_n C 0 dX10_latest_24 rfl rfl ?_
  refine x_if_ge C dX10_latest_25 (tgt := 37) (by decide) h (fun h => ?_) (fun h => ?_)
  · refine x_iload_n C 0 dX10_latest_37 rfl rfl ?_
    exact x_iret C hQ dX10_latest_38 h
  · refine x_aload_n C 1 dX10_latest_28 rfl rfl ?_
    refine x_ldc C (v := -1000004) (qm_15 _ (List.mem_of_getElem? (i := 3) rfl)) dX10_latest_29 ?_
    refine i_RX10_81 (rest := []) C hn  rfl (by decide) rfl dX10_latest_31 h (fun r31 μ31 h => ?_)
    refine x_goto C dX10_latest_34 (tgt := 38) (by decide) ?_
    exact x_iret C hQ dX10_latest_38 h
theorem dX10_years_0 : decode cX10_years 0 = .ok (.iload_n 1, 1) := by decide +kernel
theorem dX10_years_1 : decode cX10_years 1 = .ok (.iconst 1, 1) := by decide +kernel
theorem dX10_years_2 : decode cX10_years 2 = .ok (.if_icmp .lt 9, 3) := by decide +kernel
theorem dX10_years_5 : decode cX10_years 5 = .ok (.iload_n 1, 1) := by decide +kernel
theorem dX10_years_6 : decode cX10_years 6 = .ok (.bipush 60, 2) := by decide +kernel
theorem dX10_years_8 : decode cX10_years 8 = .ok (.if_icmp .le 10, 3) := by decide +kernel
theorem dX10_years_11 : decode cX10_years 11 = .ok (.aload_n 0, 1) := by decide +kernel
theorem dX10_years_12 : decode cX10_years 12 = .ok (.ldc 80, 2) := by decide +kernel
theorem dX10_years_14 : decode cX10_years 14 = .ok (.invokevirtual 81, 3) := by decide +kernel
theorem dX10_years_17 : decode cX10_years 17 = .ok (.ireturn, 1) := by decide +kernel
theorem dX10_years_18 : decode cX10_years 18 = .ok (.aload_n 0, 1) := by decide +kernel
theorem dX10_years_19 : decode cX10_years 19 = .ok (.getfield 10, 3) := by decide +kernel
theorem dX10_years_22 : decode cX10_years 22 = .ok (.invokevirtual 217, 3) := by decide +kernel
theorem dX10_years_25 : decode cX10_years 25 = .ok (.iload_n 1, 1) := by decide +kernel
theorem dX10_years_26 : decode cX10_years 26 = .ok (.iadd, 1) := by decide +kernel
theorem dX10_years_27 : decode cX10_years 27 = .ok (.sipush 9999, 3) := by decide +kernel
theorem dX10_years_30 : decode cX10_years 30 = .ok (.if_icmp .le 10, 3) := by decide +kernel
theorem dX10_years_33 : decode cX10_years 33 = .ok (.aload_n 0, 1) := by decide +kernel
theorem dX10_years_34 : decode cX10_years 34 = .ok (.ldc 98, 2) := by decide +kernel
theorem dX10_years_36 : decode cX10_years 36 = .ok (.invokevirtual 81, 3) := by decide +kernel
theorem dX10_years_39 : decode cX10_years 39 = .ok (.ireturn, 1) := by decide +kernel
theorem dX10_years_40 : decode cX10_years 40 = .ok (.aload_n 0, 1) := by decide +kernel
theorem dX10_years_41 : decode cX10_years 41 = .ok (.getfield 10, 3) := by decide +kernel
theorem dX10_years_44 : decode cX10_years 44 = .ok (.iload_n 1, 1) := by decide +kernel
theorem dX10_years_45 : decode cX10_years 45 = .ok (.invokevirtual 220, 3) := by decide +kernel
theorem dX10_years_48 : decode cX10_years 48 = .ok (.ireturn, 1) := by decide +kernel
theorem i_RX10_217 {Z : qZ} {G : qG} {cc : ByteArray} {nL k n : Nat} {rm : Room} {ret : Option FieldType} {μ : qM} {pc : Nat} {L : List (Nat × Value)} {rest : List Value} {K : Int32 → qM → Prop} {o : Nat} (C : qX Z G RX10 cc nL rm ret) (hn : 66 ≤ gn G) (hk_o : qk o = 8) (hR : (Nat.ble (0 + 1) rm.frames && Nat.ble (8 + (1 + 11) + 0) rm.locals) = true) (hf : k + 0 ≤ rm.cells ∧ n + 0 ≤ rm.slots) (hsz : Nat.ble (rest.map fun v => v.category).sum 8 = true) (hd : decode cc pc = .ok (.invokevirtual 217, 3)) (h : w_X9_age o K μ) (hk : ∀ (r : Int32) (μ1 : qM), K r μ1 → qV Z G nL k n μ1 (pc + 3) L (.int r :: rest)) : qV Z G nL k n μ pc L (.ref (ga G o) :: rest) := x_Vi [] rest C o 8 (wp := fun K => w_X9_age o K μ) (y_X9_age : qY yX9_age cX9_age 1 (some .int) 0 ({ frames := 0, cells := 0, slots := 0, locals := 0 } : Room) 0 0) (qm_32 _ (List.mem_of_getElem? (i := 3) rfl)) (qm_32 _ (List.mem_of_getElem? (i := 4) rfl)) (qm_32 _ (List.mem_of_getElem? (i := 2) rfl)) (c_X9_age Z.2.1 G hn hk_o) (q_lt hk_o rfl hn) hk_o (by decide) rfl rfl hR hf rfl rfl hsz hd h hk
theorem i_RX10_220 {Z : qZ} {G : qG} {cc : ByteArray} {nL k n : Nat} {rm : Room} {ret : Option FieldType} {μ : qM} {pc : Nat} {L : List (Nat × Value)} {rest : List Value} {K : Int32 → qM → Prop} {o : Nat} {v1 : Int32} (C : qX Z G RX10 cc nL rm ret) (hn : 66 ≤ gn G) (hk_o : qk o = 8) (hR : (Nat.ble (5 + 1) rm.frames && Nat.ble (8 + (7 + 11) + 118) rm.locals) = true) (hf : k + 0 ≤ rm.cells ∧ n + 0 ≤ rm.slots) (hsz : Nat.ble (rest.map fun v => v.category).sum 8 = true) (hd : decode cc pc = .ok (.invokevirtual 220, 3)) (h : w_X9_pass o v1 K μ) (hk : ∀ (r : Int32) (μ1 : qM), K r μ1 → qV Z G nL k n μ1 (pc + 3) L (.int r :: rest)) : qV Z G nL k n μ pc L (.int v1 :: .ref (ga G o) :: rest) := x_Vi [.int v1] rest C o 8 (wp := fun K => w_X9_pass o v1 K μ) (y_X9_pass : qY yX9_pass cX9_pass 7 (some .int) 1 ({ frames := 5, cells := 0, slots := 0, locals := 118 } : Room) 0 0) (qm_32 _ (List.mem_of_getElem? (i := 7) rfl)) (qm_32 _ (List.mem_of_getElem? (i := 8) rfl)) (qm_32 _ (List.mem_of_getElem? (i := 6) rfl)) (c_X9_pass Z.2.1 G hn hk_o) (q_lt hk_o rfl hn) hk_o (by decide) rfl rfl hR hf rfl rfl hsz hd h hk
theorem b_X10_years_11 {Z : qZ} {G : qG} {μ : qM} {post : Int32 → qM → Prop} (C : qX Z G RX10 cX10_years 2 ({ frames := 6, cells := 0, slots := 0, locals := 144 } : Room) (some .int)) (hQ : qQi Z G 0 0 post) (hn : 66 ≤ gn G) (h : q_X10_years_11 post μ) : qV Z G 2 0 0 μ 11 [(0, .ref (ga G 0))] [] := by
  unfold q_X10_years_11 at h
  refine x_aload_n C 0 dX10_years_11 rfl rfl ?_
  refine x_ldc C (v := -1000001) (qm_6 _ (List.mem_of_getElem? (i := 16) rfl)) dX10_years_12 ?_
  refine i_RX10_81 (rest := []) C hn  rfl (by decide) rfl dX10_years_14 h (fun r14 μ14 h => ?_)
  exact x_iret C hQ dX10_years_17 h
theorem y_X10_years : qY yX10_years cX10_years 2 (some .int) 1 ({ frames := 6, cells := 0, slots := 0, locals := 144 } : Room) 0 0 := ⟨(qm_32 _ (List.mem_of_getElem? (i := 1) rfl)), (qm_1 _ (List.mem_of_getElem? (i := 2) rfl)), by decide +kernel, by decide +kernel, rfl, rfl⟩
theorem c_X10_years (l : Launch) (G : qG) {v1 : Int32} {μ : qM} (hn : 66 ≤ gn G) : qCi l G yX10_years cX10_years 2 (some .int) ({ frames := 6, cells := 0, slots := 0, locals := 144 } : Room) 0 0 [.ref (ga G 0), .int v1] μ (fun post => w_X10_years v1 post μ) := by
  refine qCi_of (L := [(0, .ref (ga G 0)), (1, .int v1)]) (by decide) rfl rfl ?_
  intro Z post hl C hQ h
  have C : qX Z G RX10 cX10_years 2 ({ frames := 6, cells := 0, slots := 0, locals := 144 } : Room) (some .int) := C
  have h : w_X10_years v1 post μ := h
  unfold w_X10_years at h
  refine x_iload_n C 1 dX10_years_0 rfl rfl ?_
  refine x_iconst C dX10_years_1 (v := 1) (by decide) ?_
  refine x_icmp_lt C dX10_years_2 (tgt := 11) (by decide) h (fun h => ?_) (fun h => ?_)
  · exact qV_sub [0] rfl (b_X10_years_11 C hQ hn h)
  · refine x_iload_n C 1 dX10_years_5 rfl rfl ?_
    refine x_bipush C dX10_years_6 (v := 60) (by decide) ?_
    refine x_icmp_le C dX10_years_8 (tgt := 18) (by decide) h (fun h => ?_) (fun h => ?_)
    · refine x_aload_n C 0 dX10_years_18 rfl rfl ?_
      refine g_RX10_10 C hn dX10_years_19 ?_
      refine i_RX10_217 (rest := []) C hn rfl rfl (by decide) rfl dX10_years_22 h (fun r22 μ22 h => ?_)
      refine x_iload_n C 1 dX10_years_25 rfl rfl ?_
      refine x_iadd C dX10_years_26 ?_
      refine x_sipush C dX10_years_27 (v := 9999) (by decide) ?_
      refine x_icmp_le C dX10_years_30 (tgt := 40) (by decide) h (fun h => ?_) (fun h => ?_)
      · refine x_aload_n C 0 dX10_years_40 rfl rfl ?_
        refine g_RX10_10 C hn dX10_years_41 ?_
        refine x_iload_n C 1 dX10_years_44 rfl rfl ?_
        refine i_RX10_220 (rest := []) C hn rfl rfl (by decide) rfl dX10_years_45 h (fun r45 μ45 h => ?_)
        exact x_iret C hQ dX10_years_48 h
      · refine x_aload_n C 0 dX10_years_33 rfl rfl ?_
        refine x_ldc C (v := -1000005) (qm_6 _ (List.mem_of_getElem? (i := 17) rfl)) dX10_years_34 ?_
        refine i_RX10_81 (rest := []) C hn  rfl (by decide) rfl dX10_years_36 h (fun r36 μ36 h => ?_)
        exact x_iret C hQ dX10_years_39 h
    · exact qV_sub [0] rfl (b_X10_years_11 C hQ hn h)
theorem dX10_ahead_0 : decode cX10_ahead 0 = .ok (.iload_n 1, 1) := by decide +kernel
theorem dX10_ahead_1 : decode cX10_ahead 1 = .ok (.ifCond .lt 18, 3) := by decide +kernel
theorem dX10_ahead_4 : decode cX10_ahead 4 = .ok (.iload_n 1, 1) := by decide +kernel
theorem dX10_ahead_5 : decode cX10_ahead 5 = .ok (.bipush 60, 2) := by decide +kernel
theorem dX10_ahead_7 : decode cX10_ahead 7 = .ok (.if_icmp .gt 12, 3) := by decide +kernel
theorem dX10_ahead_10 : decode cX10_ahead 10 = .ok (.iload_n 2, 1) := by decide +kernel
theorem dX10_ahead_11 : decode cX10_ahead 11 = .ok (.ifCond .lt 8, 3) := by decide +kernel
theorem dX10_ahead_14 : decode cX10_ahead 14 = .ok (.iload_n 2, 1) := by decide +kernel
theorem dX10_ahead_15 : decode cX10_ahead 15 = .ok (.iconst 2, 1) := by decide +kernel
theorem dX10_ahead_16 : decode cX10_ahead 16 = .ok (.if_icmp .le 10, 3) := by decide +kernel
theorem dX10_ahead_19 : decode cX10_ahead 19 = .ok (.aload_n 0, 1) := by decide +kernel
theorem dX10_ahead_20 : decode cX10_ahead 20 = .ok (.ldc 80, 2) := by decide +kernel
theorem dX10_ahead_22 : decode cX10_ahead 22 = .ok (.invokevirtual 81, 3) := by decide +kernel
theorem dX10_ahead_25 : decode cX10_ahead 25 = .ok (.ireturn, 1) := by decide +kernel
theorem dX10_ahead_26 : decode cX10_ahead 26 = .ok (.aload_n 0, 1) := by decide +kernel
theorem dX10_ahead_27 : decode cX10_ahead 27 = .ok (.getfield 10, 3) := by decide +kernel
theorem dX10_ahead_30 : decode cX10_ahead 30 = .ok (.invokevirtual 217, 3) := by decide +kernel
theorem dX10_ahead_33 : decode cX10_ahead 33 = .ok (.iload_n 1, 1) := by decide +kernel
theorem dX10_ahead_34 : decode cX10_ahead 34 = .ok (.iadd, 1) := by decide +kernel
theorem dX10_ahead_35 : decode cX10_ahead 35 = .ok (.sipush 9999, 3) := by decide +kernel
theorem dX10_ahead_38 : decode cX10_ahead 38 = .ok (.if_icmp .le 10, 3) := by decide +kernel
theorem dX10_ahead_41 : decode cX10_ahead 41 = .ok (.aload_n 0, 1) := by decide +kernel
theorem dX10_ahead_42 : decode cX10_ahead 42 = .ok (.ldc 98, 2) := by decide +kernel
theorem dX10_ahead_44 : decode cX10_ahead 44 = .ok (.invokevirtual 81, 3) := by decide +kernel
theorem dX10_ahead_47 : decode cX10_ahead 47 = .ok (.ireturn, 1) := by decide +kernel
theorem dX10_ahead_48 : decode cX10_ahead 48 = .ok (.aload_n 0, 1) := by decide +kernel
theorem dX10_ahead_49 : decode cX10_ahead 49 = .ok (.getfield 23, 3) := by decide +kernel
theorem dX10_ahead_52 : decode cX10_ahead 52 = .ok (.aload_n 0, 1) := by decide +kernel
theorem dX10_ahead_53 : decode cX10_ahead 53 = .ok (.getfield 10, 3) := by decide +kernel
theorem dX10_ahead_56 : decode cX10_ahead 56 = .ok (.invokevirtual 223, 3) := by decide +kernel
theorem dX10_ahead_59 : decode cX10_ahead 59 = .ok (.aload_n 0, 1) := by decide +kernel
theorem dX10_ahead_60 : decode cX10_ahead 60 = .ok (.getfield 23, 3) := by decide +kernel
theorem dX10_ahead_63 : decode cX10_ahead 63 = .ok (.iload_n 1, 1) := by decide +kernel
theorem dX10_ahead_64 : decode cX10_ahead 64 = .ok (.invokevirtual 220, 3) := by decide +kernel
theorem dX10_ahead_67 : decode cX10_ahead 67 = .ok (.pop, 1) := by decide +kernel
theorem dX10_ahead_68 : decode cX10_ahead 68 = .ok (.iload_n 2, 1) := by decide +kernel
theorem dX10_ahead_69 : decode cX10_ahead 69 = .ok (.ifCond .ne 14, 3) := by decide +kernel
theorem dX10_ahead_72 : decode cX10_ahead 72 = .ok (.aload_n 0, 1) := by decide +kernel
theorem dX10_ahead_73 : decode cX10_ahead 73 = .ok (.getfield 23, 3) := by decide +kernel
theorem dX10_ahead_76 : decode cX10_ahead 76 = .ok (.invokevirtual 85, 3) := by decide +kernel
theorem dX10_ahead_79 : decode cX10_ahead 79 = .ok (.invokevirtual 108, 3) := by decide +kernel
theorem dX10_ahead_82 : decode cX10_ahead 82 = .ok (.ireturn, 1) := by decide +kernel
theorem dX10_ahead_83 : decode cX10_ahead 83 = .ok (.iload_n 2, 1) := by decide +kernel
theorem dX10_ahead_84 : decode cX10_ahead 84 = .ok (.iconst 1, 1) := by decide +kernel
theorem dX10_ahead_85 : decode cX10_ahead 85 = .ok (.if_icmp .ne 13, 3) := by decide +kernel
theorem dX10_ahead_88 : decode cX10_ahead 88 = .ok (.aload_n 0, 1) := by decide +kernel
theorem dX10_ahead_89 : decode cX10_ahead 89 = .ok (.getfield 23, 3) := by decide +kernel
theorem dX10_ahead_92 : decode cX10_ahead 92 = .ok (.invokevirtual 118, 3) := by decide +kernel
theorem dX10_ahead_95 : decode cX10_ahead 95 = .ok (.goto 13, 3) := by decide +kernel
theorem dX10_ahead_98 : decode cX10_ahead 98 = .ok (.aload_n 0, 1) := by decide +kernel
theorem dX10_ahead_99 : decode cX10_ahead 99 = .ok (.getfield 23, 3) := by decide +kernel
theorem dX10_ahead_102 : decode cX10_ahead 102 = .ok (.invokevirtual 85, 3) := by decide +kernel
theorem dX10_ahead_105 : decode cX10_ahead 105 = .ok (.invokevirtual 171, 3) := by decide +kernel
theorem dX10_ahead_108 : decode cX10_ahead 108 = .ok (.ireturn, 1) := by decide +kernel
theorem i_RX10_223 {Z : qZ} {G : qG} {cc : ByteArray} {nL k n : Nat} {rm : Room} {ret : Option FieldType} {μ : qM} {pc : Nat} {L : List (Nat × Value)} {rest : List Value} {K : qM → Prop} {o : Nat} {o1 : Nat} (C : qX Z G RX10 cc nL rm ret) (hn : 66 ≤ gn G) (hk_o : qk o = 8) (hk_o1 : qk o1 = 8) (hR : (Nat.ble (1 + 1) rm.frames && Nat.ble (8 + (2 + 11) + 48) rm.locals) = true) (hf : k + 0 ≤ rm.cells ∧ n + 0 ≤ rm.slots) (hsz : Nat.ble (rest.map fun v => v.category).sum 8 = true) (hd : decode cc pc = .ok (.invokevirtual 223, 3)) (h : w_X9_becomeAs o o1 K μ) (hk : ∀ (μ1 : qM), K μ1 → qV Z G nL k n μ1 (pc + 3) L rest) : qV Z G nL k n μ pc L (.ref (ga G o1) :: .ref (ga G o) :: rest) := x_Vv [.ref (ga G o1)] rest C o 8 (wp := fun K => w_X9_becomeAs o o1 K μ) (y_X9_becomeAs : qY yX9_becomeAs cX9_becomeAs 2 none 1 ({ frames := 1, cells := 0, slots := 0, locals := 48 } : Room) 0 0) (qm_33 _ (List.mem_of_getElem? (i := 12) rfl)) (qm_33 _ (List.mem_of_getElem? (i := 13) rfl)) (qm_33 _ (List.mem_of_getElem? (i := 11) rfl)) (c_X9_becomeAs Z.2.1 G hn hk_o hk_o1) (q_lt hk_o rfl hn) hk_o (by decide) rfl rfl hR hf rfl rfl hsz hd h hk
theorem b_X10_ahead_19 {Z : qZ} {G : qG} {μ : qM} {post : Int32 → qM → Prop} (C : qX Z G RX10 cX10_ahead 3 ({ frames := 6, cells := 0, slots := 0, locals := 144 } : Room) (some .int)) (hQ : qQi Z G 0 0 post) (hn : 66 ≤ gn G) (h : q_X10_ahead_19 post μ) : qV Z G 3 0 0 μ 19 [(0, .ref (ga G 0))] [] := by
  unfold q_X10_ahead_19 at h
  refine x_aload_n C 0 dX10_ahead_19 rfl rfl ?_
  refine x_ldc C (v := -1000001) (qm_6 _ (List.mem_of_getElem? (i := 16) rfl)) dX10_ahead_20 ?_
  refine i_RX10_81 (rest := []) C hn  rfl (by decide) rfl dX10_ahead_22 h (fun r22 μ22 h => ?_)
  exact x_iret C hQ dX10_ahead_25 h
theorem y_X10_ahead : qY yX10_ahead cX10_ahead 3 (some .int) 2 ({ frames := 6, cells := 0, slots := 0, locals := 144 } : Room) 0 0 := ⟨(qm_33 _ (List.mem_of_getElem? (i := 10) rfl)), (qm_1 _ (List.mem_of_getElem? (i := 2) rfl)), by decide +kernel, by decide +kernel, rfl, rfl⟩
theorem c_X10_ahead (l : Launch) (G : qG) {v1 : Int32} {v2 : Int32} {μ : qM} (hn : 66 ≤ gn G) : qCi l G yX10_ahead cX10_ahead 3 (some .int) ({ frames := 6, cells := 0, slots := 0, locals := 144 } : Room) 0 0 [.ref (ga G 0), .int v1, .int v2] μ (fun post => w_X10_ahead v1 v2 post μ) := by
  refine qCi_of (L := [(0, .ref (ga G 0)), (1, .int v1), (2, .int v2)]) (by decide) rfl rfl ?_
  intro Z post hl C hQ h
  have C : qX Z G RX10 cX10_ahead 3 ({ frames := 6, cells := 0, slots := 0, locals := 144 } : Room) (some .int) := C
  have h : w_X10_ahead v1 v2 post μ := h
  unfold w_X10_ahead at h
  refine x_iload_n C 1 dX10_ahead_0 rfl rfl ?_
  refine x_if_lt C dX10_ahead_1 (tgt := 19) (by decide) h (fun h => ?_) (fun h => ?_)
  · exact qV_sub [0] rfl (b_X10_ahead_19 C hQ hn h)
  · refine x_iload_n C 1 dX10_ahead_4 rfl rfl ?_
    refine x_bipush C dX10_ahead_5 (v := 60) (by decide) ?_
    refine x_icmp_gt C dX10_ahead_7 (tgt := 19) (by decide) h (fun h => ?_) (fun h => ?_)
    · exact qV_sub [0] rfl (b_X10_ahead_19 C hQ hn h)
    · refine x_iload_n C 2 dX10_ahead_10 rfl rfl ?_
      refine x_if_lt C dX10_ahead_11 (tgt := 19) (by decide) h (fun h => ?_) (fun h => ?_)
      · exact qV_sub [0] rfl (b_X10_ahead_19 C hQ hn h)
      · refine x_iload_n C 2 dX10_ahead_14 rfl rfl ?_
        refine x_iconst C dX10_ahead_15 (v := 2) (by decide) ?_
        refine x_icmp_le C dX10_ahead_16 (tgt := 26) (by decide) h (fun h => ?_) (fun h => ?_)
        · refine x_aload_n C 0 dX10_ahead_26 rfl rfl ?_
          refine g_RX10_10 C hn dX10_ahead_27 ?_
          refine i_RX10_217 (rest := []) C hn rfl rfl (by decide) rfl dX10_ahead_30 h (fun r30 μ30 h => ?_)
          refine x_iload_n C 1 dX10_ahead_33 rfl rfl ?_
          refine x_iadd C dX10_ahead_34 ?_
          refine x_sipush C dX10_ahead_35 (v := 9999) (by decide) ?_
          refine x_icmp_le C dX10_ahead_38 (tgt := 48) (by decide) h (fun h => ?_) (fun h => ?_)
          · refine x_aload_n C 0 dX10_ahead_48 rfl rfl ?_
            refine g_RX10_23 C hn dX10_ahead_49 ?_
            refine x_aload_n C 0 dX10_ahead_52 rfl rfl ?_
            refine g_RX10_10 C hn dX10_ahead_53 ?_
            refine i_RX10_223 (rest := []) C hn rfl rfl rfl (by decide) rfl dX10_ahead_56 h (fun μ56 h => ?_)
            refine x_aload_n C 0 dX10_ahead_59 rfl rfl ?_
            refine g_RX10_23 C hn dX10_ahead_60 ?_
            refine x_iload_n C 1 dX10_ahead_63 rfl rfl ?_
            refine i_RX10_220 (rest := []) C hn rfl rfl (by decide) rfl dX10_ahead_64 h (fun r64 μ64 h => ?_)
            refine x_pop C dX10_ahead_67 rfl ?_
            refine x_iload_n C 2 dX10_ahead_68 rfl rfl ?_
            refine x_if_ne C dX10_ahead_69 (tgt := 83) (by decide) h (fun h => ?_) (fun h => ?_)
            · refine x_iload_n C 2 dX10_ahead_83 rfl rfl ?_
              refine x_iconst C dX10_ahead_84 (v := 1) (by decide) ?_
              refine x_icmp_ne C dX10_ahead_85 (tgt := 98) (by decide) h (fun h => ?_) (fun h => ?_)
              · refine x_aload_n C 0 dX10_ahead_98 rfl rfl ?_
                refine g_RX10_23 C hn dX10_ahead_99 ?_
                refine i_RX10_85 (rest := []) C hn rfl rfl (by decide) rfl dX10_ahead_102 h (fun r102 μ102 h => ?_)
                obtain ⟨rfl, h⟩ := h
                refine i_RX10_171 (rest := []) C hn rfl rfl (by decide) rfl dX10_ahead_105 h (fun r105 μ105 h => ?_)
                exact x_iret C hQ dX10_ahead_108 h
              · refine x_aload_n C 0 dX10_ahead_88 rfl rfl ?_
                refine g_RX10_23 C hn dX10_ahead_89 ?_
                refine i_RX10_118 (rest := []) C hn rfl rfl (by decide) rfl dX10_ahead_92 h (fun r92 μ92 h => ?_)
                refine x_goto C dX10_ahead_95 (tgt := 108) (by decide) ?_
                exact x_iret C hQ dX10_ahead_108 h
            · refine x_aload_n C 0 dX10_ahead_72 rfl rfl ?_
              refine g_RX10_23 C hn dX10_ahead_73 ?_
              refine i_RX10_85 (rest := []) C hn rfl rfl (by decide) rfl dX10_ahead_76 h (fun r76 μ76 h => ?_)
              obtain ⟨rfl, h⟩ := h
              refine i_RX10_108 (rest := []) C hn rfl rfl (by decide) rfl dX10_ahead_79 h (fun r79 μ79 h => ?_)
              exact x_iret C hQ dX10_ahead_82 h
          · refine x_aload_n C 0 dX10_ahead_41 rfl rfl ?_
            refine x_ldc C (v := -1000005) (qm_6 _ (List.mem_of_getElem? (i := 17) rfl)) dX10_ahead_42 ?_
            refine i_RX10_81 (rest := []) C hn  rfl (by decide) rfl dX10_ahead_44 h (fun r44 μ44 h => ?_)
            exact x_iret C hQ dX10_ahead_47 h
        · exact qV_sub [0] rfl (b_X10_ahead_19 C hQ hn h)
theorem dX10_when_0 : decode cX10_when 0 = .ok (.aload_n 0, 1) := by decide +kernel
theorem dX10_when_1 : decode cX10_when 1 = .ok (.getfield 10, 3) := by decide +kernel
theorem dX10_when_4 : decode cX10_when 4 = .ok (.invokevirtual 217, 3) := by decide +kernel
theorem dX10_when_7 : decode cX10_when 7 = .ok (.sipush 9900, 3) := by decide +kernel
theorem dX10_when_10 : decode cX10_when 10 = .ok (.if_icmp .le 10, 3) := by decide +kernel
theorem dX10_when_13 : decode cX10_when 13 = .ok (.aload_n 0, 1) := by decide +kernel
theorem dX10_when_14 : decode cX10_when 14 = .ok (.ldc 98, 2) := by decide +kernel
theorem dX10_when_16 : decode cX10_when 16 = .ok (.invokevirtual 81, 3) := by decide +kernel
theorem dX10_when_19 : decode cX10_when 19 = .ok (.ireturn, 1) := by decide +kernel
theorem dX10_when_20 : decode cX10_when 20 = .ok (.aload_n 0, 1) := by decide +kernel
theorem dX10_when_21 : decode cX10_when 21 = .ok (.getfield 23, 3) := by decide +kernel
theorem dX10_when_24 : decode cX10_when 24 = .ok (.aload_n 0, 1) := by decide +kernel
theorem dX10_when_25 : decode cX10_when 25 = .ok (.getfield 10, 3) := by decide +kernel
theorem dX10_when_28 : decode cX10_when 28 = .ok (.invokevirtual 223, 3) := by decide +kernel
theorem dX10_when_31 : decode cX10_when 31 = .ok (.iconst 1, 1) := by decide +kernel
theorem dX10_when_32 : decode cX10_when 32 = .ok (.istore_n 1, 1) := by decide +kernel
theorem dX10_when_33 : decode cX10_when 33 = .ok (.iload_n 1, 1) := by decide +kernel
theorem dX10_when_34 : decode cX10_when 34 = .ok (.bipush 99, 2) := by decide +kernel
theorem dX10_when_36 : decode cX10_when 36 = .ok (.if_icmp .gt 22, 3) := by decide +kernel
theorem dX10_when_39 : decode cX10_when 39 = .ok (.aload_n 0, 1) := by decide +kernel
theorem dX10_when_40 : decode cX10_when 40 = .ok (.getfield 23, 3) := by decide +kernel
theorem dX10_when_43 : decode cX10_when 43 = .ok (.iconst 1, 1) := by decide +kernel
theorem dX10_when_44 : decode cX10_when 44 = .ok (.invokevirtual 220, 3) := by decide +kernel
theorem dX10_when_47 : decode cX10_when 47 = .ok (.ifCond .le 5, 3) := by decide +kernel
theorem dX10_when_50 : decode cX10_when 50 = .ok (.iload_n 1, 1) := by decide +kernel
theorem dX10_when_51 : decode cX10_when 51 = .ok (.ireturn, 1) := by decide +kernel
theorem dX10_when_52 : decode cX10_when 52 = .ok (.iinc 1 1, 3) := by decide +kernel
theorem dX10_when_55 : decode cX10_when 55 = .ok (.goto (-22), 3) := by decide +kernel
theorem dX10_when_58 : decode cX10_when 58 = .ok (.aload_n 0, 1) := by decide +kernel
theorem dX10_when_59 : decode cX10_when 59 = .ok (.ldc 141, 2) := by decide +kernel
theorem dX10_when_61 : decode cX10_when 61 = .ok (.invokevirtual 81, 3) := by decide +kernel
theorem dX10_when_64 : decode cX10_when 64 = .ok (.ireturn, 1) := by decide +kernel
theorem b_X10_when_33 {Z : qZ} {G : qG} {v1 : Int32} {μ : qM} {post : Int32 → qM → Prop} (C : qX Z G RX10 cX10_when 2 ({ frames := 6, cells := 0, slots := 0, locals := 144 } : Room) (some .int)) (hQ : qQi Z G 0 0 post) (hn : 66 ≤ gn G) (h : q_X10_when_33 post v1 μ) : qV Z G 2 0 0 μ 33 [(0, .ref (ga G 0)), (1, .int v1)] [] := by
  refine h (fun v1 μ => qV Z G 2 0 0 μ 33 [(0, .ref (ga G 0)), (1, .int v1)] []) (fun v1 μ h => ?_)
  refine x_iload_n C 1 dX10_when_33 rfl rfl ?_
  refine x_bipush C dX10_when_34 (v := 99) (by decide) ?_
  refine x_icmp_gt C dX10_when_36 (tgt := 58) (by decide) h (fun h => ?_) (fun h => ?_)
  · refine x_aload_n C 0 dX10_when_58 rfl rfl ?_
    refine x_ldc C (v := -1000004) (qm_15 _ (List.mem_of_getElem? (i := 3) rfl)) dX10_when_59 ?_
    refine i_RX10_81 (rest := []) C hn  rfl (by decide) rfl dX10_when_61 h (fun r61 μ61 h => ?_)
    exact x_iret C hQ dX10_when_64 h
  · refine x_aload_n C 0 dX10_when_39 rfl rfl ?_
    refine g_RX10_23 C hn dX10_when_40 ?_
    refine x_iconst C dX10_when_43 (v := 1) (by decide) ?_
    refine i_RX10_220 (rest := []) C hn rfl rfl (by decide) rfl dX10_when_44 h (fun r44 μ44 h => ?_)
    refine x_if_le C dX10_when_47 (tgt := 52) (by decide) h (fun h => ?_) (fun h => ?_)
    · refine x_iinc C 1 (v := 1) (L' := [(1, .int ((v1 + 1))), (0, .ref (ga G 0))]) dX10_when_52 rfl (by decide) (by decide) rfl ?_
      refine x_goto C dX10_when_55 (tgt := 33) (by decide) ?_
      exact qV_sub [1, 0] rfl (h)
    · refine x_iload_n C 1 dX10_when_50 rfl rfl ?_
      exact x_iret C hQ dX10_when_51 h
theorem y_X10_when : qY yX10_when cX10_when 2 (some .int) 0 ({ frames := 6, cells := 0, slots := 0, locals := 144 } : Room) 0 0 := ⟨(qm_34 _ (List.mem_of_getElem? (i := 15) rfl)), (qm_1 _ (List.mem_of_getElem? (i := 2) rfl)), by decide +kernel, by decide +kernel, rfl, rfl⟩
theorem c_X10_when (l : Launch) (G : qG) {μ : qM} (hn : 66 ≤ gn G) : qCi l G yX10_when cX10_when 2 (some .int) ({ frames := 6, cells := 0, slots := 0, locals := 144 } : Room) 0 0 [.ref (ga G 0)] μ (fun post => w_X10_when  post μ) := by
  refine qCi_of (L := [(0, .ref (ga G 0))]) (by decide) rfl rfl ?_
  intro Z post hl C hQ h
  have C : qX Z G RX10 cX10_when 2 ({ frames := 6, cells := 0, slots := 0, locals := 144 } : Room) (some .int) := C
  have h : w_X10_when  post μ := h
  unfold w_X10_when at h
  refine x_aload_n C 0 dX10_when_0 rfl rfl ?_
  refine g_RX10_10 C hn dX10_when_1 ?_
  refine i_RX10_217 (rest := []) C hn rfl rfl (by decide) rfl dX10_when_4 h (fun r4 μ4 h => ?_)
  refine x_sipush C dX10_when_7 (v := 9900) (by decide) ?_
  refine x_icmp_le C dX10_when_10 (tgt := 20) (by decide) h (fun h => ?_) (fun h => ?_)
  · refine x_aload_n C 0 dX10_when_20 rfl rfl ?_
    refine g_RX10_23 C hn dX10_when_21 ?_
    refine x_aload_n C 0 dX10_when_24 rfl rfl ?_
    refine g_RX10_10 C hn dX10_when_25 ?_
    refine i_RX10_223 (rest := []) C hn rfl rfl rfl (by decide) rfl dX10_when_28 h (fun μ28 h => ?_)
    refine x_iconst C dX10_when_31 (v := 1) (by decide) ?_
    refine x_istore_n C (L' := [(1, .int ((1 : Int32))), (0, .ref (ga G 0))]) dX10_when_32 rfl (by decide) rfl ?_
    exact qV_sub [1, 0] rfl (b_X10_when_33 C hQ hn h)
  · refine x_aload_n C 0 dX10_when_13 rfl rfl ?_
    refine x_ldc C (v := -1000005) (qm_6 _ (List.mem_of_getElem? (i := 17) rfl)) dX10_when_14 ?_
    refine i_RX10_81 (rest := []) C hn  rfl (by decide) rfl dX10_when_16 h (fun r16 μ16 h => ?_)
    exact x_iret C hQ dX10_when_19 h
theorem dX10_strew_0 : decode cX10_strew 0 = .ok (.iload_n 1, 1) := by decide +kernel
theorem dX10_strew_1 : decode cX10_strew 1 = .ok (.iconst 1, 1) := by decide +kernel
theorem dX10_strew_2 : decode cX10_strew 2 = .ok (.if_icmp .lt 9, 3) := by decide +kernel
theorem dX10_strew_5 : decode cX10_strew 5 = .ok (.iload_n 1, 1) := by decide +kernel
theorem dX10_strew_6 : decode cX10_strew 6 = .ok (.bipush 12, 2) := by decide +kernel
theorem dX10_strew_8 : decode cX10_strew 8 = .ok (.if_icmp .le 10, 3) := by decide +kernel
theorem dX10_strew_11 : decode cX10_strew 11 = .ok (.aload_n 0, 1) := by decide +kernel
theorem dX10_strew_12 : decode cX10_strew 12 = .ok (.ldc 80, 2) := by decide +kernel
theorem dX10_strew_14 : decode cX10_strew 14 = .ok (.invokevirtual 81, 3) := by decide +kernel
theorem dX10_strew_17 : decode cX10_strew 17 = .ok (.ireturn, 1) := by decide +kernel
theorem dX10_strew_18 : decode cX10_strew 18 = .ok (.aload_n 0, 1) := by decide +kernel
theorem dX10_strew_19 : decode cX10_strew 19 = .ok (.getfield 10, 3) := by decide +kernel
theorem dX10_strew_22 : decode cX10_strew 22 = .ok (.invokevirtual 85, 3) := by decide +kernel
theorem dX10_strew_25 : decode cX10_strew 25 = .ok (.astore_n 2, 1) := by decide +kernel
theorem dX10_strew_26 : decode cX10_strew 26 = .ok (.aload_n 2, 1) := by decide +kernel
theorem dX10_strew_27 : decode cX10_strew 27 = .ok (.invokevirtual 108, 3) := by decide +kernel
theorem dX10_strew_30 : decode cX10_strew 30 = .ok (.ifCond .ne 10, 3) := by decide +kernel
theorem dX10_strew_33 : decode cX10_strew 33 = .ok (.aload_n 0, 1) := by decide +kernel
theorem dX10_strew_34 : decode cX10_strew 34 = .ok (.ldc 98, 2) := by decide +kernel
theorem dX10_strew_36 : decode cX10_strew 36 = .ok (.invokevirtual 81, 3) := by decide +kernel
theorem dX10_strew_39 : decode cX10_strew 39 = .ok (.ireturn, 1) := by decide +kernel
theorem dX10_strew_40 : decode cX10_strew 40 = .ok (.iconst 0, 1) := by decide +kernel
theorem dX10_strew_41 : decode cX10_strew 41 = .ok (.istore_n 3, 1) := by decide +kernel
theorem dX10_strew_42 : decode cX10_strew 42 = .ok (.iload_n 3, 1) := by decide +kernel
theorem dX10_strew_43 : decode cX10_strew 43 = .ok (.iload_n 1, 1) := by decide +kernel
theorem dX10_strew_44 : decode cX10_strew 44 = .ok (.if_icmp .ge 16, 3) := by decide +kernel
theorem dX10_strew_47 : decode cX10_strew 47 = .ok (.aload_n 0, 1) := by decide +kernel
theorem dX10_strew_48 : decode cX10_strew 48 = .ok (.getfield 10, 3) := by decide +kernel
theorem dX10_strew_51 : decode cX10_strew 51 = .ok (.invokevirtual 226, 3) := by decide +kernel
theorem dX10_strew_54 : decode cX10_strew 54 = .ok (.iinc 3 1, 3) := by decide +kernel
theorem dX10_strew_57 : decode cX10_strew 57 = .ok (.goto (-15), 3) := by decide +kernel
theorem dX10_strew_60 : decode cX10_strew 60 = .ok (.aload_n 2, 1) := by decide +kernel
theorem dX10_strew_61 : decode cX10_strew 61 = .ok (.invokevirtual 171, 3) := by decide +kernel
theorem dX10_strew_64 : decode cX10_strew 64 = .ok (.ireturn, 1) := by decide +kernel
theorem i_RX10_226 {Z : qZ} {G : qG} {cc : ByteArray} {nL k n : Nat} {rm : Room} {ret : Option FieldType} {μ : qM} {pc : Nat} {L : List (Nat × Value)} {rest : List Value} {K : qM → Prop} {o : Nat} (C : qX Z G RX10 cc nL rm ret) (hn : 66 ≤ gn G) (hk_o : qk o = 8) (hR : (Nat.ble (2 + 1) rm.frames && Nat.ble (8 + (3 + 11) + 43) rm.locals) = true) (hf : k + 0 ≤ rm.cells ∧ n + 0 ≤ rm.slots) (hsz : Nat.ble (rest.map fun v => v.category).sum 8 = true) (hd : decode cc pc = .ok (.invokevirtual 226, 3)) (h : w_X9_strewOne o K μ) (hk : ∀ (μ1 : qM), K μ1 → qV Z G nL k n μ1 (pc + 3) L rest) : qV Z G nL k n μ pc L (.ref (ga G o) :: rest) := x_Vv [] rest C o 8 (wp := fun K => w_X9_strewOne o K μ) (y_X9_strewOne : qY yX9_strewOne cX9_strewOne 3 none 0 ({ frames := 2, cells := 0, slots := 0, locals := 43 } : Room) 0 0) (qm_35 _ (List.mem_of_getElem? (i := 1) rfl)) (qm_35 _ (List.mem_of_getElem? (i := 2) rfl)) (qm_35 _ (List.mem_of_getElem? (i := 0) rfl)) (c_X9_strewOne Z.2.1 G hn hk_o) (q_lt hk_o rfl hn) hk_o (by decide) rfl rfl hR hf rfl rfl hsz hd h hk
theorem b_X10_strew_11 {Z : qZ} {G : qG} {μ : qM} {post : Int32 → qM → Prop} (C : qX Z G RX10 cX10_strew 4 ({ frames := 6, cells := 0, slots := 0, locals := 140 } : Room) (some .int)) (hQ : qQi Z G 0 0 post) (hn : 66 ≤ gn G) (h : q_X10_strew_11 post μ) : qV Z G 4 0 0 μ 11 [(0, .ref (ga G 0))] [] := by
  unfold q_X10_strew_11 at h
  refine x_aload_n C 0 dX10_strew_11 rfl rfl ?_
  refine x_ldc C (v := -1000001) (qm_6 _ (List.mem_of_getElem? (i := 16) rfl)) dX10_strew_12 ?_
  refine i_RX10_81 (rest := []) C hn  rfl (by decide) rfl dX10_strew_14 h (fun r14 μ14 h => ?_)
  exact x_iret C hQ dX10_strew_17 h
theorem b_X10_strew_42 {Z : qZ} {G : qG} {v1 : Int32} {v3 : Int32} {μ : qM} {post : Int32 → qM → Prop} (C : qX Z G RX10 cX10_strew 4 ({ frames := 6, cells := 0, slots := 0, locals := 140 } : Room) (some .int)) (hQ : qQi Z G 0 0 post) (hn : 66 ≤ gn G) (h : q_X10_strew_42 v1 post v3 μ) : qV Z G 4 0 0 μ 42 [(0, .ref (ga G 0)), (1, .int v1), (2, .ref (ga G 2)), (3, .int v3)] [] := by
  refine h (fun v3 μ => qV Z G 4 0 0 μ 42 [(0, .ref (ga G 0)), (1, .int v1), (2, .ref (ga G 2)), (3, .int v3)] []) (fun v3 μ h => ?_)
  refine x_iload_n C 3 dX10_strew_42 rfl rfl ?_
  refine x_iload_n C 1 dX10_strew_43 rfl rfl ?_
  refine x_icmp_ge C dX10_strew_44 (tgt := 60) (by decide) h (fun h => ?_) (fun h => ?_)
  · refine x_aload_n C 2 dX10_strew_60 rfl rfl ?_
    refine i_RX10_171 (rest := []) C hn rfl rfl (by decide) rfl dX10_strew_61 h (fun r61 μ61 h => ?_)
    exact x_iret C hQ dX10_strew_64 h
  · refine x_aload_n C 0 dX10_strew_47 rfl rfl ?_
    refine g_RX10_10 C hn dX10_strew_48 ?_
    refine i_RX10_226 (rest := []) C hn rfl rfl (by decide) rfl dX10_strew_51 h (fun μ51 h => ?_)
    refine x_iinc C 3 (v := 1) (L' := [(3, .int ((v3 + 1))), (0, .ref (ga G 0)), (1, .int v1), (2, .ref (ga G 2))]) dX10_strew_54 rfl (by decide) (by decide) rfl ?_
    refine x_goto C dX10_strew_57 (tgt := 42) (by decide) ?_
    exact qV_sub [1, 2, 3, 0] rfl (h)
theorem y_X10_strew : qY yX10_strew cX10_strew 4 (some .int) 1 ({ frames := 6, cells := 0, slots := 0, locals := 140 } : Room) 0 0 := ⟨(qm_34 _ (List.mem_of_getElem? (i := 23) rfl)), (qm_1 _ (List.mem_of_getElem? (i := 2) rfl)), by decide +kernel, by decide +kernel, rfl, rfl⟩
theorem c_X10_strew (l : Launch) (G : qG) {v1 : Int32} {μ : qM} (hn : 66 ≤ gn G) : qCi l G yX10_strew cX10_strew 4 (some .int) ({ frames := 6, cells := 0, slots := 0, locals := 140 } : Room) 0 0 [.ref (ga G 0), .int v1] μ (fun post => w_X10_strew v1 post μ) := by
  refine qCi_of (L := [(0, .ref (ga G 0)), (1, .int v1)]) (by decide) rfl rfl ?_
  intro Z post hl C hQ h
  have C : qX Z G RX10 cX10_strew 4 ({ frames := 6, cells := 0, slots := 0, locals := 140 } : Room) (some .int) := C
  have h : w_X10_strew v1 post μ := h
  unfold w_X10_strew at h
  refine x_iload_n C 1 dX10_strew_0 rfl rfl ?_
  refine x_iconst C dX10_strew_1 (v := 1) (by decide) ?_
  refine x_icmp_lt C dX10_strew_2 (tgt := 11) (by decide) h (fun h => ?_) (fun h => ?_)
  · exact qV_sub [0] rfl (b_X10_strew_11 C hQ hn h)
  · refine x_iload_n C 1 dX10_strew_5 rfl rfl ?_
    refine x_bipush C dX10_strew_6 (v := 12) (by decide) ?_
    refine x_icmp_le C dX10_strew_8 (tgt := 18) (by decide) h (fun h => ?_) (fun h => ?_)
    · refine x_aload_n C 0 dX10_strew_18 rfl rfl ?_
      refine g_RX10_10 C hn dX10_strew_19 ?_
      refine i_RX10_85 (rest := []) C hn rfl rfl (by decide) rfl dX10_strew_22 h (fun r22 μ22 h => ?_)
      obtain ⟨rfl, h⟩ := h
      refine x_astore_n C (L' := [(2, .ref (ga G 2)), (0, .ref (ga G 0)), (1, .int v1)]) dX10_strew_25 rfl (by decide) rfl ?_
      refine x_aload_n C 0 dX10_strew_26 rfl rfl ?_
      refine i_RX10_108 (rest := []) C hn rfl rfl (by decide) rfl dX10_strew_27 h (fun r27 μ27 h => ?_)
      refine x_if_ne C dX10_strew_30 (tgt := 40) (by decide) h (fun h => ?_) (fun h => ?_)
      · refine x_iconst C dX10_strew_40 (v := 0) (by decide) ?_
        refine x_istore_n C (L' := [(3, .int ((0 : Int32))), (2, .ref (ga G 2)), (0, .ref (ga G 0)), (1, .int v1)]) dX10_strew_41 rfl (by decide) rfl ?_
        exact qV_sub [2, 3, 1, 0] rfl (b_X10_strew_42 C hQ hn h)
      · refine x_aload_n C 1 dX10_strew_33 rfl rfl ?_
        refine x_ldc C (v := -1000005) (qm_6 _ (List.mem_of_getElem? (i := 17) rfl)) dX10_strew_34 ?_
        refine i_RX10_81 (rest := []) C hn  rfl (by decide) rfl dX10_strew_36 h (fun r36 μ36 h => ?_)
        exact x_iret C hQ dX10_strew_39 h
    · exact qV_sub [0] rfl (b_X10_strew_11 C hQ hn h)
theorem dX10_seed_0 : decode cX10_seed 0 = .ok (.aload_n 0, 1) := by decide +kernel
theorem dX10_seed_1 : decode cX10_seed 1 = .ok (.getfield 10, 3) := by decide +kernel
theorem dX10_seed_4 : decode cX10_seed 4 = .ok (.invokevirtual 229, 3) := by decide +kernel
theorem dX10_seed_7 : decode cX10_seed 7 = .ok (.istore_n 2, 1) := by decide +kernel
theorem dX10_seed_8 : decode cX10_seed 8 = .ok (.aload_n 0, 1) := by decide +kernel
theorem dX10_seed_9 : decode cX10_seed 9 = .ok (.getfield 10, 3) := by decide +kernel
theorem dX10_seed_12 : decode cX10_seed 12 = .ok (.iload_n 1, 1) := by decide +kernel
theorem dX10_seed_13 : decode cX10_seed 13 = .ok (.invokevirtual 232, 3) := by decide +kernel
theorem dX10_seed_16 : decode cX10_seed 16 = .ok (.iload_n 2, 1) := by decide +kernel
theorem dX10_seed_17 : decode cX10_seed 17 = .ok (.ireturn, 1) := by decide +kernel
theorem i_RX10_229 {Z : qZ} {G : qG} {cc : ByteArray} {nL k n : Nat} {rm : Room} {ret : Option FieldType} {μ : qM} {pc : Nat} {L : List (Nat × Value)} {rest : List Value} {K : Int32 → qM → Prop} {o : Nat} (C : qX Z G RX10 cc nL rm ret) (hn : 66 ≤ gn G) (hk_o : qk o = 8) (hR : (Nat.ble (0 + 1) rm.frames && Nat.ble (8 + (1 + 11) + 0) rm.locals) = true) (hf : k + 0 ≤ rm.cells ∧ n + 0 ≤ rm.slots) (hsz : Nat.ble (rest.map fun v => v.category).sum 8 = true) (hd : decode cc pc = .ok (.invokevirtual 229, 3)) (h : w_X9_luck o K μ) (hk : ∀ (r : Int32) (μ1 : qM), K r μ1 → qV Z G nL k n μ1 (pc + 3) L (.int r :: rest)) : qV Z G nL k n μ pc L (.ref (ga G o) :: rest) := x_Vi [] rest C o 8 (wp := fun K => w_X9_luck o K μ) (y_X9_luck : qY yX9_luck cX9_luck 1 (some .int) 0 ({ frames := 0, cells := 0, slots := 0, locals := 0 } : Room) 0 0) (qm_35 _ (List.mem_of_getElem? (i := 19) rfl)) (qm_35 _ (List.mem_of_getElem? (i := 20) rfl)) (qm_35 _ (List.mem_of_getElem? (i := 18) rfl)) (c_X9_luck Z.2.1 G hn hk_o) (q_lt hk_o rfl hn) hk_o (by decide) rfl rfl hR hf rfl rfl hsz hd h hk
theorem i_RX10_232 {Z : qZ} {G : qG} {cc : ByteArray} {nL k n : Nat} {rm : Room} {ret : Option FieldType} {μ : qM} {pc : Nat} {L : List (Nat × Value)} {rest : List Value} {K : qM → Prop} {o : Nat} {v1 : Int32} (C : qX Z G RX10 cc nL rm ret) (hn : 66 ≤ gn G) (hk_o : qk o = 8) (hR : (Nat.ble (0 + 1) rm.frames && Nat.ble (8 + (2 + 11) + 0) rm.locals) = true) (hf : k + 0 ≤ rm.cells ∧ n + 0 ≤ rm.slots) (hsz : Nat.ble (rest.map fun v => v.category).sum 8 = true) (hd : decode cc pc = .ok (.invokevirtual 232, 3)) (h : w_X9_setLuck o v1 K μ) (hk : ∀ (μ1 : qM), K μ1 → qV Z G nL k n μ1 (pc + 3) L rest) : qV Z G nL k n μ pc L (.int v1 :: .ref (ga G o) :: rest) := x_Vv [.int v1] rest C o 8 (wp := fun K => w_X9_setLuck o v1 K μ) (y_X9_setLuck : qY yX9_setLuck cX9_setLuck 2 none 1 ({ frames := 0, cells := 0, slots := 0, locals := 0 } : Room) 0 0) (qm_35 _ (List.mem_of_getElem? (i := 23) rfl)) (qm_36 _ (List.mem_of_getElem? (i := 0) rfl)) (qm_35 _ (List.mem_of_getElem? (i := 22) rfl)) (c_X9_setLuck Z.2.1 G hn hk_o) (q_lt hk_o rfl hn) hk_o (by decide) rfl rfl hR hf rfl rfl hsz hd h hk
theorem y_X10_seed : qY yX10_seed cX10_seed 3 (some .int) 1 ({ frames := 1, cells := 0, slots := 0, locals := 21 } : Room) 0 0 := ⟨(qm_35 _ (List.mem_of_getElem? (i := 17) rfl)), (qm_1 _ (List.mem_of_getElem? (i := 2) rfl)), by decide +kernel, by decide +kernel, rfl, rfl⟩
theorem c_X10_seed (l : Launch) (G : qG) {v1 : Int32} {μ : qM} (hn : 66 ≤ gn G) : qCi l G yX10_seed cX10_seed 3 (some .int) ({ frames := 1, cells := 0, slots := 0, locals := 21 } : Room) 0 0 [.ref (ga G 0), .int v1] μ (fun post => w_X10_seed v1 post μ) := by
  refine qCi_of (L := [(0, .ref (ga G 0)), (1, .int v1)]) (by decide) rfl rfl ?_
  intro Z post hl C hQ h
  have C : qX Z G RX10 cX10_seed 3 ({ frames := 1, cells := 0, slots := 0, locals := 21 } : Room) (some .int) := C
  have h : w_X10_seed v1 post μ := h
  unfold w_X10_seed at h
  refine x_aload_n C 0 dX10_seed_0 rfl rfl ?_
  refine g_RX10_10 C hn dX10_seed_1 ?_
  refine i_RX10_229 (rest := []) C hn rfl rfl (by decide) rfl dX10_seed_4 h (fun r4 μ4 h => ?_)
  refine x_istore_n C (L' := [(2, .int r4), (0, .ref (ga G 0)), (1, .int v1)]) dX10_seed_7 rfl (by decide) rfl ?_
  refine x_aload_n C 1 dX10_seed_8 rfl rfl ?_
  refine g_RX10_10 C hn dX10_seed_9 ?_
  refine x_iload_n C 2 dX10_seed_12 rfl rfl ?_
  refine i_RX10_232 (rest := []) C hn rfl rfl (by decide) rfl dX10_seed_13 h (fun μ13 h => ?_)
  refine x_iload_n C 0 dX10_seed_16 rfl rfl ?_
  exact x_iret C hQ dX10_seed_17 h
theorem dX10_feed_0 : decode cX10_feed 0 = .ok (.iload_n 2, 1) := by decide +kernel
theorem dX10_feed_1 : decode cX10_feed 1 = .ok (.iconst 1, 1) := by decide +kernel
theorem dX10_feed_2 : decode cX10_feed 2 = .ok (.if_icmp .lt 8, 3) := by decide +kernel
theorem dX10_feed_5 : decode cX10_feed 5 = .ok (.iload_n 2, 1) := by decide +kernel
theorem dX10_feed_6 : decode cX10_feed 6 = .ok (.iconst 4, 1) := by decide +kernel
theorem dX10_feed_7 : decode cX10_feed 7 = .ok (.if_icmp .le 10, 3) := by decide +kernel
theorem dX10_feed_10 : decode cX10_feed 10 = .ok (.aload_n 0, 1) := by decide +kernel
theorem dX10_feed_11 : decode cX10_feed 11 = .ok (.ldc 80, 2) := by decide +kernel
theorem dX10_feed_13 : decode cX10_feed 13 = .ok (.invokevirtual 81, 3) := by decide +kernel
theorem dX10_feed_16 : decode cX10_feed 16 = .ok (.ireturn, 1) := by decide +kernel
theorem dX10_feed_17 : decode cX10_feed 17 = .ok (.aload_n 0, 1) := by decide +kernel
theorem dX10_feed_18 : decode cX10_feed 18 = .ok (.getfield 29, 3) := by decide +kernel
theorem dX10_feed_21 : decode cX10_feed 21 = .ok (.invokevirtual 235, 3) := by decide +kernel
theorem dX10_feed_24 : decode cX10_feed 24 = .ok (.iload_n 2, 1) := by decide +kernel
theorem dX10_feed_25 : decode cX10_feed 25 = .ok (.iadd, 1) := by decide +kernel
theorem dX10_feed_26 : decode cX10_feed 26 = .ok (.bipush 120, 2) := by decide +kernel
theorem dX10_feed_28 : decode cX10_feed 28 = .ok (.if_icmp .le 10, 3) := by decide +kernel
theorem dX10_feed_31 : decode cX10_feed 31 = .ok (.aload_n 0, 1) := by decide +kernel
theorem dX10_feed_32 : decode cX10_feed 32 = .ok (.ldc 103, 2) := by decide +kernel
theorem dX10_feed_34 : decode cX10_feed 34 = .ok (.invokevirtual 81, 3) := by decide +kernel
theorem dX10_feed_37 : decode cX10_feed 37 = .ok (.ireturn, 1) := by decide +kernel
theorem dX10_feed_38 : decode cX10_feed 38 = .ok (.iload_n 2, 1) := by decide +kernel
theorem dX10_feed_39 : decode cX10_feed 39 = .ok (.iconst 1, 1) := by decide +kernel
theorem dX10_feed_40 : decode cX10_feed 40 = .ok (.isub, 1) := by decide +kernel
theorem dX10_feed_41 : decode cX10_feed 41 = .ok (.istore_n 3, 1) := by decide +kernel
theorem dX10_feed_42 : decode cX10_feed 42 = .ok (.iload_n 3, 1) := by decide +kernel
theorem dX10_feed_43 : decode cX10_feed 43 = .ok (.ifCond .lt 22, 3) := by decide +kernel
theorem dX10_feed_46 : decode cX10_feed 46 = .ok (.aload_n 0, 1) := by decide +kernel
theorem dX10_feed_47 : decode cX10_feed 47 = .ok (.getfield 29, 3) := by decide +kernel
theorem dX10_feed_50 : decode cX10_feed 50 = .ok (.iload_n 1, 1) := by decide +kernel
theorem dX10_feed_51 : decode cX10_feed 51 = .ok (.bipush 8, 2) := by decide +kernel
theorem dX10_feed_53 : decode cX10_feed 53 = .ok (.iload_n 3, 1) := by decide +kernel
theorem dX10_feed_54 : decode cX10_feed 54 = .ok (.imul, 1) := by decide +kernel
theorem dX10_feed_55 : decode cX10_feed 55 = .ok (.iushr, 1) := by decide +kernel
theorem dX10_feed_56 : decode cX10_feed 56 = .ok (.invokevirtual 236, 3) := by decide +kernel
theorem dX10_feed_59 : decode cX10_feed 59 = .ok (.iinc 3 (-1), 3) := by decide +kernel
theorem dX10_feed_62 : decode cX10_feed 62 = .ok (.goto (-20), 3) := by decide +kernel
theorem dX10_feed_65 : decode cX10_feed 65 = .ok (.aload_n 0, 1) := by decide +kernel
theorem dX10_feed_66 : decode cX10_feed 66 = .ok (.getfield 29, 3) := by decide +kernel
theorem dX10_feed_69 : decode cX10_feed 69 = .ok (.invokevirtual 235, 3) := by decide +kernel
theorem dX10_feed_72 : decode cX10_feed 72 = .ok (.ireturn, 1) := by decide +kernel
theorem i_RX10_235 {Z : qZ} {G : qG} {cc : ByteArray} {nL k n : Nat} {rm : Room} {ret : Option FieldType} {μ : qM} {pc : Nat} {L : List (Nat × Value)} {rest : List Value} {K : Int32 → qM → Prop} {o : Nat} (C : qX Z G RX10 cc nL rm ret) (hn : 66 ≤ gn G) (hk_o : qk o = 7) (hR : (Nat.ble (0 + 1) rm.frames && Nat.ble (8 + (1 + 11) + 0) rm.locals) = true) (hf : k + 0 ≤ rm.cells ∧ n + 0 ≤ rm.slots) (hsz : Nat.ble (rest.map fun v => v.category).sum 8 = true) (hd : decode cc pc = .ok (.invokevirtual 235, 3)) (h : w_X8_size o K μ) (hk : ∀ (r : Int32) (μ1 : qM), K r μ1 → qV Z G nL k n μ1 (pc + 3) L (.int r :: rest)) : qV Z G nL k n μ pc L (.ref (ga G o) :: rest) := x_Vi [] rest C o 7 (wp := fun K => w_X8_size o K μ) (y_X8_size : qY yX8_size cX8_size 1 (some .int) 0 ({ frames := 0, cells := 0, slots := 0, locals := 0 } : Room) 0 0) (qm_36 _ (List.mem_of_getElem? (i := 11) rfl)) (qm_36 _ (List.mem_of_getElem? (i := 12) rfl)) (qm_36 _ (List.mem_of_getElem? (i := 10) rfl)) (c_X8_size Z.2.1 G hn hk_o) (q_lt hk_o rfl hn) hk_o (by decide) rfl rfl hR hf rfl rfl hsz hd h hk
theorem i_RX10_236 {Z : qZ} {G : qG} {cc : ByteArray} {nL k n : Nat} {rm : Room} {ret : Option FieldType} {μ : qM} {pc : Nat} {L : List (Nat × Value)} {rest : List Value} {K : qM → Prop} {o : Nat} {v1 : Int32} (C : qX Z G RX10 cc nL rm ret) (hn : 66 ≤ gn G) (hk_o : qk o = 7) (hR : (Nat.ble (0 + 1) rm.frames && Nat.ble (8 + (2 + 11) + 0) rm.locals) = true) (hf : k + 0 ≤ rm.cells ∧ n + 0 ≤ rm.slots) (hsz : Nat.ble (rest.map fun v => v.category).sum 8 = true) (hd : decode cc pc = .ok (.invokevirtual 236, 3)) (h : w_X8_put o v1 K μ) (hk : ∀ (μ1 : qM), K μ1 → qV Z G nL k n μ1 (pc + 3) L rest) : qV Z G nL k n μ pc L (.int v1 :: .ref (ga G o) :: rest) := x_Vv [.int v1] rest C o 7 (wp := fun K => w_X8_put o v1 K μ) (y_X8_put : qY yX8_put cX8_put 2 none 1 ({ frames := 0, cells := 0, slots := 0, locals := 0 } : Room) 0 0) (qm_36 _ (List.mem_of_getElem? (i := 15) rfl)) (qm_36 _ (List.mem_of_getElem? (i := 16) rfl)) (qm_36 _ (List.mem_of_getElem? (i := 14) rfl)) (c_X8_put Z.2.1 G hn hk_o) (q_lt hk_o rfl hn) hk_o (by decide) rfl rfl hR hf rfl rfl hsz hd h hk
theorem g_RX10_29 {Z : qZ} {G : qG} {cc : ByteArray} {nL k n : Nat} {rm : Room} {ret : Option FieldType} {μ : qM} {pc : Nat} {L : List (Nat × Value)} {st : List Value} (C : qX Z G RX10 cc nL rm ret) (hn : 66 ≤ gn G) (hd : decode cc pc = .ok (.getfield 29, 3)) (h : qV Z G nL k n μ (pc + 3) L (.ref (ga G 22) :: st)) : qV Z G nL k n μ pc L (.ref (ga G 0) :: st) := x_getr C 0 9 4 22 22 (C0 := RX10) (fn := "tape") (fd := "LEqualPlain$Tape;") (Nat.lt_of_lt_of_le (by decide) hn) rfl (by decide) rfl (by decide) rfl inlX10 (qm_1 _ (List.mem_of_getElem? (i := 22) rfl)) rfl rfl rfl hd h
theorem b_X10_feed_10 {Z : qZ} {G : qG} {μ : qM} {post : Int32 → qM → Prop} (C : qX Z G RX10 cX10_feed 4 ({ frames := 1, cells := 0, slots := 0, locals := 22 } : Room) (some .int)) (hQ : qQi Z G 0 0 post) (hn : 66 ≤ gn G) (h : q_X10_feed_10 post μ) : qV Z G 4 0 0 μ 10 [(0, .ref (ga G 0))] [] := by
  unfold q_X10_feed_10 at h
  refine x_aload_n C 0 dX10_feed_10 rfl rfl ?_
  refine x_ldc C (v := -1000001) (qm_6 _ (List.mem_of_getElem? (i := 16) rfl)) dX10_feed_11 ?_
  refine i_RX10_81 (rest := []) C hn  rfl (by decide) rfl dX10_feed_13 h (fun r13 μ13 h => ?_)
  exact x_iret C hQ dX10_feed_16 h
theorem b_X10_feed_42 {Z : qZ} {G : qG} {v1 : Int32} {v3 : Int32} {μ : qM} {post : Int32 → qM → Prop} (C : qX Z G RX10 cX10_feed 4 ({ frames := 1, cells := 0, slots := 0, locals := 22 } : Room) (some .int)) (hQ : qQi Z G 0 0 post) (hn : 66 ≤ gn G) (h : q_X10_feed_42 v1 post v3 μ) : qV Z G 4 0 0 μ 42 [(0, .ref (ga G 0)), (1, .int v1), (3, .int v3)] [] := by
  refine h (fun v3 μ => qV Z G 4 0 0 μ 42 [(0, .ref (ga G 0)), (1, .int v1), (3, .int v3)] []) (fun v3 μ h => ?_)
  refine x_iload_n C 2 dX10_feed_42 rfl rfl ?_
  refine x_if_lt C dX10_feed_43 (tgt := 65) (by decide) h (fun h => ?_) (fun h => ?_)
  · refine x_aload_n C 0 dX10_feed_65 rfl rfl ?_
    refine g_RX10_29 C hn dX10_feed_66 ?_
    refine i_RX10_235 (rest := []) C hn rfl rfl (by decide) rfl dX10_feed_69 h (fun r69 μ69 h => ?_)
    exact x_iret C hQ dX10_feed_72 h
  · refine x_aload_n C 0 dX10_feed_46 rfl rfl ?_
    refine g_RX10_29 C hn dX10_feed_47 ?_
    refine x_iload_n C 1 dX10_feed_50 rfl rfl ?_
    refine x_bipush C dX10_feed_51 (v := 8) (by decide) ?_
    refine x_iload_n C 2 dX10_feed_53 rfl rfl ?_
    refine x_imul C dX10_feed_54 ?_
    refine x_iushr C dX10_feed_55 ?_
    refine i_RX10_236 (rest := []) C hn rfl rfl (by decide) rfl dX10_feed_56 h (fun μ56 h => ?_)
    refine x_iinc C 2 (v := -1) (L' := [(3, .int ((v3 + -1))), (0, .ref (ga G 0)), (1, .int v1)]) dX10_feed_59 rfl (by decide) (by decide) rfl ?_
    refine x_goto C dX10_feed_62 (tgt := 42) (by decide) ?_
    exact qV_sub [1, 2, 0] rfl (h)
theorem y_X10_feed : qY yX10_feed cX10_feed 4 (some .int) 2 ({ frames := 1, cells := 0, slots := 0, locals := 22 } : Room) 0 0 := ⟨(qm_36 _ (List.mem_of_getElem? (i := 9) rfl)), (qm_1 _ (List.mem_of_getElem? (i := 2) rfl)), by decide +kernel, by decide +kernel, rfl, rfl⟩
theorem c_X10_feed (l : Launch) (G : qG) {v1 : Int32} {v2 : Int32} {μ : qM} (hn : 66 ≤ gn G) : qCi l G yX10_feed cX10_feed 4 (some .int) ({ frames := 1, cells := 0, slots := 0, locals := 22 } : Room) 0 0 [.ref (ga G 0), .int v1, .int v2] μ (fun post => w_X10_feed v1 v2 post μ) := by
  refine qCi_of (L := [(0, .ref (ga G 0)), (1, .int v1), (2, .int v2)]) (by decide) rfl rfl ?_
  intro Z post hl C hQ h
  have C : qX Z G RX10 cX10_feed 4 ({ frames := 1, cells := 0, slots := 0, locals := 22 } : Room) (some .int) := C
  have h : w_X10_feed v1 v2 post μ := h
  unfold w_X10_feed at h
  refine x_iload_n C 2 dX10_feed_0 rfl rfl ?_
  refine x_iconst C dX10_feed_1 (v := 1) (by decide) ?_
  refine x_icmp_lt C dX10_feed_2 (tgt := 10) (by decide) h (fun h => ?_) (fun h => ?_)
  · exact qV_sub [0] rfl (b_X10_feed_10 C hQ hn h)
  · refine x_iload_n C 2 dX10_feed_5 rfl rfl ?_
    refine x_iconst C dX10_feed_6 (v := 4) (by decide) ?_
    refine x_icmp_le C dX10_feed_7 (tgt := 17) (by decide) h (fun h => ?_) (fun h => ?_)
    · refine x_aload_n C 0 dX10_feed_17 rfl rfl ?_
      refine g_RX10_29 C hn dX10_feed_18 ?_
      refine i_RX10_235 (rest := []) C hn rfl rfl (by decide) rfl dX10_feed_21 h (fun r21 μ21 h => ?_)
      refine x_iload_n C 2 dX10_feed_24 rfl rfl ?_
      refine x_iadd C dX10_feed_25 ?_
      refine x_bipush C dX10_feed_26 (v := 120) (by decide) ?_
      refine x_icmp_le C dX10_feed_28 (tgt := 38) (by decide) h (fun h => ?_) (fun h => ?_)
      · refine x_iload_n C 2 dX10_feed_38 rfl rfl ?_
        refine x_iconst C dX10_feed_39 (v := 1) (by decide) ?_
        refine x_isub C dX10_feed_40 ?_
        refine x_istore_n C (L' := [(3, .int ((v2 - (1 : Int32)))), (0, .ref (ga G 0)), (1, .int v1), (2, .int v2)]) dX10_feed_41 rfl (by decide) rfl ?_
        exact qV_sub [1, 2, 0] rfl (b_X10_feed_42 C hQ hn h)
      · refine x_aload_n C 0 dX10_feed_31 rfl rfl ?_
        refine x_ldc C (v := -1000002) (qm_6 _ (List.mem_of_getElem? (i := 18) rfl)) dX10_feed_32 ?_
        refine i_RX10_81 (rest := []) C hn  rfl (by decide) rfl dX10_feed_34 h (fun r34 μ34 h => ?_)
        exact x_iret C hQ dX10_feed_37 h
    · exact qV_sub [0] rfl (b_X10_feed_10 C hQ hn h)
theorem dX10_wipe_0 : decode cX10_wipe 0 = .ok (.aload_n 0, 1) := by decide +kernel
theorem dX10_wipe_1 : decode cX10_wipe 1 = .ok (.getfield 29, 3) := by decide +kernel
theorem dX10_wipe_4 : decode cX10_wipe 4 = .ok (.invokevirtual 235, 3) := by decide +kernel
theorem dX10_wipe_7 : decode cX10_wipe 7 = .ok (.istore_n 1, 1) := by decide +kernel
theorem dX10_wipe_8 : decode cX10_wipe 8 = .ok (.aload_n 0, 1) := by decide +kernel
theorem dX10_wipe_9 : decode cX10_wipe 9 = .ok (.getfield 29, 3) := by decide +kernel
theorem dX10_wipe_12 : decode cX10_wipe 12 = .ok (.invokevirtual 238, 3) := by decide +kernel
theorem dX10_wipe_15 : decode cX10_wipe 15 = .ok (.iload_n 1, 1) := by decide +kernel
theorem dX10_wipe_16 : decode cX10_wipe 16 = .ok (.ireturn, 1) := by decide +kernel
theorem i_RX10_238 {Z : qZ} {G : qG} {cc : ByteArray} {nL k n : Nat} {rm : Room} {ret : Option FieldType} {μ : qM} {pc : Nat} {L : List (Nat × Value)} {rest : List Value} {K : qM → Prop} {o : Nat} (C : qX Z G RX10 cc nL rm ret) (hn : 66 ≤ gn G) (hk_o : qk o = 7) (hR : (Nat.ble (0 + 1) rm.frames && Nat.ble (8 + (1 + 11) + 0) rm.locals) = true) (hf : k + 0 ≤ rm.cells ∧ n + 0 ≤ rm.slots) (hsz : Nat.ble (rest.map fun v => v.category).sum 8 = true) (hd : decode cc pc = .ok (.invokevirtual 238, 3)) (h : w_X8_empty o K μ) (hk : ∀ (μ1 : qM), K μ1 → qV Z G nL k n μ1 (pc + 3) L rest) : qV Z G nL k n μ pc L (.ref (ga G o) :: rest) := x_Vv [] rest C o 7 (wp := fun K => w_X8_empty o K μ) (y_X8_empty : qY yX8_empty cX8_empty 1 none 0 ({ frames := 0, cells := 0, slots := 0, locals := 0 } : Room) 0 0) (qm_37 _ (List.mem_of_getElem? (i := 4) rfl)) (qm_37 _ (List.mem_of_getElem? (i := 5) rfl)) (qm_37 _ (List.mem_of_getElem? (i := 3) rfl)) (c_X8_empty Z.2.1 G hn hk_o) (q_lt hk_o rfl hn) hk_o (by decide) rfl rfl hR hf rfl rfl hsz hd h hk
theorem y_X10_wipe : qY yX10_wipe cX10_wipe 2 (some .int) 0 ({ frames := 1, cells := 0, slots := 0, locals := 20 } : Room) 0 0 := ⟨(qm_37 _ (List.mem_of_getElem? (i := 2) rfl)), (qm_1 _ (List.mem_of_getElem? (i := 2) rfl)), by decide +kernel, by decide +kernel, rfl, rfl⟩
theorem c_X10_wipe (l : Launch) (G : qG) {μ : qM} (hn : 66 ≤ gn G) : qCi l G yX10_wipe cX10_wipe 2 (some .int) ({ frames := 1, cells := 0, slots := 0, locals := 20 } : Room) 0 0 [.ref (ga G 0)] μ (fun post => w_X10_wipe  post μ) := by
  refine qCi_of (L := [(0, .ref (ga G 0))]) (by decide) rfl rfl ?_
  intro Z post hl C hQ h
  have C : qX Z G RX10 cX10_wipe 2 ({ frames := 1, cells := 0, slots := 0, locals := 20 } : Room) (some .int) := C
  have h : w_X10_wipe  post μ := h
  unfold w_X10_wipe at h
  refine x_aload_n C 0 dX10_wipe_0 rfl rfl ?_
  refine g_RX10_29 C hn dX10_wipe_1 ?_
  refine i_RX10_235 (rest := []) C hn rfl rfl (by decide) rfl dX10_wipe_4 h (fun r4 μ4 h => ?_)
  refine x_istore_n C (L' := [(1, .int r4), (0, .ref (ga G 0))]) dX10_wipe_7 rfl (by decide) rfl ?_
  refine x_aload_n C 1 dX10_wipe_8 rfl rfl ?_
  refine g_RX10_29 C hn dX10_wipe_9 ?_
  refine i_RX10_238 (rest := []) C hn rfl rfl (by decide) rfl dX10_wipe_12 h (fun μ12 h => ?_)
  refine x_iload_n C 0 dX10_wipe_15 rfl rfl ?_
  exact x_iret C hQ dX10_wipe_16 h
theorem dX10_hold_0 : decode cX10_hold 0 = .ok (.iload_n 1, 1) := by decide +kernel
theorem dX10_hold_1 : decode cX10_hold 1 = .ok (.invokestatic 249, 3) := by decide +kernel
theorem dX10_hold_4 : decode cX10_hold 4 = .ok (.ifCond .eq 22, 3) := by decide +kernel
theorem dX10_hold_7 : decode cX10_hold 7 = .ok (.iload_n 2, 1) := by decide +kernel
theorem dX10_hold_8 : decode cX10_hold 8 = .ok (.iconst (-1), 1) := by decide +kernel
theorem dX10_hold_9 : decode cX10_hold 9 = .ok (.if_icmp .eq 24, 3) := by decide +kernel
theorem dX10_hold_12 : decode cX10_hold 12 = .ok (.aload_n 0, 1) := by decide +kernel
theorem dX10_hold_13 : decode cX10_hold 13 = .ok (.getfield 10, 3) := by decide +kernel
theorem dX10_hold_16 : decode cX10_hold 16 = .ok (.invokevirtual 85, 3) := by decide +kernel
theorem dX10_hold_19 : decode cX10_hold 19 = .ok (.iload_n 2, 1) := by decide +kernel
theorem dX10_hold_20 : decode cX10_hold 20 = .ok (.invokevirtual 121, 3) := by decide +kernel
theorem dX10_hold_23 : decode cX10_hold 23 = .ok (.ifCond .ne 10, 3) := by decide +kernel
theorem dX10_hold_26 : decode cX10_hold 26 = .ok (.aload_n 0, 1) := by decide +kernel
theorem dX10_hold_27 : decode cX10_hold 27 = .ok (.ldc 80, 2) := by decide +kernel
theorem dX10_hold_29 : decode cX10_hold 29 = .ok (.invokevirtual 81, 3) := by decide +kernel
theorem dX10_hold_32 : decode cX10_hold 32 = .ok (.ireturn, 1) := by decide +kernel
theorem dX10_hold_33 : decode cX10_hold 33 = .ok (.aload_n 0, 1) := by decide +kernel
theorem dX10_hold_34 : decode cX10_hold 34 = .ok (.getfield 10, 3) := by decide +kernel
theorem dX10_hold_37 : decode cX10_hold 37 = .ok (.iload_n 1, 1) := by decide +kernel
theorem dX10_hold_38 : decode cX10_hold 38 = .ok (.iload_n 2, 1) := by decide +kernel
theorem dX10_hold_39 : decode cX10_hold 39 = .ok (.invokevirtual 252, 3) := by decide +kernel
theorem dX10_hold_42 : decode cX10_hold 42 = .ok (.iconst 1, 1) := by decide +kernel
theorem dX10_hold_43 : decode cX10_hold 43 = .ok (.ireturn, 1) := by decide +kernel
theorem i_RX10_249 {Z : qZ} {G : qG} {cc : ByteArray} {nL k n : Nat} {rm : Room} {ret : Option FieldType} {μ : qM} {pc : Nat} {L : List (Nat × Value)} {rest : List Value} {K : Int32 → qM → Prop} {v0 : Int32} (C : qX Z G RX10 cc nL rm ret) (hn : 66 ≤ gn G) (hR : (Nat.ble (0 + 1) rm.frames && Nat.ble (8 + (1 + 11) + 0) rm.locals) = true) (hf : k + 0 ≤ rm.cells ∧ n + 0 ≤ rm.slots) (hsz : Nat.ble (rest.map fun v => v.category).sum 8 = true) (hd : decode cc pc = .ok (.invokestatic 249, 3)) (h : w_X10_isSpot v0 K μ) (hk : ∀ (r : Int32) (μ1 : qM), K r μ1 → qV Z G nL k n μ1 (pc + 3) L (.int r :: rest)) : qV Z G nL k n μ pc L (.int v0 :: rest) := x_Si [.int v0] rest C (wp := fun K => w_X10_isSpot v0 K μ) (y_X10_isSpot : qY yX10_isSpot cX10_isSpot 1 (some .boolean) 1 ({ frames := 0, cells := 0, slots := 0, locals := 0 } : Room) 0 0) (qm_45 _ (List.mem_of_getElem? (i := 3) rfl)) (qm_45 _ (List.mem_of_getElem? (i := 2) rfl)) (c_X10_isSpot Z.2.1 G hn ) hR hf rfl rfl hsz hd h hk
theorem i_RX10_252 {Z : qZ} {G : qG} {cc : ByteArray} {nL k n : Nat} {rm : Room} {ret : Option FieldType} {μ : qM} {pc : Nat} {L : List (Nat × Value)} {rest : List Value} {K : qM → Prop} {o : Nat} {v1 : Int32} {v2 : Int32} (C : qX Z G RX10 cc nL rm ret) (hn : 66 ≤ gn G) (hk_o : qk o = 8) (hR : (Nat.ble (1 + 1) rm.frames && Nat.ble (8 + (3 + 11) + 20) rm.locals) = true) (hf : k + 0 ≤ rm.cells ∧ n + 0 ≤ rm.slots) (hsz : Nat.ble (rest.map fun v => v.category).sum 8 = true) (hd : decode cc pc = .ok (.invokevirtual 252, 3)) (h : w_X9_setSpot o v1 v2 K μ) (hk : ∀ (μ1 : qM), K μ1 → qV Z G nL k n μ1 (pc + 3) L rest) : qV Z G nL k n μ pc L (.int v2 :: .int v1 :: .ref (ga G o) :: rest) := x_Vv [.int v1, .int v2] rest C o 8 (wp := fun K => w_X9_setSpot o v1 v2 K μ) (y_X9_setSpot : qY yX9_setSpot cX9_setSpot 3 none 2 ({ frames := 1, cells := 0, slots := 0, locals := 20 } : Room) 0 0) (qm_45 _ (List.mem_of_getElem? (i := 6) rfl)) (qm_45 _ (List.mem_of_getElem? (i := 7) rfl)) (qm_45 _ (List.mem_of_getElem? (i := 5) rfl)) (c_X9_setSpot Z.2.1 G hn hk_o) (q_lt hk_o rfl hn) hk_o (by decide) rfl rfl hR hf rfl rfl hsz hd h hk
theorem b_X10_hold_26 {Z : qZ} {G : qG} {μ : qM} {post : Int32 → qM → Prop} (C : qX Z G RX10 cX10_hold 3 ({ frames := 2, cells := 0, slots := 0, locals := 42 } : Room) (some .int)) (hQ : qQi Z G 0 0 post) (hn : 66 ≤ gn G) (h : q_X10_hold_26 post μ) : qV Z G 3 0 0 μ 26 [(0, .ref (ga G 0))] [] := by
  unfold q_X10_hold_26 at h
  refine x_aload_n C 0 dX10_hold_26 rfl rfl ?_
  refine x_ldc C (v := -1000001) (qm_6 _ (List.mem_of_getElem? (i := 16) rfl)) dX10_hold_27 ?_
  refine i_RX10_81 (rest := []) C hn  rfl (by decide) rfl dX10_hold_29 h (fun r29 μ29 h => ?_)
  exact x_iret C hQ dX10_hold_32 h
theorem b_X10_hold_33 {Z : qZ} {G : qG} {v1 : Int32} {v2 : Int32} {μ : qM} {post : Int32 → qM → Prop} (C : qX Z G RX10 cX10_hold 3 ({ frames := 2, cells := 0, slots := 0, locals := 42 } : Room) (some .int)) (hQ : qQi Z G 0 0 post) (hn : 66 ≤ gn G) (h : q_X10_hold_33 post v1 v2 μ) : qV Z G 3 0 0 μ 33 [(0, .ref (ga G 0)), (1, .int v1), (2, .int v2)] [] := by
  unfold q_X10_hold_33 at h
  refine x_aload_n C 0 dX10_hold_33 rfl rfl ?_
  refine g_RX10_10 C hn dX10_hold_34 ?_
  refine x_iload_n C 1 dX10_hold_37 rfl rfl ?_
  refine x_iload_n C 2 dX10_hold_38 rfl rfl ?_
  refine i_RX10_252 (rest := []) C hn rfl rfl (by decide) rfl dX10_hold_39 h (fun μ39 h => ?_)
  refine x_iconst C dX10_hold_42 (v := 1) (by decide) ?_
  exact x_iret C hQ dX10_hold_43 h
theorem y_X10_hold : qY yX10_hold cX10_hold 3 (some .int) 2 ({ frames := 2, cells := 0, slots := 0, locals := 42 } : Room) 0 0 := ⟨(qm_45 _ (List.mem_of_getElem? (i := 1) rfl)), (qm_1 _ (List.mem_of_getElem? (i := 2) rfl)), by decide +kernel, by decide +kernel, rfl, rfl⟩
theorem c_X10_hold (l : Launch) (G : qG) {v1 : Int32} {v2 : Int32} {μ : qM} (hn : 66 ≤ gn G) : qCi l G yX10_hold cX10_hold 3 (some .int) ({ frames := 2, cells := 0, slots := 0, locals := 42 } : Room) 0 0 [.ref (ga G 0), .int v1, .int v2] μ (fun post => w_X10_hold v1 v2 post μ) := by
  refine qCi_of (L := [(0, .ref (ga G 0)), (1, .int v1), (2, .int v2)]) (by decide) rfl rfl ?_
  intro Z post hl C hQ h
  have C : qX Z G RX10 cX10_hold 3 ({ frames := 2, cells := 0, slots := 0, locals := 42 } : Room) (some .int) := C
  have h : w_X10_hold v1 v2 post μ := h
  unfold w_X10_hold at h
  refine x_iload_n C 1 dX10_hold_0 rfl rfl ?_
  refine i_RX10_249 (rest := []) C hn  rfl (by decide) rfl dX10_hold_1 h (fun r1 μ1 h => ?_)
  refine x_if_eq C dX10_hold_4 (tgt := 26) (by decide) h (fun h => ?_) (fun h => ?_)
  · exact qV_sub [0] rfl (b_X10_hold_26 C hQ hn h)
  · refine x_iload_n C 2 dX10_hold_7 rfl rfl ?_
    refine x_iconst C dX10_hold_8 (v := -1) (by decide) ?_
    refine x_icmp_eq C dX10_hold_9 (tgt := 33) (by decide) h (fun h => ?_) (fun h => ?_)
    · exact b_X10_hold_33 C hQ hn h
    · refine x_aload_n C 0 dX10_hold_12 rfl rfl ?_
      refine g_RX10_10 C hn dX10_hold_13 ?_
      refine i_RX10_85 (rest := []) C hn rfl rfl (by decide) rfl dX10_hold_16 h (fun r16 μ16 h => ?_)
      obtain ⟨rfl, h⟩ := h
      refine x_iload_n C 2 dX10_hold_19 rfl rfl ?_
      refine i_RX10_121 (rest := []) C hn rfl rfl (by decide) rfl dX10_hold_20 h (fun r20 μ20 h => ?_)
      refine x_if_ne C dX10_hold_23 (tgt := 33) (by decide) h (fun h => ?_) (fun h => ?_)
      · exact b_X10_hold_33 C hQ hn h
      · exact qV_sub [0] rfl (b_X10_hold_26 C hQ hn h)
theorem dX10_as_0 : decode cX10_as 0 = .ok (.iload_n 1, 1) := by decide +kernel
theorem dX10_as_1 : decode cX10_as 1 = .ok (.invokestatic 249, 3) := by decide +kernel
theorem dX10_as_4 : decode cX10_as 4 = .ok (.ifCond .eq 10, 3) := by decide +kernel
theorem dX10_as_7 : decode cX10_as 7 = .ok (.iload_n 2, 1) := by decide +kernel
theorem dX10_as_8 : decode cX10_as 8 = .ok (.invokestatic 72, 3) := by decide +kernel
theorem dX10_as_11 : decode cX10_as 11 = .ok (.ifCond .ne 10, 3) := by decide +kernel
theorem dX10_as_14 : decode cX10_as 14 = .ok (.aload_n 0, 1) := by decide +kernel
theorem dX10_as_15 : decode cX10_as 15 = .ok (.ldc 80, 2) := by decide +kernel
theorem dX10_as_17 : decode cX10_as 17 = .ok (.invokevirtual 81, 3) := by decide +kernel
theorem dX10_as_20 : decode cX10_as 20 = .ok (.ireturn, 1) := by decide +kernel
theorem dX10_as_21 : decode cX10_as 21 = .ok (.aload_n 0, 1) := by decide +kernel
theorem dX10_as_22 : decode cX10_as 22 = .ok (.getfield 10, 3) := by decide +kernel
theorem dX10_as_25 : decode cX10_as 25 = .ok (.iload_n 1, 1) := by decide +kernel
theorem dX10_as_26 : decode cX10_as 26 = .ok (.invokevirtual 255, 3) := by decide +kernel
theorem dX10_as_29 : decode cX10_as 29 = .ok (.istore_n 3, 1) := by decide +kernel
theorem dX10_as_30 : decode cX10_as 30 = .ok (.aload_n 0, 1) := by decide +kernel
theorem dX10_as_31 : decode cX10_as 31 = .ok (.getfield 10, 3) := by decide +kernel
theorem dX10_as_34 : decode cX10_as 34 = .ok (.invokevirtual 85, 3) := by decide +kernel
theorem dX10_as_37 : decode cX10_as 37 = .ok (.iload_n 3, 1) := by decide +kernel
theorem dX10_as_38 : decode cX10_as 38 = .ok (.invokevirtual 121, 3) := by decide +kernel
theorem dX10_as_41 : decode cX10_as 41 = .ok (.ifCond .ne 11, 3) := by decide +kernel
theorem dX10_as_44 : decode cX10_as 44 = .ok (.aload_n 0, 1) := by decide +kernel
theorem dX10_as_45 : decode cX10_as 45 = .ok (.ldc_w 258, 3) := by decide +kernel
theorem dX10_as_48 : decode cX10_as 48 = .ok (.invokevirtual 81, 3) := by decide +kernel
theorem dX10_as_51 : decode cX10_as 51 = .ok (.ireturn, 1) := by decide +kernel
theorem dX10_as_52 : decode cX10_as 52 = .ok (.aload_n 0, 1) := by decide +kernel
theorem dX10_as_53 : decode cX10_as 53 = .ok (.getfield 10, 3) := by decide +kernel
theorem dX10_as_56 : decode cX10_as 56 = .ok (.invokevirtual 85, 3) := by decide +kernel
theorem dX10_as_59 : decode cX10_as 59 = .ok (.iload_n 3, 1) := by decide +kernel
theorem dX10_as_60 : decode cX10_as 60 = .ok (.invokevirtual 124, 3) := by decide +kernel
theorem dX10_as_63 : decode cX10_as 63 = .ok (.iload_n 2, 1) := by decide +kernel
theorem dX10_as_64 : decode cX10_as 64 = .ok (.invokestatic 259, 3) := by decide +kernel
theorem dX10_as_67 : decode cX10_as 67 = .ok (.ifCond .eq 7, 3) := by decide +kernel
theorem dX10_as_70 : decode cX10_as 70 = .ok (.iload_n 3, 1) := by decide +kernel
theorem dX10_as_71 : decode cX10_as 71 = .ok (.goto 10, 3) := by decide +kernel
theorem dX10_as_74 : decode cX10_as 74 = .ok (.aload_n 0, 1) := by decide +kernel
theorem dX10_as_75 : decode cX10_as 75 = .ok (.ldc_w 262, 3) := by decide +kernel
theorem dX10_as_78 : decode cX10_as 78 = .ok (.invokevirtual 81, 3) := by decide +kernel
theorem dX10_as_81 : decode cX10_as 81 = .ok (.ireturn, 1) := by decide +kernel
theorem i_RX10_255 {Z : qZ} {G : qG} {cc : ByteArray} {nL k n : Nat} {rm : Room} {ret : Option FieldType} {μ : qM} {pc : Nat} {L : List (Nat × Value)} {rest : List Value} {K : Int32 → qM → Prop} {o : Nat} {v1 : Int32} (C : qX Z G RX10 cc nL rm ret) (hn : 66 ≤ gn G) (hk_o : qk o = 8) (hR : (Nat.ble (1 + 1) rm.frames && Nat.ble (8 + (2 + 11) + 20) rm.locals) = true) (hf : k + 0 ≤ rm.cells ∧ n + 0 ≤ rm.slots) (hsz : Nat.ble (rest.map fun v => v.category).sum 8 = true) (hd : decode cc pc = .ok (.invokevirtual 255, 3)) (h : w_X9_spotOf o v1 K μ) (hk : ∀ (r : Int32) (μ1 : qM), K r μ1 → qV Z G nL k n μ1 (pc + 3) L (.int r :: rest)) : qV Z G nL k n μ pc L (.int v1 :: .ref (ga G o) :: rest) := x_Vi [.int v1] rest C o 8 (wp := fun K => w_X9_spotOf o v1 K μ) (y_X9_spotOf : qY yX9_spotOf cX9_spotOf 2 (some .int) 1 ({ frames := 1, cells := 0, slots := 0, locals := 20 } : Room) 0 0) (qm_45 _ (List.mem_of_getElem? (i := 20) rfl)) (qm_45 _ (List.mem_of_getElem? (i := 21) rfl)) (qm_45 _ (List.mem_of_getElem? (i := 19) rfl)) (c_X9_spotOf Z.2.1 G hn hk_o) (q_lt hk_o rfl hn) hk_o (by decide) rfl rfl hR hf rfl rfl hsz hd h hk
theorem i_RX10_259 {Z : qZ} {G : qG} {cc : ByteArray} {nL k n : Nat} {rm : Room} {ret : Option FieldType} {μ : qM} {pc : Nat} {L : List (Nat × Value)} {rest : List Value} {K : Int32 → qM → Prop} {v0 : Int32} {v1 : Int32} (C : qX Z G RX10 cc nL rm ret) (hn : 66 ≤ gn G) (hR : (Nat.ble (1 + 1) rm.frames && Nat.ble (8 + (4 + 11) + 20) rm.locals) = true) (hf : k + 0 ≤ rm.cells ∧ n + 0 ≤ rm.slots) (hsz : Nat.ble (rest.map fun v => v.category).sum 8 = true) (hd : decode cc pc = .ok (.invokestatic 259, 3)) (h : w_X2_isUnder v0 v1 K μ) (hk : ∀ (r : Int32) (μ1 : qM), K r μ1 → qV Z G nL k n μ1 (pc + 3) L (.int r :: rest)) : qV Z G nL k n μ pc L (.int v1 :: .int v0 :: rest) := x_Si [.int v0, .int v1] rest C (wp := fun K => w_X2_isUnder v0 v1 K μ) (y_X2_isUnder : qY yX2_isUnder cX2_isUnder 4 (some .boolean) 2 ({ frames := 1, cells := 0, slots := 0, locals := 20 } : Room) 0 0) (qm_46 _ (List.mem_of_getElem? (i := 0) rfl)) (qm_45 _ (List.mem_of_getElem? (i := 23) rfl)) (c_X2_isUnder Z.2.1 G hn ) hR hf rfl rfl hsz hd h hk
theorem b_X10_as_14 {Z : qZ} {G : qG} {μ : qM} {post : Int32 → qM → Prop} (C : qX Z G RX10 cX10_as 4 ({ frames := 2, cells := 0, slots := 0, locals := 43 } : Room) (some .int)) (hQ : qQi Z G 0 0 post) (hn : 66 ≤ gn G) (h : q_X10_as_14 post μ) : qV Z G 4 0 0 μ 14 [(0, .ref (ga G 0))] [] := by
  unfold q_X10_as_14 at h
  refine x_aload_n C 0 dX10_as_14 rfl rfl ?_
  refine x_ldc C (v := -1000001) (qm_6 _ (List.mem_of_getElem? (i := 16) rfl)) dX10_as_15 ?_
  refine i_RX10_81 (rest := []) C hn  rfl (by decide) rfl dX10_as_17 h (fun r17 μ17 h => ?_)
  exact x_iret C hQ dX10_as_20 h
theorem y_X10_as : qY yX10_as cX10_as 4 (some .int) 2 ({ frames := 2, cells := 0, slots := 0, locals := 43 } : Room) 0 0 := ⟨(qm_45 _ (List.mem_of_getElem? (i := 16) rfl)), (qm_1 _ (List.mem_of_getElem? (i := 2) rfl)), by decide +kernel, by decide +kernel, rfl, rfl⟩
theorem c_X10_as (l : Launch) (G : qG) {v1 : Int32} {v2 : Int32} {μ : qM} (hn : 66 ≤ gn G) : qCi l G yX10_as cX10_as 4 (some .int) ({ frames := 2, cells := 0, slots := 0, locals := 43 } : Room) 0 0 [.ref (ga G 0), .int v1, .int v2] μ (fun post => w_X10_as v1 v2 post μ) := by
  refine qCi_of (L := [(0, .ref (ga G 0)), (1, .int v1), (2, .int v2)]) (by decide) rfl rfl ?_
  intro Z post hl C hQ h
  have C : qX Z G RX10 cX10_as 4 ({ frames := 2, cells := 0, slots := 0, locals := 43 } : Room) (some .int) := C
  have h : w_X10_as v1 v2 post μ := h
  unfold w_X10_as at h
  refine x_iload_n C 1 dX10_as_0 rfl rfl ?_
  refine i_RX10_249 (rest := []) C hn  rfl (by decide) rfl dX10_as_1 h (fun r1 μ1 h => ?_)
  refine x_if_eq C dX10_as_4 (tgt := 14) (by decide) h (fun h => ?_) (fun h => ?_)
  · exact qV_sub [0] rfl (b_X10_as_14 C hQ hn h)
  · refine x_iload_n C 2 dX10_as_7 rfl rfl ?_
    refine i_RX10_72 (rest := []) C hn  rfl (by decide) rfl dX10_as_8 h (fun r8 μ8 h => ?_)
    refine x_if_ne C dX10_as_11 (tgt := 21) (by decide) h (fun h => ?_) (fun h => ?_)
    · refine x_aload_n C 0 dX10_as_21 rfl rfl ?_
      refine g_RX10_10 C hn dX10_as_22 ?_
      refine x_iload_n C 1 dX10_as_25 rfl rfl ?_
      refine i_RX10_255 (rest := []) C hn rfl rfl (by decide) rfl dX10_as_26 h (fun r26 μ26 h => ?_)
      refine x_istore_n C (L' := [(3, .int r26), (0, .ref (ga G 0)), (1, .int v1), (2, .int v2)]) dX10_as_29 rfl (by decide) rfl ?_
      refine x_aload_n C 1 dX10_as_30 rfl rfl ?_
      refine g_RX10_10 C hn dX10_as_31 ?_
      refine i_RX10_85 (rest := []) C hn rfl rfl (by decide) rfl dX10_as_34 h (fun r34 μ34 h => ?_)
      obtain ⟨rfl, h⟩ := h
      refine x_iload_n C 0 dX10_as_37 rfl rfl ?_
      refine i_RX10_121 (rest := []) C hn rfl rfl (by decide) rfl dX10_as_38 h (fun r38 μ38 h => ?_)
      refine x_if_ne C dX10_as_41 (tgt := 52) (by decide) h (fun h => ?_) (fun h => ?_)
      · refine x_aload_n C 1 dX10_as_52 rfl rfl ?_
        refine g_RX10_10 C hn dX10_as_53 ?_
        refine i_RX10_85 (rest := []) C hn rfl rfl (by decide) rfl dX10_as_56 h (fun r56 μ56 h => ?_)
        obtain ⟨rfl, h⟩ := h
        refine x_iload_n C 0 dX10_as_59 rfl rfl ?_
        refine i_RX10_124 (rest := []) C hn rfl rfl (by decide) rfl dX10_as_60 h (fun r60 μ60 h => ?_)
        refine x_iload_n C 3 dX10_as_63 rfl rfl ?_
        refine i_RX10_259 (rest := []) C hn  rfl (by decide) rfl dX10_as_64 h (fun r64 μ64 h => ?_)
        refine x_if_eq C dX10_as_67 (tgt := 74) (by decide) h (fun h => ?_) (fun h => ?_)
        · refine x_aload_n C 1 dX10_as_74 rfl rfl ?_
          refine x_ldcw C (v := -1000003) (qm_45 _ (List.mem_of_getElem? (i := 18) rfl)) dX10_as_75 ?_
          refine i_RX10_81 (rest := []) C hn  rfl (by decide) rfl dX10_as_78 h (fun r78 μ78 h => ?_)
          exact x_iret C hQ dX10_as_81 h
        · refine x_iload_n C 0 dX10_as_70 rfl rfl ?_
          refine x_goto C dX10_as_71 (tgt := 81) (by decide) ?_
          exact x_iret C hQ dX10_as_81 h
      · refine x_aload_n C 1 dX10_as_44 rfl rfl ?_
        refine x_ldcw C (v := -1000006) (qm_45 _ (List.mem_of_getElem? (i := 17) rfl)) dX10_as_45 ?_
        refine i_RX10_81 (rest := []) C hn  rfl (by decide) rfl dX10_as_48 h (fun r48 μ48 h => ?_)
        exact x_iret C hQ dX10_as_51 h
    · exact qV_sub [0] rfl (b_X10_as_14 C hQ hn h)
theorem dX10_sheet_0 : decode cX10_sheet 0 = .ok (.aload_n 0, 1) := by decide +kernel
theorem dX10_sheet_1 : decode cX10_sheet 1 = .ok (.iload_n 1, 1) := by decide +kernel
theorem dX10_sheet_2 : decode cX10_sheet 2 = .ok (.invokevirtual 263, 3) := by decide +kernel
theorem dX10_sheet_5 : decode cX10_sheet 5 = .ok (.astore 4, 2) := by decide +kernel
theorem dX10_sheet_7 : decode cX10_sheet 7 = .ok (.aload 4, 2) := by decide +kernel
theorem dX10_sheet_9 : decode cX10_sheet 9 = .ok (.ifnull 25, 3) := by decide +kernel
theorem dX10_sheet_12 : decode cX10_sheet 12 = .ok (.iload_n 2, 1) := by decide +kernel
theorem dX10_sheet_13 : decode cX10_sheet 13 = .ok (.ifCond .eq 28, 3) := by decide +kernel
theorem dX10_sheet_16 : decode cX10_sheet 16 = .ok (.iload_n 2, 1) := by decide +kernel
theorem dX10_sheet_17 : decode cX10_sheet 17 = .ok (.bipush 8, 2) := by decide +kernel
theorem dX10_sheet_19 : decode cX10_sheet 19 = .ok (.if_icmp .eq 22, 3) := by decide +kernel
theorem dX10_sheet_22 : decode cX10_sheet 22 = .ok (.iload_n 2, 1) := by decide +kernel
theorem dX10_sheet_23 : decode cX10_sheet 23 = .ok (.bipush 16, 2) := by decide +kernel
theorem dX10_sheet_25 : decode cX10_sheet 25 = .ok (.if_icmp .eq 16, 3) := by decide +kernel
theorem dX10_sheet_28 : decode cX10_sheet 28 = .ok (.iload_n 2, 1) := by decide +kernel
theorem dX10_sheet_29 : decode cX10_sheet 29 = .ok (.bipush 32, 2) := by decide +kernel
theorem dX10_sheet_31 : decode cX10_sheet 31 = .ok (.if_icmp .eq 10, 3) := by decide +kernel
theorem dX10_sheet_34 : decode cX10_sheet 34 = .ok (.aload_n 0, 1) := by decide +kernel
theorem dX10_sheet_35 : decode cX10_sheet 35 = .ok (.ldc 80, 2) := by decide +kernel
theorem dX10_sheet_37 : decode cX10_sheet 37 = .ok (.invokevirtual 81, 3) := by decide +kernel
theorem dX10_sheet_40 : decode cX10_sheet 40 = .ok (.ireturn, 1) := by decide +kernel
theorem dX10_sheet_41 : decode cX10_sheet 41 = .ok (.iload_n 3, 1) := by decide +kernel
theorem dX10_sheet_42 : decode cX10_sheet 42 = .ok (.ifCond .ge 11, 3) := by decide +kernel
theorem dX10_sheet_45 : decode cX10_sheet 45 = .ok (.aload_n 0, 1) := by decide +kernel
theorem dX10_sheet_46 : decode cX10_sheet 46 = .ok (.ldc_w 267, 3) := by decide +kernel
theorem dX10_sheet_49 : decode cX10_sheet 49 = .ok (.invokevirtual 81, 3) := by decide +kernel
theorem dX10_sheet_52 : decode cX10_sheet 52 = .ok (.ireturn, 1) := by decide +kernel
theorem dX10_sheet_53 : decode cX10_sheet 53 = .ok (.iload_n 3, 1) := by decide +kernel
theorem dX10_sheet_54 : decode cX10_sheet 54 = .ok (.bipush 40, 2) := by decide +kernel
theorem dX10_sheet_56 : decode cX10_sheet 56 = .ok (.if_icmp .le 10, 3) := by decide +kernel
theorem dX10_sheet_59 : decode cX10_sheet 59 = .ok (.aload_n 0, 1) := by decide +kernel
theorem dX10_sheet_60 : decode cX10_sheet 60 = .ok (.ldc 80, 2) := by decide +kernel
theorem dX10_sheet_62 : decode cX10_sheet 62 = .ok (.invokevirtual 81, 3) := by decide +kernel
theorem dX10_sheet_65 : decode cX10_sheet 65 = .ok (.ireturn, 1) := by decide +kernel
theorem dX10_sheet_66 : decode cX10_sheet 66 = .ok (.aload 4, 2) := by decide +kernel
theorem dX10_sheet_68 : decode cX10_sheet 68 = .ok (.iload_n 2, 1) := by decide +kernel
theorem dX10_sheet_69 : decode cX10_sheet 69 = .ok (.iload_n 3, 1) := by decide +kernel
theorem dX10_sheet_70 : decode cX10_sheet 70 = .ok (.invokevirtual 268, 3) := by decide +kernel
theorem dX10_sheet_73 : decode cX10_sheet 73 = .ok (.aload 4, 2) := by decide +kernel
theorem dX10_sheet_75 : decode cX10_sheet 75 = .ok (.invokevirtual 271, 3) := by decide +kernel
theorem dX10_sheet_78 : decode cX10_sheet 78 = .ok (.ireturn, 1) := by decide +kernel
theorem i_RX10_263 {Z : qZ} {G : qG} {cc : ByteArray} {nL k n : Nat} {rm : Room} {ret : Option FieldType} {μ : qM} {pc : Nat} {L : List (Nat × Value)} {rest : List Value} {K : Option Nat → qM → Prop} {v1 : Int32} (C : qX Z G RX10 cc nL rm ret) (hn : 66 ≤ gn G) (hR : (Nat.ble (0 + 1) rm.frames && Nat.ble (8 + (2 + 11) + 0) rm.locals) = true) (hf : k + 0 ≤ rm.cells ∧ n + 0 ≤ rm.slots) (hsz : Nat.ble (rest.map fun v => v.category).sum 8 = true) (hd : decode cc pc = .ok (.invokevirtual 263, 3)) (h : w_X10_sheetAt v1 K μ) (hk : ∀ (r : Option Nat) (μ1 : qM), K r μ1 → qV Z G nL k n μ1 (pc + 3) L (va_re (ga G) r :: rest)) : qV Z G nL k n μ pc L (.int v1 :: .ref (ga G 0) :: rest) := x_Vq [.int v1] rest C 0 9 (wp := fun K => w_X10_sheetAt v1 K μ) (y_X10_sheetAt : qY yX10_sheetAt cX10_sheetAt 2 (some (.object "EqualPlain$Sheet")) 1 ({ frames := 0, cells := 0, slots := 0, locals := 0 } : Room) 0 0) (qm_46 _ (List.mem_of_getElem? (i := 21) rfl)) (qm_46 _ (List.mem_of_getElem? (i := 22) rfl)) (qm_46 _ (List.mem_of_getElem? (i := 20) rfl)) (c_X10_sheetAt Z.2.1 G hn ) (Nat.lt_of_lt_of_le (by decide) hn) rfl (by decide) rfl rfl hR hf rfl rfl hsz hd h hk
theorem i_RX10_268 {Z : qZ} {G : qG} {cc : ByteArray} {nL k n : Nat} {rm : Room} {ret : Option FieldType} {μ : qM} {pc : Nat} {L : List (Nat × Value)} {rest : List Value} {K : qM → Prop} {o : Nat} {v1 : Int32} {v2 : Int32} (C : qX Z G RX10 cc nL rm ret) (hn : 66 ≤ gn G) (hk_o : qk o = 5) (hR : (Nat.ble (1 + 1) rm.frames && Nat.ble (8 + (3 + 11) + 23) rm.locals) = true) (hf : k + 0 ≤ rm.cells ∧ n + 0 ≤ rm.slots) (hsz : Nat.ble (rest.map fun v => v.category).sum 8 = true) (hd : decode cc pc = .ok (.invokevirtual 268, 3)) (h : w_X6_rule o v1 v2 K μ) (hk : ∀ (μ1 : qM), K μ1 → qV Z G nL k n μ1 (pc + 3) L rest) : qV Z G nL k n μ pc L (.int v2 :: .int v1 :: .ref (ga G o) :: rest) := x_Vv [.int v1, .int v2] rest C o 5 (wp := fun K => w_X6_rule o v1 v2 K μ) (y_X6_rule : qY yX6_rule cX6_rule 3 none 2 ({ frames := 1, cells := 0, slots := 0, locals := 23 } : Room) 0 0) (qm_47 _ (List.mem_of_getElem? (i := 1) rfl)) (qm_47 _ (List.mem_of_getElem? (i := 2) rfl)) (qm_47 _ (List.mem_of_getElem? (i := 0) rfl)) (c_X6_rule Z.2.1 G hn hk_o) (q_lt hk_o rfl hn) hk_o (by decide) rfl rfl hR hf rfl rfl hsz hd h hk
theorem i_RX10_271 {Z : qZ} {G : qG} {cc : ByteArray} {nL k n : Nat} {rm : Room} {ret : Option FieldType} {μ : qM} {pc : Nat} {L : List (Nat × Value)} {rest : List Value} {K : Int32 → qM → Prop} {o : Nat} (C : qX Z G RX10 cc nL rm ret) (hn : 66 ≤ gn G) (hk_o : qk o = 5) (hR : (Nat.ble (0 + 1) rm.frames && Nat.ble (8 + (1 + 11) + 0) rm.locals) = true) (hf : k + 0 ≤ rm.cells ∧ n + 0 ≤ rm.slots) (hsz : Nat.ble (rest.map fun v => v.category).sum 8 = true) (hd : decode cc pc = .ok (.invokevirtual 271, 3)) (h : w_X6_size o K μ) (hk : ∀ (r : Int32) (μ1 : qM), K r μ1 → qV Z G nL k n μ1 (pc + 3) L (.int r :: rest)) : qV Z G nL k n μ pc L (.ref (ga G o) :: rest) := x_Vi [] rest C o 5 (wp := fun K => w_X6_size o K μ) (y_X6_size : qY yX6_size cX6_size 1 (some .int) 0 ({ frames := 0, cells := 0, slots := 0, locals := 0 } : Room) 0 0) (qm_47 _ (List.mem_of_getElem? (i := 6) rfl)) (qm_47 _ (List.mem_of_getElem? (i := 7) rfl)) (qm_47 _ (List.mem_of_getElem? (i := 5) rfl)) (c_X6_size Z.2.1 G hn hk_o) (q_lt hk_o rfl hn) hk_o (by decide) rfl rfl hR hf rfl rfl hsz hd h hk
theorem b_X10_sheet_34 {Z : qZ} {G : qG} {μ : qM} {post : Int32 → qM → Prop} (C : qX Z G RX10 cX10_sheet 5 ({ frames := 2, cells := 0, slots := 0, locals := 45 } : Room) (some .int)) (hQ : qQi Z G 0 0 post) (hn : 66 ≤ gn G) (h : q_X10_sheet_34 post μ) : qV Z G 5 0 0 μ 34 [(0, .ref (ga G 0))] [] := by
  unfold q_X10_sheet_34 at h
  refine x_aload_n C 0 dX10_sheet_34 rfl rfl ?_
  refine x_ldc C (v := -1000001) (qm_6 _ (List.mem_of_getElem? (i := 16) rfl)) dX10_sheet_35 ?_
  refine i_RX10_81 (rest := []) C hn  rfl (by decide) rfl dX10_sheet_37 h (fun r37 μ37 h => ?_)
  exact x_iret C hQ dX10_sheet_40 h
theorem b_X10_sheet_41 {Z : qZ} {G : qG} {v1 : Int32} {v2 : Int32} {v3 : Int32} {μ : qM} {post : Int32 → qM → Prop} (C : qX Z G RX10 cX10_sheet 5 ({ frames := 2, cells := 0, slots := 0, locals := 45 } : Room) (some .int)) (hQ : qQi Z G 0 0 post) (hn : 66 ≤ gn G) (hs2 : qk (25 + 2 * v1.toNatClampNeg) = 5) (h : q_X10_sheet_41 post v1 v2 v3 μ) : qV Z G 5 0 0 μ 41 [(0, .ref (ga G 0)), (1, .int v1), (2, .int v2), (3, .int v3), (4, .ref (ga G (25 + 2 * v1.toNatClampNeg)))] [] := by
  unfold q_X10_sheet_41 at h
  refine x_iload_n C 3 dX10_sheet_41 rfl rfl ?_
  refine x_if_ge C dX10_sheet_42 (tgt := 53) (by decide) h (fun h => ?_) (fun h => ?_)
  · refine x_iload_n C 3 dX10_sheet_53 rfl rfl ?_
    refine x_bipush C dX10_sheet_54 (v := 40) (by decide) ?_
    refine x_icmp_le C dX10_sheet_56 (tgt := 66) (by decide) h (fun h => ?_) (fun h => ?_)
    · refine x_aload C 4 dX10_sheet_66 rfl ?_
      refine x_iload_n C 2 dX10_sheet_68 rfl rfl ?_
      refine x_iload_n C 3 dX10_sheet_69 rfl rfl ?_
      refine i_RX10_268 (rest := []) C hn hs2 rfl (by decide) rfl dX10_sheet_70 h (fun μ70 h => ?_)
      refine x_aload C 4 dX10_sheet_73 rfl ?_
      refine i_RX10_271 (rest := []) C hn hs2 rfl (by decide) rfl dX10_sheet_75 h (fun r75 μ75 h => ?_)
      exact x_iret C hQ dX10_sheet_78 h
    · refine x_aload_n C 0 dX10_sheet_59 rfl rfl ?_
      refine x_ldc C (v := -1000001) (qm_6 _ (List.mem_of_getElem? (i := 16) rfl)) dX10_sheet_60 ?_
      refine i_RX10_81 (rest := []) C hn  rfl (by decide) rfl dX10_sheet_62 h (fun r62 μ62 h => ?_)
      exact x_iret C hQ dX10_sheet_65 h
  · refine x_aload_n C 0 dX10_sheet_45 rfl rfl ?_
    refine x_ldcw C (v := -1000007) (qm_46 _ (List.mem_of_getElem? (i := 19) rfl)) dX10_sheet_46 ?_
    refine i_RX10_81 (rest := []) C hn  rfl (by decide) rfl dX10_sheet_49 h (fun r49 μ49 h => ?_)
    exact x_iret C hQ dX10_sheet_52 h
theorem y_X10_sheet : qY yX10_sheet cX10_sheet 5 (some .int) 3 ({ frames := 2, cells := 0, slots := 0, locals := 45 } : Room) 0 0 := ⟨(qm_46 _ (List.mem_of_getElem? (i := 18) rfl)), (qm_1 _ (List.mem_of_getElem? (i := 2) rfl)), by decide +kernel, by decide +kernel, rfl, rfl⟩
theorem c_X10_sheet (l : Launch) (G : qG) {v1 : Int32} {v2 : Int32} {v3 : Int32} {μ : qM} (hn : 66 ≤ gn G) : qCi l G yX10_sheet cX10_sheet 5 (some .int) ({ frames := 2, cells := 0, slots := 0, locals := 45 } : Room) 0 0 [.ref (ga G 0), .int v1, .int v2, .int v3] μ (fun post => w_X10_sheet v1 v2 v3 post μ) := by
  refine qCi_of (L := [(0, .ref (ga G 0)), (1, .int v1), (2, .int v2), (3, .int v3)]) (by decide) rfl rfl ?_
  intro Z post hl C hQ h
  have C : qX Z G RX10 cX10_sheet 5 ({ frames := 2, cells := 0, slots := 0, locals := 45 } : Room) (some .int) := C
  have h : w_X10_sheet v1 v2 v3 post μ := h
  unfold w_X10_sheet at h
  refine x_aload_n C 0 dX10_sheet_0 rfl rfl ?_
  refine x_iload_n C 1 dX10_sheet_1 rfl rfl ?_
  refine i_RX10_263 (rest := []) C hn  rfl (by decide) rfl dX10_sheet_2 h (fun r2 μ2 h => ?_)
  refine x_q2 h (fun h => ?_) (fun hs2 h => ?_)
  · refine x_astoreN C (L' := [(4, .null), (0, .ref (ga G 0)), (1, .int v1), (2, .int v2), (3, .int v3)]) dX10_sheet_5 (by decide) rfl ?_
    refine x_aloadN C 0 dX10_sheet_7 rfl ?_
    refine x_ifnullN C dX10_sheet_9 (tgt := 34) (by decide) ?_
    exact qV_sub [1] rfl (b_X10_sheet_34 C hQ hn h)
  · refine x_astore C (L' := [(4, .ref (ga G (25 + 2 * v1.toNatClampNeg))), (0, .ref (ga G 0)), (1, .int v1), (2, .int v2), (3, .int v3)]) dX10_sheet_5 (by decide) rfl ?_
    refine x_aload C 0 dX10_sheet_7 rfl ?_
    refine x_ifnull C dX10_sheet_9 ?_
    refine x_iload_n C 3 dX10_sheet_12 rfl rfl ?_
    refine x_if_eq C dX10_sheet_13 (tgt := 41) (by decide) h (fun h => ?_) (fun h => ?_)
    · exact qV_sub [1, 2, 3, 4, 0] rfl (b_X10_sheet_41 C hQ hn hs2 h)
    · refine x_iload_n C 3 dX10_sheet_16 rfl rfl ?_
      refine x_bipush C dX10_sheet_17 (v := 8) (by decide) ?_
      refine x_icmp_eq C dX10_sheet_19 (tgt := 41) (by decide) h (fun h => ?_) (fun h => ?_)
      · exact qV_sub [1, 2, 3, 4, 0] rfl (b_X10_sheet_41 C hQ hn hs2 h)
      · refine x_iload_n C 3 dX10_sheet_22 rfl rfl ?_
        refine x_bipush C dX10_sheet_23 (v := 16) (by decide) ?_
        refine x_icmp_eq C dX10_sheet_25 (tgt := 41) (by decide) h (fun h => ?_) (fun h => ?_)
        · exact qV_sub [1, 2, 3, 4, 0] rfl (b_X10_sheet_41 C hQ hn hs2 h)
        · refine x_iload_n C 3 dX10_sheet_28 rfl rfl ?_
          refine x_bipush C dX10_sheet_29 (v := 32) (by decide) ?_
          refine x_icmp_eq C dX10_sheet_31 (tgt := 41) (by decide) h (fun h => ?_) (fun h => ?_)
          · exact qV_sub [1, 2, 3, 4, 0] rfl (b_X10_sheet_41 C hQ hn hs2 h)
          · exact qV_sub [1] rfl (b_X10_sheet_34 C hQ hn h)
theorem dX10_write_0 : decode cX10_write 0 = .ok (.aload_n 0, 1) := by decide +kernel
theorem dX10_write_1 : decode cX10_write 1 = .ok (.iload_n 1, 1) := by decide +kernel
theorem dX10_write_2 : decode cX10_write 2 = .ok (.invokevirtual 263, 3) := by decide +kernel
theorem dX10_write_5 : decode cX10_write 5 = .ok (.astore 4, 2) := by decide +kernel
theorem dX10_write_7 : decode cX10_write 7 = .ok (.aload 4, 2) := by decide +kernel
theorem dX10_write_9 : decode cX10_write 9 = .ok (.ifnonnull 10, 3) := by decide +kernel
theorem dX10_write_12 : decode cX10_write 12 = .ok (.aload_n 0, 1) := by decide +kernel
theorem dX10_write_13 : decode cX10_write 13 = .ok (.ldc 80, 2) := by decide +kernel
theorem dX10_write_15 : decode cX10_write 15 = .ok (.invokevirtual 81, 3) := by decide +kernel
theorem dX10_write_18 : decode cX10_write 18 = .ok (.ireturn, 1) := by decide +kernel
theorem dX10_write_19 : decode cX10_write 19 = .ok (.aload 4, 2) := by decide +kernel
theorem dX10_write_21 : decode cX10_write 21 = .ok (.invokevirtual 272, 3) := by decide +kernel
theorem dX10_write_24 : decode cX10_write 24 = .ok (.ifCond .eq 11, 3) := by decide +kernel
theorem dX10_write_27 : decode cX10_write 27 = .ok (.aload_n 0, 1) := by decide +kernel
theorem dX10_write_28 : decode cX10_write 28 = .ok (.ldc_w 258, 3) := by decide +kernel
theorem dX10_write_31 : decode cX10_write 31 = .ok (.invokevirtual 81, 3) := by decide +kernel
theorem dX10_write_34 : decode cX10_write 34 = .ok (.ireturn, 1) := by decide +kernel
theorem dX10_write_35 : decode cX10_write 35 = .ok (.iload_n 2, 1) := by decide +kernel
theorem dX10_write_36 : decode cX10_write 36 = .ok (.ifCond .lt 12, 3) := by decide +kernel
theorem dX10_write_39 : decode cX10_write 39 = .ok (.iload_n 2, 1) := by decide +kernel
theorem dX10_write_40 : decode cX10_write 40 = .ok (.aload 4, 2) := by decide +kernel
theorem dX10_write_42 : decode cX10_write 42 = .ok (.invokevirtual 271, 3) := by decide +kernel
theorem dX10_write_45 : decode cX10_write 45 = .ok (.if_icmp .lt 10, 3) := by decide +kernel
theorem dX10_write_48 : decode cX10_write 48 = .ok (.aload_n 0, 1) := by decide +kernel
theorem dX10_write_49 : decode cX10_write 49 = .ok (.ldc 80, 2) := by decide +kernel
theorem dX10_write_51 : decode cX10_write 51 = .ok (.invokevirtual 81, 3) := by decide +kernel
theorem dX10_write_54 : decode cX10_write 54 = .ok (.ireturn, 1) := by decide +kernel
theorem dX10_write_55 : decode cX10_write 55 = .ok (.aload 4, 2) := by decide +kernel
theorem dX10_write_57 : decode cX10_write 57 = .ok (.iload_n 2, 1) := by decide +kernel
theorem dX10_write_58 : decode cX10_write 58 = .ok (.iload_n 3, 1) := by decide +kernel
theorem dX10_write_59 : decode cX10_write 59 = .ok (.invokevirtual 275, 3) := by decide +kernel
theorem dX10_write_62 : decode cX10_write 62 = .ok (.iconst 1, 1) := by decide +kernel
theorem dX10_write_63 : decode cX10_write 63 = .ok (.ireturn, 1) := by decide +kernel
theorem i_RX10_272 {Z : qZ} {G : qG} {cc : ByteArray} {nL k n : Nat} {rm : Room} {ret : Option FieldType} {μ : qM} {pc : Nat} {L : List (Nat × Value)} {rest : List Value} {K : Int32 → qM → Prop} {o : Nat} (C : qX Z G RX10 cc nL rm ret) (hn : 66 ≤ gn G) (hk_o : qk o = 5) (hR : (Nat.ble (0 + 1) rm.frames && Nat.ble (8 + (1 + 11) + 0) rm.locals) = true) (hf : k + 0 ≤ rm.cells ∧ n + 0 ≤ rm.slots) (hsz : Nat.ble (rest.map fun v => v.category).sum 8 = true) (hd : decode cc pc = .ok (.invokevirtual 272, 3)) (h : w_X6_isMissing o K μ) (hk : ∀ (r : Int32) (μ1 : qM), K r μ1 → qV Z G nL k n μ1 (pc + 3) L (.int r :: rest)) : qV Z G nL k n μ pc L (.ref (ga G o) :: rest) := x_Vi [] rest C o 5 (wp := fun K => w_X6_isMissing o K μ) (y_X6_isMissing : qY yX6_isMissing cX6_isMissing 1 (some .boolean) 0 ({ frames := 0, cells := 0, slots := 0, locals := 0 } : Room) 0 0) (qm_47 _ (List.mem_of_getElem? (i := 21) rfl)) (qm_47 _ (List.mem_of_getElem? (i := 22) rfl)) (qm_47 _ (List.mem_of_getElem? (i := 20) rfl)) (c_X6_isMissing Z.2.1 G hn hk_o) (q_lt hk_o rfl hn) hk_o (by decide) rfl rfl hR hf rfl rfl hsz hd h hk
theorem i_RX10_275 {Z : qZ} {G : qG} {cc : ByteArray} {nL k n : Nat} {rm : Room} {ret : Option FieldType} {μ : qM} {pc : Nat} {L : List (Nat × Value)} {rest : List Value} {K : qM → Prop} {o : Nat} {v1 : Int32} {v2 : Int32} (C : qX Z G RX10 cc nL rm ret) (hn : 66 ≤ gn G) (hk_o : qk o = 5) (hR : (Nat.ble (0 + 1) rm.frames && Nat.ble (8 + (3 + 11) + 0) rm.locals) = true) (hf : k + 0 ≤ rm.cells ∧ n + 0 ≤ rm.slots) (hsz : Nat.ble (rest.map fun v => v.category).sum 8 = true) (hd : decode cc pc = .ok (.invokevirtual 275, 3)) (h : w_X6_set o v1 v2 K μ) (hk : ∀ (μ1 : qM), K μ1 → qV Z G nL k n μ1 (pc + 3) L rest) : qV Z G nL k n μ pc L (.int v2 :: .int v1 :: .ref (ga G o) :: rest) := x_Vv [.int v1, .int v2] rest C o 5 (wp := fun K => w_X6_set o v1 v2 K μ) (y_X6_set : qY yX6_set cX6_set 3 none 2 ({ frames := 0, cells := 0, slots := 0, locals := 0 } : Room) 0 0) (qm_48 _ (List.mem_of_getElem? (i := 1) rfl)) (qm_48 _ (List.mem_of_getElem? (i := 2) rfl)) (qm_48 _ (List.mem_of_getElem? (i := 0) rfl)) (c_X6_set Z.2.1 G hn hk_o) (q_lt hk_o rfl hn) hk_o (by decide) rfl rfl hR hf rfl rfl hsz hd h hk
theorem b_X10_write_48 {Z : qZ} {G : qG} {μ : qM} {post : Int32 → qM → Prop} (C : qX Z G RX10 cX10_write 5 ({ frames := 1, cells := 0, slots := 0, locals := 22 } : Room) (some .int)) (hQ : qQi Z G 0 0 post) (hn : 66 ≤ gn G) (h : q_X10_write_48 post μ) : qV Z G 5 0 0 μ 48 [(0, .ref (ga G 0))] [] := by
  unfold q_X10_write_48 at h
  refine x_aload_n C 0 dX10_write_48 rfl rfl ?_
  refine x_ldc C (v := -1000001) (qm_6 _ (List.mem_of_getElem? (i := 16) rfl)) dX10_write_49 ?_
  refine i_RX10_81 (rest := []) C hn  rfl (by decide) rfl dX10_write_51 h (fun r51 μ51 h => ?_)
  exact x_iret C hQ dX10_write_54 h
theorem y_X10_write : qY yX10_write cX10_write 5 (some .int) 3 ({ frames := 1, cells := 0, slots := 0, locals := 22 } : Room) 0 0 := ⟨(qm_47 _ (List.mem_of_getElem? (i := 19) rfl)), (qm_1 _ (List.mem_of_getElem? (i := 2) rfl)), by decide +kernel, by decide +kernel, rfl, rfl⟩
theorem c_X10_write (l : Launch) (G : qG) {v1 : Int32} {v2 : Int32} {v3 : Int32} {μ : qM} (hn : 66 ≤ gn G) : qCi l G yX10_write cX10_write 5 (some .int) ({ frames := 1, cells := 0, slots := 0, locals := 22 } : Room) 0 0 [.ref (ga G 0), .int v1, .int v2, .int v3] μ (fun post => w_X10_write v1 v2 v3 post μ) := by
  refine qCi_of (L := [(0, .ref (ga G 0)), (1, .int v1), (2, .int v2), (3, .int v3)]) (by decide) rfl rfl ?_
  intro Z post hl C hQ h
  have C : qX Z G RX10 cX10_write 5 ({ frames := 1, cells := 0, slots := 0, locals := 22 } : Room) (some .int) := C
  have h : w_X10_write v1 v2 v3 post μ := h
  unfold w_X10_write at h
  refine x_aload_n C 0 dX10_write_0 rfl rfl ?_
  refine x_iload_n C 1 dX10_write_1 rfl rfl ?_
  refine i_RX10_263 (rest := []) C hn  rfl (by decide) rfl dX10_write_2 h (fun r2 μ2 h => ?_)
  refine x_q2 h (fun h => ?_) (fun hs2 h => ?_)
  · refine x_astoreN C (L' := [(4, .null), (0, .ref (ga G 0)), (1, .int v1), (2, .int v2), (3, .int v3)]) dX10_write_5 (by decide) rfl ?_
    refine x_aloadN C 0 dX10_write_7 rfl ?_
    refine x_ifnonnullN C dX10_write_9 ?_
    refine x_aload_n C 1 dX10_write_12 rfl rfl ?_
    refine x_ldc C (v := -1000001) (qm_6 _ (List.mem_of_getElem? (i := 16) rfl)) dX10_write_13 ?_
    refine i_RX10_81 (rest := []) C hn  rfl (by decide) rfl dX10_write_15 h (fun r15 μ15 h => ?_)
    exact x_iret C hQ dX10_write_18 h
  · refine x_astore C (L' := [(4, .ref (ga G (25 + 2 * v1.toNatClampNeg))), (0, .ref (ga G 0)), (1, .int v1), (2, .int v2), (3, .int v3)]) dX10_write_5 (by decide) rfl ?_
    refine x_aload C 0 dX10_write_7 rfl ?_
    refine x_ifnonnull C dX10_write_9 (tgt := 19) (by decide) ?_
    refine x_aload C 0 dX10_write_19 rfl ?_
    refine i_RX10_272 (rest := []) C hn hs2 rfl (by decide) rfl dX10_write_21 h (fun r21 μ21 h => ?_)
    refine x_if_eq C dX10_write_24 (tgt := 35) (by decide) h (fun h => ?_) (fun h => ?_)
    · refine x_iload_n C 3 dX10_write_35 rfl rfl ?_
      refine x_if_lt C dX10_write_36 (tgt := 48) (by decide) h (fun h => ?_) (fun h => ?_)
      · exact qV_sub [1] rfl (b_X10_write_48 C hQ hn h)
      · refine x_iload_n C 3 dX10_write_39 rfl rfl ?_
        refine x_aload C 0 dX10_write_40 rfl ?_
        refine i_RX10_271 (rest := [.int v2]) C hn hs2 rfl (by decide) rfl dX10_write_42 h (fun r42 μ42 h => ?_)
        refine x_icmp_lt C dX10_write_45 (tgt := 55) (by decide) h (fun h => ?_) (fun h => ?_)
        · refine x_aload C 0 dX10_write_55 rfl ?_
          refine x_iload_n C 3 dX10_write_57 rfl rfl ?_
          refine x_iload_n C 4 dX10_write_58 rfl rfl ?_
          refine i_RX10_275 (rest := []) C hn hs2 rfl (by decide) rfl dX10_write_59 h (fun μ59 h => ?_)
          refine x_iconst C dX10_write_62 (v := 1) (by decide) ?_
          exact x_iret C hQ dX10_write_63 h
        · exact qV_sub [1] rfl (b_X10_write_48 C hQ hn h)
    · refine x_aload_n C 1 dX10_write_27 rfl rfl ?_
      refine x_ldcw C (v := -1000006) (qm_45 _ (List.mem_of_getElem? (i := 17) rfl)) dX10_write_28 ?_
      refine i_RX10_81 (rest := []) C hn  rfl (by decide) rfl dX10_write_31 h (fun r31 μ31 h => ?_)
      exact x_iret C hQ dX10_write_34 h
theorem dX10_copy_0 : decode cX10_copy 0 = .ok (.aload_n 0, 1) := by decide +kernel
theorem dX10_copy_1 : decode cX10_copy 1 = .ok (.iload_n 1, 1) := by decide +kernel
theorem dX10_copy_2 : decode cX10_copy 2 = .ok (.invokevirtual 263, 3) := by decide +kernel
theorem dX10_copy_5 : decode cX10_copy 5 = .ok (.astore 6, 2) := by decide +kernel
theorem dX10_copy_7 : decode cX10_copy 7 = .ok (.aload_n 0, 1) := by decide +kernel
theorem dX10_copy_8 : decode cX10_copy 8 = .ok (.iload_n 3, 1) := by decide +kernel
theorem dX10_copy_9 : decode cX10_copy 9 = .ok (.invokevirtual 263, 3) := by decide +kernel
theorem dX10_copy_12 : decode cX10_copy 12 = .ok (.astore 7, 2) := by decide +kernel
theorem dX10_copy_14 : decode cX10_copy 14 = .ok (.aload 6, 2) := by decide +kernel
theorem dX10_copy_16 : decode cX10_copy 16 = .ok (.ifnull 8, 3) := by decide +kernel
theorem dX10_copy_19 : decode cX10_copy 19 = .ok (.aload 7, 2) := by decide +kernel
theorem dX10_copy_21 : decode cX10_copy 21 = .ok (.ifnonnull 10, 3) := by decide +kernel
theorem dX10_copy_24 : decode cX10_copy 24 = .ok (.aload_n 0, 1) := by decide +kernel
theorem dX10_copy_25 : decode cX10_copy 25 = .ok (.ldc 80, 2) := by decide +kernel
theorem dX10_copy_27 : decode cX10_copy 27 = .ok (.invokevirtual 81, 3) := by decide +kernel
theorem dX10_copy_30 : decode cX10_copy 30 = .ok (.ireturn, 1) := by decide +kernel
theorem dX10_copy_31 : decode cX10_copy 31 = .ok (.aload 6, 2) := by decide +kernel
theorem dX10_copy_33 : decode cX10_copy 33 = .ok (.invokevirtual 272, 3) := by decide +kernel
theorem dX10_copy_36 : decode cX10_copy 36 = .ok (.ifCond .ne 11, 3) := by decide +kernel
theorem dX10_copy_39 : decode cX10_copy 39 = .ok (.aload 7, 2) := by decide +kernel
theorem dX10_copy_41 : decode cX10_copy 41 = .ok (.invokevirtual 272, 3) := by decide +kernel
theorem dX10_copy_44 : decode cX10_copy 44 = .ok (.ifCond .eq 11, 3) := by decide +kernel
theorem dX10_copy_47 : decode cX10_copy 47 = .ok (.aload_n 0, 1) := by decide +kernel
theorem dX10_copy_48 : decode cX10_copy 48 = .ok (.ldc_w 258, 3) := by decide +kernel
theorem dX10_copy_51 : decode cX10_copy 51 = .ok (.invokevirtual 81, 3) := by decide +kernel
theorem dX10_copy_54 : decode cX10_copy 54 = .ok (.ireturn, 1) := by decide +kernel
theorem dX10_copy_55 : decode cX10_copy 55 = .ok (.aload 6, 2) := by decide +kernel
theorem dX10_copy_57 : decode cX10_copy 57 = .ok (.invokevirtual 278, 3) := by decide +kernel
theorem dX10_copy_60 : decode cX10_copy 60 = .ok (.aload 7, 2) := by decide +kernel
theorem dX10_copy_62 : decode cX10_copy 62 = .ok (.invokevirtual 278, 3) := by decide +kernel
theorem dX10_copy_65 : decode cX10_copy 65 = .ok (.if_icmp .eq 11, 3) := by decide +kernel
theorem dX10_copy_68 : decode cX10_copy 68 = .ok (.aload_n 0, 1) := by decide +kernel
theorem dX10_copy_69 : decode cX10_copy 69 = .ok (.ldc_w 262, 3) := by decide +kernel
theorem dX10_copy_72 : decode cX10_copy 72 = .ok (.invokevirtual 81, 3) := by decide +kernel
theorem dX10_copy_75 : decode cX10_copy 75 = .ok (.ireturn, 1) := by decide +kernel
theorem dX10_copy_76 : decode cX10_copy 76 = .ok (.aload 6, 2) := by decide +kernel
theorem dX10_copy_78 : decode cX10_copy 78 = .ok (.iload_n 2, 1) := by decide +kernel
theorem dX10_copy_79 : decode cX10_copy 79 = .ok (.iload 5, 2) := by decide +kernel
theorem dX10_copy_81 : decode cX10_copy 81 = .ok (.invokevirtual 281, 3) := by decide +kernel
theorem dX10_copy_84 : decode cX10_copy 84 = .ok (.ifCond .eq 15, 3) := by decide +kernel
theorem dX10_copy_87 : decode cX10_copy 87 = .ok (.aload 7, 2) := by decide +kernel
theorem dX10_copy_89 : decode cX10_copy 89 = .ok (.iload 4, 2) := by decide +kernel
theorem dX10_copy_91 : decode cX10_copy 91 = .ok (.iload 5, 2) := by decide +kernel
theorem dX10_copy_93 : decode cX10_copy 93 = .ok (.invokevirtual 281, 3) := by decide +kernel
theorem dX10_copy_96 : decode cX10_copy 96 = .ok (.ifCond .ne 10, 3) := by decide +kernel
theorem dX10_copy_99 : decode cX10_copy 99 = .ok (.aload_n 0, 1) := by decide +kernel
theorem dX10_copy_100 : decode cX10_copy 100 = .ok (.ldc 80, 2) := by decide +kernel
theorem dX10_copy_102 : decode cX10_copy 102 = .ok (.invokevirtual 81, 3) := by decide +kernel
theorem dX10_copy_105 : decode cX10_copy 105 = .ok (.ireturn, 1) := by decide +kernel
theorem dX10_copy_106 : decode cX10_copy 106 = .ok (.aload 7, 2) := by decide +kernel
theorem dX10_copy_108 : decode cX10_copy 108 = .ok (.iload 4, 2) := by decide +kernel
theorem dX10_copy_110 : decode cX10_copy 110 = .ok (.aload 6, 2) := by decide +kernel
theorem dX10_copy_112 : decode cX10_copy 112 = .ok (.iload_n 2, 1) := by decide +kernel
theorem dX10_copy_113 : decode cX10_copy 113 = .ok (.iload 5, 2) := by decide +kernel
theorem dX10_copy_115 : decode cX10_copy 115 = .ok (.invokevirtual 284, 3) := by decide +kernel
theorem dX10_copy_118 : decode cX10_copy 118 = .ok (.iload 5, 2) := by decide +kernel
theorem dX10_copy_120 : decode cX10_copy 120 = .ok (.ireturn, 1) := by decide +kernel
theorem i_RX10_278 {Z : qZ} {G : qG} {cc : ByteArray} {nL k n : Nat} {rm : Room} {ret : Option FieldType} {μ : qM} {pc : Nat} {L : List (Nat × Value)} {rest : List Value} {K : Int32 → qM → Prop} {o : Nat} (C : qX Z G RX10 cc nL rm ret) (hn : 66 ≤ gn G) (hk_o : qk o = 5) (hR : (Nat.ble (0 + 1) rm.frames && Nat.ble (8 + (1 + 11) + 0) rm.locals) = true) (hf : k + 0 ≤ rm.cells ∧ n + 0 ≤ rm.slots) (hsz : Nat.ble (rest.map fun v => v.category).sum 8 = true) (hd : decode cc pc = .ok (.invokevirtual 278, 3)) (h : w_X6_bits o K μ) (hk : ∀ (r : Int32) (μ1 : qM), K r μ1 → qV Z G nL k n μ1 (pc + 3) L (.int r :: rest)) : qV Z G nL k n μ pc L (.ref (ga G o) :: rest) := x_Vi [] rest C o 5 (wp := fun K => w_X6_bits o K μ) (y_X6_bits : qY yX6_bits cX6_bits 1 (some .int) 0 ({ frames := 0, cells := 0, slots := 0, locals := 0 } : Room) 0 0) (qm_48 _ (List.mem_of_getElem? (i := 20) rfl)) (qm_48 _ (List.mem_of_getElem? (i := 21) rfl)) (qm_48 _ (List.mem_of_getElem? (i := 19) rfl)) (c_X6_bits Z.2.1 G hn hk_o) (q_lt hk_o rfl hn) hk_o (by decide) rfl rfl hR hf rfl rfl hsz hd h hk
theorem i_RX10_281 {Z : qZ} {G : qG} {cc : ByteArray} {nL k n : Nat} {rm : Room} {ret : Option FieldType} {μ : qM} {pc : Nat} {L : List (Nat × Value)} {rest : List Value} {K : Int32 → qM → Prop} {o : Nat} {v1 : Int32} {v2 : Int32} (C : qX Z G RX10 cc nL rm ret) (hn : 66 ≤ gn G) (hk_o : qk o = 5) (hR : (Nat.ble (0 + 1) rm.frames && Nat.ble (8 + (3 + 11) + 0) rm.locals) = true) (hf : k + 0 ≤ rm.cells ∧ n + 0 ≤ rm.slots) (hsz : Nat.ble (rest.map fun v => v.category).sum 8 = true) (hd : decode cc pc = .ok (.invokevirtual 281, 3)) (h : w_X6_holds o v1 v2 K μ) (hk : ∀ (r : Int32) (μ1 : qM), K r μ1 → qV Z G nL k n μ1 (pc + 3) L (.int r :: rest)) : qV Z G nL k n μ pc L (.int v2 :: .int v1 :: .ref (ga G o) :: rest) := x_Vi [.int v1, .int v2] rest C o 5 (wp := fun K => w_X6_holds o v1 v2 K μ) (y_X6_holds : qY yX6_holds cX6_holds 3 (some .boolean) 2 ({ frames := 0, cells := 0, slots := 0, locals := 0 } : Room) 0 0) (qm_49 _ (List.mem_of_getElem? (i := 0) rfl)) (qm_49 _ (List.mem_of_getElem? (i := 1) rfl)) (qm_48 _ (List.mem_of_getElem? (i := 23) rfl)) (c_X6_holds Z.2.1 G hn hk_o) (q_lt hk_o rfl hn) hk_o (by decide) rfl rfl hR hf rfl rfl hsz hd h hk
theorem i_RX10_284 {Z : qZ} {G : qG} {cc : ByteArray} {nL k n : Nat} {rm : Room} {ret : Option FieldType} {μ : qM} {pc : Nat} {L : List (Nat × Value)} {rest : List Value} {K : qM → Prop} {o : Nat} {o2 : Nat} {v1 : Int32} {v3 : Int32} {v4 : Int32} (C : qX Z G RX10 cc nL rm ret) (hn : 66 ≤ gn G) (hk_o : qk o = 5) (hk_o2 : qk o2 = 5) (hR : (Nat.ble (1 + 1) rm.frames && Nat.ble (8 + (5 + 11) + 48) rm.locals) = true) (hf : k + 0 ≤ rm.cells ∧ n + 0 ≤ rm.slots) (hsz : Nat.ble (rest.map fun v => v.category).sum 8 = true) (hd : decode cc pc = .ok (.invokevirtual 284, 3)) (h : w_X6_take o o2 v1 v3 v4 K μ) (hk : ∀ (μ1 : qM), K μ1 → qV Z G nL k n μ1 (pc + 3) L rest) : qV Z G nL k n μ pc L (.int v4 :: .int v3 :: .ref (ga G o2) :: .int v1 :: .ref (ga G o) :: rest) := x_Vv [.int v1, .ref (ga G o2), .int v3, .int v4] rest C o 5 (wp := fun K => w_X6_take o o2 v1 v3 v4 K μ) (y_X6_take : qY yX6_take cX6_take 5 none 4 ({ frames := 1, cells := 0, slots := 0, locals := 48 } : Room) 0 0) (qm_49 _ (List.mem_of_getElem? (i := 4) rfl)) (qm_49 _ (List.mem_of_getElem? (i := 5) rfl)) (qm_49 _ (List.mem_of_getElem? (i := 3) rfl)) (c_X6_take Z.2.1 G hn hk_o hk_o2) (q_lt hk_o rfl hn) hk_o (by decide) rfl rfl hR hf rfl rfl hsz hd h hk
theorem b_X10_copy_24 {Z : qZ} {G : qG} {μ : qM} {post : Int32 → qM → Prop} (C : qX Z G RX10 cX10_copy 8 ({ frames := 2, cells := 0, slots := 0, locals := 72 } : Room) (some .int)) (hQ : qQi Z G 0 0 post) (hn : 66 ≤ gn G) (h : q_X10_copy_24 post μ) : qV Z G 8 0 0 μ 24 [(0, .ref (ga G 0))] [] := by
  unfold q_X10_copy_24 at h
  refine x_aload_n C 0 dX10_copy_24 rfl rfl ?_
  refine x_ldc C (v := -1000001) (qm_6 _ (List.mem_of_getElem? (i := 16) rfl)) dX10_copy_25 ?_
  refine i_RX10_81 (rest := []) C hn  rfl (by decide) rfl dX10_copy_27 h (fun r27 μ27 h => ?_)
  exact x_iret C hQ dX10_copy_30 h
theorem b_X10_copy_47 {Z : qZ} {G : qG} {μ : qM} {post : Int32 → qM → Prop} (C : qX Z G RX10 cX10_copy 8 ({ frames := 2, cells := 0, slots := 0, locals := 72 } : Room) (some .int)) (hQ : qQi Z G 0 0 post) (hn : 66 ≤ gn G) (h : q_X10_copy_47 post μ) : qV Z G 8 0 0 μ 47 [(0, .ref (ga G 0))] [] := by
  unfold q_X10_copy_47 at h
  refine x_aload_n C 0 dX10_copy_47 rfl rfl ?_
  refine x_ldcw C (v := -1000006) (qm_45 _ (List.mem_of_getElem? (i := 17) rfl)) dX10_copy_48 ?_
  refine i_RX10_81 (rest := []) C hn  rfl (by decide) rfl dX10_copy_51 h (fun r51 μ51 h => ?_)
  exact x_iret C hQ dX10_copy_54 h
theorem b_X10_copy_99 {Z : qZ} {G : qG} {μ : qM} {post : Int32 → qM → Prop} (C : qX Z G RX10 cX10_copy 8 ({ frames := 2, cells := 0, slots := 0, locals := 72 } : Room) (some .int)) (hQ : qQi Z G 0 0 post) (hn : 66 ≤ gn G) (h : q_X10_copy_99 post μ) : qV Z G 8 0 0 μ 99 [(0, .ref (ga G 0))] [] := by
  unfold q_X10_copy_99 at h
  refine x_aload_n C 0 dX10_copy_99 rfl rfl ?_
  refine x_ldc C (v := -1000001) (qm_6 _ (List.mem_of_getElem? (i := 16) rfl)) dX10_copy_100 ?_
  refine i_RX10_81 (rest := []) C hn  rfl (by decide) rfl dX10_copy_102 h (fun r102 μ102 h => ?_)
  exact x_iret C hQ dX10_copy_105 h
theorem y_X10_copy : qY yX10_copy cX10_copy 8 (some .int) 5 ({ frames := 2, cells := 0, slots := 0, locals := 72 } : Room) 0 0 := ⟨(qm_48 _ (List.mem_of_getElem? (i := 18) rfl)), (qm_1 _ (List.mem_of_getElem? (i := 2) rfl)), by decide +kernel, by decide +kernel, rfl, rfl⟩
theorem c_X10_copy (l : Launch) (G : qG) {v1 : Int32} {v2 : Int32} {v3 : Int32} {v4 : Int32} {v5 : Int32} {μ : qM} (hn : 66 ≤ gn G) : qCi l G yX10_copy cX10_copy 8 (some .int) ({ frames := 2, cells := 0, slots := 0, locals := 72 } : Room) 0 0 [.ref (ga G 0), .int v1, .int v2, .int v3, .int v4, .int v5] μ (fun post => w_X10_copy v1 v2 v3 v4 v5 post μ) := by
  refine qCi_of (L := [(0, .ref (ga G 0)), (1, .int v1), (2, .int v2), (3, .int v3), (4, .int v4), (5, .int v5)]) (by decide) rfl rfl ?_
  intro Z post hl C hQ h
  have C : qX Z G RX10 cX10_copy 8 ({ frames := 2, cells := 0, slots := 0, locals := 72 } : Room) (some .int) := C
  have h : w_X10_copy v1 v2 v3 v4 v5 post μ := h
  unfold w_X10_copy at h
  refine x_aload_n C 0 dX10_copy_0 rfl rfl ?_
  refine x_iload_n C 1 dX10_copy_1 rfl rfl ?_
  refine i_RX10_263 (rest := []) C hn  rfl (by decide) rfl dX10_copy_2 h (fun r2 μ2 h => ?_)
  refine x_q2 h (fun h => ?_) (fun hs2 h => ?_)
  · refine x_astoreN C (L' := [(6, .null), (0, .ref (ga G 0)), (1, .int v1), (2, .int v2), (3, .int v3), (4, .int v4), (5, .int v5)]) dX10_copy_5 (by decide) rfl ?_
    refine x_aload_n C 1 dX10_copy_7 rfl rfl ?_
    refine x_iload_n C 4 dX10_copy_8 rfl rfl ?_
    refine i_RX10_263 (rest := []) C hn  rfl (by decide) rfl dX10_copy_9 h (fun r9 μ9 h => ?_)
    refine x_q2 h (fun h => ?_) (fun hs9 h => ?_)
    · refine x_astoreN C (L' := [(7, .null), (6, .null), (0, .ref (ga G 0)), (1, .int v1), (2, .int v2), (3, .int v3), (4, .int v4), (5, .int v5)]) dX10_copy_12 (by decide) rfl ?_
      refine x_aloadN C 1 dX10_copy_14 rfl ?_
      refine x_ifnullN C dX10_copy_16 (tgt := 24) (by decide) ?_
      exact qV_sub [2] rfl (b_X10_copy_24 C hQ hn h)
    · refine x_astore C (L' := [(7, .ref (ga G (25 + 2 * v3.toNatClampNeg))), (6, .null), (0, .ref (ga G 0)), (1, .int v1), (2, .int v2), (3, .int v3), (4, .int v4), (5, .int v5)]) dX10_copy_12 (by decide) rfl ?_
      refine x_aloadN C 1 dX10_copy_14 rfl ?_
      refine x_ifnullN C dX10_copy_16 (tgt := 24) (by decide) ?_
      exact qV_sub [2] rfl (b_X10_copy_24 C hQ hn h)
  · refine x_astore C (L' := [(6, .ref (ga G (25 + 2 * v1.toNatClampNeg))), (0, .ref (ga G 0)), (1, .int v1), (2, .int v2), (3, .int v3), (4, .int v4), (5, .int v5)]) dX10_copy_5 (by decide) rfl ?_
    refine x_aload_n C 1 dX10_copy_7 rfl rfl ?_
    refine x_iload_n C 4 dX10_copy_8 rfl rfl ?_
    refine i_RX10_263 (rest := []) C hn  rfl (by decide) rfl dX10_copy_9 h (fun r9 μ9 h => ?_)
    refine x_q2 h (fun h => ?_) (fun hs9 h => ?_)
    · refine x_astoreN C (L' := [(7, .null), (6, .ref (ga G (25 + 2 * v1.toNatClampNeg))), (0, .ref (ga G 0)), (1, .int v1), (2, .int v2), (3, .int v3), (4, .int v4), (5, .int v5)]) dX10_copy_12 (by decide) rfl ?_
      refine x_aload C 1 dX10_copy_14 rfl ?_
      refine x_ifnull C dX10_copy_16 ?_
      refine x_aloadN C 0 dX10_copy_19 rfl ?_
      refine x_ifnonnullN C dX10_copy_21 ?_
      exact qV_sub [2] rfl (b_X10_copy_24 C hQ hn h)
    · refine x_astore C (L' := [(7, .ref (ga G (25 + 2 * v3.toNatClampNeg))), (6, .ref (ga G (25 + 2 * v1.toNatClampNeg))), (0, .ref (ga G 0)), (1, .int v1), (2, .int v2), (3, .int v3), (4, .int v4), (5, .int v5)]) dX10_copy_12 (by decide) rfl ?_
      refine x_aload C 1 dX10_copy_14 rfl ?_
      refine x_ifnull C dX10_copy_16 ?_
      refine x_aload C 0 dX10_copy_19 rfl ?_
      refine x_ifnonnull C dX10_copy_21 (tgt := 31) (by decide) ?_
      refine x_aload C 1 dX10_copy_31 rfl ?_
      refine i_RX10_272 (rest := []) C hn hs2 rfl (by decide) rfl dX10_copy_33 h (fun r33 μ33 h => ?_)
      refine x_if_ne C dX10_copy_36 (tgt := 47) (by decide) h (fun h => ?_) (fun h => ?_)
      · exact qV_sub [2] rfl (b_X10_copy_47 C hQ hn h)
      · refine x_aload C 0 dX10_copy_39 rfl ?_
        refine i_RX10_272 (rest := []) C hn hs9 rfl (by decide) rfl dX10_copy_41 h (fun r41 μ41 h => ?_)
        refine x_if_eq C dX10_copy_44 (tgt := 55) (by decide) h (fun h => ?_) (fun h => ?_)
        · refine x_aload C 1 dX10_copy_55 rfl ?_
          refine i_RX10_278 (rest := []) C hn hs2 rfl (by decide) rfl dX10_copy_57 h (fun r57 μ57 h => ?_)
          refine x_aload C 0 dX10_copy_60 rfl ?_
          refine i_RX10_278 (rest := [.int r57]) C hn hs9 rfl (by decide) rfl dX10_copy_62 h (fun r62 μ62 h => ?_)
          refine x_icmp_eq C dX10_copy_65 (tgt := 76) (by decide) h (fun h => ?_) (fun h => ?_)
          · refine x_aload C 1 dX10_copy_76 rfl ?_
            refine x_iload_n C 4 dX10_copy_78 rfl rfl ?_
            refine x_iload C 7 dX10_copy_79 rfl ?_
            refine i_RX10_281 (rest := []) C hn hs2 rfl (by decide) rfl dX10_copy_81 h (fun r81 μ81 h => ?_)
            refine x_if_eq C dX10_copy_84 (tgt := 99) (by decide) h (fun h => ?_) (fun h => ?_)
            · exact qV_sub [2] rfl (b_X10_copy_99 C hQ hn h)
            · refine x_aload C 0 dX10_copy_87 rfl ?_
              refine x_iload C 6 dX10_copy_89 rfl ?_
              refine x_iload C 7 dX10_copy_91 rfl ?_
              refine i_RX10_281 (rest := []) C hn hs9 rfl (by decide) rfl dX10_copy_93 h (fun r93 μ93 h => ?_)
              refine x_if_ne C dX10_copy_96 (tgt := 106) (by decide) h (fun h => ?_) (fun h => ?_)
              · refine x_aload C 0 dX10_copy_106 rfl ?_
                refine x_iload C 6 dX10_copy_108 rfl ?_
                refine x_aload C 1 dX10_copy_110 rfl ?_
                refine x_iload_n C 4 dX10_copy_112 rfl rfl ?_
                refine x_iload C 7 dX10_copy_113 rfl ?_
                refine i_RX10_284 (rest := []) C hn hs9 hs2 rfl (by decide) rfl dX10_copy_115 h (fun μ115 h => ?_)
                refine x_iload C 7 dX10_copy_118 rfl ?_
                exact x_iret C hQ dX10_copy_120 h
              · exact qV_sub [2] rfl (b_X10_copy_99 C hQ hn h)
          · refine x_aload_n C 2 dX10_copy_68 rfl rfl ?_
            refine x_ldcw C (v := -1000003) (qm_45 _ (List.mem_of_getElem? (i := 18) rfl)) dX10_copy_69 ?_
            refine i_RX10_81 (rest := []) C hn  rfl (by decide) rfl dX10_copy_72 h (fun r72 μ72 h => ?_)
            exact x_iret C hQ dX10_copy_75 h
        · exact qV_sub [2] rfl (b_X10_copy_47 C hQ hn h)
