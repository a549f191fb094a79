theorem dX1_size_0 : decode cX1_size 0 = .ok (.aload_n 0, 1) := by decide +kernel
theorem dX1_size_1 : decode cX1_size 1 = .ok (.getfield 9, 3) := by decide +kernel
theorem dX1_size_4 : decode cX1_size 4 = .ok (.ireturn, 1) := by decide +kernel
theorem g_RX1_9 {Z : qZ} {G : qG} {cc : ByteArray} {nL k n : Nat} {rm : Room} {ret : Option FieldType} {μ : qM} {pc : Nat} {L : List (Nat × Value)} {st : List Value} {o : Nat} (C : qX Z G RX1 cc nL rm ret) (hn : 66 ≤ gn G) (hk : qk o = 1) (hd : decode cc pc = .ok (.getfield 9, 3)) (h : qV Z G nL k n μ (pc + 3) L (.int (μ o 0) :: st)) : qV Z G nL k n μ pc L (.ref (ga G o) :: st) := x_geti C o 1 0 (C0 := RX1) (fn := "size") (fd := "I") (q_lt hk rfl hn) hk (by decide) rfl (by decide) rfl inlX1 (qm_3 _ (List.mem_of_getElem? (i := 13) rfl)) rfl hd h
theorem y_X1_size : qY yX1_size cX1_size 1 (some .int) 0 ({ frames := 0, cells := 0, slots := 0, locals := 0 } : Room) 0 0 := ⟨(qm_8 _ (List.mem_of_getElem? (i := 7) rfl)), (qm_3 _ (List.mem_of_getElem? (i := 3) rfl)), by decide +kernel, by decide +kernel, rfl, rfl⟩
theorem c_X1_size (l : Launch) (G : qG) {o : Nat} {μ : qM} (hn : 66 ≤ gn G) (hk_o : qk o = 1) : qCi l G yX1_size cX1_size 1 (some .int) ({ frames := 0, cells := 0, slots := 0, locals := 0 } : Room) 0 0 [.ref (ga G o)] μ (fun post => w_X1_size o post μ) := by
  refine qCi_of (L := [(0, .ref (ga G o))]) (by decide) rfl rfl ?_
  intro Z post hl C hQ h
  have C : qX Z G RX1 cX1_size 1 ({ frames := 0, cells := 0, slots := 0, locals := 0 } : Room) (some .int) := C
  have h : w_X1_size o post μ := h
  unfold w_X1_size at h
  refine x_aload_n C 0 dX1_size_0 rfl rfl ?_
  refine g_RX1_9 C hn hk_o dX1_size_1 ?_
  exact x_iret C hQ dX1_size_4 h
theorem dX1_has_0 : decode cX1_has 0 = .ok (.iload_n 1, 1) := by decide +kernel
theorem dX1_has_1 : decode cX1_has 1 = .ok (.ifCond .lt 15, 3) := by decide +kernel
theorem dX1_has_4 : decode cX1_has 4 = .ok (.iload_n 1, 1) := by decide +kernel
theorem dX1_has_5 : decode cX1_has 5 = .ok (.aload_n 0, 1) := by decide +kernel
theorem dX1_has_6 : decode cX1_has 6 = .ok (.getfield 9, 3) := by decide +kernel
theorem dX1_has_9 : decode cX1_has 9 = .ok (.if_icmp .ge 7, 3) := by decide +kernel
theorem dX1_has_12 : decode cX1_has 12 = .ok (.iconst 1, 1) := by decide +kernel
theorem dX1_has_13 : decode cX1_has 13 = .ok (.goto 4, 3) := by decide +kernel
theorem dX1_has_16 : decode cX1_has 16 = .ok (.iconst 0, 1) := by decide +kernel
theorem dX1_has_17 : decode cX1_has 17 = .ok (.ireturn, 1) := by decide +kernel
theorem b_X1_has_16 {Z : qZ} {G : qG} {o : Nat} {μ : qM} {post : Int32 → qM → Prop} (C : qX Z G RX1 cX1_has 2 ({ frames := 0, cells := 0, slots := 0, locals := 0 } : Room) (some .boolean)) (hQ : qQi Z G 0 0 post) (hn : 66 ≤ gn G) (hk_o : qk o = 1) (h : q_X1_has_16 o post μ) : qV Z G 2 0 0 μ 16 [] [] := by
  unfold q_X1_has_16 at h
  refine x_iconst C dX1_has_16 (v := 0) (by decide) ?_
  exact x_zret C hQ dX1_has_17 h
theorem y_X1_has : qY yX1_has cX1_has 2 (some .boolean) 1 ({ frames := 0, cells := 0, slots := 0, locals := 0 } : Room) 0 0 := ⟨(qm_13 _ (List.mem_of_getElem? (i := 4) rfl)), (qm_3 _ (List.mem_of_getElem? (i := 3) rfl)), by decide +kernel, by decide +kernel, rfl, rfl⟩
theorem c_X1_has (l : Launch) (G : qG) {o : Nat} {v1 : Int32} {μ : qM} (hn : 66 ≤ gn G) (hk_o : qk o = 1) : qCi l G yX1_has cX1_has 2 (some .boolean) ({ frames := 0, cells := 0, slots := 0, locals := 0 } : Room) 0 0 [.ref (ga G o), .int v1] μ (fun post => w_X1_has o v1 post μ) := by
  refine qCi_of (L := [(0, .ref (ga G o)), (1, .int v1)]) (by decide) rfl rfl ?_
  intro Z post hl C hQ h
  have C : qX Z G RX1 cX1_has 2 ({ frames := 0, cells := 0, slots := 0, locals := 0 } : Room) (some .boolean) := C
  have h : w_X1_has o v1 post μ := h
  unfold w_X1_has at h
  refine x_iload_n C 1 dX1_has_0 rfl rfl ?_
  refine x_if_lt C dX1_has_1 (tgt := 16) (by decide) h (fun h => ?_) (fun h => ?_)
  · exact qV_sub [] rfl (b_X1_has_16 C hQ hn hk_o h)
  · refine x_iload_n C 1 dX1_has_4 rfl rfl ?_
    refine x_aload_n C 0 dX1_has_5 rfl rfl ?_
    refine g_RX1_9 C hn hk_o dX1_has_6 ?_
    refine x_icmp_ge C dX1_has_9 (tgt := 16) (by decide) h (fun h => ?_) (fun h => ?_)
    · exact qV_sub [] rfl (b_X1_has_16 C hQ hn hk_o h)
    · refine x_iconst C dX1_has_12 (v := 1) (by decide) ?_
      refine x_goto C dX1_has_13 (tgt := 17) (by decide) ?_
      exact x_zret C hQ dX1_has_17 h
theorem dX1_homeOf_0 : decode cX1_homeOf 0 = .ok (.aload_n 0, 1) := by decide +kernel
theorem dX1_homeOf_1 : decode cX1_homeOf 1 = .ok (.iload_n 1, 1) := by decide +kernel
theorem dX1_homeOf_2 : decode cX1_homeOf 2 = .ok (.invokevirtual 25, 3) := by decide +kernel
theorem dX1_homeOf_5 : decode cX1_homeOf 5 = .ok (.ifCond .eq 12, 3) := by decide +kernel
theorem dX1_homeOf_8 : decode cX1_homeOf 8 = .ok (.aload_n 0, 1) := by decide +kernel
theorem dX1_homeOf_9 : decode cX1_homeOf 9 = .ok (.getfield 19, 3) := by decide +kernel
theorem dX1_homeOf_12 : decode cX1_homeOf 12 = .ok (.iload_n 1, 1) := by decide +kernel
theorem dX1_homeOf_13 : decode cX1_homeOf 13 = .ok (.iaload, 1) := by decide +kernel
theorem dX1_homeOf_14 : decode cX1_homeOf 14 = .ok (.goto 4, 3) := by decide +kernel
theorem dX1_homeOf_17 : decode cX1_homeOf 17 = .ok (.iconst (-1), 1) := by decide +kernel
theorem dX1_homeOf_18 : decode cX1_homeOf 18 = .ok (.ireturn, 1) := by decide +kernel
theorem i_RX1_25 {Z : qZ} {G : qG} {cc : ByteArray} {nL k n : Nat} {rm : Room} {ret : Option FieldType} {μ : qM} {pc : Nat} {L : List (Nat × Value)} {rest : List Value} {K : Int32 → qM → Prop} {o : Nat} {v1 : Int32} (C : qX Z G RX1 cc nL rm ret) (hn : 66 ≤ gn G) (hk_o : qk o = 1) (hR : (Nat.ble (0 + 1) rm.frames && Nat.ble (8 + (2 + 11) + 0) rm.locals) = true) (hf : k + 0 ≤ rm.cells ∧ n + 0 ≤ rm.slots) (hsz : Nat.ble (rest.map fun v => v.category).sum 8 = true) (hd : decode cc pc = .ok (.invokevirtual 25, 3)) (h : w_X1_has o v1 K μ) (hk : ∀ (r : Int32) (μ1 : qM), K r μ1 → qV Z G nL k n μ1 (pc + 3) L (.int r :: rest)) : qV Z G nL k n μ pc L (.int v1 :: .ref (ga G o) :: rest) := x_Vi [.int v1] rest C o 1 (wp := fun K => w_X1_has o v1 K μ) (y_X1_has : qY yX1_has cX1_has 2 (some .boolean) 1 ({ frames := 0, cells := 0, slots := 0, locals := 0 } : Room) 0 0) (qm_13 _ (List.mem_of_getElem? (i := 2) rfl)) (qm_13 _ (List.mem_of_getElem? (i := 3) rfl)) (qm_13 _ (List.mem_of_getElem? (i := 9) rfl)) (c_X1_has Z.2.1 G hn hk_o) (q_lt hk_o rfl hn) hk_o (by decide) rfl rfl hR hf rfl rfl hsz hd h hk
theorem g_RX1_19 {Z : qZ} {G : qG} {cc : ByteArray} {nL k n : Nat} {rm : Room} {ret : Option FieldType} {μ : qM} {pc : Nat} {L : List (Nat × Value)} {st : List Value} {o : Nat} (C : qX Z G RX1 cc nL rm ret) (hn : 66 ≤ gn G) (hk : qk o = 1) (hd : decode cc pc = .ok (.getfield 19, 3)) (h : qV Z G nL k n μ (pc + 3) L (.ref (ga G (o + 2)) :: st)) : qV Z G nL k n μ pc L (.ref (ga G o) :: st) := x_getr C o 1 2 2 (o + 2) (C0 := RX1) (fn := "homes") (fd := "[I") (q_lt hk rfl hn) hk (by decide) rfl (by decide) rfl inlX1 (qm_3 _ (List.mem_of_getElem? (i := 15) rfl)) rfl rfl rfl hd h
theorem y_X1_homeOf : qY yX1_homeOf cX1_homeOf 2 (some .int) 1 ({ frames := 1, cells := 0, slots := 0, locals := 21 } : Room) 0 0 := ⟨(qm_13 _ (List.mem_of_getElem? (i := 13) rfl)), (qm_3 _ (List.mem_of_getElem? (i := 3) rfl)), by decide +kernel, by decide +kernel, rfl, rfl⟩
theorem c_X1_homeOf (l : Launch) (G : qG) {o : Nat} {v1 : Int32} {μ : qM} (hn : 66 ≤ gn G) (hk_o : qk o = 1) : qCi l G yX1_homeOf cX1_homeOf 2 (some .int) ({ frames := 1, cells := 0, slots := 0, locals := 21 } : Room) 0 0 [.ref (ga G o), .int v1] μ (fun post => w_X1_homeOf o v1 post μ) := by
  refine qCi_of (L := [(0, .ref (ga G o)), (1, .int v1)]) (by decide) rfl rfl ?_
  intro Z post hl C hQ h
  have C : qX Z G RX1 cX1_homeOf 2 ({ frames := 1, cells := 0, slots := 0, locals := 21 } : Room) (some .int) := C
  have h : w_X1_homeOf o v1 post μ := h
  unfold w_X1_homeOf at h
  refine x_aload_n C 0 dX1_homeOf_0 rfl rfl ?_
  refine x_iload_n C 1 dX1_homeOf_1 rfl rfl ?_
  refine i_RX1_25 (rest := []) C hn hk_o rfl (by decide) rfl dX1_homeOf_2 h (fun r2 μ2 h => ?_)
  refine x_if_eq C dX1_homeOf_5 (tgt := 17) (by decide) h (fun h => ?_) (fun h => ?_)
  · refine x_iconst C dX1_homeOf_17 (v := -1) (by decide) ?_
    exact x_iret C hQ dX1_homeOf_18 h
  · refine x_aload_n C 0 dX1_homeOf_8 rfl rfl ?_
    refine g_RX1_19 C hn hk_o dX1_homeOf_9 ?_
    refine x_iload_n C 1 dX1_homeOf_12 rfl rfl ?_
    refine x_iald C (o + 2) 11 10 (q_lt (qn_1_2 hk_o) rfl hn) (qn_1_2 hk_o) rfl rfl rfl rfl dX1_homeOf_13 h (fun h => ?_)
    refine x_goto C dX1_homeOf_14 (tgt := 18) (by decide) ?_
    exact x_iret C hQ dX1_homeOf_18 h
theorem dX1_farOf_0 : decode cX1_farOf 0 = .ok (.aload_n 0, 1) := by decide +kernel
theorem dX1_farOf_1 : decode cX1_farOf 1 = .ok (.iload_n 1, 1) := by decide +kernel
theorem dX1_farOf_2 : decode cX1_farOf 2 = .ok (.invokevirtual 25, 3) := by decide +kernel
theorem dX1_farOf_5 : decode cX1_farOf 5 = .ok (.ifCond .eq 22, 3) := by decide +kernel
theorem dX1_farOf_8 : decode cX1_farOf 8 = .ok (.aload_n 0, 1) := by decide +kernel
theorem dX1_farOf_9 : decode cX1_farOf 9 = .ok (.getfield 15, 3) := by decide +kernel
theorem dX1_farOf_12 : decode cX1_farOf 12 = .ok (.iload_n 1, 1) := by decide +kernel
theorem dX1_farOf_13 : decode cX1_farOf 13 = .ok (.iaload, 1) := by decide +kernel
theorem dX1_farOf_14 : decode cX1_farOf 14 = .ok (.aload_n 0, 1) := by decide +kernel
theorem dX1_farOf_15 : decode cX1_farOf 15 = .ok (.getfield 19, 3) := by decide +kernel
theorem dX1_farOf_18 : decode cX1_farOf 18 = .ok (.iload_n 1, 1) := by decide +kernel
theorem dX1_farOf_19 : decode cX1_farOf 19 = .ok (.iaload, 1) := by decide +kernel
theorem dX1_farOf_20 : decode cX1_farOf 20 = .ok (.iload_n 2, 1) := by decide +kernel
theorem dX1_farOf_21 : decode cX1_farOf 21 = .ok (.invokestatic 33, 3) := by decide +kernel
theorem dX1_farOf_24 : decode cX1_farOf 24 = .ok (.goto 4, 3) := by decide +kernel
theorem dX1_farOf_27 : decode cX1_farOf 27 = .ok (.iconst (-1), 1) := by decide +kernel
theorem dX1_farOf_28 : decode cX1_farOf 28 = .ok (.ireturn, 1) := by decide +kernel
theorem i_RX1_33 {Z : qZ} {G : qG} {cc : ByteArray} {nL k n : Nat} {rm : Room} {ret : Option FieldType} {μ : qM} {pc : Nat} {L : List (Nat × Value)} {rest : List Value} {K : Int32 → qM → Prop} {v0 : Int32} {v1 : Int32} {v2 : Int32} (C : qX Z G RX1 cc nL rm ret) (hn : 66 ≤ gn G) (hR : (Nat.ble (0 + 1) rm.frames && Nat.ble (8 + (6 + 11) + 0) rm.locals) = true) (hf : k + 0 ≤ rm.cells ∧ n + 0 ≤ rm.slots) (hsz : Nat.ble (rest.map fun v => v.category).sum 8 = true) (hd : decode cc pc = .ok (.invokestatic 33, 3)) (h : w_X2_measure v0 v1 v2 K μ) (hk : ∀ (r : Int32) (μ1 : qM), K r μ1 → qV Z G nL k n μ1 (pc + 3) L (.int r :: rest)) : qV Z G nL k n μ pc L (.int v2 :: .int v1 :: .int v0 :: rest) := x_Si [.int v0, .int v1, .int v2] rest C (wp := fun K => w_X2_measure v0 v1 v2 K μ) (y_X2_measure : qY yX2_measure cX2_measure 6 (some .int) 3 ({ frames := 0, cells := 0, slots := 0, locals := 0 } : Room) 0 0) (qm_10 _ (List.mem_of_getElem? (i := 13) rfl)) (qm_10 _ (List.mem_of_getElem? (i := 12) rfl)) (c_X2_measure Z.2.1 G hn ) hR hf rfl rfl hsz hd h hk
theorem g_RX1_15 {Z : qZ} {G : qG} {cc : ByteArray} {nL k n : Nat} {rm : Room} {ret : Option FieldType} {μ : qM} {pc : Nat} {L : List (Nat × Value)} {st : List Value} {o : Nat} (C : qX Z G RX1 cc nL rm ret) (hn : 66 ≤ gn G) (hk : qk o = 1) (hd : decode cc pc = .ok (.getfield 15, 3)) (h : qV Z G nL k n μ (pc + 3) L (.ref (ga G (o + 1)) :: st)) : qV Z G nL k n μ pc L (.ref (ga G o) :: st) := x_getr C o 1 1 1 (o + 1) (C0 := RX1) (fn := "kinds") (fd := "[I") (q_lt hk rfl hn) hk (by decide) rfl (by decide) rfl inlX1 (qm_3 _ (List.mem_of_getElem? (i := 14) rfl)) rfl rfl rfl hd h
theorem y_X1_farOf : qY yX1_farOf cX1_farOf 3 (some .int) 2 ({ frames := 1, cells := 0, slots := 0, locals := 25 } : Room) 0 0 := ⟨(qm_16 _ (List.mem_of_getElem? (i := 22) rfl)), (qm_3 _ (List.mem_of_getElem? (i := 3) rfl)), by decide +kernel, by decide +kernel, rfl, rfl⟩
theorem c_X1_farOf (l : Launch) (G : qG) {o : Nat} {v1 : Int32} {v2 : Int32} {μ : qM} (hn : 66 ≤ gn G) (hk_o : qk o = 1) : qCi l G yX1_farOf cX1_farOf 3 (some .int) ({ frames := 1, cells := 0, slots := 0, locals := 25 } : Room) 0 0 [.ref (ga G o), .int v1, .int v2] μ (fun post => w_X1_farOf o v1 v2 post μ) := by
  refine qCi_of (L := [(0, .ref (ga G o)), (1, .int v1), (2, .int v2)]) (by decide) rfl rfl ?_
  intro Z post hl C hQ h
  have C : qX Z G RX1 cX1_farOf 3 ({ frames := 1, cells := 0, slots := 0, locals := 25 } : Room) (some .int) := C
  have h : w_X1_farOf o v1 v2 post μ := h
  unfold w_X1_farOf at h
  refine x_aload_n C 0 dX1_farOf_0 rfl rfl ?_
  refine x_iload_n C 1 dX1_farOf_1 rfl rfl ?_
  refine i_RX1_25 (rest := []) C hn hk_o rfl (by decide) rfl dX1_farOf_2 h (fun r2 μ2 h => ?_)
  refine x_if_eq C dX1_farOf_5 (tgt := 27) (by decide) h (fun h => ?_) (fun h => ?_)
  · refine x_iconst C dX1_farOf_27 (v := -1) (by decide) ?_
    exact x_iret C hQ dX1_farOf_28 h
  · refine x_aload_n C 0 dX1_farOf_8 rfl rfl ?_
    refine g_RX1_15 C hn hk_o dX1_farOf_9 ?_
    refine x_iload_n C 1 dX1_farOf_12 rfl rfl ?_
    refine x_iald C (o + 1) 11 10 (q_lt (qn_1_1 hk_o) rfl hn) (qn_1_1 hk_o) rfl rfl rfl rfl dX1_farOf_13 h (fun h => ?_)
    refine x_aload_n C 0 dX1_farOf_14 rfl rfl ?_
    refine g_RX1_19 C hn hk_o dX1_farOf_15 ?_
    refine x_iload_n C 1 dX1_farOf_18 rfl rfl ?_
    refine x_iald C (o + 2) 11 10 (q_lt (qn_1_2 hk_o) rfl hn) (qn_1_2 hk_o) rfl rfl rfl rfl dX1_farOf_19 h (fun h => ?_)
    refine x_iload_n C 2 dX1_farOf_20 rfl rfl ?_
    refine i_RX1_33 (rest := []) C hn  rfl (by decide) rfl dX1_farOf_21 h (fun r21 μ21 h => ?_)
    refine x_goto C dX1_farOf_24 (tgt := 28) (by decide) ?_
    exact x_iret C hQ dX1_farOf_28 h
theorem dX1_arePair_0 : decode cX1_arePair 0 = .ok (.iload_n 1, 1) := by decide +kernel
theorem dX1_arePair_1 : decode cX1_arePair 1 = .ok (.iload_n 2, 1) := by decide +kernel
theorem dX1_arePair_2 : decode cX1_arePair 2 = .ok (.if_icmp .eq 53, 3) := by decide +kernel
theorem dX1_arePair_5 : decode cX1_arePair 5 = .ok (.aload_n 0, 1) := by decide +kernel
theorem dX1_arePair_6 : decode cX1_arePair 6 = .ok (.iload_n 1, 1) := by decide +kernel
theorem dX1_arePair_7 : decode cX1_arePair 7 = .ok (.invokevirtual 25, 3) := by decide +kernel
theorem dX1_arePair_10 : decode cX1_arePair 10 = .ok (.ifCond .eq 45, 3) := by decide +kernel
theorem dX1_arePair_13 : decode cX1_arePair 13 = .ok (.aload_n 0, 1) := by decide +kernel
theorem dX1_arePair_14 : decode cX1_arePair 14 = .ok (.iload_n 2, 1) := by decide +kernel
theorem dX1_arePair_15 : decode cX1_arePair 15 = .ok (.invokevirtual 25, 3) := by decide +kernel
theorem dX1_arePair_18 : decode cX1_arePair 18 = .ok (.ifCond .eq 37, 3) := by decide +kernel
theorem dX1_arePair_21 : decode cX1_arePair 21 = .ok (.aload_n 0, 1) := by decide +kernel
theorem dX1_arePair_22 : decode cX1_arePair 22 = .ok (.getfield 15, 3) := by decide +kernel
theorem dX1_arePair_25 : decode cX1_arePair 25 = .ok (.iload_n 1, 1) := by decide +kernel
theorem dX1_arePair_26 : decode cX1_arePair 26 = .ok (.iaload, 1) := by decide +kernel
theorem dX1_arePair_27 : decode cX1_arePair 27 = .ok (.aload_n 0, 1) := by decide +kernel
theorem dX1_arePair_28 : decode cX1_arePair 28 = .ok (.getfield 19, 3) := by decide +kernel
theorem dX1_arePair_31 : decode cX1_arePair 31 = .ok (.iload_n 1, 1) := by decide +kernel
theorem dX1_arePair_32 : decode cX1_arePair 32 = .ok (.iaload, 1) := by decide +kernel
theorem dX1_arePair_33 : decode cX1_arePair 33 = .ok (.aload_n 0, 1) := by decide +kernel
theorem dX1_arePair_34 : decode cX1_arePair 34 = .ok (.getfield 15, 3) := by decide +kernel
theorem dX1_arePair_37 : decode cX1_arePair 37 = .ok (.iload_n 2, 1) := by decide +kernel
theorem dX1_arePair_38 : decode cX1_arePair 38 = .ok (.iaload, 1) := by decide +kernel
theorem dX1_arePair_39 : decode cX1_arePair 39 = .ok (.aload_n 0, 1) := by decide +kernel
theorem dX1_arePair_40 : decode cX1_arePair 40 = .ok (.getfield 19, 3) := by decide +kernel
theorem dX1_arePair_43 : decode cX1_arePair 43 = .ok (.iload_n 2, 1) := by decide +kernel
theorem dX1_arePair_44 : decode cX1_arePair 44 = .ok (.iaload, 1) := by decide +kernel
theorem dX1_arePair_45 : decode cX1_arePair 45 = .ok (.invokestatic 39, 3) := by decide +kernel
theorem dX1_arePair_48 : decode cX1_arePair 48 = .ok (.ifCond .eq 7, 3) := by decide +kernel
theorem dX1_arePair_51 : decode cX1_arePair 51 = .ok (.iconst 1, 1) := by decide +kernel
theorem dX1_arePair_52 : decode cX1_arePair 52 = .ok (.goto 4, 3) := by decide +kernel
theorem dX1_arePair_55 : decode cX1_arePair 55 = .ok (.iconst 0, 1) := by decide +kernel
theorem dX1_arePair_56 : decode cX1_arePair 56 = .ok (.ireturn, 1) := by decide +kernel
theorem i_RX1_39 {Z : qZ} {G : qG} {cc : ByteArray} {nL k n : Nat} {rm : Room} {ret : Option FieldType} {μ : qM} {pc : Nat} {L : List (Nat × Value)} {rest : List Value} {K : Int32 → qM → Prop} {v0 : Int32} {v1 : Int32} {v2 : Int32} {v3 : Int32} (C : qX Z G RX1 cc nL rm ret) (hn : 66 ≤ gn G) (hR : (Nat.ble (2 + 1) rm.frames && Nat.ble (8 + (4 + 11) + 48) rm.locals) = true) (hf : k + 0 ≤ rm.cells ∧ n + 0 ≤ rm.slots) (hsz : Nat.ble (rest.map fun v => v.category).sum 8 = true) (hd : decode cc pc = .ok (.invokestatic 39, 3)) (h : w_X2_isPair v0 v1 v2 v3 K μ) (hk : ∀ (r : Int32) (μ1 : qM), K r μ1 → qV Z G nL k n μ1 (pc + 3) L (.int r :: rest)) : qV Z G nL k n μ pc L (.int v3 :: .int v2 :: .int v1 :: .int v0 :: rest) := x_Si [.int v0, .int v1, .int v2, .int v3] rest C (wp := fun K => w_X2_isPair v0 v1 v2 v3 K μ) (y_X2_isPair : qY yX2_isPair cX2_isPair 4 (some .boolean) 4 ({ frames := 2, cells := 0, slots := 0, locals := 48 } : Room) 0 0) (qm_10 _ (List.mem_of_getElem? (i := 16) rfl)) (qm_10 _ (List.mem_of_getElem? (i := 15) rfl)) (c_X2_isPair Z.2.1 G hn ) hR hf rfl rfl hsz hd h hk
theorem b_X1_arePair_55 {Z : qZ} {G : qG} {o : Nat} {μ : qM} {post : Int32 → qM → Prop} (C : qX Z G RX1 cX1_arePair 3 ({ frames := 3, cells := 0, slots := 0, locals := 71 } : Room) (some .boolean)) (hQ : qQi Z G 0 0 post) (hn : 66 ≤ gn G) (hk_o : qk o = 1) (h : q_X1_arePair_55 o post μ) : qV Z G 3 0 0 μ 55 [] [] := by
  unfold q_X1_arePair_55 at h
  refine x_iconst C dX1_arePair_55 (v := 0) (by decide) ?_
  exact x_zret C hQ dX1_arePair_56 h
theorem y_X1_arePair : qY yX1_arePair cX1_arePair 3 (some .boolean) 2 ({ frames := 3, cells := 0, slots := 0, locals := 71 } : Room) 0 0 := ⟨(qm_13 _ (List.mem_of_getElem? (i := 22) rfl)), (qm_3 _ (List.mem_of_getElem? (i := 3) rfl)), by decide +kernel, by decide +kernel, rfl, rfl⟩
theorem c_X1_arePair (l : Launch) (G : qG) {o : Nat} {v1 : Int32} {v2 : Int32} {μ : qM} (hn : 66 ≤ gn G) (hk_o : qk o = 1) : qCi l G yX1_arePair cX1_arePair 3 (some .boolean) ({ frames := 3, cells := 0, slots := 0, locals := 71 } : Room) 0 0 [.ref (ga G o), .int v1, .int v2] μ (fun post => w_X1_arePair o v1 v2 post μ) := by
  refine qCi_of (L := [(0, .ref (ga G o)), (1, .int v1), (2, .int v2)]) (by decide) rfl rfl ?_
  intro Z post hl C hQ h
  have C : qX Z G RX1 cX1_arePair 3 ({ frames := 3, cells := 0, slots := 0, locals := 71 } : Room) (some .boolean) := C
  have h : w_X1_arePair o v1 v2 post μ := h
  unfold w_X1_arePair at h
  refine x_iload_n C 1 dX1_arePair_0 rfl rfl ?_
  refine x_iload_n C 2 dX1_arePair_1 rfl rfl ?_
  refine x_icmp_eq C dX1_arePair_2 (tgt := 55) (by decide) h (fun h => ?_) (fun h => ?_)
  · exact qV_sub [] rfl (b_X1_arePair_55 C hQ hn hk_o h)
  · refine x_aload_n C 0 dX1_arePair_5 rfl rfl ?_
    refine x_iload_n C 1 dX1_arePair_6 rfl rfl ?_
    refine i_RX1_25 (rest := []) C hn hk_o rfl (by decide) rfl dX1_arePair_7 h (fun r7 μ7 h => ?_)
    refine x_if_eq C dX1_arePair_10 (tgt := 55) (by decide) h (fun h => ?_) (fun h => ?_)
    · exact qV_sub [] rfl (b_X1_arePair_55 C hQ hn hk_o h)
    · refine x_aload_n C 0 dX1_arePair_13 rfl rfl ?_
      refine x_iload_n C 2 dX1_arePair_14 rfl rfl ?_
      refine i_RX1_25 (rest := []) C hn hk_o rfl (by decide) rfl dX1_arePair_15 h (fun r15 μ15 h => ?_)
      refine x_if_eq C dX1_arePair_18 (tgt := 55) (by decide) h (fun h => ?_) (fun h => ?_)
      · exact qV_sub [] rfl (b_X1_arePair_55 C hQ hn hk_o h)
      · refine x_aload_n C 0 dX1_arePair_21 rfl rfl ?_
        refine g_RX1_15 C hn hk_o dX1_arePair_22 ?_
        refine x_iload_n C 1 dX1_arePair_25 rfl rfl ?_
        refine x_iald C (o + 1) 11 10 (q_lt (qn_1_1 hk_o) rfl hn) (qn_1_1 hk_o) rfl rfl rfl rfl dX1_arePair_26 h (fun h => ?_)
        refine x_aload_n C 0 dX1_arePair_27 rfl rfl ?_
        refine g_RX1_19 C hn hk_o dX1_arePair_28 ?_
        refine x_iload_n C 1 dX1_arePair_31 rfl rfl ?_
        refine x_iald C (o + 2) 11 10 (q_lt (qn_1_2 hk_o) rfl hn) (qn_1_2 hk_o) rfl rfl rfl rfl dX1_arePair_32 h (fun h => ?_)
        refine x_aload_n C 0 dX1_arePair_33 rfl rfl ?_
        refine g_RX1_15 C hn hk_o dX1_arePair_34 ?_
        refine x_iload_n C 2 dX1_arePair_37 rfl rfl ?_
        refine x_iald C (o + 1) 11 10 (q_lt (qn_1_1 hk_o) rfl hn) (qn_1_1 hk_o) rfl rfl rfl rfl dX1_arePair_38 h (fun h => ?_)
        refine x_aload_n C 0 dX1_arePair_39 rfl rfl ?_
        refine g_RX1_19 C hn hk_o dX1_arePair_40 ?_
        refine x_iload_n C 2 dX1_arePair_43 rfl rfl ?_
        refine x_iald C (o + 2) 11 10 (q_lt (qn_1_2 hk_o) rfl hn) (qn_1_2 hk_o) rfl rfl rfl rfl dX1_arePair_44 h (fun h => ?_)
        refine i_RX1_39 (rest := []) C hn  rfl (by decide) rfl dX1_arePair_45 h (fun r45 μ45 h => ?_)
        refine x_if_eq C dX1_arePair_48 (tgt := 55) (by decide) h (fun h => ?_) (fun h => ?_)
        · exact qV_sub [] rfl (b_X1_arePair_55 C hQ hn hk_o h)
        · refine x_iconst C dX1_arePair_51 (v := 1) (by decide) ?_
          refine x_goto C dX1_arePair_52 (tgt := 56) (by decide) ?_
          exact x_zret C hQ dX1_arePair_56 h
theorem dX1_isFull_0 : decode cX1_isFull 0 = .ok (.aload_n 0, 1) := by decide +kernel
theorem dX1_isFull_1 : decode cX1_isFull 1 = .ok (.getfield 9, 3) := by decide +kernel
theorem dX1_isFull_4 : decode cX1_isFull 4 = .ok (.bipush 10, 2) := by decide +kernel
theorem dX1_isFull_6 : decode cX1_isFull 6 = .ok (.if_icmp .lt 7, 3) := by decide +kernel
theorem dX1_isFull_9 : decode cX1_isFull 9 = .ok (.iconst 1, 1) := by decide +kernel
theorem dX1_isFull_10 : decode cX1_isFull 10 = .ok (.goto 4, 3) := by decide +kernel
theorem dX1_isFull_13 : decode cX1_isFull 13 = .ok (.iconst 0, 1) := by decide +kernel
theorem dX1_isFull_14 : decode cX1_isFull 14 = .ok (.ireturn, 1) := by decide +kernel
theorem y_X1_isFull : qY yX1_isFull cX1_isFull 1 (some .boolean) 0 ({ frames := 0, cells := 0, slots := 0, locals := 0 } : Room) 0 0 := ⟨(qm_7 _ (List.mem_of_getElem? (i := 22) rfl)), (qm_3 _ (List.mem_of_getElem? (i := 3) rfl)), by decide +kernel, by decide +kernel, rfl, rfl⟩
theorem c_X1_isFull (l : Launch) (G : qG) {o : Nat} {μ : qM} (hn : 66 ≤ gn G) (hk_o : qk o = 1) : qCi l G yX1_isFull cX1_isFull 1 (some .boolean) ({ frames := 0, cells := 0, slots := 0, locals := 0 } : Room) 0 0 [.ref (ga G o)] μ (fun post => w_X1_isFull o post μ) := by
  refine qCi_of (L := [(0, .ref (ga G o))]) (by decide) rfl rfl ?_
  intro Z post hl C hQ h
  have C : qX Z G RX1 cX1_isFull 1 ({ frames := 0, cells := 0, slots := 0, locals := 0 } : Room) (some .boolean) := C
  have h : w_X1_isFull o post μ := h
  unfold w_X1_isFull at h
  refine x_aload_n C 0 dX1_isFull_0 rfl rfl ?_
  refine g_RX1_9 C hn hk_o dX1_isFull_1 ?_
  refine x_bipush C dX1_isFull_4 (v := 10) (by decide) ?_
  refine x_icmp_lt C dX1_isFull_6 (tgt := 13) (by decide) h (fun h => ?_) (fun h => ?_)
  · refine x_iconst C dX1_isFull_13 (v := 0) (by decide) ?_
    exact x_zret C hQ dX1_isFull_14 h
  · refine x_iconst C dX1_isFull_9 (v := 1) (by decide) ?_
    refine x_goto C dX1_isFull_10 (tgt := 14) (by decide) ?_
    exact x_zret C hQ dX1_isFull_14 h
theorem dX1_kindOf_0 : decode cX1_kindOf 0 = .ok (.aload_n 0, 1) := by decide +kernel
theorem dX1_kindOf_1 : decode cX1_kindOf 1 = .ok (.iload_n 1, 1) := by decide +kernel
theorem dX1_kindOf_2 : decode cX1_kindOf 2 = .ok (.invokevirtual 25, 3) := by decide +kernel
theorem dX1_kindOf_5 : decode cX1_kindOf 5 = .ok (.ifCond .eq 12, 3) := by decide +kernel
theorem dX1_kindOf_8 : decode cX1_kindOf 8 = .ok (.aload_n 0, 1) := by decide +kernel
theorem dX1_kindOf_9 : decode cX1_kindOf 9 = .ok (.getfield 15, 3) := by decide +kernel
theorem dX1_kindOf_12 : decode cX1_kindOf 12 = .ok (.iload_n 1, 1) := by decide +kernel
theorem dX1_kindOf_13 : decode cX1_kindOf 13 = .ok (.iaload, 1) := by decide +kernel
theorem dX1_kindOf_14 : decode cX1_kindOf 14 = .ok (.goto 4, 3) := by decide +kernel
theorem dX1_kindOf_17 : decode cX1_kindOf 17 = .ok (.iconst (-1), 1) := by decide +kernel
theorem dX1_kindOf_18 : decode cX1_kindOf 18 = .ok (.ireturn, 1) := by decide +kernel
theorem y_X1_kindOf : qY yX1_kindOf cX1_kindOf 2 (some .int) 1 ({ frames := 1, cells := 0, slots := 0, locals := 21 } : Room) 0 0 := ⟨(qm_13 _ (List.mem_of_getElem? (i := 8) rfl)), (qm_3 _ (List.mem_of_getElem? (i := 3) rfl)), by decide +kernel, by decide +kernel, rfl, rfl⟩
theorem c_X1_kindOf (l : Launch) (G : qG) {o : Nat} {v1 : Int32} {μ : qM} (hn : 66 ≤ gn G) (hk_o : qk o = 1) : qCi l G yX1_kindOf cX1_kindOf 2 (some .int) ({ frames := 1, cells := 0, slots := 0, locals := 21 } : Room) 0 0 [.ref (ga G o), .int v1] μ (fun post => w_X1_kindOf o v1 post μ) := by
  refine qCi_of (L := [(0, .ref (ga G o)), (1, .int v1)]) (by decide) rfl rfl ?_
  intro Z post hl C hQ h
  have C : qX Z G RX1 cX1_kindOf 2 ({ frames := 1, cells := 0, slots := 0, locals := 21 } : Room) (some .int) := C
  have h : w_X1_kindOf o v1 post μ := h
  unfold w_X1_kindOf at h
  refine x_aload_n C 0 dX1_kindOf_0 rfl rfl ?_
  refine x_iload_n C 1 dX1_kindOf_1 rfl rfl ?_
  refine i_RX1_25 (rest := []) C hn hk_o rfl (by decide) rfl dX1_kindOf_2 h (fun r2 μ2 h => ?_)
  refine x_if_eq C dX1_kindOf_5 (tgt := 17) (by decide) h (fun h => ?_) (fun h => ?_)
  · refine x_iconst C dX1_kindOf_17 (v := -1) (by decide) ?_
    exact x_iret C hQ dX1_kindOf_18 h
  · refine x_aload_n C 0 dX1_kindOf_8 rfl rfl ?_
    refine g_RX1_15 C hn hk_o dX1_kindOf_9 ?_
    refine x_iload_n C 1 dX1_kindOf_12 rfl rfl ?_
    refine x_iald C (o + 1) 11 10 (q_lt (qn_1_1 hk_o) rfl hn) (qn_1_1 hk_o) rfl rfl rfl rfl dX1_kindOf_13 h (fun h => ?_)
    refine x_goto C dX1_kindOf_14 (tgt := 18) (by decide) ?_
    exact x_iret C hQ dX1_kindOf_18 h
theorem dX1_put_0 : decode cX1_put 0 = .ok (.aload_n 0, 1) := by decide +kernel
theorem dX1_put_1 : decode cX1_put 1 = .ok (.invokevirtual 29, 3) := by decide +kernel
theorem dX1_put_4 : decode cX1_put 4 = .ok (.ifCond .ne 33, 3) := by decide +kernel
theorem dX1_put_7 : decode cX1_put 7 = .ok (.aload_n 0, 1) := by decide +kernel
theorem dX1_put_8 : decode cX1_put 8 = .ok (.getfield 15, 3) := by decide +kernel
theorem dX1_put_11 : decode cX1_put 11 = .ok (.aload_n 0, 1) := by decide +kernel
theorem dX1_put_12 : decode cX1_put 12 = .ok (.getfield 9, 3) := by decide +kernel
theorem dX1_put_15 : decode cX1_put 15 = .ok (.iload_n 1, 1) := by decide +kernel
theorem dX1_put_16 : decode cX1_put 16 = .ok (.iastore, 1) := by decide +kernel
theorem dX1_put_17 : decode cX1_put 17 = .ok (.aload_n 0, 1) := by decide +kernel
theorem dX1_put_18 : decode cX1_put 18 = .ok (.getfield 19, 3) := by decide +kernel
theorem dX1_put_21 : decode cX1_put 21 = .ok (.aload_n 0, 1) := by decide +kernel
theorem dX1_put_22 : decode cX1_put 22 = .ok (.getfield 9, 3) := by decide +kernel
theorem dX1_put_25 : decode cX1_put 25 = .ok (.iload_n 2, 1) := by decide +kernel
theorem dX1_put_26 : decode cX1_put 26 = .ok (.iastore, 1) := by decide +kernel
theorem dX1_put_27 : decode cX1_put 27 = .ok (.aload_n 0, 1) := by decide +kernel
theorem dX1_put_28 : decode cX1_put 28 = .ok (.dup, 1) := by decide +kernel
theorem dX1_put_29 : decode cX1_put 29 = .ok (.getfield 9, 3) := by decide +kernel
theorem dX1_put_32 : decode cX1_put 32 = .ok (.iconst 1, 1) := by decide +kernel
theorem dX1_put_33 : decode cX1_put 33 = .ok (.iadd, 1) := by decide +kernel
theorem dX1_put_34 : decode cX1_put 34 = .ok (.putfield 9, 3) := by decide +kernel
theorem dX1_put_37 : decode cX1_put 37 = .ok (.return_, 1) := by decide +kernel
theorem i_RX1_29 {Z : qZ} {G : qG} {cc : ByteArray} {nL k n : Nat} {rm : Room} {ret : Option FieldType} {μ : qM} {pc : Nat} {L : List (Nat × Value)} {rest : List Value} {K : Int32 → qM → Prop} {o : Nat} (C : qX Z G RX1 cc nL rm ret) (hn : 66 ≤ gn G) (hk_o : qk o = 1) (hR : (Nat.ble (0 + 1) rm.frames && Nat.ble (8 + (1 + 11) + 0) rm.locals) = true) (hf : k + 0 ≤ rm.cells ∧ n + 0 ≤ rm.slots) (hsz : Nat.ble (rest.map fun v => v.category).sum 8 = true) (hd : decode cc pc = .ok (.invokevirtual 29, 3)) (h : w_X1_isFull o K μ) (hk : ∀ (r : Int32) (μ1 : qM), K r μ1 → qV Z G nL k n μ1 (pc + 3) L (.int r :: rest)) : qV Z G nL k n μ pc L (.ref (ga G o) :: rest) := x_Vi [] rest C o 1 (wp := fun K => w_X1_isFull o K μ) (y_X1_isFull : qY yX1_isFull cX1_isFull 1 (some .boolean) 0 ({ frames := 0, cells := 0, slots := 0, locals := 0 } : Room) 0 0) (qm_7 _ (List.mem_of_getElem? (i := 20) rfl)) (qm_7 _ (List.mem_of_getElem? (i := 21) rfl)) (qm_8 _ (List.mem_of_getElem? (i := 3) rfl)) (c_X1_isFull Z.2.1 G hn hk_o) (q_lt hk_o rfl hn) hk_o (by decide) rfl rfl hR hf rfl rfl hsz hd h hk
theorem p_RX1_9 {Z : qZ} {G : qG} {cc : ByteArray} {nL k n : Nat} {rm : Room} {ret : Option FieldType} {μ : qM} {pc : Nat} {L : List (Nat × Value)} {st : List Value} {x : Int32} {o : Nat} (C : qX Z G RX1 cc nL rm ret) (hn : 66 ≤ gn G) (hk : qk o = 1) (hd : decode cc pc = .ok (.putfield 9, 3)) (h : qV Z G nL k n (qu μ o 0 x) (pc + 3) L st) : qV Z G nL k n μ pc L (.int x :: .ref (ga G o) :: st) := x_puti C o 1 0 (C0 := RX1) (fn := "size") (fd := "I") (ty := .int) (q_lt hk rfl hn) hk (by decide) rfl (by decide) rfl inlX1 tyX1_ok nmX1 (qm_3 _ (List.mem_of_getElem? (i := 13) rfl)) rfl (by decide +kernel) rfl rfl hd h
theorem y_X1_put : qY yX1_put cX1_put 3 none 2 ({ frames := 1, cells := 0, slots := 0, locals := 20 } : Room) 0 0 := ⟨(qm_8 _ (List.mem_of_getElem? (i := 2) rfl)), (qm_3 _ (List.mem_of_getElem? (i := 3) rfl)), by decide +kernel, by decide +kernel, rfl, rfl⟩
theorem c_X1_put (l : Launch) (G : qG) {o : Nat} {v1 : Int32} {v2 : Int32} {μ : qM} (hn : 66 ≤ gn G) (hk_o : qk o = 1) : qCv l G yX1_put cX1_put 3 none ({ frames := 1, cells := 0, slots := 0, locals := 20 } : Room) 0 0 [.ref (ga G o), .int v1, .int v2] μ (fun post => w_X1_put o v1 v2 post μ) := by
  refine qCv_of (L := [(0, .ref (ga G o)), (1, .int v1), (2, .int v2)]) (by decide) rfl rfl ?_
  intro Z post hl C hQ h
  have C : qX Z G RX1 cX1_put 3 ({ frames := 1, cells := 0, slots := 0, locals := 20 } : Room) none := C
  have h : w_X1_put o v1 v2 post μ := h
  unfold w_X1_put at h
  refine x_aload_n C 0 dX1_put_0 rfl rfl ?_
  refine i_RX1_29 (rest := []) C hn hk_o rfl (by decide) rfl dX1_put_1 h (fun r1 μ1 h => ?_)
  refine x_if_ne C dX1_put_4 (tgt := 37) (by decide) h (fun h => ?_) (fun h => ?_)
  · exact x_vret C hQ dX1_put_37 h
  · refine x_aload_n C 0 dX1_put_7 rfl rfl ?_
    refine g_RX1_15 C hn hk_o dX1_put_8 ?_
    refine x_aload_n C 0 dX1_put_11 rfl rfl ?_
    refine g_RX1_9 C hn hk_o dX1_put_12 ?_
    refine x_iload_n C 1 dX1_put_15 rfl rfl ?_
    refine x_iast C (o + 1) 11 10 (q_lt (qn_1_1 hk_o) rfl hn) (qn_1_1 hk_o) rfl rfl rfl rfl dX1_put_16 h (fun h => ?_)
    refine x_aload_n C 0 dX1_put_17 rfl rfl ?_
    refine g_RX1_19 C hn hk_o dX1_put_18 ?_
    refine x_aload_n C 0 dX1_put_21 rfl rfl ?_
    refine g_RX1_9 C hn hk_o dX1_put_22 ?_
    refine x_iload_n C 2 dX1_put_25 rfl rfl ?_
    refine x_iast C (o + 2) 11 10 (q_lt (qn_1_2 hk_o) rfl hn) (qn_1_2 hk_o) rfl rfl rfl rfl dX1_put_26 h (fun h => ?_)
    refine x_aload_n C 0 dX1_put_27 rfl rfl ?_
    refine x_dup C dX1_put_28 rfl ?_
    refine g_RX1_9 C hn hk_o dX1_put_29 ?_
    refine x_iconst C dX1_put_32 (v := 1) (by decide) ?_
    refine x_iadd C dX1_put_33 ?_
    refine p_RX1_9 C hn hk_o dX1_put_34 ?_
    exact x_vret C hQ dX1_put_37 h
theorem dX1_burnLast_0 : decode cX1_burnLast 0 = .ok (.aload_n 0, 1) := by decide +kernel
theorem dX1_burnLast_1 : decode cX1_burnLast 1 = .ok (.getfield 9, 3) := by decide +kernel
theorem dX1_burnLast_4 : decode cX1_burnLast 4 = .ok (.ifCond .le 13, 3) := by decide +kernel
theorem dX1_burnLast_7 : decode cX1_burnLast 7 = .ok (.aload_n 0, 1) := by decide +kernel
theorem dX1_burnLast_8 : decode cX1_burnLast 8 = .ok (.dup, 1) := by decide +kernel
theorem dX1_burnLast_9 : decode cX1_burnLast 9 = .ok (.getfield 9, 3) := by decide +kernel
theorem dX1_burnLast_12 : decode cX1_burnLast 12 = .ok (.iconst 1, 1) := by decide +kernel
theorem dX1_burnLast_13 : decode cX1_burnLast 13 = .ok (.isub, 1) := by decide +kernel
theorem dX1_burnLast_14 : decode cX1_burnLast 14 = .ok (.putfield 9, 3) := by decide +kernel
theorem dX1_burnLast_17 : decode cX1_burnLast 17 = .ok (.return_, 1) := by decide +kernel
theorem y_X1_burnLast : qY yX1_burnLast cX1_burnLast 1 none 0 ({ frames := 0, cells := 0, slots := 0, locals := 0 } : Room) 0 0 := ⟨(qm_15 _ (List.mem_of_getElem? (i := 7) rfl)), (qm_3 _ (List.mem_of_getElem? (i := 3) rfl)), by decide +kernel, by decide +kernel, rfl, rfl⟩
theorem c_X1_burnLast (l : Launch) (G : qG) {o : Nat} {μ : qM} (hn : 66 ≤ gn G) (hk_o : qk o = 1) : qCv l G yX1_burnLast cX1_burnLast 1 none ({ frames := 0, cells := 0, slots := 0, locals := 0 } : Room) 0 0 [.ref (ga G o)] μ (fun post => w_X1_burnLast o post μ) := by
  refine qCv_of (L := [(0, .ref (ga G o))]) (by decide) rfl rfl ?_
  intro Z post hl C hQ h
  have C : qX Z G RX1 cX1_burnLast 1 ({ frames := 0, cells := 0, slots := 0, locals := 0 } : Room) none := C
  have h : w_X1_burnLast o post μ := h
  unfold w_X1_burnLast at h
  refine x_aload_n C 0 dX1_burnLast_0 rfl rfl ?_
  refine g_RX1_9 C hn hk_o dX1_burnLast_1 ?_
  refine x_if_le C dX1_burnLast_4 (tgt := 17) (by decide) h (fun h => ?_) (fun h => ?_)
  · exact x_vret C hQ dX1_burnLast_17 h
  · refine x_aload_n C 0 dX1_burnLast_7 rfl rfl ?_
    refine x_dup C dX1_burnLast_8 rfl ?_
    refine g_RX1_9 C hn hk_o dX1_burnLast_9 ?_
    refine x_iconst C dX1_burnLast_12 (v := 1) (by decide) ?_
    refine x_isub C dX1_burnLast_13 ?_
    refine p_RX1_9 C hn hk_o dX1_burnLast_14 ?_
    exact x_vret C hQ dX1_burnLast_17 h
theorem dX1_become_0 : decode cX1_become 0 = .ok (.aload_n 0, 1) := by decide +kernel
theorem dX1_become_1 : decode cX1_become 1 = .ok (.iload_n 1, 1) := by decide +kernel
theorem dX1_become_2 : decode cX1_become 2 = .ok (.invokevirtual 25, 3) := by decide +kernel
theorem dX1_become_5 : decode cX1_become 5 = .ok (.ifCond .eq 10, 3) := by decide +kernel
theorem dX1_become_8 : decode cX1_become 8 = .ok (.aload_n 0, 1) := by decide +kernel
theorem dX1_become_9 : decode cX1_become 9 = .ok (.getfield 15, 3) := by decide +kernel
theorem dX1_become_12 : decode cX1_become 12 = .ok (.iload_n 1, 1) := by decide +kernel
theorem dX1_become_13 : decode cX1_become 13 = .ok (.iload_n 2, 1) := by decide +kernel
theorem dX1_become_14 : decode cX1_become 14 = .ok (.iastore, 1) := by decide +kernel
theorem dX1_become_15 : decode cX1_become 15 = .ok (.return_, 1) := by decide +kernel
theorem y_X1_become : qY yX1_become cX1_become 3 none 2 ({ frames := 1, cells := 0, slots := 0, locals := 21 } : Room) 0 0 := ⟨(qm_14 _ (List.mem_of_getElem? (i := 18) rfl)), (qm_3 _ (List.mem_of_getElem? (i := 3) rfl)), by decide +kernel, by decide +kernel, rfl, rfl⟩
theorem c_X1_become (l : Launch) (G : qG) {o : Nat} {v1 : Int32} {v2 : Int32} {μ : qM} (hn : 66 ≤ gn G) (hk_o : qk o = 1) : qCv l G yX1_become cX1_become 3 none ({ frames := 1, cells := 0, slots := 0, locals := 21 } : Room) 0 0 [.ref (ga G o), .int v1, .int v2] μ (fun post => w_X1_become o v1 v2 post μ) := by
  refine qCv_of (L := [(0, .ref (ga G o)), (1, .int v1), (2, .int v2)]) (by decide) rfl rfl ?_
  intro Z post hl C hQ h
  have C : qX Z G RX1 cX1_become 3 ({ frames := 1, cells := 0, slots := 0, locals := 21 } : Room) none := C
  have h : w_X1_become o v1 v2 post μ := h
  unfold w_X1_become at h
  refine x_aload_n C 0 dX1_become_0 rfl rfl ?_
  refine x_iload_n C 1 dX1_become_1 rfl rfl ?_
  refine i_RX1_25 (rest := []) C hn hk_o rfl (by decide) rfl dX1_become_2 h (fun r2 μ2 h => ?_)
  refine x_if_eq C dX1_become_5 (tgt := 15) (by decide) h (fun h => ?_) (fun h => ?_)
  · exact x_vret C hQ dX1_become_15 h
  · refine x_aload_n C 0 dX1_become_8 rfl rfl ?_
    refine g_RX1_15 C hn hk_o dX1_become_9 ?_
    refine x_iload_n C 1 dX1_become_12 rfl rfl ?_
    refine x_iload_n C 2 dX1_become_13 rfl rfl ?_
    refine x_iast C (o + 1) 11 10 (q_lt (qn_1_1 hk_o) rfl hn) (qn_1_1 hk_o) rfl rfl rfl rfl dX1_become_14 h (fun h => ?_)
    exact x_vret C hQ dX1_become_15 h
theorem dX1_allBecome_0 : decode cX1_allBecome 0 = .ok (.iconst 0, 1) := by decide +kernel
theorem dX1_allBecome_1 : decode cX1_allBecome 1 = .ok (.istore_n 2, 1) := by decide +kernel
theorem dX1_allBecome_2 : decode cX1_allBecome 2 = .ok (.iload_n 2, 1) := by decide +kernel
theorem dX1_allBecome_3 : decode cX1_allBecome 3 = .ok (.aload_n 0, 1) := by decide +kernel
theorem dX1_allBecome_4 : decode cX1_allBecome 4 = .ok (.getfield 9, 3) := by decide +kernel
theorem dX1_allBecome_7 : decode cX1_allBecome 7 = .ok (.if_icmp .ge 16, 3) := by decide +kernel
theorem dX1_allBecome_10 : decode cX1_allBecome 10 = .ok (.aload_n 0, 1) := by decide +kernel
theorem dX1_allBecome_11 : decode cX1_allBecome 11 = .ok (.getfield 15, 3) := by decide +kernel
theorem dX1_allBecome_14 : decode cX1_allBecome 14 = .ok (.iload_n 2, 1) := by decide +kernel
theorem dX1_allBecome_15 : decode cX1_allBecome 15 = .ok (.iload_n 1, 1) := by decide +kernel
theorem dX1_allBecome_16 : decode cX1_allBecome 16 = .ok (.iastore, 1) := by decide +kernel
theorem dX1_allBecome_17 : decode cX1_allBecome 17 = .ok (.iinc 2 1, 3) := by decide +kernel
theorem dX1_allBecome_20 : decode cX1_allBecome 20 = .ok (.goto (-18), 3) := by decide +kernel
theorem dX1_allBecome_23 : decode cX1_allBecome 23 = .ok (.return_, 1) := by decide +kernel
theorem b_X1_allBecome_2 {Z : qZ} {G : qG} {o : Nat} {v1 : Int32} {v2 : Int32} {μ : qM} {post : qM → Prop} (C : qX Z G RX1 cX1_allBecome 3 ({ frames := 0, cells := 0, slots := 0, locals := 0 } : Room) none) (hQ : qQv Z G 0 0 post) (hn : 66 ≤ gn G) (hk_o : qk o = 1) (h : q_X1_allBecome_2 o v1 post v2 μ) : qV Z G 3 0 0 μ 2 [(0, .ref (ga G o)), (1, .int v1), (2, .int v2)] [] := by
  refine h (fun v2 μ => qV Z G 3 0 0 μ 2 [(0, .ref (ga G o)), (1, .int v1), (2, .int v2)] []) (fun v2 μ h => ?_)
  refine x_iload_n C 2 dX1_allBecome_2 rfl rfl ?_
  refine x_aload_n C 0 dX1_allBecome_3 rfl rfl ?_
  refine g_RX1_9 C hn hk_o dX1_allBecome_4 ?_
  refine x_icmp_ge C dX1_allBecome_7 (tgt := 23) (by decide) h (fun h => ?_) (fun h => ?_)
  · exact x_vret C hQ dX1_allBecome_23 h
  · refine x_aload_n C 0 dX1_allBecome_10 rfl rfl ?_
    refine g_RX1_15 C hn hk_o dX1_allBecome_11 ?_
    refine x_iload_n C 2 dX1_allBecome_14 rfl rfl ?_
    refine x_iload_n C 1 dX1_allBecome_15 rfl rfl ?_
    refine x_iast C (o + 1) 11 10 (q_lt (qn_1_1 hk_o) rfl hn) (qn_1_1 hk_o) rfl rfl rfl rfl dX1_allBecome_16 h (fun h => ?_)
    refine x_iinc C 2 (v := 1) (L' := [(2, .int ((v2 + 1))), (0, .ref (ga G o)), (1, .int v1)]) dX1_allBecome_17 rfl (by decide) (by decide) rfl ?_
    refine x_goto C dX1_allBecome_20 (tgt := 2) (by decide) ?_
    exact qV_sub [1, 2, 0] rfl (h)
theorem y_X1_allBecome : qY yX1_allBecome cX1_allBecome 3 none 1 ({ frames := 0, cells := 0, slots := 0, locals := 0 } : Room) 0 0 := ⟨(qm_25 _ (List.mem_of_getElem? (i := 5) rfl)), (qm_3 _ (List.mem_of_getElem? (i := 3) rfl)), by decide +kernel, by decide +kernel, rfl, rfl⟩
theorem c_X1_allBecome (l : Launch) (G : qG) {o : Nat} {v1 : Int32} {μ : qM} (hn : 66 ≤ gn G) (hk_o : qk o = 1) : qCv l G yX1_allBecome cX1_allBecome 3 none ({ frames := 0, cells := 0, slots := 0, locals := 0 } : Room) 0 0 [.ref (ga G o), .int v1] μ (fun post => w_X1_allBecome o v1 post μ) := by
  refine qCv_of (L := [(0, .ref (ga G o)), (1, .int v1)]) (by decide) rfl rfl ?_
  intro Z post hl C hQ h
  have C : qX Z G RX1 cX1_allBecome 3 ({ frames := 0, cells := 0, slots := 0, locals := 0 } : Room) none := C
  have h : w_X1_allBecome o v1 post μ := h
  unfold w_X1_allBecome at h
  refine x_iconst C dX1_allBecome_0 (v := 0) (by decide) ?_
  refine x_istore_n C (L' := [(2, .int ((0 : Int32))), (0, .ref (ga G o)), (1, .int v1)]) dX1_allBecome_1 rfl (by decide) rfl ?_
  exact qV_sub [1, 2, 0] rfl (b_X1_allBecome_2 C hQ hn hk_o h)
theorem dX1_move_0 : decode cX1_move 0 = .ok (.aload_n 0, 1) := by decide +kernel
theorem dX1_move_1 : decode cX1_move 1 = .ok (.iload_n 1, 1) := by decide +kernel
theorem dX1_move_2 : decode cX1_move 2 = .ok (.invokevirtual 25, 3) := by decide +kernel
theorem dX1_move_5 : decode cX1_move 5 = .ok (.ifCond .eq 10, 3) := by decide +kernel
theorem dX1_move_8 : decode cX1_move 8 = .ok (.aload_n 0, 1) := by decide +kernel
theorem dX1_move_9 : decode cX1_move 9 = .ok (.getfield 19, 3) := by decide +kernel
theorem dX1_move_12 : decode cX1_move 12 = .ok (.iload_n 1, 1) := by decide +kernel
theorem dX1_move_13 : decode cX1_move 13 = .ok (.iload_n 2, 1) := by decide +kernel
theorem dX1_move_14 : decode cX1_move 14 = .ok (.iastore, 1) := by decide +kernel
theorem dX1_move_15 : decode cX1_move 15 = .ok (.return_, 1) := by decide +kernel
theorem y_X1_move : qY yX1_move cX1_move 3 none 2 ({ frames := 1, cells := 0, slots := 0, locals := 21 } : Room) 0 0 := ⟨(qm_35 _ (List.mem_of_getElem? (i := 9) rfl)), (qm_3 _ (List.mem_of_getElem? (i := 3) rfl)), by decide +kernel, by decide +kernel, rfl, rfl⟩
theorem c_X1_move (l : Launch) (G : qG) {o : Nat} {v1 : Int32} {v2 : Int32} {μ : qM} (hn : 66 ≤ gn G) (hk_o : qk o = 1) : qCv l G yX1_move cX1_move 3 none ({ frames := 1, cells := 0, slots := 0, locals := 21 } : Room) 0 0 [.ref (ga G o), .int v1, .int v2] μ (fun post => w_X1_move o v1 v2 post μ) := by
  refine qCv_of (L := [(0, .ref (ga G o)), (1, .int v1), (2, .int v2)]) (by decide) rfl rfl ?_
  intro Z post hl C hQ h
  have C : qX Z G RX1 cX1_move 3 ({ frames := 1, cells := 0, slots := 0, locals := 21 } : Room) none := C
  have h : w_X1_move o v1 v2 post μ := h
  unfold w_X1_move at h
  refine x_aload_n C 0 dX1_move_0 rfl rfl ?_
  refine x_iload_n C 1 dX1_move_1 rfl rfl ?_
  refine i_RX1_25 (rest := []) C hn hk_o rfl (by decide) rfl dX1_move_2 h (fun r2 μ2 h => ?_)
  refine x_if_eq C dX1_move_5 (tgt := 15) (by decide) h (fun h => ?_) (fun h => ?_)
  · exact x_vret C hQ dX1_move_15 h
  · refine x_aload_n C 0 dX1_move_8 rfl rfl ?_
    refine g_RX1_19 C hn hk_o dX1_move_9 ?_
    refine x_iload_n C 1 dX1_move_12 rfl rfl ?_
    refine x_iload_n C 2 dX1_move_13 rfl rfl ?_
    refine x_iast C (o + 2) 11 10 (q_lt (qn_1_2 hk_o) rfl hn) (qn_1_2 hk_o) rfl rfl rfl rfl dX1_move_14 h (fun h => ?_)
    exact x_vret C hQ dX1_move_15 h
theorem dX1_becomeAs_0 : decode cX1_becomeAs 0 = .ok (.aload_n 0, 1) := by decide +kernel
theorem dX1_becomeAs_1 : decode cX1_becomeAs 1 = .ok (.aload_n 1, 1) := by decide +kernel
theorem dX1_becomeAs_2 : decode cX1_becomeAs 2 = .ok (.getfield 9, 3) := by decide +kernel
theorem dX1_becomeAs_5 : decode cX1_becomeAs 5 = .ok (.putfield 9, 3) := by decide +kernel
theorem dX1_becomeAs_8 : decode cX1_becomeAs 8 = .ok (.iconst 0, 1) := by decide +kernel
theorem dX1_becomeAs_9 : decode cX1_becomeAs 9 = .ok (.istore_n 2, 1) := by decide +kernel
theorem dX1_becomeAs_10 : decode cX1_becomeAs 10 = .ok (.iload_n 2, 1) := by decide +kernel
theorem dX1_becomeAs_11 : decode cX1_becomeAs 11 = .ok (.bipush 10, 2) := by decide +kernel
theorem dX1_becomeAs_13 : decode cX1_becomeAs 13 = .ok (.if_icmp .ge 33, 3) := by decide +kernel
theorem dX1_becomeAs_16 : decode cX1_becomeAs 16 = .ok (.aload_n 0, 1) := by decide +kernel
theorem dX1_becomeAs_17 : decode cX1_becomeAs 17 = .ok (.getfield 15, 3) := by decide +kernel
theorem dX1_becomeAs_20 : decode cX1_becomeAs 20 = .ok (.iload_n 2, 1) := by decide +kernel
theorem dX1_becomeAs_21 : decode cX1_becomeAs 21 = .ok (.aload_n 1, 1) := by decide +kernel
theorem dX1_becomeAs_22 : decode cX1_becomeAs 22 = .ok (.getfield 15, 3) := by decide +kernel
theorem dX1_becomeAs_25 : decode cX1_becomeAs 25 = .ok (.iload_n 2, 1) := by decide +kernel
theorem dX1_becomeAs_26 : decode cX1_becomeAs 26 = .ok (.iaload, 1) := by decide +kernel
theorem dX1_becomeAs_27 : decode cX1_becomeAs 27 = .ok (.iastore, 1) := by decide +kernel
theorem dX1_becomeAs_28 : decode cX1_becomeAs 28 = .ok (.aload_n 0, 1) := by decide +kernel
theorem dX1_becomeAs_29 : decode cX1_becomeAs 29 = .ok (.getfield 19, 3) := by decide +kernel
theorem dX1_becomeAs_32 : decode cX1_becomeAs 32 = .ok (.iload_n 2, 1) := by decide +kernel
theorem dX1_becomeAs_33 : decode cX1_becomeAs 33 = .ok (.aload_n 1, 1) := by decide +kernel
theorem dX1_becomeAs_34 : decode cX1_becomeAs 34 = .ok (.getfield 19, 3) := by decide +kernel
theorem dX1_becomeAs_37 : decode cX1_becomeAs 37 = .ok (.iload_n 2, 1) := by decide +kernel
theorem dX1_becomeAs_38 : decode cX1_becomeAs 38 = .ok (.iaload, 1) := by decide +kernel
theorem dX1_becomeAs_39 : decode cX1_becomeAs 39 = .ok (.iastore, 1) := by decide +kernel
theorem dX1_becomeAs_40 : decode cX1_becomeAs 40 = .ok (.iinc 2 1, 3) := by decide +kernel
theorem dX1_becomeAs_43 : decode cX1_becomeAs 43 = .ok (.goto (-33), 3) := by decide +kernel
theorem dX1_becomeAs_46 : decode cX1_becomeAs 46 = .ok (.return_, 1) := by decide +kernel
theorem b_X1_becomeAs_10 {Z : qZ} {G : qG} {o : Nat} {o1 : Nat} {v2 : Int32} {μ : qM} {post : qM → Prop} (C : qX Z G RX1 cX1_becomeAs 3 ({ frames := 0, cells := 0, slots := 0, locals := 0 } : Room) none) (hQ : qQv Z G 0 0 post) (hn : 66 ≤ gn G) (hk_o : qk o = 1) (hk_o1 : qk o1 = 1) (h : q_X1_becomeAs_10 o o1 post v2 μ) : qV Z G 3 0 0 μ 10 [(0, .ref (ga G o)), (1, .ref (ga G o1)), (2, .int v2)] [] := by
  refine h (fun v2 μ => qV Z G 3 0 0 μ 10 [(0, .ref (ga G o)), (1, .ref (ga G o1)), (2, .int v2)] []) (fun v2 μ h => ?_)
  refine x_iload_n C 2 dX1_becomeAs_10 rfl rfl ?_
  refine x_bipush C dX1_becomeAs_11 (v := 10) (by decide) ?_
  refine x_icmp_ge C dX1_becomeAs_13 (tgt := 46) (by decide) h (fun h => ?_) (fun h => ?_)
  · exact x_vret C hQ dX1_becomeAs_46 h
  · refine x_aload_n C 0 dX1_becomeAs_16 rfl rfl ?_
    refine g_RX1_15 C hn hk_o dX1_becomeAs_17 ?_
    refine x_iload_n C 2 dX1_becomeAs_20 rfl rfl ?_
    refine x_aload_n C 1 dX1_becomeAs_21 rfl rfl ?_
    refine g_RX1_15 C hn hk_o1 dX1_becomeAs_22 ?_
    refine x_iload_n C 2 dX1_becomeAs_25 rfl rfl ?_
    refine x_iald C (o1 + 1) 11 10 (q_lt (qn_1_1 hk_o1) rfl hn) (qn_1_1 hk_o1) rfl rfl rfl rfl dX1_becomeAs_26 h (fun h => ?_)
    refine x_iast C (o + 1) 11 10 (q_lt (qn_1_1 hk_o) rfl hn) (qn_1_1 hk_o) rfl rfl rfl rfl dX1_becomeAs_27 h (fun h => ?_)
    refine x_aload_n C 0 dX1_becomeAs_28 rfl rfl ?_
    refine g_RX1_19 C hn hk_o dX1_becomeAs_29 ?_
    refine x_iload_n C 2 dX1_becomeAs_32 rfl rfl ?_
    refine x_aload_n C 1 dX1_becomeAs_33 rfl rfl ?_
    refine g_RX1_19 C hn hk_o1 dX1_becomeAs_34 ?_
    refine x_iload_n C 2 dX1_becomeAs_37 rfl rfl ?_
    refine x_iald C (o1 + 2) 11 10 (q_lt (qn_1_2 hk_o1) rfl hn) (qn_1_2 hk_o1) rfl rfl rfl rfl dX1_becomeAs_38 h (fun h => ?_)
    refine x_iast C (o + 2) 11 10 (q_lt (qn_1_2 hk_o) rfl hn) (qn_1_2 hk_o) rfl rfl rfl rfl dX1_becomeAs_39 h (fun h => ?_)
    refine x_iinc C 2 (v := 1) (L' := [(2, .int ((v2 + 1))), (0, .ref (ga G o)), (1, .ref (ga G o1))]) dX1_becomeAs_40 rfl (by decide) (by decide) rfl ?_
    refine x_goto C dX1_becomeAs_43 (tgt := 10) (by decide) ?_
    exact qV_sub [1, 2, 0] rfl (h)
theorem y_X1_becomeAs : qY yX1_becomeAs cX1_becomeAs 3 none 1 ({ frames := 0, cells := 0, slots := 0, locals := 0 } : Room) 0 0 := ⟨(qm_24 _ (List.mem_of_getElem? (i := 13) rfl)), (qm_3 _ (List.mem_of_getElem? (i := 3) rfl)), by decide +kernel, by decide +kernel, rfl, rfl⟩
theorem c_X1_becomeAs (l : Launch) (G : qG) {o : Nat} {o1 : Nat} {μ : qM} (hn : 66 ≤ gn G) (hk_o : qk o = 1) (hk_o1 : qk o1 = 1) : qCv l G yX1_becomeAs cX1_becomeAs 3 none ({ frames := 0, cells := 0, slots := 0, locals := 0 } : Room) 0 0 [.ref (ga G o), .ref (ga G o1)] μ (fun post => w_X1_becomeAs o o1 post μ) := by
  refine qCv_of (L := [(0, .ref (ga G o)), (1, .ref (ga G o1))]) (by decide) rfl rfl ?_
  intro Z post hl C hQ h
  have C : qX Z G RX1 cX1_becomeAs 3 ({ frames := 0, cells := 0, slots := 0, locals := 0 } : Room) none := C
  have h : w_X1_becomeAs o o1 post μ := h
  unfold w_X1_becomeAs at h
  refine x_aload_n C 0 dX1_becomeAs_0 rfl rfl ?_
  refine x_aload_n C 1 dX1_becomeAs_1 rfl rfl ?_
  refine g_RX1_9 C hn hk_o1 dX1_becomeAs_2 ?_
  refine p_RX1_9 C hn hk_o dX1_becomeAs_5 ?_
  refine x_iconst C dX1_becomeAs_8 (v := 0) (by decide) ?_
  refine x_istore_n C (L' := [(2, .int ((0 : Int32))), (0, .ref (ga G o)), (1, .ref (ga G o1))]) dX1_becomeAs_9 rfl (by decide) rfl ?_
  exact qV_sub [1, 2, 0] rfl (b_X1_becomeAs_10 C hQ hn hk_o hk_o1 h)
theorem dX1_stands_0 : decode cX1_stands 0 = .ok (.iconst 0, 1) := by decide +kernel
theorem dX1_stands_1 : decode cX1_stands 1 = .ok (.istore_n 2, 1) := by decide +kernel
theorem dX1_stands_2 : decode cX1_stands 2 = .ok (.iload_n 2, 1) := by decide +kernel
theorem dX1_stands_3 : decode cX1_stands 3 = .ok (.aload_n 0, 1) := by decide +kernel
theorem dX1_stands_4 : decode cX1_stands 4 = .ok (.getfield 9, 3) := by decide +kernel
theorem dX1_stands_7 : decode cX1_stands 7 = .ok (.if_icmp .ge 21, 3) := by decide +kernel
theorem dX1_stands_10 : decode cX1_stands 10 = .ok (.aload_n 0, 1) := by decide +kernel
theorem dX1_stands_11 : decode cX1_stands 11 = .ok (.getfield 19, 3) := by decide +kernel
theorem dX1_stands_14 : decode cX1_stands 14 = .ok (.iload_n 2, 1) := by decide +kernel
theorem dX1_stands_15 : decode cX1_stands 15 = .ok (.iaload, 1) := by decide +kernel
theorem dX1_stands_16 : decode cX1_stands 16 = .ok (.iload_n 1, 1) := by decide +kernel
theorem dX1_stands_17 : decode cX1_stands 17 = .ok (.if_icmp .ne 5, 3) := by decide +kernel
theorem dX1_stands_20 : decode cX1_stands 20 = .ok (.iconst 1, 1) := by decide +kernel
theorem dX1_stands_21 : decode cX1_stands 21 = .ok (.ireturn, 1) := by decide +kernel
theorem dX1_stands_22 : decode cX1_stands 22 = .ok (.iinc 2 1, 3) := by decide +kernel
theorem dX1_stands_25 : decode cX1_stands 25 = .ok (.goto (-23), 3) := by decide +kernel
theorem dX1_stands_28 : decode cX1_stands 28 = .ok (.iconst 0, 1) := by decide +kernel
theorem dX1_stands_29 : decode cX1_stands 29 = .ok (.ireturn, 1) := by decide +kernel
theorem b_X1_stands_2 {Z : qZ} {G : qG} {o : Nat} {v1 : Int32} {v2 : Int32} {μ : qM} {post : Int32 → qM → Prop} (C : qX Z G RX1 cX1_stands 3 ({ frames := 0, cells := 0, slots := 0, locals := 0 } : Room) (some .boolean)) (hQ : qQi Z G 0 0 post) (hn : 66 ≤ gn G) (hk_o : qk o = 1) (h : q_X1_stands_2 o v1 post v2 μ) : qV Z G 3 0 0 μ 2 [(0, .ref (ga G o)), (1, .int v1), (2, .int v2)] [] := by
  refine h (fun v2 μ => qV Z G 3 0 0 μ 2 [(0, .ref (ga G o)), (1, .int v1), (2, .int v2)] []) (fun v2 μ h => ?_)
  refine x_iload_n C 2 dX1_stands_2 rfl rfl ?_
  refine x_aload_n C 0 dX1_stands_3 rfl rfl ?_
  refine g_RX1_9 C hn hk_o dX1_stands_4 ?_
  refine x_icmp_ge C dX1_stands_7 (tgt := 28) (by decide) h (fun h => ?_) (fun h => ?_)
  · refine x_iconst C dX1_stands_28 (v := 0) (by decide) ?_
    exact x_zret C hQ dX1_stands_29 h
  · refine x_aload_n C 0 dX1_stands_10 rfl rfl ?_
    refine g_RX1_19 C hn hk_o dX1_stands_11 ?_
    refine x_iload_n C 2 dX1_stands_14 rfl rfl ?_
    refine x_iald C (o + 2) 11 10 (q_lt (qn_1_2 hk_o) rfl hn) (qn_1_2 hk_o) rfl rfl rfl rfl dX1_stands_15 h (fun h => ?_)
    refine x_iload_n C 1 dX1_stands_16 rfl rfl ?_
    refine x_icmp_ne C dX1_stands_17 (tgt := 22) (by decide) h (fun h => ?_) (fun h => ?_)
    · refine x_iinc C 2 (v := 1) (L' := [(2, .int ((v2 + 1))), (0, .ref (ga G o)), (1, .int v1)]) dX1_stands_22 rfl (by decide) (by decide) rfl ?_
      refine x_goto C dX1_stands_25 (tgt := 2) (by decide) ?_
      exact qV_sub [1, 2, 0] rfl (h)
    · refine x_iconst C dX1_stands_20 (v := 1) (by decide) ?_
      exact x_zret C hQ dX1_stands_21 h
theorem y_X1_stands : qY yX1_stands cX1_stands 3 (some .boolean) 1 ({ frames := 0, cells := 0, slots := 0, locals := 0 } : Room) 0 0 := ⟨(qm_7 _ (List.mem_of_getElem? (i := 18) rfl)), (qm_3 _ (List.mem_of_getElem? (i := 3) rfl)), by decide +kernel, by decide +kernel, rfl, rfl⟩
theorem c_X1_stands (l : Launch) (G : qG) {o : Nat} {v1 : Int32} {μ : qM} (hn : 66 ≤ gn G) (hk_o : qk o = 1) : qCi l G yX1_stands cX1_stands 3 (some .boolean) ({ frames := 0, cells := 0, slots := 0, locals := 0 } : Room) 0 0 [.ref (ga G o), .int v1] μ (fun post => w_X1_stands o v1 post μ) := by
  refine qCi_of (L := [(0, .ref (ga G o)), (1, .int v1)]) (by decide) rfl rfl ?_
  intro Z post hl C hQ h
  have C : qX Z G RX1 cX1_stands 3 ({ frames := 0, cells := 0, slots := 0, locals := 0 } : Room) (some .boolean) := C
  have h : w_X1_stands o v1 post μ := h
  unfold w_X1_stands at h
  refine x_iconst C dX1_stands_0 (v := 0) (by decide) ?_
  refine x_istore_n C (L' := [(2, .int ((0 : Int32))), (0, .ref (ga G o)), (1, .int v1)]) dX1_stands_1 rfl (by decide) rfl ?_
  exact qV_sub [1, 2, 0] rfl (b_X1_stands_2 C hQ hn hk_o h)
theorem dX1_partners_0 : decode cX1_partners 0 = .ok (.iconst 0, 1) := by decide +kernel
theorem dX1_partners_1 : decode cX1_partners 1 = .ok (.istore_n 2, 1) := by decide +kernel
theorem dX1_partners_2 : decode cX1_partners 2 = .ok (.iconst 0, 1) := by decide +kernel
theorem dX1_partners_3 : decode cX1_partners 3 = .ok (.istore_n 3, 1) := by decide +kernel
theorem dX1_partners_4 : decode cX1_partners 4 = .ok (.iload_n 3, 1) := by decide +kernel
theorem dX1_partners_5 : decode cX1_partners 5 = .ok (.aload_n 0, 1) := by decide +kernel
theorem dX1_partners_6 : decode cX1_partners 6 = .ok (.getfield 9, 3) := by decide +kernel
theorem dX1_partners_9 : decode cX1_partners 9 = .ok (.if_icmp .ge 24, 3) := by decide +kernel
theorem dX1_partners_12 : decode cX1_partners 12 = .ok (.aload_n 0, 1) := by decide +kernel
theorem dX1_partners_13 : decode cX1_partners 13 = .ok (.iload_n 1, 1) := by decide +kernel
theorem dX1_partners_14 : decode cX1_partners 14 = .ok (.iload_n 3, 1) := by decide +kernel
theorem dX1_partners_15 : decode cX1_partners 15 = .ok (.invokevirtual 43, 3) := by decide +kernel
theorem dX1_partners_18 : decode cX1_partners 18 = .ok (.ifCond .eq 9, 3) := by decide +kernel
theorem dX1_partners_21 : decode cX1_partners 21 = .ok (.iload_n 2, 1) := by decide +kernel
theorem dX1_partners_22 : decode cX1_partners 22 = .ok (.iconst 1, 1) := by decide +kernel
theorem dX1_partners_23 : decode cX1_partners 23 = .ok (.iload_n 3, 1) := by decide +kernel
theorem dX1_partners_24 : decode cX1_partners 24 = .ok (.ishl, 1) := by decide +kernel
theorem dX1_partners_25 : decode cX1_partners 25 = .ok (.ior, 1) := by decide +kernel
theorem dX1_partners_26 : decode cX1_partners 26 = .ok (.istore_n 2, 1) := by decide +kernel
theorem dX1_partners_27 : decode cX1_partners 27 = .ok (.iinc 3 1, 3) := by decide +kernel
theorem dX1_partners_30 : decode cX1_partners 30 = .ok (.goto (-26), 3) := by decide +kernel
theorem dX1_partners_33 : decode cX1_partners 33 = .ok (.iload_n 2, 1) := by decide +kernel
theorem dX1_partners_34 : decode cX1_partners 34 = .ok (.ireturn, 1) := by decide +kernel
theorem i_RX1_43 {Z : qZ} {G : qG} {cc : ByteArray} {nL k n : Nat} {rm : Room} {ret : Option FieldType} {μ : qM} {pc : Nat} {L : List (Nat × Value)} {rest : List Value} {K : Int32 → qM → Prop} {o : Nat} {v1 : Int32} {v2 : Int32} (C : qX Z G RX1 cc nL rm ret) (hn : 66 ≤ gn G) (hk_o : qk o = 1) (hR : (Nat.ble (3 + 1) rm.frames && Nat.ble (8 + (3 + 11) + 71) rm.locals) = true) (hf : k + 0 ≤ rm.cells ∧ n + 0 ≤ rm.slots) (hsz : Nat.ble (rest.map fun v => v.category).sum 8 = true) (hd : decode cc pc = .ok (.invokevirtual 43, 3)) (h : w_X1_arePair o v1 v2 K μ) (hk : ∀ (r : Int32) (μ1 : qM), K r μ1 → qV Z G nL k n μ1 (pc + 3) L (.int r :: rest)) : qV Z G nL k n μ pc L (.int v2 :: .int v1 :: .ref (ga G o) :: rest) := x_Vi [.int v1, .int v2] rest C o 1 (wp := fun K => w_X1_arePair o v1 v2 K μ) (y_X1_arePair : qY yX1_arePair cX1_arePair 3 (some .boolean) 2 ({ frames := 3, cells := 0, slots := 0, locals := 71 } : Room) 0 0) (qm_13 _ (List.mem_of_getElem? (i := 20) rfl)) (qm_13 _ (List.mem_of_getElem? (i := 21) rfl)) (qm_13 _ (List.mem_of_getElem? (i := 19) rfl)) (c_X1_arePair Z.2.1 G hn hk_o) (q_lt hk_o rfl hn) hk_o (by decide) rfl rfl hR hf rfl rfl hsz hd h hk
theorem b_X1_partners_27 {Z : qZ} {G : qG} {o : Nat} {v1 : Int32} {v2 : Int32} {v3 : Int32} {μ : qM} {P4 : Int32 → Int32 → qM → Prop} {post : Int32 → qM → Prop} (C : qX Z G RX1 cX1_partners 4 ({ frames := 4, cells := 0, slots := 0, locals := 93 } : Room) (some .int)) (hQ : qQi Z G 0 0 post) (hn : 66 ≤ gn G) (hk_o : qk o = 1) (hP4 : ∀ (b2 : Int32) (b3 : Int32) (μ1 : qM), P4 b2 b3 μ1 → qV Z G 4 0 0 μ1 4 [(0, .ref (ga G o)), (1, .int v1), (2, .int b2), (3, .int b3)] []) (h : q_X1_partners_27 o P4 post v1 v2 v3 μ) : qV Z G 4 0 0 μ 27 [(0, .ref (ga G o)), (1, .int v1), (2, .int v2), (3, .int v3)] [] := by
  unfold q_X1_partners_27 at h
  refine x_iinc C 3 (v := 1) (L' := [(3, .int ((v3 + 1))), (0, .ref (ga G o)), (1, .int v1), (2, .int v2)]) dX1_partners_27 rfl (by decide) (by decide) rfl ?_
  refine x_goto C dX1_partners_30 (tgt := 4) (by decide) ?_
  exact qV_sub [1, 2, 3, 0] rfl ((hP4 _ _ _ h))
theorem b_X1_partners_4 {Z : qZ} {G : qG} {o : Nat} {v1 : Int32} {v2 : Int32} {v3 : Int32} {μ : qM} {post : Int32 → qM → Prop} (C : qX Z G RX1 cX1_partners 4 ({ frames := 4, cells := 0, slots := 0, locals := 93 } : Room) (some .int)) (hQ : qQi Z G 0 0 post) (hn : 66 ≤ gn G) (hk_o : qk o = 1) (h : q_X1_partners_4 o v1 post v2 v3 μ) : qV Z G 4 0 0 μ 4 [(0, .ref (ga G o)), (1, .int v1), (2, .int v2), (3, .int v3)] [] := by
  refine h (fun v2 v3 μ => qV Z G 4 0 0 μ 4 [(0, .ref (ga G o)), (1, .int v1), (2, .int v2), (3, .int v3)] []) (fun v2 v3 μ h => ?_)
  refine x_iload_n C 3 dX1_partners_4 rfl rfl ?_
  refine x_aload_n C 0 dX1_partners_5 rfl rfl ?_
  refine g_RX1_9 C hn hk_o dX1_partners_6 ?_
  refine x_icmp_ge C dX1_partners_9 (tgt := 33) (by decide) h (fun h => ?_) (fun h => ?_)
  · refine x_iload_n C 2 dX1_partners_33 rfl rfl ?_
    exact x_iret C hQ dX1_partners_34 h
  · refine x_aload_n C 0 dX1_partners_12 rfl rfl ?_
    refine x_iload_n C 1 dX1_partners_13 rfl rfl ?_
    refine x_iload_n C 3 dX1_partners_14 rfl rfl ?_
    refine i_RX1_43 (rest := []) C hn hk_o rfl (by decide) rfl dX1_partners_15 h (fun r15 μ15 h => ?_)
    refine x_if_eq C dX1_partners_18 (tgt := 27) (by decide) h (fun h => ?_) (fun h => ?_)
    · exact b_X1_partners_27 C hQ hn hk_o (fun _ _ _ h => h) h
    · refine x_iload_n C 2 dX1_partners_21 rfl rfl ?_
      refine x_iconst C dX1_partners_22 (v := 1) (by decide) ?_
      refine x_iload_n C 3 dX1_partners_23 rfl rfl ?_
      refine x_ishl C dX1_partners_24 ?_
      refine x_ior C dX1_partners_25 ?_
      refine x_istore_n C (L' := [(2, .int ((v2 ||| ((1 : Int32) <<< (v3 &&& 31))))), (0, .ref (ga G o)), (1, .int v1), (3, .int v3)]) dX1_partners_26 rfl (by decide) rfl ?_
      exact qV_sub [1, 2, 0, 3] rfl (b_X1_partners_27 C hQ hn hk_o (fun _ _ _ h => h) h)
theorem y_X1_partners : qY yX1_partners cX1_partners 4 (some .int) 1 ({ frames := 4, cells := 0, slots := 0, locals := 93 } : Room) 0 0 := ⟨(qm_13 _ (List.mem_of_getElem? (i := 18) rfl)), (qm_3 _ (List.mem_of_getElem? (i := 3) rfl)), by decide +kernel, by decide +kernel, rfl, rfl⟩
theorem c_X1_partners (l : Launch) (G : qG) {o : Nat} {v1 : Int32} {μ : qM} (hn : 66 ≤ gn G) (hk_o : qk o = 1) : qCi l G yX1_partners cX1_partners 4 (some .int) ({ frames := 4, cells := 0, slots := 0, locals := 93 } : Room) 0 0 [.ref (ga G o), .int v1] μ (fun post => w_X1_partners o v1 post μ) := by
  refine qCi_of (L := [(0, .ref (ga G o)), (1, .int v1)]) (by decide) rfl rfl ?_
  intro Z post hl C hQ h
  have C : qX Z G RX1 cX1_partners 4 ({ frames := 4, cells := 0, slots := 0, locals := 93 } : Room) (some .int) := C
  have h : w_X1_partners o v1 post μ := h
  unfold w_X1_partners at h
  refine x_iconst C dX1_partners_0 (v := 0) (by decide) ?_
  refine x_istore_n C (L' := [(2, .int ((0 : Int32))), (0, .ref (ga G o)), (1, .int v1)]) dX1_partners_1 rfl (by decide) rfl ?_
  refine x_iconst C dX1_partners_2 (v := 0) (by decide) ?_
  refine x_istore_n C (L' := [(3, .int ((0 : Int32))), (2, .int ((0 : Int32))), (0, .ref (ga G o)), (1, .int v1)]) dX1_partners_3 rfl (by decide) rfl ?_
  exact qV_sub [2, 3, 1, 0] rfl (b_X1_partners_4 C hQ hn hk_o h)
theorem dX1_countPairs_0 : decode cX1_countPairs 0 = .ok (.iconst 0, 1) := by decide +kernel
theorem dX1_countPairs_1 : decode cX1_countPairs 1 = .ok (.istore_n 1, 1) := by decide +kernel
theorem dX1_countPairs_2 : decode cX1_countPairs 2 = .ok (.iconst 0, 1) := by decide +kernel
theorem dX1_countPairs_3 : decode cX1_countPairs 3 = .ok (.istore_n 2, 1) := by decide +kernel
theorem dX1_countPairs_4 : decode cX1_countPairs 4 = .ok (.iload_n 2, 1) := by decide +kernel
theorem dX1_countPairs_5 : decode cX1_countPairs 5 = .ok (.aload_n 0, 1) := by decide +kernel
theorem dX1_countPairs_6 : decode cX1_countPairs 6 = .ok (.getfield 9, 3) := by decide +kernel
theorem dX1_countPairs_9 : decode cX1_countPairs 9 = .ok (.if_icmp .ge 20, 3) := by decide +kernel
theorem dX1_countPairs_12 : decode cX1_countPairs 12 = .ok (.iload_n 1, 1) := by decide +kernel
theorem dX1_countPairs_13 : decode cX1_countPairs 13 = .ok (.aload_n 0, 1) := by decide +kernel
theorem dX1_countPairs_14 : decode cX1_countPairs 14 = .ok (.iload_n 2, 1) := by decide +kernel
theorem dX1_countPairs_15 : decode cX1_countPairs 15 = .ok (.invokevirtual 47, 3) := by decide +kernel
theorem dX1_countPairs_18 : decode cX1_countPairs 18 = .ok (.invokestatic 51, 3) := by decide +kernel
theorem dX1_countPairs_21 : decode cX1_countPairs 21 = .ok (.iadd, 1) := by decide +kernel
theorem dX1_countPairs_22 : decode cX1_countPairs 22 = .ok (.istore_n 1, 1) := by decide +kernel
theorem dX1_countPairs_23 : decode cX1_countPairs 23 = .ok (.iinc 2 1, 3) := by decide +kernel
theorem dX1_countPairs_26 : decode cX1_countPairs 26 = .ok (.goto (-22), 3) := by decide +kernel
theorem dX1_countPairs_29 : decode cX1_countPairs 29 = .ok (.iload_n 1, 1) := by decide +kernel
theorem dX1_countPairs_30 : decode cX1_countPairs 30 = .ok (.iconst 2, 1) := by decide +kernel
theorem dX1_countPairs_31 : decode cX1_countPairs 31 = .ok (.idiv, 1) := by decide +kernel
theorem dX1_countPairs_32 : decode cX1_countPairs 32 = .ok (.ireturn, 1) := by decide +kernel
theorem i_RX1_47 {Z : qZ} {G : qG} {cc : ByteArray} {nL k n : Nat} {rm : Room} {ret : Option FieldType} {μ : qM} {pc : Nat} {L : List (Nat × Value)} {rest : List Value} {K : Int32 → qM → Prop} {o : Nat} {v1 : Int32} (C : qX Z G RX1 cc nL rm ret) (hn : 66 ≤ gn G) (hk_o : qk o = 1) (hR : (Nat.ble (4 + 1) rm.frames && Nat.ble (8 + (4 + 11) + 93) rm.locals) = true) (hf : k + 0 ≤ rm.cells ∧ n + 0 ≤ rm.slots) (hsz : Nat.ble (rest.map fun v => v.category).sum 8 = true) (hd : decode cc pc = .ok (.invokevirtual 47, 3)) (h : w_X1_partners o v1 K μ) (hk : ∀ (r : Int32) (μ1 : qM), K r μ1 → qV Z G nL k n μ1 (pc + 3) L (.int r :: rest)) : qV Z G nL k n μ pc L (.int v1 :: .ref (ga G o) :: rest) := x_Vi [.int v1] rest C o 1 (wp := fun K => w_X1_partners o v1 K μ) (y_X1_partners : qY yX1_partners cX1_partners 4 (some .int) 1 ({ frames := 4, cells := 0, slots := 0, locals := 93 } : Room) 0 0) (qm_13 _ (List.mem_of_getElem? (i := 16) rfl)) (qm_13 _ (List.mem_of_getElem? (i := 17) rfl)) (qm_52 _ (List.mem_of_getElem? (i := 1) rfl)) (c_X1_partners Z.2.1 G hn hk_o) (q_lt hk_o rfl hn) hk_o (by decide) rfl rfl hR hf rfl rfl hsz hd h hk
theorem i_RX1_51 {Z : qZ} {G : qG} {cc : ByteArray} {nL k n : Nat} {rm : Room} {ret : Option FieldType} {μ : qM} {pc : Nat} {L : List (Nat × Value)} {rest : List Value} {K : Int32 → qM → Prop} {v0 : Int32} (C : qX Z G RX1 cc nL rm ret) (hn : 66 ≤ gn G) (hR : (Nat.ble (0 + 1) rm.frames && Nat.ble (8 + (1 + 11) + 0) rm.locals) = true) (hf : k + 0 ≤ rm.cells ∧ n + 0 ≤ rm.slots) (hsz : Nat.ble (rest.map fun v => v.category).sum 8 = true) (hd : decode cc pc = .ok (.invokestatic 51, 3)) (h : w_J6_bitCount_0f7a4 v0 K μ) (hk : ∀ (r : Int32) (μ1 : qM), K r μ1 → qV Z G nL k n μ1 (pc + 3) L (.int r :: rest)) : qV Z G nL k n μ pc L (.int v0 :: rest) := x_Si [.int v0] rest C (wp := fun K => w_J6_bitCount_0f7a4 v0 K μ) (y_J6_bitCount_0f7a4 : qY yJ6_bitCount_0f7a4 cJ6_bitCount_0f7a4 1 (some .int) 1 ({ frames := 0, cells := 0, slots := 0, locals := 0 } : Room) 0 0) (qm_30 _ (List.mem_of_getElem? (i := 0) rfl)) (qm_52 _ (List.mem_of_getElem? (i := 2) rfl)) (c_J6_bitCount_0f7a4 Z.2.1 G hn ) hR hf rfl rfl hsz hd h hk
theorem b_X1_countPairs_4 {Z : qZ} {G : qG} {o : Nat} {v1 : Int32} {v2 : Int32} {μ : qM} {post : Int32 → qM → Prop} (C : qX Z G RX1 cX1_countPairs 3 ({ frames := 5, cells := 0, slots := 0, locals := 116 } : Room) (some .int)) (hQ : qQi Z G 0 0 post) (hn : 66 ≤ gn G) (hk_o : qk o = 1) (h : q_X1_countPairs_4 o post v1 v2 μ) : qV Z G 3 0 0 μ 4 [(0, .ref (ga G o)), (1, .int v1), (2, .int v2)] [] := by
  refine h (fun v1 v2 μ => qV Z G 3 0 0 μ 4 [(0, .ref (ga G o)), (1, .int v1), (2, .int v2)] []) (fun v1 v2 μ h => ?_)
  refine x_iload_n C 2 dX1_countPairs_4 rfl rfl ?_
  refine x_aload_n C 0 dX1_countPairs_5 rfl rfl ?_
  refine g_RX1_9 C hn hk_o dX1_countPairs_6 ?_
  refine x_icmp_ge C dX1_countPairs_9 (tgt := 29) (by decide) h (fun h => ?_) (fun h => ?_)
  · refine x_iload_n C 1 dX1_countPairs_29 rfl rfl ?_
    refine x_iconst C dX1_countPairs_30 (v := 2) (by decide) ?_
    refine x_idiv C dX1_countPairs_31 h (fun h => ?_)
    exact x_iret C hQ dX1_countPairs_32 h
  · refine x_iload_n C 1 dX1_countPairs_12 rfl rfl ?_
    refine x_aload_n C 0 dX1_countPairs_13 rfl rfl ?_
    refine x_iload_n C 2 dX1_countPairs_14 rfl rfl ?_
    refine i_RX1_47 (rest := [.int v1]) C hn hk_o rfl (by decide) rfl dX1_countPairs_15 h (fun r15 μ15 h => ?_)
    refine i_RX1_51 (rest := [.int v1]) C hn  rfl (by decide) rfl dX1_countPairs_18 h (fun r18 μ18 h => ?_)
    refine x_iadd C dX1_countPairs_21 ?_
    refine x_istore_n C (L' := [(1, .int ((v1 + r18))), (0, .ref (ga G o)), (2, .int v2)]) dX1_countPairs_22 rfl (by decide) rfl ?_
    refine x_iinc C 2 (v := 1) (L' := [(2, .int ((v2 + 1))), (1, .int ((v1 + r18))), (0, .ref (ga G o))]) dX1_countPairs_23 rfl (by decide) (by decide) rfl ?_
    refine x_goto C dX1_countPairs_26 (tgt := 4) (by decide) ?_
    exact qV_sub [2, 1, 0] rfl (h)
theorem y_X1_countPairs : qY yX1_countPairs cX1_countPairs 3 (some .int) 0 ({ frames := 5, cells := 0, slots := 0, locals := 116 } : Room) 0 0 := ⟨(qm_52 _ (List.mem_of_getElem? (i := 0) rfl)), (qm_3 _ (List.mem_of_getElem? (i := 3) rfl)), by decide +kernel, by decide +kernel, rfl, rfl⟩
theorem c_X1_countPairs (l : Launch) (G : qG) {o : Nat} {μ : qM} (hn : 66 ≤ gn G) (hk_o : qk o = 1) : qCi l G yX1_countPairs cX1_countPairs 3 (some .int) ({ frames := 5, cells := 0, slots := 0, locals := 116 } : Room) 0 0 [.ref (ga G o)] μ (fun post => w_X1_countPairs o post μ) := by
  refine qCi_of (L := [(0, .ref (ga G o))]) (by decide) rfl rfl ?_
  intro Z post hl C hQ h
  have C : qX Z G RX1 cX1_countPairs 3 ({ frames := 5, cells := 0, slots := 0, locals := 116 } : Room) (some .int) := C
  have h : w_X1_countPairs o post μ := h
  unfold w_X1_countPairs at h
  refine x_iconst C dX1_countPairs_0 (v := 0) (by decide) ?_
  refine x_istore_n C (L' := [(1, .int ((0 : Int32))), (0, .ref (ga G o))]) dX1_countPairs_1 rfl (by decide) rfl ?_
  refine x_iconst C dX1_countPairs_2 (v := 0) (by decide) ?_
  refine x_istore_n C (L' := [(2, .int ((0 : Int32))), (1, .int ((0 : Int32))), (0, .ref (ga G o))]) dX1_countPairs_3 rfl (by decide) rfl ?_
  exact qV_sub [2, 1, 0] rfl (b_X1_countPairs_4 C hQ hn hk_o h)
theorem dX1_measureAll_0 : decode cX1_measureAll 0 = .ok (.iconst 0, 1) := by decide +kernel
theorem dX1_measureAll_1 : decode cX1_measureAll 1 = .ok (.istore_n 2, 1) := by decide +kernel
theorem dX1_measureAll_2 : decode cX1_measureAll 2 = .ok (.iload_n 2, 1) := by decide +kernel
theorem dX1_measureAll_3 : decode cX1_measureAll 3 = .ok (.aload_n 0, 1) := by decide +kernel
theorem dX1_measureAll_4 : decode cX1_measureAll 4 = .ok (.getfield 9, 3) := by decide +kernel
theorem dX1_measureAll_7 : decode cX1_measureAll 7 = .ok (.if_icmp .ge 31, 3) := by decide +kernel
theorem dX1_measureAll_10 : decode cX1_measureAll 10 = .ok (.aload_n 0, 1) := by decide +kernel
theorem dX1_measureAll_11 : decode cX1_measureAll 11 = .ok (.getfield 22, 3) := by decide +kernel
theorem dX1_measureAll_14 : decode cX1_measureAll 14 = .ok (.iload_n 2, 1) := by decide +kernel
theorem dX1_measureAll_15 : decode cX1_measureAll 15 = .ok (.aload_n 0, 1) := by decide +kernel
theorem dX1_measureAll_16 : decode cX1_measureAll 16 = .ok (.getfield 15, 3) := by decide +kernel
theorem dX1_measureAll_19 : decode cX1_measureAll 19 = .ok (.iload_n 2, 1) := by decide +kernel
theorem dX1_measureAll_20 : decode cX1_measureAll 20 = .ok (.iaload, 1) := by decide +kernel
theorem dX1_measureAll_21 : decode cX1_measureAll 21 = .ok (.aload_n 0, 1) := by decide +kernel
theorem dX1_measureAll_22 : decode cX1_measureAll 22 = .ok (.getfield 19, 3) := by decide +kernel
theorem dX1_measureAll_25 : decode cX1_measureAll 25 = .ok (.iload_n 2, 1) := by decide +kernel
theorem dX1_measureAll_26 : decode cX1_measureAll 26 = .ok (.iaload, 1) := by decide +kernel
theorem dX1_measureAll_27 : decode cX1_measureAll 27 = .ok (.iload_n 1, 1) := by decide +kernel
theorem dX1_measureAll_28 : decode cX1_measureAll 28 = .ok (.invokestatic 33, 3) := by decide +kernel
theorem dX1_measureAll_31 : decode cX1_measureAll 31 = .ok (.iastore, 1) := by decide +kernel
theorem dX1_measureAll_32 : decode cX1_measureAll 32 = .ok (.iinc 2 1, 3) := by decide +kernel
theorem dX1_measureAll_35 : decode cX1_measureAll 35 = .ok (.goto (-33), 3) := by decide +kernel
theorem dX1_measureAll_38 : decode cX1_measureAll 38 = .ok (.return_, 1) := by decide +kernel
theorem g_RX1_22 {Z : qZ} {G : qG} {cc : ByteArray} {nL k n : Nat} {rm : Room} {ret : Option FieldType} {μ : qM} {pc : Nat} {L : List (Nat × Value)} {st : List Value} {o : Nat} (C : qX Z G RX1 cc nL rm ret) (hn : 66 ≤ gn G) (hk : qk o = 1) (hd : decode cc pc = .ok (.getfield 22, 3)) (h : qV Z G nL k n μ (pc + 3) L (.ref (ga G (o + 3)) :: st)) : qV Z G nL k n μ pc L (.ref (ga G o) :: st) := x_getr C o 1 3 3 (o + 3) (C0 := RX1) (fn := "fars") (fd := "[I") (q_lt hk rfl hn) hk (by decide) rfl (by decide) rfl inlX1 (qm_3 _ (List.mem_of_getElem? (i := 16) rfl)) rfl rfl rfl hd h
theorem b_X1_measureAll_2 {Z : qZ} {G : qG} {o : Nat} {v1 : Int32} {v2 : Int32} {μ : qM} {post : qM → Prop} (C : qX Z G RX1 cX1_measureAll 3 ({ frames := 1, cells := 0, slots := 0, locals := 25 } : Room) none) (hQ : qQv Z G 0 0 post) (hn : 66 ≤ gn G) (hk_o : qk o = 1) (h : q_X1_measureAll_2 o v1 post v2 μ) : qV Z G 3 0 0 μ 2 [(0, .ref (ga G o)), (1, .int v1), (2, .int v2)] [] := by
  refine h (fun v2 μ => qV Z G 3 0 0 μ 2 [(0, .ref (ga G o)), (1, .int v1), (2, .int v2)] []) (fun v2 μ h => ?_)
  refine x_iload_n C 2 dX1_measureAll_2 rfl rfl ?_
  refine x_aload_n C 0 dX1_measureAll_3 rfl rfl ?_
  refine g_RX1_9 C hn hk_o dX1_measureAll_4 ?_
  refine x_icmp_ge C dX1_measureAll_7 (tgt := 38) (by decide) h (fun h => ?_) (fun h => ?_)
  · exact x_vret C hQ dX1_measureAll_38 h
  · refine x_aload_n C 0 dX1_measureAll_10 rfl rfl ?_
    refine g_RX1_22 C hn hk_o dX1_measureAll_11 ?_
    refine x_iload_n C 2 dX1_measureAll_14 rfl rfl ?_
    refine x_aload_n C 0 dX1_measureAll_15 rfl rfl ?_
    refine g_RX1_15 C hn hk_o dX1_measureAll_16 ?_
    refine x_iload_n C 2 dX1_measureAll_19 rfl rfl ?_
    refine x_iald C (o + 1) 11 10 (q_lt (qn_1_1 hk_o) rfl hn) (qn_1_1 hk_o) rfl rfl rfl rfl dX1_measureAll_20 h (fun h => ?_)
    refine x_aload_n C 0 dX1_measureAll_21 rfl rfl ?_
    refine g_RX1_19 C hn hk_o dX1_measureAll_22 ?_
    refine x_iload_n C 2 dX1_measureAll_25 rfl rfl ?_
    refine x_iald C (o + 2) 11 10 (q_lt (qn_1_2 hk_o) rfl hn) (qn_1_2 hk_o) rfl rfl rfl rfl dX1_measureAll_26 h (fun h => ?_)
    refine x_iload_n C 1 dX1_measureAll_27 rfl rfl ?_
    refine i_RX1_33 (rest := [.int v2, .ref (ga G (o + 3))]) C hn  rfl (by decide) rfl dX1_measureAll_28 h (fun r28 μ28 h => ?_)
    refine x_iast C (o + 3) 11 10 (q_lt (qn_1_3 hk_o) rfl hn) (qn_1_3 hk_o) rfl rfl rfl rfl dX1_measureAll_31 h (fun h => ?_)
    refine x_iinc C 2 (v := 1) (L' := [(2, .int ((v2 + 1))), (0, .ref (ga G o)), (1, .int v1)]) dX1_measureAll_32 rfl (by decide) (by decide) rfl ?_
    refine x_goto C dX1_measureAll_35 (tgt := 2) (by decide) ?_
    exact qV_sub [1, 2, 0] rfl (h)
theorem y_X1_measureAll : qY yX1_measureAll cX1_measureAll 3 none 1 ({ frames := 1, cells := 0, slots := 0, locals := 25 } : Room) 0 0 := ⟨(qm_10 _ (List.mem_of_getElem? (i := 11) rfl)), (qm_3 _ (List.mem_of_getElem? (i := 3) rfl)), by decide +kernel, by decide +kernel, rfl, rfl⟩
theorem c_X1_measureAll (l : Launch) (G : qG) {o : Nat} {v1 : Int32} {μ : qM} (hn : 66 ≤ gn G) (hk_o : qk o = 1) : qCv l G yX1_measureAll cX1_measureAll 3 none ({ frames := 1, cells := 0, slots := 0, locals := 25 } : Room) 0 0 [.ref (ga G o), .int v1] μ (fun post => w_X1_measureAll o v1 post μ) := by
  refine qCv_of (L := [(0, .ref (ga G o)), (1, .int v1)]) (by decide) rfl rfl ?_
  intro Z post hl C hQ h
  have C : qX Z G RX1 cX1_measureAll 3 ({ frames := 1, cells := 0, slots := 0, locals := 25 } : Room) none := C
  have h : w_X1_measureAll o v1 post μ := h
  unfold w_X1_measureAll at h
  refine x_iconst C dX1_measureAll_0 (v := 0) (by decide) ?_
  refine x_istore_n C (L' := [(2, .int ((0 : Int32))), (0, .ref (ga G o)), (1, .int v1)]) dX1_measureAll_1 rfl (by decide) rfl ?_
  exact qV_sub [1, 2, 0] rfl (b_X1_measureAll_2 C hQ hn hk_o h)
theorem dX1_evenPairs_0 : decode cX1_evenPairs 0 = .ok (.aload_n 0, 1) := by decide +kernel
theorem dX1_evenPairs_1 : decode cX1_evenPairs 1 = .ok (.iload_n 1, 1) := by decide +kernel
theorem dX1_evenPairs_2 : decode cX1_evenPairs 2 = .ok (.invokevirtual 56, 3) := by decide +kernel
theorem dX1_evenPairs_5 : decode cX1_evenPairs 5 = .ok (.iconst 0, 1) := by decide +kernel
theorem dX1_evenPairs_6 : decode cX1_evenPairs 6 = .ok (.istore 4, 2) := by decide +kernel
theorem dX1_evenPairs_8 : decode cX1_evenPairs 8 = .ok (.iconst 0, 1) := by decide +kernel
theorem dX1_evenPairs_9 : decode cX1_evenPairs 9 = .ok (.istore 5, 2) := by decide +kernel
theorem dX1_evenPairs_11 : decode cX1_evenPairs 11 = .ok (.iload 5, 2) := by decide +kernel
theorem dX1_evenPairs_13 : decode cX1_evenPairs 13 = .ok (.aload_n 0, 1) := by decide +kernel
theorem dX1_evenPairs_14 : decode cX1_evenPairs 14 = .ok (.getfield 9, 3) := by decide +kernel
theorem dX1_evenPairs_17 : decode cX1_evenPairs 17 = .ok (.if_icmp .ge 108, 3) := by decide +kernel
theorem dX1_evenPairs_20 : decode cX1_evenPairs 20 = .ok (.iload 4, 2) := by decide +kernel
theorem dX1_evenPairs_22 : decode cX1_evenPairs 22 = .ok (.iload_n 3, 1) := by decide +kernel
theorem dX1_evenPairs_23 : decode cX1_evenPairs 23 = .ok (.if_icmp .ge 102, 3) := by decide +kernel
theorem dX1_evenPairs_26 : decode cX1_evenPairs 26 = .ok (.iload 5, 2) := by decide +kernel
theorem dX1_evenPairs_28 : decode cX1_evenPairs 28 = .ok (.iconst 1, 1) := by decide +kernel
theorem dX1_evenPairs_29 : decode cX1_evenPairs 29 = .ok (.iadd, 1) := by decide +kernel
theorem dX1_evenPairs_30 : decode cX1_evenPairs 30 = .ok (.istore 6, 2) := by decide +kernel
theorem dX1_evenPairs_32 : decode cX1_evenPairs 32 = .ok (.iload 6, 2) := by decide +kernel
theorem dX1_evenPairs_34 : decode cX1_evenPairs 34 = .ok (.aload_n 0, 1) := by decide +kernel
theorem dX1_evenPairs_35 : decode cX1_evenPairs 35 = .ok (.getfield 9, 3) := by decide +kernel
theorem dX1_evenPairs_38 : decode cX1_evenPairs 38 = .ok (.if_icmp .ge 81, 3) := by decide +kernel
theorem dX1_evenPairs_41 : decode cX1_evenPairs 41 = .ok (.iload 4, 2) := by decide +kernel
theorem dX1_evenPairs_43 : decode cX1_evenPairs 43 = .ok (.iload_n 3, 1) := by decide +kernel
theorem dX1_evenPairs_44 : decode cX1_evenPairs 44 = .ok (.if_icmp .ge 75, 3) := by decide +kernel
theorem dX1_evenPairs_47 : decode cX1_evenPairs 47 = .ok (.aload_n 0, 1) := by decide +kernel
theorem dX1_evenPairs_48 : decode cX1_evenPairs 48 = .ok (.getfield 22, 3) := by decide +kernel
theorem dX1_evenPairs_51 : decode cX1_evenPairs 51 = .ok (.iload 5, 2) := by decide +kernel
theorem dX1_evenPairs_53 : decode cX1_evenPairs 53 = .ok (.iaload, 1) := by decide +kernel
theorem dX1_evenPairs_54 : decode cX1_evenPairs 54 = .ok (.aload_n 0, 1) := by decide +kernel
theorem dX1_evenPairs_55 : decode cX1_evenPairs 55 = .ok (.getfield 22, 3) := by decide +kernel
theorem dX1_evenPairs_58 : decode cX1_evenPairs 58 = .ok (.iload 6, 2) := by decide +kernel
theorem dX1_evenPairs_60 : decode cX1_evenPairs 60 = .ok (.iaload, 1) := by decide +kernel
theorem dX1_evenPairs_61 : decode cX1_evenPairs 61 = .ok (.if_icmp .ne 52, 3) := by decide +kernel
theorem dX1_evenPairs_64 : decode cX1_evenPairs 64 = .ok (.iload 5, 2) := by decide +kernel
theorem dX1_evenPairs_66 : decode cX1_evenPairs 66 = .ok (.iload_n 2, 1) := by decide +kernel
theorem dX1_evenPairs_67 : decode cX1_evenPairs 67 = .ok (.if_icmp .eq 46, 3) := by decide +kernel
theorem dX1_evenPairs_70 : decode cX1_evenPairs 70 = .ok (.iload 6, 2) := by decide +kernel
theorem dX1_evenPairs_72 : decode cX1_evenPairs 72 = .ok (.iload_n 2, 1) := by decide +kernel
theorem dX1_evenPairs_73 : decode cX1_evenPairs 73 = .ok (.if_icmp .eq 40, 3) := by decide +kernel
theorem dX1_evenPairs_76 : decode cX1_evenPairs 76 = .ok (.aload_n 0, 1) := by decide +kernel
theorem dX1_evenPairs_77 : decode cX1_evenPairs 77 = .ok (.getfield 15, 3) := by decide +kernel
theorem dX1_evenPairs_80 : decode cX1_evenPairs 80 = .ok (.iload 5, 2) := by decide +kernel
theorem dX1_evenPairs_82 : decode cX1_evenPairs 82 = .ok (.iaload, 1) := by decide +kernel
theorem dX1_evenPairs_83 : decode cX1_evenPairs 83 = .ok (.aload_n 0, 1) := by decide +kernel
theorem dX1_evenPairs_84 : decode cX1_evenPairs 84 = .ok (.getfield 19, 3) := by decide +kernel
theorem dX1_evenPairs_87 : decode cX1_evenPairs 87 = .ok (.iload 5, 2) := by decide +kernel
theorem dX1_evenPairs_89 : decode cX1_evenPairs 89 = .ok (.iaload, 1) := by decide +kernel
theorem dX1_evenPairs_90 : decode cX1_evenPairs 90 = .ok (.aload_n 0, 1) := by decide +kernel
theorem dX1_evenPairs_91 : decode cX1_evenPairs 91 = .ok (.getfield 15, 3) := by decide +kernel
theorem dX1_evenPairs_94 : decode cX1_evenPairs 94 = .ok (.iload 6, 2) := by decide +kernel
theorem dX1_evenPairs_96 : decode cX1_evenPairs 96 = .ok (.iaload, 1) := by decide +kernel
theorem dX1_evenPairs_97 : decode cX1_evenPairs 97 = .ok (.aload_n 0, 1) := by decide +kernel
theorem dX1_evenPairs_98 : decode cX1_evenPairs 98 = .ok (.getfield 19, 3) := by decide +kernel
theorem dX1_evenPairs_101 : decode cX1_evenPairs 101 = .ok (.iload 6, 2) := by decide +kernel
theorem dX1_evenPairs_103 : decode cX1_evenPairs 103 = .ok (.iaload, 1) := by decide +kernel
theorem dX1_evenPairs_104 : decode cX1_evenPairs 104 = .ok (.invokestatic 39, 3) := by decide +kernel
theorem dX1_evenPairs_107 : decode cX1_evenPairs 107 = .ok (.ifCond .eq 6, 3) := by decide +kernel
theorem dX1_evenPairs_110 : decode cX1_evenPairs 110 = .ok (.iinc 4 1, 3) := by decide +kernel
theorem dX1_evenPairs_113 : decode cX1_evenPairs 113 = .ok (.iinc 6 1, 3) := by decide +kernel
theorem dX1_evenPairs_116 : decode cX1_evenPairs 116 = .ok (.goto (-84), 3) := by decide +kernel
theorem dX1_evenPairs_119 : decode cX1_evenPairs 119 = .ok (.iinc 5 1, 3) := by decide +kernel
theorem dX1_evenPairs_122 : decode cX1_evenPairs 122 = .ok (.goto (-111), 3) := by decide +kernel
theorem dX1_evenPairs_125 : decode cX1_evenPairs 125 = .ok (.iload 4, 2) := by decide +kernel
theorem dX1_evenPairs_127 : decode cX1_evenPairs 127 = .ok (.ireturn, 1) := by decide +kernel
theorem i_RX1_56 {Z : qZ} {G : qG} {cc : ByteArray} {nL k n : Nat} {rm : Room} {ret : Option FieldType} {μ : qM} {pc : Nat} {L : List (Nat × Value)} {rest : List Value} {K : qM → Prop} {o : Nat} {v1 : Int32} (C : qX Z G RX1 cc nL rm ret) (hn : 66 ≤ gn G) (hk_o : qk o = 1) (hR : (Nat.ble (1 + 1) rm.frames && Nat.ble (8 + (3 + 11) + 25) rm.locals) = true) (hf : k + 0 ≤ rm.cells ∧ n + 0 ≤ rm.slots) (hsz : Nat.ble (rest.map fun v => v.category).sum 8 = true) (hd : decode cc pc = .ok (.invokevirtual 56, 3)) (h : w_X1_measureAll o v1 K μ) (hk : ∀ (μ1 : qM), K μ1 → qV Z G nL k n μ1 (pc + 3) L rest) : qV Z G nL k n μ pc L (.int v1 :: .ref (ga G o) :: rest) := x_Vv [.int v1] rest C o 1 (wp := fun K => w_X1_measureAll o v1 K μ) (y_X1_measureAll : qY yX1_measureAll cX1_measureAll 3 none 1 ({ frames := 1, cells := 0, slots := 0, locals := 25 } : Room) 0 0) (qm_10 _ (List.mem_of_getElem? (i := 9) rfl)) (qm_10 _ (List.mem_of_getElem? (i := 10) rfl)) (qm_10 _ (List.mem_of_getElem? (i := 8) rfl)) (c_X1_measureAll Z.2.1 G hn hk_o) (q_lt hk_o rfl hn) hk_o (by decide) rfl rfl hR hf rfl rfl hsz hd h hk
theorem b_X1_evenPairs_119 {Z : qZ} {G : qG} {o : Nat} {v2 : Int32} {v3 : Int32} {v4 : Int32} {v5 : Int32} {μ : qM} {P11 : Int32 → Int32 → qM → Prop} {post : Int32 → qM → Prop} (C : qX Z G RX1 cX1_evenPairs 7 ({ frames := 3, cells := 0, slots := 0, locals := 71 } : Room) (some .int)) (hQ : qQi Z G 0 0 post) (hn : 66 ≤ gn G) (hk_o : qk o = 1) (hP11 : ∀ (b4 : Int32) (b5 : Int32) (μ1 : qM), P11 b4 b5 μ1 → qV Z G 7 0 0 μ1 11 [(0, .ref (ga G o)), (2, .int v2), (3, .int v3), (4, .int b4), (5, .int b5)] []) (h : q_X1_evenPairs_119 o P11 post v2 v3 v4 v5 μ) : qV Z G 7 0 0 μ 119 [(0, .ref (ga G o)), (2, .int v2), (3, .int v3), (4, .int v4), (5, .int v5)] [] := by
  unfold q_X1_evenPairs_119 at h
  refine x_iinc C 4 (v := 1) (L' := [(5, .int ((v5 + 1))), (0, .ref (ga G o)), (2, .int v2), (3, .int v3), (4, .int v4)]) dX1_evenPairs_119 rfl (by decide) (by decide) rfl ?_
  refine x_goto C dX1_evenPairs_122 (tgt := 11) (by decide) ?_
  exact qV_sub [1, 2, 3, 4, 0] rfl ((hP11 _ _ _ h))
theorem b_X1_evenPairs_113 {Z : qZ} {G : qG} {o : Nat} {v2 : Int32} {v3 : Int32} {v4 : Int32} {v5 : Int32} {v6 : Int32} {μ : qM} {P11 : Int32 → Int32 → qM → Prop} {P32 : Int32 → Int32 → qM → Prop} {post : Int32 → qM → Prop} (C : qX Z G RX1 cX1_evenPairs 7 ({ frames := 3, cells := 0, slots := 0, locals := 71 } : Room) (some .int)) (hQ : qQi Z G 0 0 post) (hn : 66 ≤ gn G) (hk_o : qk o = 1) (hP11 : ∀ (b4 : Int32) (b5 : Int32) (μ1 : qM), P11 b4 b5 μ1 → qV Z G 7 0 0 μ1 11 [(0, .ref (ga G o)), (2, .int v2), (3, .int v3), (4, .int b4), (5, .int b5)] []) (hP32 : ∀ (b4 : Int32) (b6 : Int32) (μ1 : qM), P32 b4 b6 μ1 → qV Z G 7 0 0 μ1 32 [(0, .ref (ga G o)), (2, .int v2), (3, .int v3), (4, .int b4), (5, .int v5), (6, .int b6)] []) (h : q_X1_evenPairs_113 o P11 P32 post v2 v3 v4 v5 v6 μ) : qV Z G 7 0 0 μ 113 [(0, .ref (ga G o)), (2, .int v2), (3, .int v3), (4, .int v4), (5, .int v5), (6, .int v6)] [] := by
  unfold q_X1_evenPairs_113 at h
  refine x_iinc C 5 (v := 1) (L' := [(6, .int ((v6 + 1))), (0, .ref (ga G o)), (2, .int v2), (3, .int v3), (4, .int v4), (5, .int v5)]) dX1_evenPairs_113 rfl (by decide) (by decide) rfl ?_
  refine x_goto C dX1_evenPairs_116 (tgt := 32) (by decide) ?_
  exact qV_sub [1, 2, 3, 4, 5, 0] rfl ((hP32 _ _ _ h))
theorem b_X1_evenPairs_32 {Z : qZ} {G : qG} {o : Nat} {v2 : Int32} {v3 : Int32} {v4 : Int32} {v5 : Int32} {v6 : Int32} {μ : qM} {P11 : Int32 → Int32 → qM → Prop} {post : Int32 → qM → Prop} (C : qX Z G RX1 cX1_evenPairs 7 ({ frames := 3, cells := 0, slots := 0, locals := 71 } : Room) (some .int)) (hQ : qQi Z G 0 0 post) (hn : 66 ≤ gn G) (hk_o : qk o = 1) (hP11 : ∀ (b4 : Int32) (b5 : Int32) (μ1 : qM), P11 b4 b5 μ1 → qV Z G 7 0 0 μ1 11 [(0, .ref (ga G o)), (2, .int v2), (3, .int v3), (4, .int b4), (5, .int b5)] []) (h : q_X1_evenPairs_32 o v2 v3 v5 P11 post v4 v6 μ) : qV Z G 7 0 0 μ 32 [(0, .ref (ga G o)), (2, .int v2), (3, .int v3), (4, .int v4), (5, .int v5), (6, .int v6)] [] := by
  refine h (fun v4 v6 μ => qV Z G 7 0 0 μ 32 [(0, .ref (ga G o)), (2, .int v2), (3, .int v3), (4, .int v4), (5, .int v5), (6, .int v6)] []) (fun v4 v6 μ h => ?_)
  refine x_iload C 5 dX1_evenPairs_32 rfl ?_
  refine x_aload_n C 0 dX1_evenPairs_34 rfl rfl ?_
  refine g_RX1_9 C hn hk_o dX1_evenPairs_35 ?_
  refine x_icmp_ge C dX1_evenPairs_38 (tgt := 119) (by decide) h (fun h => ?_) (fun h => ?_)
  · exact qV_sub [0, 1, 2, 3, 4] rfl (b_X1_evenPairs_119 C hQ hn hk_o hP11 h)
  · refine x_iload C 3 dX1_evenPairs_41 rfl ?_
    refine x_iload_n C 2 dX1_evenPairs_43 rfl rfl ?_
    refine x_icmp_ge C dX1_evenPairs_44 (tgt := 119) (by decide) h (fun h => ?_) (fun h => ?_)
    · exact qV_sub [0, 1, 2, 3, 4] rfl (b_X1_evenPairs_119 C hQ hn hk_o hP11 h)
    · refine x_aload_n C 0 dX1_evenPairs_47 rfl rfl ?_
      refine g_RX1_22 C hn hk_o dX1_evenPairs_48 ?_
      refine x_iload C 4 dX1_evenPairs_51 rfl ?_
      refine x_iald C (o + 3) 11 10 (q_lt (qn_1_3 hk_o) rfl hn) (qn_1_3 hk_o) rfl rfl rfl rfl dX1_evenPairs_53 h (fun h => ?_)
      refine x_aload_n C 0 dX1_evenPairs_54 rfl rfl ?_
      refine g_RX1_22 C hn hk_o dX1_evenPairs_55 ?_
      refine x_iload C 5 dX1_evenPairs_58 rfl ?_
      refine x_iald C (o + 3) 11 10 (q_lt (qn_1_3 hk_o) rfl hn) (qn_1_3 hk_o) rfl rfl rfl rfl dX1_evenPairs_60 h (fun h => ?_)
      refine x_icmp_ne C dX1_evenPairs_61 (tgt := 113) (by decide) h (fun h => ?_) (fun h => ?_)
      · exact b_X1_evenPairs_113 C hQ hn hk_o hP11 (fun _ _ _ h => h) h
      · refine x_iload C 4 dX1_evenPairs_64 rfl ?_
        refine x_iload_n C 1 dX1_evenPairs_66 rfl rfl ?_
        refine x_icmp_eq C dX1_evenPairs_67 (tgt := 113) (by decide) h (fun h => ?_) (fun h => ?_)
        · exact b_X1_evenPairs_113 C hQ hn hk_o hP11 (fun _ _ _ h => h) h
        · refine x_iload C 5 dX1_evenPairs_70 rfl ?_
          refine x_iload_n C 1 dX1_evenPairs_72 rfl rfl ?_
          refine x_icmp_eq C dX1_evenPairs_73 (tgt := 113) (by decide) h (fun h => ?_) (fun h => ?_)
          · exact b_X1_evenPairs_113 C hQ hn hk_o hP11 (fun _ _ _ h => h) h
          · refine x_aload_n C 0 dX1_evenPairs_76 rfl rfl ?_
            refine g_RX1_15 C hn hk_o dX1_evenPairs_77 ?_
            refine x_iload C 4 dX1_evenPairs_80 rfl ?_
            refine x_iald C (o + 1) 11 10 (q_lt (qn_1_1 hk_o) rfl hn) (qn_1_1 hk_o) rfl rfl rfl rfl dX1_evenPairs_82 h (fun h => ?_)
            refine x_aload_n C 0 dX1_evenPairs_83 rfl rfl ?_
            refine g_RX1_19 C hn hk_o dX1_evenPairs_84 ?_
            refine x_iload C 4 dX1_evenPairs_87 rfl ?_
            refine x_iald C (o + 2) 11 10 (q_lt (qn_1_2 hk_o) rfl hn) (qn_1_2 hk_o) rfl rfl rfl rfl dX1_evenPairs_89 h (fun h => ?_)
            refine x_aload_n C 0 dX1_evenPairs_90 rfl rfl ?_
            refine g_RX1_15 C hn hk_o dX1_evenPairs_91 ?_
            refine x_iload C 5 dX1_evenPairs_94 rfl ?_
            refine x_iald C (o + 1) 11 10 (q_lt (qn_1_1 hk_o) rfl hn) (qn_1_1 hk_o) rfl rfl rfl rfl dX1_evenPairs_96 h (fun h => ?_)
            refine x_aload_n C 0 dX1_evenPairs_97 rfl rfl ?_
            refine g_RX1_19 C hn hk_o dX1_evenPairs_98 ?_
            refine x_iload C 5 dX1_evenPairs_101 rfl ?_
            refine x_iald C (o + 2) 11 10 (q_lt (qn_1_2 hk_o) rfl hn) (qn_1_2 hk_o) rfl rfl rfl rfl dX1_evenPairs_103 h (fun h => ?_)
            refine i_RX1_39 (rest := []) C hn  rfl (by decide) rfl dX1_evenPairs_104 h (fun r104 μ104 h => ?_)
            refine x_if_eq C dX1_evenPairs_107 (tgt := 113) (by decide) h (fun h => ?_) (fun h => ?_)
            · exact b_X1_evenPairs_113 C hQ hn hk_o hP11 (fun _ _ _ h => h) h
            · refine x_iinc C 3 (v := 1) (L' := [(4, .int ((v4 + 1))), (0, .ref (ga G o)), (2, .int v2), (3, .int v3), (5, .int v5), (6, .int v6)]) dX1_evenPairs_110 rfl (by decide) (by decide) rfl ?_
              exact qV_sub [1, 2, 3, 0, 4, 5] rfl (b_X1_evenPairs_113 C hQ hn hk_o hP11 (fun _ _ _ h => h) h)
theorem b_X1_evenPairs_125 {Z : qZ} {G : qG} {o : Nat} {v4 : Int32} {μ : qM} {post : Int32 → qM → Prop} (C : qX Z G RX1 cX1_evenPairs 7 ({ frames := 3, cells := 0, slots := 0, locals := 71 } : Room) (some .int)) (hQ : qQi Z G 0 0 post) (hn : 66 ≤ gn G) (hk_o : qk o = 1) (h : q_X1_evenPairs_125 o post v4 μ) : qV Z G 7 0 0 μ 125 [(4, .int v4)] [] := by
  unfold q_X1_evenPairs_125 at h
  refine x_iload C 0 dX1_evenPairs_125 rfl ?_
  exact x_iret C hQ dX1_evenPairs_127 h
theorem b_X1_evenPairs_11 {Z : qZ} {G : qG} {o : Nat} {v2 : Int32} {v3 : Int32} {v4 : Int32} {v5 : Int32} {μ : qM} {post : Int32 → qM → Prop} (C : qX Z G RX1 cX1_evenPairs 7 ({ frames := 3, cells := 0, slots := 0, locals := 71 } : Room) (some .int)) (hQ : qQi Z G 0 0 post) (hn : 66 ≤ gn G) (hk_o : qk o = 1) (h : q_X1_evenPairs_11 o v2 v3 post v4 v5 μ) : qV Z G 7 0 0 μ 11 [(0, .ref (ga G o)), (2, .int v2), (3, .int v3), (4, .int v4), (5, .int v5)] [] := by
  refine h (fun v4 v5 μ => qV Z G 7 0 0 μ 11 [(0, .ref (ga G o)), (2, .int v2), (3, .int v3), (4, .int v4), (5, .int v5)] []) (fun v4 v5 μ h => ?_)
  refine x_iload C 4 dX1_evenPairs_11 rfl ?_
  refine x_aload_n C 0 dX1_evenPairs_13 rfl rfl ?_
  refine g_RX1_9 C hn hk_o dX1_evenPairs_14 ?_
  refine x_icmp_ge C dX1_evenPairs_17 (tgt := 125) (by decide) h (fun h => ?_) (fun h => ?_)
  · exact qV_sub [3] rfl (b_X1_evenPairs_125 C hQ hn hk_o h)
  · refine x_iload C 3 dX1_evenPairs_20 rfl ?_
    refine x_iload_n C 2 dX1_evenPairs_22 rfl rfl ?_
    refine x_icmp_ge C dX1_evenPairs_23 (tgt := 125) (by decide) h (fun h => ?_) (fun h => ?_)
    · exact qV_sub [3] rfl (b_X1_evenPairs_125 C hQ hn hk_o h)
    · refine x_iload C 4 dX1_evenPairs_26 rfl ?_
      refine x_iconst C dX1_evenPairs_28 (v := 1) (by decide) ?_
      refine x_iadd C dX1_evenPairs_29 ?_
      refine x_istore C (L' := [(6, .int ((v5 + (1 : Int32)))), (0, .ref (ga G o)), (2, .int v2), (3, .int v3), (4, .int v4), (5, .int v5)]) dX1_evenPairs_30 (by decide) rfl ?_
      exact qV_sub [1, 2, 3, 4, 5, 0] rfl (b_X1_evenPairs_32 C hQ hn hk_o (fun _ _ _ h => h) h)
theorem y_X1_evenPairs : qY yX1_evenPairs cX1_evenPairs 7 (some .int) 3 ({ frames := 3, cells := 0, slots := 0, locals := 71 } : Room) 0 0 := ⟨(qm_10 _ (List.mem_of_getElem? (i := 7) rfl)), (qm_3 _ (List.mem_of_getElem? (i := 3) rfl)), by decide +kernel, by decide +kernel, rfl, rfl⟩
theorem c_X1_evenPairs (l : Launch) (G : qG) {o : Nat} {v1 : Int32} {v2 : Int32} {v3 : Int32} {μ : qM} (hn : 66 ≤ gn G) (hk_o : qk o = 1) : qCi l G yX1_evenPairs cX1_evenPairs 7 (some .int) ({ frames := 3, cells := 0, slots := 0, locals := 71 } : Room) 0 0 [.ref (ga G o), .int v1, .int v2, .int v3] μ (fun post => w_X1_evenPairs o v1 v2 v3 post μ) := by
  refine qCi_of (L := [(0, .ref (ga G o)), (1, .int v1), (2, .int v2), (3, .int v3)]) (by decide) rfl rfl ?_
  intro Z post hl C hQ h
  have C : qX Z G RX1 cX1_evenPairs 7 ({ frames := 3, cells := 0, slots := 0, locals := 71 } : Room) (some .int) := C
  have h : w_X1_evenPairs o v1 v2 v3 post μ := h
  unfold w_X1_evenPairs at h
  refine x_aload_n C 0 dX1_evenPairs_0 rfl rfl ?_
  refine x_iload_n C 1 dX1_evenPairs_1 rfl rfl ?_
  refine i_RX1_56 (rest := []) C hn hk_o rfl (by decide) rfl dX1_evenPairs_2 h (fun μ2 h => ?_)
  refine x_iconst C dX1_evenPairs_5 (v := 0) (by decide) ?_
  refine x_istore C (L' := [(4, .int ((0 : Int32))), (0, .ref (ga G o)), (1, .int v1), (2, .int v2), (3, .int v3)]) dX1_evenPairs_6 (by decide) rfl ?_
  refine x_iconst C dX1_evenPairs_8 (v := 0) (by decide) ?_
  refine x_istore C (L' := [(5, .int ((0 : Int32))), (4, .int ((0 : Int32))), (0, .ref (ga G o)), (1, .int v1), (2, .int v2), (3, .int v3)]) dX1_evenPairs_9 (by decide) rfl ?_
  exact qV_sub [2, 4, 5, 1, 0] rfl (b_X1_evenPairs_11 C hQ hn hk_o h)
theorem dX1_freeings_0 : decode cX1_freeings 0 = .ok (.aload_n 0, 1) := by decide +kernel
theorem dX1_freeings_1 : decode cX1_freeings 1 = .ok (.iload_n 1, 1) := by decide +kernel
theorem dX1_freeings_2 : decode cX1_freeings 2 = .ok (.invokevirtual 60, 3) := by decide +kernel
theorem dX1_freeings_5 : decode cX1_freeings 5 = .ok (.ifCond .eq 7, 3) := by decide +kernel
theorem dX1_freeings_8 : decode cX1_freeings 8 = .ok (.iconst 0, 1) := by decide +kernel
theorem dX1_freeings_9 : decode cX1_freeings 9 = .ok (.goto 11, 3) := by decide +kernel
theorem dX1_freeings_12 : decode cX1_freeings 12 = .ok (.aload_n 0, 1) := by decide +kernel
theorem dX1_freeings_13 : decode cX1_freeings 13 = .ok (.iload_n 1, 1) := by decide +kernel
theorem dX1_freeings_14 : decode cX1_freeings 14 = .ok (.iconst (-1), 1) := by decide +kernel
theorem dX1_freeings_15 : decode cX1_freeings 15 = .ok (.bipush 100, 2) := by decide +kernel
theorem dX1_freeings_17 : decode cX1_freeings 17 = .ok (.invokevirtual 63, 3) := by decide +kernel
theorem dX1_freeings_20 : decode cX1_freeings 20 = .ok (.ireturn, 1) := by decide +kernel
theorem i_RX1_60 {Z : qZ} {G : qG} {cc : ByteArray} {nL k n : Nat} {rm : Room} {ret : Option FieldType} {μ : qM} {pc : Nat} {L : List (Nat × Value)} {rest : List Value} {K : Int32 → qM → Prop} {o : Nat} {v1 : Int32} (C : qX Z G RX1 cc nL rm ret) (hn : 66 ≤ gn G) (hk_o : qk o = 1) (hR : (Nat.ble (0 + 1) rm.frames && Nat.ble (8 + (3 + 11) + 0) rm.locals) = true) (hf : k + 0 ≤ rm.cells ∧ n + 0 ≤ rm.slots) (hsz : Nat.ble (rest.map fun v => v.category).sum 8 = true) (hd : decode cc pc = .ok (.invokevirtual 60, 3)) (h : w_X1_stands o v1 K μ) (hk : ∀ (r : Int32) (μ1 : qM), K r μ1 → qV Z G nL k n μ1 (pc + 3) L (.int r :: rest)) : qV Z G nL k n μ pc L (.int v1 :: .ref (ga G o) :: rest) := x_Vi [.int v1] rest C o 1 (wp := fun K => w_X1_stands o v1 K μ) (y_X1_stands : qY yX1_stands cX1_stands 3 (some .boolean) 1 ({ frames := 0, cells := 0, slots := 0, locals := 0 } : Room) 0 0) (qm_7 _ (List.mem_of_getElem? (i := 16) rfl)) (qm_7 _ (List.mem_of_getElem? (i := 17) rfl)) (qm_10 _ (List.mem_of_getElem? (i := 3) rfl)) (c_X1_stands Z.2.1 G hn hk_o) (q_lt hk_o rfl hn) hk_o (by decide) rfl rfl hR hf rfl rfl hsz hd h hk
theorem i_RX1_63 {Z : qZ} {G : qG} {cc : ByteArray} {nL k n : Nat} {rm : Room} {ret : Option FieldType} {μ : qM} {pc : Nat} {L : List (Nat × Value)} {rest : List Value} {K : Int32 → qM → Prop} {o : Nat} {v1 : Int32} {v2 : Int32} {v3 : Int32} (C : qX Z G RX1 cc nL rm ret) (hn : 66 ≤ gn G) (hk_o : qk o = 1) (hR : (Nat.ble (3 + 1) rm.frames && Nat.ble (8 + (7 + 11) + 71) rm.locals) = true) (hf : k + 0 ≤ rm.cells ∧ n + 0 ≤ rm.slots) (hsz : Nat.ble (rest.map fun v => v.category).sum 8 = true) (hd : decode cc pc = .ok (.invokevirtual 63, 3)) (h : w_X1_evenPairs o v1 v2 v3 K μ) (hk : ∀ (r : Int32) (μ1 : qM), K r μ1 → qV Z G nL k n μ1 (pc + 3) L (.int r :: rest)) : qV Z G nL k n μ pc L (.int v3 :: .int v2 :: .int v1 :: .ref (ga G o) :: rest) := x_Vi [.int v1, .int v2, .int v3] rest C o 1 (wp := fun K => w_X1_evenPairs o v1 v2 v3 K μ) (y_X1_evenPairs : qY yX1_evenPairs cX1_evenPairs 7 (some .int) 3 ({ frames := 3, cells := 0, slots := 0, locals := 71 } : Room) 0 0) (qm_10 _ (List.mem_of_getElem? (i := 5) rfl)) (qm_10 _ (List.mem_of_getElem? (i := 6) rfl)) (qm_10 _ (List.mem_of_getElem? (i := 4) rfl)) (c_X1_evenPairs Z.2.1 G hn hk_o) (q_lt hk_o rfl hn) hk_o (by decide) rfl rfl hR hf rfl rfl hsz hd h hk
theorem y_X1_freeings : qY yX1_freeings cX1_freeings 2 (some .int) 1 ({ frames := 4, cells := 0, slots := 0, locals := 97 } : Room) 0 0 := ⟨(qm_17 _ (List.mem_of_getElem? (i := 10) rfl)), (qm_3 _ (List.mem_of_getElem? (i := 3) rfl)), by decide +kernel, by decide +kernel, rfl, rfl⟩
theorem c_X1_freeings (l : Launch) (G : qG) {o : Nat} {v1 : Int32} {μ : qM} (hn : 66 ≤ gn G) (hk_o : qk o = 1) : qCi l G yX1_freeings cX1_freeings 2 (some .int) ({ frames := 4, cells := 0, slots := 0, locals := 97 } : Room) 0 0 [.ref (ga G o), .int v1] μ (fun post => w_X1_freeings o v1 post μ) := by
  refine qCi_of (L := [(0, .ref (ga G o)), (1, .int v1)]) (by decide) rfl rfl ?_
  intro Z post hl C hQ h
  have C : qX Z G RX1 cX1_freeings 2 ({ frames := 4, cells := 0, slots := 0, locals := 97 } : Room) (some .int) := C
  have h : w_X1_freeings o v1 post μ := h
  unfold w_X1_freeings at h
  refine x_aload_n C 0 dX1_freeings_0 rfl rfl ?_
  refine x_iload_n C 1 dX1_freeings_1 rfl rfl ?_
  refine i_RX1_60 (rest := []) C hn hk_o rfl (by decide) rfl dX1_freeings_2 h (fun r2 μ2 h => ?_)
  refine x_if_eq C dX1_freeings_5 (tgt := 12) (by decide) h (fun h => ?_) (fun h => ?_)
  · refine x_aload_n C 0 dX1_freeings_12 rfl rfl ?_
    refine x_iload_n C 1 dX1_freeings_13 rfl rfl ?_
    refine x_iconst C dX1_freeings_14 (v := -1) (by decide) ?_
    refine x_bipush C dX1_freeings_15 (v := 100) (by decide) ?_
    refine i_RX1_63 (rest := []) C hn hk_o rfl (by decide) rfl dX1_freeings_17 h (fun r17 μ17 h => ?_)
    exact x_iret C hQ dX1_freeings_20 h
  · refine x_iconst C dX1_freeings_8 (v := 0) (by decide) ?_
    refine x_goto C dX1_freeings_9 (tgt := 20) (by decide) ?_
    exact x_iret C hQ dX1_freeings_20 h
theorem dX1_isFree_0 : decode cX1_isFree 0 = .ok (.aload_n 0, 1) := by decide +kernel
theorem dX1_isFree_1 : decode cX1_isFree 1 = .ok (.iload_n 1, 1) := by decide +kernel
theorem dX1_isFree_2 : decode cX1_isFree 2 = .ok (.invokevirtual 60, 3) := by decide +kernel
theorem dX1_isFree_5 : decode cX1_isFree 5 = .ok (.ifCond .ne 17, 3) := by decide +kernel
theorem dX1_isFree_8 : decode cX1_isFree 8 = .ok (.aload_n 0, 1) := by decide +kernel
theorem dX1_isFree_9 : decode cX1_isFree 9 = .ok (.iload_n 1, 1) := by decide +kernel
theorem dX1_isFree_10 : decode cX1_isFree 10 = .ok (.iconst (-1), 1) := by decide +kernel
theorem dX1_isFree_11 : decode cX1_isFree 11 = .ok (.iconst 1, 1) := by decide +kernel
theorem dX1_isFree_12 : decode cX1_isFree 12 = .ok (.invokevirtual 63, 3) := by decide +kernel
theorem dX1_isFree_15 : decode cX1_isFree 15 = .ok (.ifCond .le 7, 3) := by decide +kernel
theorem dX1_isFree_18 : decode cX1_isFree 18 = .ok (.iconst 1, 1) := by decide +kernel
theorem dX1_isFree_19 : decode cX1_isFree 19 = .ok (.goto 4, 3) := by decide +kernel
theorem dX1_isFree_22 : decode cX1_isFree 22 = .ok (.iconst 0, 1) := by decide +kernel
theorem dX1_isFree_23 : decode cX1_isFree 23 = .ok (.ireturn, 1) := by decide +kernel
theorem b_X1_isFree_22 {Z : qZ} {G : qG} {o : Nat} {μ : qM} {post : Int32 → qM → Prop} (C : qX Z G RX1 cX1_isFree 2 ({ frames := 4, cells := 0, slots := 0, locals := 97 } : Room) (some .boolean)) (hQ : qQi Z G 0 0 post) (hn : 66 ≤ gn G) (hk_o : qk o = 1) (h : q_X1_isFree_22 o post μ) : qV Z G 2 0 0 μ 22 [] [] := by
  unfold q_X1_isFree_22 at h
  refine x_iconst C dX1_isFree_22 (v := 0) (by decide) ?_
  exact x_zret C hQ dX1_isFree_23 h
theorem y_X1_isFree : qY yX1_isFree cX1_isFree 2 (some .boolean) 1 ({ frames := 4, cells := 0, slots := 0, locals := 97 } : Room) 0 0 := ⟨(qm_10 _ (List.mem_of_getElem? (i := 2) rfl)), (qm_3 _ (List.mem_of_getElem? (i := 3) rfl)), by decide +kernel, by decide +kernel, rfl, rfl⟩
theorem c_X1_isFree (l : Launch) (G : qG) {o : Nat} {v1 : Int32} {μ : qM} (hn : 66 ≤ gn G) (hk_o : qk o = 1) : qCi l G yX1_isFree cX1_isFree 2 (some .boolean) ({ frames := 4, cells := 0, slots := 0, locals := 97 } : Room) 0 0 [.ref (ga G o), .int v1] μ (fun post => w_X1_isFree o v1 post μ) := by
  refine qCi_of (L := [(0, .ref (ga G o)), (1, .int v1)]) (by decide) rfl rfl ?_
  intro Z post hl C hQ h
  have C : qX Z G RX1 cX1_isFree 2 ({ frames := 4, cells := 0, slots := 0, locals := 97 } : Room) (some .boolean) := C
  have h : w_X1_isFree o v1 post μ := h
  unfold w_X1_isFree at h
  refine x_aload_n C 0 dX1_isFree_0 rfl rfl ?_
  refine x_iload_n C 1 dX1_isFree_1 rfl rfl ?_
  refine i_RX1_60 (rest := []) C hn hk_o rfl (by decide) rfl dX1_isFree_2 h (fun r2 μ2 h => ?_)
  refine x_if_ne C dX1_isFree_5 (tgt := 22) (by decide) h (fun h => ?_) (fun h => ?_)
  · exact qV_sub [] rfl (b_X1_isFree_22 C hQ hn hk_o h)
  · refine x_aload_n C 0 dX1_isFree_8 rfl rfl ?_
    refine x_iload_n C 1 dX1_isFree_9 rfl rfl ?_
    refine x_iconst C dX1_isFree_10 (v := -1) (by decide) ?_
    refine x_iconst C dX1_isFree_11 (v := 1) (by decide) ?_
    refine i_RX1_63 (rest := []) C hn hk_o rfl (by decide) rfl dX1_isFree_12 h (fun r12 μ12 h => ?_)
    refine x_if_le C dX1_isFree_15 (tgt := 22) (by decide) h (fun h => ?_) (fun h => ?_)
    · exact qV_sub [] rfl (b_X1_isFree_22 C hQ hn hk_o h)
    · refine x_iconst C dX1_isFree_18 (v := 1) (by decide) ?_
      refine x_goto C dX1_isFree_19 (tgt := 23) (by decide) ?_
      exact x_zret C hQ dX1_isFree_23 h
theorem dX1_isFreeWithout_0 : decode cX1_isFreeWithout 0 = .ok (.aload_n 0, 1) := by decide +kernel
theorem dX1_isFreeWithout_1 : decode cX1_isFreeWithout 1 = .ok (.iload_n 1, 1) := by decide +kernel
theorem dX1_isFreeWithout_2 : decode cX1_isFreeWithout 2 = .ok (.iload_n 2, 1) := by decide +kernel
theorem dX1_isFreeWithout_3 : decode cX1_isFreeWithout 3 = .ok (.iconst 1, 1) := by decide +kernel
theorem dX1_isFreeWithout_4 : decode cX1_isFreeWithout 4 = .ok (.invokevirtual 63, 3) := by decide +kernel
theorem dX1_isFreeWithout_7 : decode cX1_isFreeWithout 7 = .ok (.ifCond .le 7, 3) := by decide +kernel
theorem dX1_isFreeWithout_10 : decode cX1_isFreeWithout 10 = .ok (.iconst 1, 1) := by decide +kernel
theorem dX1_isFreeWithout_11 : decode cX1_isFreeWithout 11 = .ok (.goto 4, 3) := by decide +kernel
theorem dX1_isFreeWithout_14 : decode cX1_isFreeWithout 14 = .ok (.iconst 0, 1) := by decide +kernel
theorem dX1_isFreeWithout_15 : decode cX1_isFreeWithout 15 = .ok (.ireturn, 1) := by decide +kernel
theorem y_X1_isFreeWithout : qY yX1_isFreeWithout cX1_isFreeWithout 3 (some .boolean) 2 ({ frames := 4, cells := 0, slots := 0, locals := 97 } : Room) 0 0 := ⟨(qm_22 _ (List.mem_of_getElem? (i := 12) rfl)), (qm_3 _ (List.mem_of_getElem? (i := 3) rfl)), by decide +kernel, by decide +kernel, rfl, rfl⟩
theorem c_X1_isFreeWithout (l : Launch) (G : qG) {o : Nat} {v1 : Int32} {v2 : Int32} {μ : qM} (hn : 66 ≤ gn G) (hk_o : qk o = 1) : qCi l G yX1_isFreeWithout cX1_isFreeWithout 3 (some .boolean) ({ frames := 4, cells := 0, slots := 0, locals := 97 } : Room) 0 0 [.ref (ga G o), .int v1, .int v2] μ (fun post => w_X1_isFreeWithout o v1 v2 post μ) := by
  refine qCi_of (L := [(0, .ref (ga G o)), (1, .int v1), (2, .int v2)]) (by decide) rfl rfl ?_
  intro Z post hl C hQ h
  have C : qX Z G RX1 cX1_isFreeWithout 3 ({ frames := 4, cells := 0, slots := 0, locals := 97 } : Room) (some .boolean) := C
  have h : w_X1_isFreeWithout o v1 v2 post μ := h
  unfold w_X1_isFreeWithout at h
  refine x_aload_n C 0 dX1_isFreeWithout_0 rfl rfl ?_
  refine x_iload_n C 1 dX1_isFreeWithout_1 rfl rfl ?_
  refine x_iload_n C 2 dX1_isFreeWithout_2 rfl rfl ?_
  refine x_iconst C dX1_isFreeWithout_3 (v := 1) (by decide) ?_
  refine i_RX1_63 (rest := []) C hn hk_o rfl (by decide) rfl dX1_isFreeWithout_4 h (fun r4 μ4 h => ?_)
  refine x_if_le C dX1_isFreeWithout_7 (tgt := 14) (by decide) h (fun h => ?_) (fun h => ?_)
  · refine x_iconst C dX1_isFreeWithout_14 (v := 0) (by decide) ?_
    exact x_zret C hQ dX1_isFreeWithout_15 h
  · refine x_iconst C dX1_isFreeWithout_10 (v := 1) (by decide) ?_
    refine x_goto C dX1_isFreeWithout_11 (tgt := 15) (by decide) ?_
    exact x_zret C hQ dX1_isFreeWithout_15 h
theorem dX1_firstPair_0 : decode cX1_firstPair 0 = .ok (.aload_n 0, 1) := by decide +kernel
theorem dX1_firstPair_1 : decode cX1_firstPair 1 = .ok (.iload_n 1, 1) := by decide +kernel
theorem dX1_firstPair_2 : decode cX1_firstPair 2 = .ok (.invokevirtual 56, 3) := by decide +kernel
theorem dX1_firstPair_5 : decode cX1_firstPair 5 = .ok (.iconst 0, 1) := by decide +kernel
theorem dX1_firstPair_6 : decode cX1_firstPair 6 = .ok (.istore_n 2, 1) := by decide +kernel
theorem dX1_firstPair_7 : decode cX1_firstPair 7 = .ok (.iload_n 2, 1) := by decide +kernel
theorem dX1_firstPair_8 : decode cX1_firstPair 8 = .ok (.aload_n 0, 1) := by decide +kernel
theorem dX1_firstPair_9 : decode cX1_firstPair 9 = .ok (.getfield 9, 3) := by decide +kernel
theorem dX1_firstPair_12 : decode cX1_firstPair 12 = .ok (.if_icmp .ge 58, 3) := by decide +kernel
theorem dX1_firstPair_15 : decode cX1_firstPair 15 = .ok (.iload_n 2, 1) := by decide +kernel
theorem dX1_firstPair_16 : decode cX1_firstPair 16 = .ok (.iconst 1, 1) := by decide +kernel
theorem dX1_firstPair_17 : decode cX1_firstPair 17 = .ok (.iadd, 1) := by decide +kernel
theorem dX1_firstPair_18 : decode cX1_firstPair 18 = .ok (.istore_n 3, 1) := by decide +kernel
theorem dX1_firstPair_19 : decode cX1_firstPair 19 = .ok (.iload_n 3, 1) := by decide +kernel
theorem dX1_firstPair_20 : decode cX1_firstPair 20 = .ok (.aload_n 0, 1) := by decide +kernel
theorem dX1_firstPair_21 : decode cX1_firstPair 21 = .ok (.getfield 9, 3) := by decide +kernel
theorem dX1_firstPair_24 : decode cX1_firstPair 24 = .ok (.if_icmp .ge 40, 3) := by decide +kernel
theorem dX1_firstPair_27 : decode cX1_firstPair 27 = .ok (.aload_n 0, 1) := by decide +kernel
theorem dX1_firstPair_28 : decode cX1_firstPair 28 = .ok (.getfield 22, 3) := by decide +kernel
theorem dX1_firstPair_31 : decode cX1_firstPair 31 = .ok (.iload_n 2, 1) := by decide +kernel
theorem dX1_firstPair_32 : decode cX1_firstPair 32 = .ok (.iaload, 1) := by decide +kernel
theorem dX1_firstPair_33 : decode cX1_firstPair 33 = .ok (.aload_n 0, 1) := by decide +kernel
theorem dX1_firstPair_34 : decode cX1_firstPair 34 = .ok (.getfield 22, 3) := by decide +kernel
theorem dX1_firstPair_37 : decode cX1_firstPair 37 = .ok (.iload_n 3, 1) := by decide +kernel
theorem dX1_firstPair_38 : decode cX1_firstPair 38 = .ok (.iaload, 1) := by decide +kernel
theorem dX1_firstPair_39 : decode cX1_firstPair 39 = .ok (.if_icmp .ne 19, 3) := by decide +kernel
theorem dX1_firstPair_42 : decode cX1_firstPair 42 = .ok (.aload_n 0, 1) := by decide +kernel
theorem dX1_firstPair_43 : decode cX1_firstPair 43 = .ok (.iload_n 2, 1) := by decide +kernel
theorem dX1_firstPair_44 : decode cX1_firstPair 44 = .ok (.iload_n 3, 1) := by decide +kernel
theorem dX1_firstPair_45 : decode cX1_firstPair 45 = .ok (.invokevirtual 43, 3) := by decide +kernel
theorem dX1_firstPair_48 : decode cX1_firstPair 48 = .ok (.ifCond .eq 10, 3) := by decide +kernel
theorem dX1_firstPair_51 : decode cX1_firstPair 51 = .ok (.bipush 10, 2) := by decide +kernel
theorem dX1_firstPair_53 : decode cX1_firstPair 53 = .ok (.iload_n 2, 1) := by decide +kernel
theorem dX1_firstPair_54 : decode cX1_firstPair 54 = .ok (.imul, 1) := by decide +kernel
theorem dX1_firstPair_55 : decode cX1_firstPair 55 = .ok (.iload_n 3, 1) := by decide +kernel
theorem dX1_firstPair_56 : decode cX1_firstPair 56 = .ok (.iadd, 1) := by decide +kernel
theorem dX1_firstPair_57 : decode cX1_firstPair 57 = .ok (.ireturn, 1) := by decide +kernel
theorem dX1_firstPair_58 : decode cX1_firstPair 58 = .ok (.iinc 3 1, 3) := by decide +kernel
theorem dX1_firstPair_61 : decode cX1_firstPair 61 = .ok (.goto (-42), 3) := by decide +kernel
theorem dX1_firstPair_64 : decode cX1_firstPair 64 = .ok (.iinc 2 1, 3) := by decide +kernel
theorem dX1_firstPair_67 : decode cX1_firstPair 67 = .ok (.goto (-60), 3) := by decide +kernel
theorem dX1_firstPair_70 : decode cX1_firstPair 70 = .ok (.iconst (-1), 1) := by decide +kernel
theorem dX1_firstPair_71 : decode cX1_firstPair 71 = .ok (.ireturn, 1) := by decide +kernel
theorem b_X1_firstPair_58 {Z : qZ} {G : qG} {o : Nat} {v2 : Int32} {v3 : Int32} {μ : qM} {P7 : Int32 → qM → Prop} {P19 : Int32 → qM → Prop} {post : Int32 → qM → Prop} (C : qX Z G RX1 cX1_firstPair 4 ({ frames := 4, cells := 0, slots := 0, locals := 93 } : Room) (some .int)) (hQ : qQi Z G 0 0 post) (hn : 66 ≤ gn G) (hk_o : qk o = 1) (hP7 : ∀ (b2 : Int32) (μ1 : qM), P7 b2 μ1 → qV Z G 4 0 0 μ1 7 [(0, .ref (ga G o)), (2, .int b2)] []) (hP19 : ∀ (b3 : Int32) (μ1 : qM), P19 b3 μ1 → qV Z G 4 0 0 μ1 19 [(0, .ref (ga G o)), (2, .int v2), (3, .int b3)] []) (h : q_X1_firstPair_58 o P7 P19 post v2 v3 μ) : qV Z G 4 0 0 μ 58 [(0, .ref (ga G o)), (2, .int v2), (3, .int v3)] [] := by
  unfold q_X1_firstPair_58 at h
  refine x_iinc C 2 (v := 1) (L' := [(3, .int ((v3 + 1))), (0, .ref (ga G o)), (2, .int v2)]) dX1_firstPair_58 rfl (by decide) (by decide) rfl ?_
  refine x_goto C dX1_firstPair_61 (tgt := 19) (by decide) ?_
  exact qV_sub [1, 2, 0] rfl ((hP19 _ _ h))
theorem b_X1_firstPair_19 {Z : qZ} {G : qG} {o : Nat} {v2 : Int32} {v3 : Int32} {μ : qM} {P7 : Int32 → qM → Prop} {post : Int32 → qM → Prop} (C : qX Z G RX1 cX1_firstPair 4 ({ frames := 4, cells := 0, slots := 0, locals := 93 } : Room) (some .int)) (hQ : qQi Z G 0 0 post) (hn : 66 ≤ gn G) (hk_o : qk o = 1) (hP7 : ∀ (b2 : Int32) (μ1 : qM), P7 b2 μ1 → qV Z G 4 0 0 μ1 7 [(0, .ref (ga G o)), (2, .int b2)] []) (h : q_X1_firstPair_19 o v2 P7 post v3 μ) : qV Z G 4 0 0 μ 19 [(0, .ref (ga G o)), (2, .int v2), (3, .int v3)] [] := by
  refine h (fun v3 μ => qV Z G 4 0 0 μ 19 [(0, .ref (ga G o)), (2, .int v2), (3, .int v3)] []) (fun v3 μ h => ?_)
  refine x_iload_n C 2 dX1_firstPair_19 rfl rfl ?_
  refine x_aload_n C 0 dX1_firstPair_20 rfl rfl ?_
  refine g_RX1_9 C hn hk_o dX1_firstPair_21 ?_
  refine x_icmp_ge C dX1_firstPair_24 (tgt := 64) (by decide) h (fun h => ?_) (fun h => ?_)
  · refine x_iinc C 1 (v := 1) (L' := [(2, .int ((v2 + 1))), (0, .ref (ga G o)), (3, .int v3)]) dX1_firstPair_64 rfl (by decide) (by decide) rfl ?_
    refine x_goto C dX1_firstPair_67 (tgt := 7) (by decide) ?_
    exact qV_sub [1, 0] rfl ((hP7 _ _ h))
  · refine x_aload_n C 0 dX1_firstPair_27 rfl rfl ?_
    refine g_RX1_22 C hn hk_o dX1_firstPair_28 ?_
    refine x_iload_n C 1 dX1_firstPair_31 rfl rfl ?_
    refine x_iald C (o + 3) 11 10 (q_lt (qn_1_3 hk_o) rfl hn) (qn_1_3 hk_o) rfl rfl rfl rfl dX1_firstPair_32 h (fun h => ?_)
    refine x_aload_n C 0 dX1_firstPair_33 rfl rfl ?_
    refine g_RX1_22 C hn hk_o dX1_firstPair_34 ?_
    refine x_iload_n C 2 dX1_firstPair_37 rfl rfl ?_
    refine x_iald C (o + 3) 11 10 (q_lt (qn_1_3 hk_o) rfl hn) (qn_1_3 hk_o) rfl rfl rfl rfl dX1_firstPair_38 h (fun h => ?_)
    refine x_icmp_ne C dX1_firstPair_39 (tgt := 58) (by decide) h (fun h => ?_) (fun h => ?_)
    · exact b_X1_firstPair_58 C hQ hn hk_o hP7 (fun _ _ h => h) h
    · refine x_aload_n C 0 dX1_firstPair_42 rfl rfl ?_
      refine x_iload_n C 1 dX1_firstPair_43 rfl rfl ?_
      refine x_iload_n C 2 dX1_firstPair_44 rfl rfl ?_
      refine i_RX1_43 (rest := []) C hn hk_o rfl (by decide) rfl dX1_firstPair_45 h (fun r45 μ45 h => ?_)
      refine x_if_eq C dX1_firstPair_48 (tgt := 58) (by decide) h (fun h => ?_) (fun h => ?_)
      · exact b_X1_firstPair_58 C hQ hn hk_o hP7 (fun _ _ h => h) h
      · refine x_bipush C dX1_firstPair_51 (v := 10) (by decide) ?_
        refine x_iload_n C 1 dX1_firstPair_53 rfl rfl ?_
        refine x_imul C dX1_firstPair_54 ?_
        refine x_iload_n C 2 dX1_firstPair_55 rfl rfl ?_
        refine x_iadd C dX1_firstPair_56 ?_
        exact x_iret C hQ dX1_firstPair_57 h
theorem b_X1_firstPair_7 {Z : qZ} {G : qG} {o : Nat} {v2 : Int32} {μ : qM} {post : Int32 → qM → Prop} (C : qX Z G RX1 cX1_firstPair 4 ({ frames := 4, cells := 0, slots := 0, locals := 93 } : Room) (some .int)) (hQ : qQi Z G 0 0 post) (hn : 66 ≤ gn G) (hk_o : qk o = 1) (h : q_X1_firstPair_7 o post v2 μ) : qV Z G 4 0 0 μ 7 [(0, .ref (ga G o)), (2, .int v2)] [] := by
  refine h (fun v2 μ => qV Z G 4 0 0 μ 7 [(0, .ref (ga G o)), (2, .int v2)] []) (fun v2 μ h => ?_)
  refine x_iload_n C 1 dX1_firstPair_7 rfl rfl ?_
  refine x_aload_n C 0 dX1_firstPair_8 rfl rfl ?_
  refine g_RX1_9 C hn hk_o dX1_firstPair_9 ?_
  refine x_icmp_ge C dX1_firstPair_12 (tgt := 70) (by decide) h (fun h => ?_) (fun h => ?_)
  · refine x_iconst C dX1_firstPair_70 (v := -1) (by decide) ?_
    exact x_iret C hQ dX1_firstPair_71 h
  · refine x_iload_n C 1 dX1_firstPair_15 rfl rfl ?_
    refine x_iconst C dX1_firstPair_16 (v := 1) (by decide) ?_
    refine x_iadd C dX1_firstPair_17 ?_
    refine x_istore_n C (L' := [(3, .int ((v2 + (1 : Int32)))), (0, .ref (ga G o)), (2, .int v2)]) dX1_firstPair_18 rfl (by decide) rfl ?_
    exact qV_sub [1, 2, 0] rfl (b_X1_firstPair_19 C hQ hn hk_o (fun _ _ h => h) h)
theorem y_X1_firstPair : qY yX1_firstPair cX1_firstPair 4 (some .int) 1 ({ frames := 4, cells := 0, slots := 0, locals := 93 } : Room) 0 0 := ⟨(qm_18 _ (List.mem_of_getElem? (i := 3) rfl)), (qm_3 _ (List.mem_of_getElem? (i := 3) rfl)), by decide +kernel, by decide +kernel, rfl, rfl⟩
theorem c_X1_firstPair (l : Launch) (G : qG) {o : Nat} {v1 : Int32} {μ : qM} (hn : 66 ≤ gn G) (hk_o : qk o = 1) : qCi l G yX1_firstPair cX1_firstPair 4 (some .int) ({ frames := 4, cells := 0, slots := 0, locals := 93 } : Room) 0 0 [.ref (ga G o), .int v1] μ (fun post => w_X1_firstPair o v1 post μ) := by
  refine qCi_of (L := [(0, .ref (ga G o)), (1, .int v1)]) (by decide) rfl rfl ?_
  intro Z post hl C hQ h
  have C : qX Z G RX1 cX1_firstPair 4 ({ frames := 4, cells := 0, slots := 0, locals := 93 } : Room) (some .int) := C
  have h : w_X1_firstPair o v1 post μ := h
  unfold w_X1_firstPair at h
  refine x_aload_n C 0 dX1_firstPair_0 rfl rfl ?_
  refine x_iload_n C 1 dX1_firstPair_1 rfl rfl ?_
  refine i_RX1_56 (rest := []) C hn hk_o rfl (by decide) rfl dX1_firstPair_2 h (fun μ2 h => ?_)
  refine x_iconst C dX1_firstPair_5 (v := 0) (by decide) ?_
  refine x_istore_n C (L' := [(2, .int ((0 : Int32))), (0, .ref (ga G o)), (1, .int v1)]) dX1_firstPair_6 rfl (by decide) rfl ?_
  exact qV_sub [1, 0] rfl (b_X1_firstPair_7 C hQ hn hk_o h)
theorem dX1_countFree_0 : decode cX1_countFree 0 = .ok (.iconst 0, 1) := by decide +kernel
theorem dX1_countFree_1 : decode cX1_countFree 1 = .ok (.istore_n 1, 1) := by decide +kernel
theorem dX1_countFree_2 : decode cX1_countFree 2 = .ok (.iconst 0, 1) := by decide +kernel
theorem dX1_countFree_3 : decode cX1_countFree 3 = .ok (.istore_n 2, 1) := by decide +kernel
theorem dX1_countFree_4 : decode cX1_countFree 4 = .ok (.iload_n 2, 1) := by decide +kernel
theorem dX1_countFree_5 : decode cX1_countFree 5 = .ok (.sipush 144, 3) := by decide +kernel
theorem dX1_countFree_8 : decode cX1_countFree 8 = .ok (.if_icmp .ge 20, 3) := by decide +kernel
theorem dX1_countFree_11 : decode cX1_countFree 11 = .ok (.aload_n 0, 1) := by decide +kernel
theorem dX1_countFree_12 : decode cX1_countFree 12 = .ok (.iload_n 2, 1) := by decide +kernel
theorem dX1_countFree_13 : decode cX1_countFree 13 = .ok (.invokevirtual 66, 3) := by decide +kernel
theorem dX1_countFree_16 : decode cX1_countFree 16 = .ok (.ifCond .eq 6, 3) := by decide +kernel
theorem dX1_countFree_19 : decode cX1_countFree 19 = .ok (.iinc 1 1, 3) := by decide +kernel
theorem dX1_countFree_22 : decode cX1_countFree 22 = .ok (.iinc 2 1, 3) := by decide +kernel
theorem dX1_countFree_25 : decode cX1_countFree 25 = .ok (.goto (-21), 3) := by decide +kernel
theorem dX1_countFree_28 : decode cX1_countFree 28 = .ok (.iload_n 1, 1) := by decide +kernel
theorem dX1_countFree_29 : decode cX1_countFree 29 = .ok (.ireturn, 1) := by decide +kernel
theorem i_RX1_66 {Z : qZ} {G : qG} {cc : ByteArray} {nL k n : Nat} {rm : Room} {ret : Option FieldType} {μ : qM} {pc : Nat} {L : List (Nat × Value)} {rest : List Value} {K : Int32 → qM → Prop} {o : Nat} {v1 : Int32} (C : qX Z G RX1 cc nL rm ret) (hn : 66 ≤ gn G) (hk_o : qk o = 1) (hR : (Nat.ble (4 + 1) rm.frames && Nat.ble (8 + (2 + 11) + 97) rm.locals) = true) (hf : k + 0 ≤ rm.cells ∧ n + 0 ≤ rm.slots) (hsz : Nat.ble (rest.map fun v => v.category).sum 8 = true) (hd : decode cc pc = .ok (.invokevirtual 66, 3)) (h : w_X1_isFree o v1 K μ) (hk : ∀ (r : Int32) (μ1 : qM), K r μ1 → qV Z G nL k n μ1 (pc + 3) L (.int r :: rest)) : qV Z G nL k n μ pc L (.int v1 :: .ref (ga G o) :: rest) := x_Vi [.int v1] rest C o 1 (wp := fun K => w_X1_isFree o v1 K μ) (y_X1_isFree : qY yX1_isFree cX1_isFree 2 (some .boolean) 1 ({ frames := 4, cells := 0, slots := 0, locals := 97 } : Room) 0 0) (qm_10 _ (List.mem_of_getElem? (i := 0) rfl)) (qm_10 _ (List.mem_of_getElem? (i := 1) rfl)) (qm_19 _ (List.mem_of_getElem? (i := 8) rfl)) (c_X1_isFree Z.2.1 G hn hk_o) (q_lt hk_o rfl hn) hk_o (by decide) rfl rfl hR hf rfl rfl hsz hd h hk
theorem b_X1_countFree_22 {Z : qZ} {G : qG} {o : Nat} {v1 : Int32} {v2 : Int32} {μ : qM} {P4 : Int32 → Int32 → qM → Prop} {post : Int32 → qM → Prop} (C : qX Z G RX1 cX1_countFree 3 ({ frames := 5, cells := 0, slots := 0, locals := 118 } : Room) (some .int)) (hQ : qQi Z G 0 0 post) (hn : 66 ≤ gn G) (hk_o : qk o = 1) (hP4 : ∀ (b1 : Int32) (b2 : Int32) (μ1 : qM), P4 b1 b2 μ1 → qV Z G 3 0 0 μ1 4 [(0, .ref (ga G o)), (1, .int b1), (2, .int b2)] []) (h : q_X1_countFree_22 o P4 post v1 v2 μ) : qV Z G 3 0 0 μ 22 [(0, .ref (ga G o)), (1, .int v1), (2, .int v2)] [] := by
  unfold q_X1_countFree_22 at h
  refine x_iinc C 2 (v := 1) (L' := [(2, .int ((v2 + 1))), (0, .ref (ga G o)), (1, .int v1)]) dX1_countFree_22 rfl (by decide) (by decide) rfl ?_
  refine x_goto C dX1_countFree_25 (tgt := 4) (by decide) ?_
  exact qV_sub [1, 2, 0] rfl ((hP4 _ _ _ h))
theorem b_X1_countFree_4 {Z : qZ} {G : qG} {o : Nat} {v1 : Int32} {v2 : Int32} {μ : qM} {post : Int32 → qM → Prop} (C : qX Z G RX1 cX1_countFree 3 ({ frames := 5, cells := 0, slots := 0, locals := 118 } : Room) (some .int)) (hQ : qQi Z G 0 0 post) (hn : 66 ≤ gn G) (hk_o : qk o = 1) (h : q_X1_countFree_4 o post v1 v2 μ) : qV Z G 3 0 0 μ 4 [(0, .ref (ga G o)), (1, .int v1), (2, .int v2)] [] := by
  refine h (fun v1 v2 μ => qV Z G 3 0 0 μ 4 [(0, .ref (ga G o)), (1, .int v1), (2, .int v2)] []) (fun v1 v2 μ h => ?_)
  refine x_iload_n C 2 dX1_countFree_4 rfl rfl ?_
  refine x_sipush C dX1_countFree_5 (v := 144) (by decide) ?_
  refine x_icmp_ge C dX1_countFree_8 (tgt := 28) (by decide) h (fun h => ?_) (fun h => ?_)
  · refine x_iload_n C 1 dX1_countFree_28 rfl rfl ?_
    exact x_iret C hQ dX1_countFree_29 h
  · refine x_aload_n C 0 dX1_countFree_11 rfl rfl ?_
    refine x_iload_n C 2 dX1_countFree_12 rfl rfl ?_
    refine i_RX1_66 (rest := []) C hn hk_o rfl (by decide) rfl dX1_countFree_13 h (fun r13 μ13 h => ?_)
    refine x_if_eq C dX1_countFree_16 (tgt := 22) (by decide) h (fun h => ?_) (fun h => ?_)
    · exact b_X1_countFree_22 C hQ hn hk_o (fun _ _ _ h => h) h
    · refine x_iinc C 1 (v := 1) (L' := [(1, .int ((v1 + 1))), (0, .ref (ga G o)), (2, .int v2)]) dX1_countFree_19 rfl (by decide) (by decide) rfl ?_
      exact qV_sub [1, 0, 2] rfl (b_X1_countFree_22 C hQ hn hk_o (fun _ _ _ h => h) h)
theorem y_X1_countFree : qY yX1_countFree cX1_countFree 3 (some .int) 0 ({ frames := 5, cells := 0, slots := 0, locals := 118 } : Room) 0 0 := ⟨(qm_19 _ (List.mem_of_getElem? (i := 7) rfl)), (qm_3 _ (List.mem_of_getElem? (i := 3) rfl)), by decide +kernel, by decide +kernel, rfl, rfl⟩
theorem c_X1_countFree (l : Launch) (G : qG) {o : Nat} {μ : qM} (hn : 66 ≤ gn G) (hk_o : qk o = 1) : qCi l G yX1_countFree cX1_countFree 3 (some .int) ({ frames := 5, cells := 0, slots := 0, locals := 118 } : Room) 0 0 [.ref (ga G o)] μ (fun post => w_X1_countFree o post μ) := by
  refine qCi_of (L := [(0, .ref (ga G o))]) (by decide) rfl rfl ?_
  intro Z post hl C hQ h
  have C : qX Z G RX1 cX1_countFree 3 ({ frames := 5, cells := 0, slots := 0, locals := 118 } : Room) (some .int) := C
  have h : w_X1_countFree o post μ := h
  unfold w_X1_countFree at h
  refine x_iconst C dX1_countFree_0 (v := 0) (by decide) ?_
  refine x_istore_n C (L' := [(1, .int ((0 : Int32))), (0, .ref (ga G o))]) dX1_countFree_1 rfl (by decide) rfl ?_
  refine x_iconst C dX1_countFree_2 (v := 0) (by decide) ?_
  refine x_istore_n C (L' := [(2, .int ((0 : Int32))), (1, .int ((0 : Int32))), (0, .ref (ga G o))]) dX1_countFree_3 rfl (by decide) rfl ?_
  exact qV_sub [2, 1, 0] rfl (b_X1_countFree_4 C hQ hn hk_o h)
theorem dX1_countFreeByOne_0 : decode cX1_countFreeByOne 0 = .ok (.iconst 0, 1) := by decide +kernel
theorem dX1_countFreeByOne_1 : decode cX1_countFreeByOne 1 = .ok (.istore_n 1, 1) := by decide +kernel
theorem dX1_countFreeByOne_2 : decode cX1_countFreeByOne 2 = .ok (.iconst 0, 1) := by decide +kernel
theorem dX1_countFreeByOne_3 : decode cX1_countFreeByOne 3 = .ok (.istore_n 2, 1) := by decide +kernel
theorem dX1_countFreeByOne_4 : decode cX1_countFreeByOne 4 = .ok (.iload_n 2, 1) := by decide +kernel
theorem dX1_countFreeByOne_5 : decode cX1_countFreeByOne 5 = .ok (.sipush 144, 3) := by decide +kernel
theorem dX1_countFreeByOne_8 : decode cX1_countFreeByOne 8 = .ok (.if_icmp .ge 21, 3) := by decide +kernel
theorem dX1_countFreeByOne_11 : decode cX1_countFreeByOne 11 = .ok (.aload_n 0, 1) := by decide +kernel
theorem dX1_countFreeByOne_12 : decode cX1_countFreeByOne 12 = .ok (.iload_n 2, 1) := by decide +kernel
theorem dX1_countFreeByOne_13 : decode cX1_countFreeByOne 13 = .ok (.invokevirtual 69, 3) := by decide +kernel
theorem dX1_countFreeByOne_16 : decode cX1_countFreeByOne 16 = .ok (.iconst 1, 1) := by decide +kernel
theorem dX1_countFreeByOne_17 : decode cX1_countFreeByOne 17 = .ok (.if_icmp .ne 6, 3) := by decide +kernel
theorem dX1_countFreeByOne_20 : decode cX1_countFreeByOne 20 = .ok (.iinc 1 1, 3) := by decide +kernel
theorem dX1_countFreeByOne_23 : decode cX1_countFreeByOne 23 = .ok (.iinc 2 1, 3) := by decide +kernel
theorem dX1_countFreeByOne_26 : decode cX1_countFreeByOne 26 = .ok (.goto (-22), 3) := by decide +kernel
theorem dX1_countFreeByOne_29 : decode cX1_countFreeByOne 29 = .ok (.iload_n 1, 1) := by decide +kernel
theorem dX1_countFreeByOne_30 : decode cX1_countFreeByOne 30 = .ok (.ireturn, 1) := by decide +kernel
theorem i_RX1_69 {Z : qZ} {G : qG} {cc : ByteArray} {nL k n : Nat} {rm : Room} {ret : Option FieldType} {μ : qM} {pc : Nat} {L : List (Nat × Value)} {rest : List Value} {K : Int32 → qM → Prop} {o : Nat} {v1 : Int32} (C : qX Z G RX1 cc nL rm ret) (hn : 66 ≤ gn G) (hk_o : qk o = 1) (hR : (Nat.ble (4 + 1) rm.frames && Nat.ble (8 + (2 + 11) + 97) rm.locals) = true) (hf : k + 0 ≤ rm.cells ∧ n + 0 ≤ rm.slots) (hsz : Nat.ble (rest.map fun v => v.category).sum 8 = true) (hd : decode cc pc = .ok (.invokevirtual 69, 3)) (h : w_X1_freeings o v1 K μ) (hk : ∀ (r : Int32) (μ1 : qM), K r μ1 → qV Z G nL k n μ1 (pc + 3) L (.int r :: rest)) : qV Z G nL k n μ pc L (.int v1 :: .ref (ga G o) :: rest) := x_Vi [.int v1] rest C o 1 (wp := fun K => w_X1_freeings o v1 K μ) (y_X1_freeings : qY yX1_freeings cX1_freeings 2 (some .int) 1 ({ frames := 4, cells := 0, slots := 0, locals := 97 } : Room) 0 0) (qm_17 _ (List.mem_of_getElem? (i := 8) rfl)) (qm_17 _ (List.mem_of_getElem? (i := 9) rfl)) (qm_19 _ (List.mem_of_getElem? (i := 13) rfl)) (c_X1_freeings Z.2.1 G hn hk_o) (q_lt hk_o rfl hn) hk_o (by decide) rfl rfl hR hf rfl rfl hsz hd h hk
theorem b_X1_countFreeByOne_23 {Z : qZ} {G : qG} {o : Nat} {v1 : Int32} {v2 : Int32} {μ : qM} {P4 : Int32 → Int32 → qM → Prop} {post : Int32 → qM → Prop} (C : qX Z G RX1 cX1_countFreeByOne 3 ({ frames := 5, cells := 0, slots := 0, locals := 118 } : Room) (some .int)) (hQ : qQi Z G 0 0 post) (hn : 66 ≤ gn G) (hk_o : qk o = 1) (hP4 : ∀ (b1 : Int32) (b2 : Int32) (μ1 : qM), P4 b1 b2 μ1 → qV Z G 3 0 0 μ1 4 [(0, .ref (ga G o)), (1, .int b1), (2, .int b2)] []) (h : q_X1_countFreeByOne_23 o P4 post v1 v2 μ) : qV Z G 3 0 0 μ 23 [(0, .ref (ga G o)), (1, .int v1), (2, .int v2)] [] := by
  unfold q_X1_countFreeByOne_23 at h
  refine x_iinc C 2 (v := 1) (L' := [(2, .int ((v2 + 1))), (0, .ref (ga G o)), (1, .int v1)]) dX1_countFreeByOne_23 rfl (by decide) (by decide) rfl ?_
  refine x_goto C dX1_countFreeByOne_26 (tgt := 4) (by decide) ?_
  exact qV_sub [1, 2, 0] rfl ((hP4 _ _ _ h))
theorem b_X1_countFreeByOne_4 {Z : qZ} {G : qG} {o : Nat} {v1 : Int32} {v2 : Int32} {μ : qM} {post : Int32 → qM → Prop} (C : qX Z G RX1 cX1_countFreeByOne 3 ({ frames := 5, cells := 0, slots := 0, locals := 118 } : Room) (some .int)) (hQ : qQi Z G 0 0 post) (hn : 66 ≤ gn G) (hk_o : qk o = 1) (h : q_X1_countFreeByOne_4 o post v1 v2 μ) : qV Z G 3 0 0 μ 4 [(0, .ref (ga G o)), (1, .int v1), (2, .int v2)] [] := by
  refine h (fun v1 v2 μ => qV Z G 3 0 0 μ 4 [(0, .ref (ga G o)), (1, .int v1), (2, .int v2)] []) (fun v1 v2 μ h => ?_)
  refine x_iload_n C 2 dX1_countFreeByOne_4 rfl rfl ?_
  refine x_sipush C dX1_countFreeByOne_5 (v := 144) (by decide) ?_
  refine x_icmp_ge C dX1_countFreeByOne_8 (tgt := 29) (by decide) h (fun h => ?_) (fun h => ?_)
  · refine x_iload_n C 1 dX1_countFreeByOne_29 rfl rfl ?_
    exact x_iret C hQ dX1_countFreeByOne_30 h
  · refine x_aload_n C 0 dX1_countFreeByOne_11 rfl rfl ?_
    refine x_iload_n C 2 dX1_countFreeByOne_12 rfl rfl ?_
    refine i_RX1_69 (rest := []) C hn hk_o rfl (by decide) rfl dX1_countFreeByOne_13 h (fun r13 μ13 h => ?_)
    refine x_iconst C dX1_countFreeByOne_16 (v := 1) (by decide) ?_
    refine x_icmp_ne C dX1_countFreeByOne_17 (tgt := 23) (by decide) h (fun h => ?_) (fun h => ?_)
    · exact b_X1_countFreeByOne_23 C hQ hn hk_o (fun _ _ _ h => h) h
    · refine x_iinc C 1 (v := 1) (L' := [(1, .int ((v1 + 1))), (0, .ref (ga G o)), (2, .int v2)]) dX1_countFreeByOne_20 rfl (by decide) (by decide) rfl ?_
      exact qV_sub [1, 0, 2] rfl (b_X1_countFreeByOne_23 C hQ hn hk_o (fun _ _ _ h => h) h)
theorem y_X1_countFreeByOne : qY yX1_countFreeByOne cX1_countFreeByOne 3 (some .int) 0 ({ frames := 5, cells := 0, slots := 0, locals := 118 } : Room) 0 0 := ⟨(qm_19 _ (List.mem_of_getElem? (i := 12) rfl)), (qm_3 _ (List.mem_of_getElem? (i := 3) rfl)), by decide +kernel, by decide +kernel, rfl, rfl⟩
theorem c_X1_countFreeByOne (l : Launch) (G : qG) {o : Nat} {μ : qM} (hn : 66 ≤ gn G) (hk_o : qk o = 1) : qCi l G yX1_countFreeByOne cX1_countFreeByOne 3 (some .int) ({ frames := 5, cells := 0, slots := 0, locals := 118 } : Room) 0 0 [.ref (ga G o)] μ (fun post => w_X1_countFreeByOne o post μ) := by
  refine qCi_of (L := [(0, .ref (ga G o))]) (by decide) rfl rfl ?_
  intro Z post hl C hQ h
  have C : qX Z G RX1 cX1_countFreeByOne 3 ({ frames := 5, cells := 0, slots := 0, locals := 118 } : Room) (some .int) := C
  have h : w_X1_countFreeByOne o post μ := h
  unfold w_X1_countFreeByOne at h
  refine x_iconst C dX1_countFreeByOne_0 (v := 0) (by decide) ?_
  refine x_istore_n C (L' := [(1, .int ((0 : Int32))), (0, .ref (ga G o))]) dX1_countFreeByOne_1 rfl (by decide) rfl ?_
  refine x_iconst C dX1_countFreeByOne_2 (v := 0) (by decide) ?_
  refine x_istore_n C (L' := [(2, .int ((0 : Int32))), (1, .int ((0 : Int32))), (0, .ref (ga G o))]) dX1_countFreeByOne_3 rfl (by decide) rfl ?_
  exact qV_sub [2, 1, 0] rfl (b_X1_countFreeByOne_4 C hQ hn hk_o h)
theorem dX1_isEvenWith_0 : decode cX1_isEvenWith 0 = .ok (.iload_n 1, 1) := by decide +kernel
theorem dX1_isEvenWith_1 : decode cX1_isEvenWith 1 = .ok (.iload_n 2, 1) := by decide +kernel
theorem dX1_isEvenWith_2 : decode cX1_isEvenWith 2 = .ok (.iload_n 3, 1) := by decide +kernel
theorem dX1_isEvenWith_3 : decode cX1_isEvenWith 3 = .ok (.invokestatic 33, 3) := by decide +kernel
theorem dX1_isEvenWith_6 : decode cX1_isEvenWith 6 = .ok (.istore 4, 2) := by decide +kernel
theorem dX1_isEvenWith_8 : decode cX1_isEvenWith 8 = .ok (.iconst 0, 1) := by decide +kernel
theorem dX1_isEvenWith_9 : decode cX1_isEvenWith 9 = .ok (.istore 5, 2) := by decide +kernel
theorem dX1_isEvenWith_11 : decode cX1_isEvenWith 11 = .ok (.iload 5, 2) := by decide +kernel
theorem dX1_isEvenWith_13 : decode cX1_isEvenWith 13 = .ok (.aload_n 0, 1) := by decide +kernel
theorem dX1_isEvenWith_14 : decode cX1_isEvenWith 14 = .ok (.getfield 9, 3) := by decide +kernel
theorem dX1_isEvenWith_17 : decode cX1_isEvenWith 17 = .ok (.if_icmp .ge 56, 3) := by decide +kernel
theorem dX1_isEvenWith_20 : decode cX1_isEvenWith 20 = .ok (.aload_n 0, 1) := by decide +kernel
theorem dX1_isEvenWith_21 : decode cX1_isEvenWith 21 = .ok (.getfield 15, 3) := by decide +kernel
theorem dX1_isEvenWith_24 : decode cX1_isEvenWith 24 = .ok (.iload 5, 2) := by decide +kernel
theorem dX1_isEvenWith_26 : decode cX1_isEvenWith 26 = .ok (.iaload, 1) := by decide +kernel
theorem dX1_isEvenWith_27 : decode cX1_isEvenWith 27 = .ok (.aload_n 0, 1) := by decide +kernel
theorem dX1_isEvenWith_28 : decode cX1_isEvenWith 28 = .ok (.getfield 19, 3) := by decide +kernel
theorem dX1_isEvenWith_31 : decode cX1_isEvenWith 31 = .ok (.iload 5, 2) := by decide +kernel
theorem dX1_isEvenWith_33 : decode cX1_isEvenWith 33 = .ok (.iaload, 1) := by decide +kernel
theorem dX1_isEvenWith_34 : decode cX1_isEvenWith 34 = .ok (.iload_n 3, 1) := by decide +kernel
theorem dX1_isEvenWith_35 : decode cX1_isEvenWith 35 = .ok (.invokestatic 33, 3) := by decide +kernel
theorem dX1_isEvenWith_38 : decode cX1_isEvenWith 38 = .ok (.iload 4, 2) := by decide +kernel
theorem dX1_isEvenWith_40 : decode cX1_isEvenWith 40 = .ok (.if_icmp .ne 27, 3) := by decide +kernel
theorem dX1_isEvenWith_43 : decode cX1_isEvenWith 43 = .ok (.aload_n 0, 1) := by decide +kernel
theorem dX1_isEvenWith_44 : decode cX1_isEvenWith 44 = .ok (.getfield 15, 3) := by decide +kernel
theorem dX1_isEvenWith_47 : decode cX1_isEvenWith 47 = .ok (.iload 5, 2) := by decide +kernel
theorem dX1_isEvenWith_49 : decode cX1_isEvenWith 49 = .ok (.iaload, 1) := by decide +kernel
theorem dX1_isEvenWith_50 : decode cX1_isEvenWith 50 = .ok (.aload_n 0, 1) := by decide +kernel
theorem dX1_isEvenWith_51 : decode cX1_isEvenWith 51 = .ok (.getfield 19, 3) := by decide +kernel
theorem dX1_isEvenWith_54 : decode cX1_isEvenWith 54 = .ok (.iload 5, 2) := by decide +kernel
theorem dX1_isEvenWith_56 : decode cX1_isEvenWith 56 = .ok (.iaload, 1) := by decide +kernel
theorem dX1_isEvenWith_57 : decode cX1_isEvenWith 57 = .ok (.iload_n 1, 1) := by decide +kernel
theorem dX1_isEvenWith_58 : decode cX1_isEvenWith 58 = .ok (.iload_n 2, 1) := by decide +kernel
theorem dX1_isEvenWith_59 : decode cX1_isEvenWith 59 = .ok (.invokestatic 39, 3) := by decide +kernel
theorem dX1_isEvenWith_62 : decode cX1_isEvenWith 62 = .ok (.ifCond .eq 5, 3) := by decide +kernel
theorem dX1_isEvenWith_65 : decode cX1_isEvenWith 65 = .ok (.iconst 1, 1) := by decide +kernel
theorem dX1_isEvenWith_66 : decode cX1_isEvenWith 66 = .ok (.ireturn, 1) := by decide +kernel
theorem dX1_isEvenWith_67 : decode cX1_isEvenWith 67 = .ok (.iinc 5 1, 3) := by decide +kernel
theorem dX1_isEvenWith_70 : decode cX1_isEvenWith 70 = .ok (.goto (-59), 3) := by decide +kernel
theorem dX1_isEvenWith_73 : decode cX1_isEvenWith 73 = .ok (.iconst 0, 1) := by decide +kernel
theorem dX1_isEvenWith_74 : decode cX1_isEvenWith 74 = .ok (.ireturn, 1) := by decide +kernel
theorem b_X1_isEvenWith_67 {Z : qZ} {G : qG} {o : Nat} {v1 : Int32} {v2 : Int32} {v3 : Int32} {v4 : Int32} {v5 : Int32} {μ : qM} {P11 : Int32 → qM → Prop} {post : Int32 → qM → Prop} (C : qX Z G RX1 cX1_isEvenWith 6 ({ frames := 3, cells := 0, slots := 0, locals := 71 } : Room) (some .boolean)) (hQ : qQi Z G 0 0 post) (hn : 66 ≤ gn G) (hk_o : qk o = 1) (hP11 : ∀ (b5 : Int32) (μ1 : qM), P11 b5 μ1 → qV Z G 6 0 0 μ1 11 [(0, .ref (ga G o)), (1, .int v1), (2, .int v2), (3, .int v3), (4, .int v4), (5, .int b5)] []) (h : q_X1_isEvenWith_67 o P11 post v1 v2 v3 v4 v5 μ) : qV Z G 6 0 0 μ 67 [(0, .ref (ga G o)), (1, .int v1), (2, .int v2), (3, .int v3), (4, .int v4), (5, .int v5)] [] := by
  unfold q_X1_isEvenWith_67 at h
  refine x_iinc C 5 (v := 1) (L' := [(5, .int ((v5 + 1))), (0, .ref (ga G o)), (1, .int v1), (2, .int v2), (3, .int v3), (4, .int v4)]) dX1_isEvenWith_67 rfl (by decide) (by decide) rfl ?_
  refine x_goto C dX1_isEvenWith_70 (tgt := 11) (by decide) ?_
  exact qV_sub [1, 2, 3, 4, 5, 0] rfl ((hP11 _ _ h))
theorem b_X1_isEvenWith_11 {Z : qZ} {G : qG} {o : Nat} {v1 : Int32} {v2 : Int32} {v3 : Int32} {v4 : Int32} {v5 : Int32} {μ : qM} {post : Int32 → qM → Prop} (C : qX Z G RX1 cX1_isEvenWith 6 ({ frames := 3, cells := 0, slots := 0, locals := 71 } : Room) (some .boolean)) (hQ : qQi Z G 0 0 post) (hn : 66 ≤ gn G) (hk_o : qk o = 1) (h : q_X1_isEvenWith_11 o v1 v2 v3 v4 post v5 μ) : qV Z G 6 0 0 μ 11 [(0, .ref (ga G o)), (1, .int v1), (2, .int v2), (3, .int v3), (4, .int v4), (5, .int v5)] [] := by
  refine h (fun v5 μ => qV Z G 6 0 0 μ 11 [(0, .ref (ga G o)), (1, .int v1), (2, .int v2), (3, .int v3), (4, .int v4), (5, .int v5)] []) (fun v5 μ h => ?_)
  refine x_iload C 5 dX1_isEvenWith_11 rfl ?_
  refine x_aload_n C 0 dX1_isEvenWith_13 rfl rfl ?_
  refine g_RX1_9 C hn hk_o dX1_isEvenWith_14 ?_
  refine x_icmp_ge C dX1_isEvenWith_17 (tgt := 73) (by decide) h (fun h => ?_) (fun h => ?_)
  · refine x_iconst C dX1_isEvenWith_73 (v := 0) (by decide) ?_
    exact x_zret C hQ dX1_isEvenWith_74 h
  · refine x_aload_n C 0 dX1_isEvenWith_20 rfl rfl ?_
    refine g_RX1_15 C hn hk_o dX1_isEvenWith_21 ?_
    refine x_iload C 5 dX1_isEvenWith_24 rfl ?_
    refine x_iald C (o + 1) 11 10 (q_lt (qn_1_1 hk_o) rfl hn) (qn_1_1 hk_o) rfl rfl rfl rfl dX1_isEvenWith_26 h (fun h => ?_)
    refine x_aload_n C 0 dX1_isEvenWith_27 rfl rfl ?_
    refine g_RX1_19 C hn hk_o dX1_isEvenWith_28 ?_
    refine x_iload C 5 dX1_isEvenWith_31 rfl ?_
    refine x_iald C (o + 2) 11 10 (q_lt (qn_1_2 hk_o) rfl hn) (qn_1_2 hk_o) rfl rfl rfl rfl dX1_isEvenWith_33 h (fun h => ?_)
    refine x_iload_n C 3 dX1_isEvenWith_34 rfl rfl ?_
    refine i_RX1_33 (rest := []) C hn  rfl (by decide) rfl dX1_isEvenWith_35 h (fun r35 μ35 h => ?_)
    refine x_iload C 4 dX1_isEvenWith_38 rfl ?_
    refine x_icmp_ne C dX1_isEvenWith_40 (tgt := 67) (by decide) h (fun h => ?_) (fun h => ?_)
    · exact b_X1_isEvenWith_67 C hQ hn hk_o (fun _ _ h => h) h
    · refine x_aload_n C 0 dX1_isEvenWith_43 rfl rfl ?_
      refine g_RX1_15 C hn hk_o dX1_isEvenWith_44 ?_
      refine x_iload C 5 dX1_isEvenWith_47 rfl ?_
      refine x_iald C (o + 1) 11 10 (q_lt (qn_1_1 hk_o) rfl hn) (qn_1_1 hk_o) rfl rfl rfl rfl dX1_isEvenWith_49 h (fun h => ?_)
      refine x_aload_n C 0 dX1_isEvenWith_50 rfl rfl ?_
      refine g_RX1_19 C hn hk_o dX1_isEvenWith_51 ?_
      refine x_iload C 5 dX1_isEvenWith_54 rfl ?_
      refine x_iald C (o + 2) 11 10 (q_lt (qn_1_2 hk_o) rfl hn) (qn_1_2 hk_o) rfl rfl rfl rfl dX1_isEvenWith_56 h (fun h => ?_)
      refine x_iload_n C 1 dX1_isEvenWith_57 rfl rfl ?_
      refine x_iload_n C 2 dX1_isEvenWith_58 rfl rfl ?_
      refine i_RX1_39 (rest := []) C hn  rfl (by decide) rfl dX1_isEvenWith_59 h (fun r59 μ59 h => ?_)
      refine x_if_eq C dX1_isEvenWith_62 (tgt := 67) (by decide) h (fun h => ?_) (fun h => ?_)
      · exact b_X1_isEvenWith_67 C hQ hn hk_o (fun _ _ h => h) h
      · refine x_iconst C dX1_isEvenWith_65 (v := 1) (by decide) ?_
        exact x_zret C hQ dX1_isEvenWith_66 h
theorem y_X1_isEvenWith : qY yX1_isEvenWith cX1_isEvenWith 6 (some .boolean) 3 ({ frames := 3, cells := 0, slots := 0, locals := 71 } : Room) 0 0 := ⟨(qm_20 _ (List.mem_of_getElem? (i := 8) rfl)), (qm_3 _ (List.mem_of_getElem? (i := 3) rfl)), by decide +kernel, by decide +kernel, rfl, rfl⟩
theorem c_X1_isEvenWith (l : Launch) (G : qG) {o : Nat} {v1 : Int32} {v2 : Int32} {v3 : Int32} {μ : qM} (hn : 66 ≤ gn G) (hk_o : qk o = 1) : qCi l G yX1_isEvenWith cX1_isEvenWith 6 (some .boolean) ({ frames := 3, cells := 0, slots := 0, locals := 71 } : Room) 0 0 [.ref (ga G o), .int v1, .int v2, .int v3] μ (fun post => w_X1_isEvenWith o v1 v2 v3 post μ) := by
  refine qCi_of (L := [(0, .ref (ga G o)), (1, .int v1), (2, .int v2), (3, .int v3)]) (by decide) rfl rfl ?_
  intro Z post hl C hQ h
  have C : qX Z G RX1 cX1_isEvenWith 6 ({ frames := 3, cells := 0, slots := 0, locals := 71 } : Room) (some .boolean) := C
  have h : w_X1_isEvenWith o v1 v2 v3 post μ := h
  unfold w_X1_isEvenWith at h
  refine x_iload_n C 1 dX1_isEvenWith_0 rfl rfl ?_
  refine x_iload_n C 2 dX1_isEvenWith_1 rfl rfl ?_
  refine x_iload_n C 3 dX1_isEvenWith_2 rfl rfl ?_
  refine i_RX1_33 (rest := []) C hn  rfl (by decide) rfl dX1_isEvenWith_3 h (fun r3 μ3 h => ?_)
  refine x_istore C (L' := [(4, .int r3), (0, .ref (ga G o)), (1, .int v1), (2, .int v2), (3, .int v3)]) dX1_isEvenWith_6 (by decide) rfl ?_
  refine x_iconst C dX1_isEvenWith_8 (v := 0) (by decide) ?_
  refine x_istore C (L' := [(5, .int ((0 : Int32))), (4, .int r3), (0, .ref (ga G o)), (1, .int v1), (2, .int v2), (3, .int v3)]) dX1_isEvenWith_9 (by decide) rfl ?_
  exact qV_sub [2, 3, 4, 5, 1, 0] rfl (b_X1_isEvenWith_11 C hQ hn hk_o h)
