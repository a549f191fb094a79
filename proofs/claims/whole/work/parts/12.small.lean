theorem dX8_size_0 : decode cX8_size 0 = .ok (.aload_n 0, 1) := by decide +kernel
theorem dX8_size_1 : decode cX8_size 1 = .ok (.getfield 15, 3) := by decide +kernel
theorem dX8_size_4 : decode cX8_size 4 = .ok (.ireturn, 1) := by decide +kernel
theorem g_RX8_15 {Z : qZ} {G : qG} {cc : ByteArray} {nL k n : Nat} {rm : Room} {ret : Option FieldType} {μ : qM} {pc : Nat} {L : List (Nat × Value)} {st : List Value} {o : Nat} (C : qX Z G RX8 cc nL rm ret) (hn : 66 ≤ gn G) (hk : qk o = 7) (hd : decode cc pc = .ok (.getfield 15, 3)) (h : qV Z G nL k n μ (pc + 3) L (.int (μ o 1) :: st)) : qV Z G nL k n μ pc L (.ref (ga G o) :: st) := x_geti C o 7 1 (C0 := RX8) (fn := "size") (fd := "I") (q_lt hk rfl hn) hk (by decide) rfl (by decide) rfl inlX8 (qm_4 _ (List.mem_of_getElem? (i := 2) rfl)) rfl hd h
theorem y_X8_size : qY yX8_size cX8_size 1 (some .int) 0 ({ frames := 0, cells := 0, slots := 0, locals := 0 } : Room) 0 0 := ⟨(qm_36 _ (List.mem_of_getElem? (i := 13) rfl)), (qm_1 _ (List.mem_of_getElem? (i := 21) rfl)), by decide +kernel, by decide +kernel, rfl, rfl⟩
theorem c_X8_size (l : Launch) (G : qG) {o : Nat} {μ : qM} (hn : 66 ≤ gn G) (hk_o : qk o = 7) : qCi l G yX8_size cX8_size 1 (some .int) ({ frames := 0, cells := 0, slots := 0, locals := 0 } : Room) 0 0 [.ref (ga G o)] μ (fun post => w_X8_size o post μ) := by
  refine qCi_of (L := [(0, .ref (ga G o))]) (by decide) rfl rfl ?_
  intro Z post hl C hQ h
  have C : qX Z G RX8 cX8_size 1 ({ frames := 0, cells := 0, slots := 0, locals := 0 } : Room) (some .int) := C
  have h : w_X8_size o post μ := h
  unfold w_X8_size at h
  refine x_aload_n C 0 dX8_size_0 rfl rfl ?_
  refine g_RX8_15 C hn hk_o dX8_size_1 ?_
  exact x_iret C hQ dX8_size_4 h
theorem dX8_at_0 : decode cX8_at 0 = .ok (.iload_n 1, 1) := by decide +kernel
theorem dX8_at_1 : decode cX8_at 1 = .ok (.ifCond .lt 24, 3) := by decide +kernel
theorem dX8_at_4 : decode cX8_at 4 = .ok (.iload_n 1, 1) := by decide +kernel
theorem dX8_at_5 : decode cX8_at 5 = .ok (.aload_n 0, 1) := by decide +kernel
theorem dX8_at_6 : decode cX8_at 6 = .ok (.getfield 15, 3) := by decide +kernel
theorem dX8_at_9 : decode cX8_at 9 = .ok (.if_icmp .ge 16, 3) := by decide +kernel
theorem dX8_at_12 : decode cX8_at 12 = .ok (.aload_n 0, 1) := by decide +kernel
theorem dX8_at_13 : decode cX8_at 13 = .ok (.getfield 9, 3) := by decide +kernel
theorem dX8_at_16 : decode cX8_at 16 = .ok (.iload_n 1, 1) := by decide +kernel
theorem dX8_at_17 : decode cX8_at 17 = .ok (.baload, 1) := by decide +kernel
theorem dX8_at_18 : decode cX8_at 18 = .ok (.sipush 255, 3) := by decide +kernel
theorem dX8_at_21 : decode cX8_at 21 = .ok (.iand, 1) := by decide +kernel
theorem dX8_at_22 : decode cX8_at 22 = .ok (.goto 4, 3) := by decide +kernel
theorem dX8_at_25 : decode cX8_at 25 = .ok (.iconst (-1), 1) := by decide +kernel
theorem dX8_at_26 : decode cX8_at 26 = .ok (.ireturn, 1) := by decide +kernel
theorem g_RX8_9 {Z : qZ} {G : qG} {cc : ByteArray} {nL k n : Nat} {rm : Room} {ret : Option FieldType} {μ : qM} {pc : Nat} {L : List (Nat × Value)} {st : List Value} {o : Nat} (C : qX Z G RX8 cc nL rm ret) (hn : 66 ≤ gn G) (hk : qk o = 7) (hd : decode cc pc = .ok (.getfield 9, 3)) (h : qV Z G nL k n μ (pc + 3) L (.ref (ga G (o + 1)) :: st)) : qV Z G nL k n μ pc L (.ref (ga G o) :: st) := x_getr C o 7 0 1 (o + 1) (C0 := RX8) (fn := "bytes") (fd := "[B") (q_lt hk rfl hn) hk (by decide) rfl (by decide) rfl inlX8 (qm_4 _ (List.mem_of_getElem? (i := 1) rfl)) rfl rfl rfl hd h
theorem b_X8_at_25 {Z : qZ} {G : qG} {o : Nat} {μ : qM} {post : Int32 → qM → Prop} (C : qX Z G RX8 cX8_at 2 ({ frames := 0, cells := 0, slots := 0, locals := 0 } : Room) (some .int)) (hQ : qQi Z G 0 0 post) (hn : 66 ≤ gn G) (hk_o : qk o = 7) (h : q_X8_at_25 o post μ) : qV Z G 2 0 0 μ 25 [] [] := by
  unfold q_X8_at_25 at h
  refine x_iconst C dX8_at_25 (v := -1) (by decide) ?_
  exact x_iret C hQ dX8_at_26 h
theorem y_X8_at : qY yX8_at cX8_at 2 (some .int) 1 ({ frames := 0, cells := 0, slots := 0, locals := 0 } : Room) 0 0 := ⟨(qm_38 _ (List.mem_of_getElem? (i := 17) rfl)), (qm_1 _ (List.mem_of_getElem? (i := 21) rfl)), by decide +kernel, by decide +kernel, rfl, rfl⟩
theorem c_X8_at (l : Launch) (G : qG) {o : Nat} {v1 : Int32} {μ : qM} (hn : 66 ≤ gn G) (hk_o : qk o = 7) : qCi l G yX8_at cX8_at 2 (some .int) ({ frames := 0, cells := 0, slots := 0, locals := 0 } : Room) 0 0 [.ref (ga G o), .int v1] μ (fun post => w_X8_at o v1 post μ) := by
  refine qCi_of (L := [(0, .ref (ga G o)), (1, .int v1)]) (by decide) rfl rfl ?_
  intro Z post hl C hQ h
  have C : qX Z G RX8 cX8_at 2 ({ frames := 0, cells := 0, slots := 0, locals := 0 } : Room) (some .int) := C
  have h : w_X8_at o v1 post μ := h
  unfold w_X8_at at h
  refine x_iload_n C 1 dX8_at_0 rfl rfl ?_
  refine x_if_lt C dX8_at_1 (tgt := 25) (by decide) h (fun h => ?_) (fun h => ?_)
  · exact qV_sub [] rfl (b_X8_at_25 C hQ hn hk_o h)
  · refine x_iload_n C 1 dX8_at_4 rfl rfl ?_
    refine x_aload_n C 0 dX8_at_5 rfl rfl ?_
    refine g_RX8_15 C hn hk_o dX8_at_6 ?_
    refine x_icmp_ge C dX8_at_9 (tgt := 25) (by decide) h (fun h => ?_) (fun h => ?_)
    · exact qV_sub [] rfl (b_X8_at_25 C hQ hn hk_o h)
    · refine x_aload_n C 0 dX8_at_12 rfl rfl ?_
      refine g_RX8_9 C hn hk_o dX8_at_13 ?_
      refine x_iload_n C 1 dX8_at_16 rfl rfl ?_
      refine x_bald C (o + 1) 14 120 (q_lt (qn_7_1 hk_o) rfl hn) (qn_7_1 hk_o) rfl rfl rfl rfl dX8_at_17 h (fun h => ?_)
      refine x_sipush C dX8_at_18 (v := 255) (by decide) ?_
      refine x_iand C dX8_at_21 ?_
      refine x_goto C dX8_at_22 (tgt := 26) (by decide) ?_
      exact x_iret C hQ dX8_at_26 h
theorem dX10_lotOf_0 : decode cX10_lotOf 0 = .ok (.bipush 12, 2) := by decide +kernel
theorem dX10_lotOf_2 : decode cX10_lotOf 2 = .ok (.iload_n 1, 1) := by decide +kernel
theorem dX10_lotOf_3 : decode cX10_lotOf 3 = .ok (.imul, 1) := by decide +kernel
theorem dX10_lotOf_4 : decode cX10_lotOf 4 = .ok (.iload_n 0, 1) := by decide +kernel
theorem dX10_lotOf_5 : decode cX10_lotOf 5 = .ok (.iadd, 1) := by decide +kernel
theorem dX10_lotOf_6 : decode cX10_lotOf 6 = .ok (.ireturn, 1) := by decide +kernel
theorem y_X10_lotOf : qY yX10_lotOf cX10_lotOf 2 (some .int) 2 ({ frames := 0, cells := 0, slots := 0, locals := 0 } : Room) 0 0 := ⟨(qm_7 _ (List.mem_of_getElem? (i := 14) rfl)), (qm_1 _ (List.mem_of_getElem? (i := 2) rfl)), by decide +kernel, by decide +kernel, rfl, rfl⟩
theorem c_X10_lotOf (l : Launch) (G : qG) {v0 : Int32} {v1 : Int32} {μ : qM} (hn : 66 ≤ gn G) : qCi l G yX10_lotOf cX10_lotOf 2 (some .int) ({ frames := 0, cells := 0, slots := 0, locals := 0 } : Room) 0 0 [.int v0, .int v1] μ (fun post => w_X10_lotOf v0 v1 post μ) := by
  refine qCi_of (L := [(0, .int v0), (1, .int v1)]) (by decide) rfl rfl ?_
  intro Z post hl C hQ h
  have C : qX Z G RX10 cX10_lotOf 2 ({ frames := 0, cells := 0, slots := 0, locals := 0 } : Room) (some .int) := C
  have h : w_X10_lotOf v0 v1 post μ := h
  unfold w_X10_lotOf at h
  refine x_bipush C dX10_lotOf_0 (v := 12) (by decide) ?_
  refine x_iload_n C 1 dX10_lotOf_2 rfl rfl ?_
  refine x_imul C dX10_lotOf_3 ?_
  refine x_iload_n C 0 dX10_lotOf_4 rfl rfl ?_
  refine x_iadd C dX10_lotOf_5 ?_
  exact x_iret C hQ dX10_lotOf_6 h
theorem dX6_bits_0 : decode cX6_bits 0 = .ok (.aload_n 0, 1) := by decide +kernel
theorem dX6_bits_1 : decode cX6_bits 1 = .ok (.getfield 9, 3) := by decide +kernel
theorem dX6_bits_4 : decode cX6_bits 4 = .ok (.ireturn, 1) := by decide +kernel
theorem g_RX6_9 {Z : qZ} {G : qG} {cc : ByteArray} {nL k n : Nat} {rm : Room} {ret : Option FieldType} {μ : qM} {pc : Nat} {L : List (Nat × Value)} {st : List Value} {o : Nat} (C : qX Z G RX6 cc nL rm ret) (hn : 66 ≤ gn G) (hk : qk o = 5) (hd : decode cc pc = .ok (.getfield 9, 3)) (h : qV Z G nL k n μ (pc + 3) L (.int (μ o 0) :: st)) : qV Z G nL k n μ pc L (.ref (ga G o) :: st) := x_geti C o 5 0 (C0 := RX6) (fn := "bits") (fd := "I") (q_lt hk rfl hn) hk (by decide) rfl (by decide) rfl inlX6 (qm_5 _ (List.mem_of_getElem? (i := 8) rfl)) rfl hd h
theorem y_X6_bits : qY yX6_bits cX6_bits 1 (some .int) 0 ({ frames := 0, cells := 0, slots := 0, locals := 0 } : Room) 0 0 := ⟨(qm_48 _ (List.mem_of_getElem? (i := 22) rfl)), (qm_2 _ (List.mem_of_getElem? (i := 20) rfl)), by decide +kernel, by decide +kernel, rfl, rfl⟩
theorem c_X6_bits (l : Launch) (G : qG) {o : Nat} {μ : qM} (hn : 66 ≤ gn G) (hk_o : qk o = 5) : qCi l G yX6_bits cX6_bits 1 (some .int) ({ frames := 0, cells := 0, slots := 0, locals := 0 } : Room) 0 0 [.ref (ga G o)] μ (fun post => w_X6_bits o post μ) := by
  refine qCi_of (L := [(0, .ref (ga G o))]) (by decide) rfl rfl ?_
  intro Z post hl C hQ h
  have C : qX Z G RX6 cX6_bits 1 ({ frames := 0, cells := 0, slots := 0, locals := 0 } : Room) (some .int) := C
  have h : w_X6_bits o post μ := h
  unfold w_X6_bits at h
  refine x_aload_n C 0 dX6_bits_0 rfl rfl ?_
  refine g_RX6_9 C hn hk_o dX6_bits_1 ?_
  exact x_iret C hQ dX6_bits_4 h
theorem dX6_isMissing_0 : decode cX6_isMissing 0 = .ok (.aload_n 0, 1) := by decide +kernel
theorem dX6_isMissing_1 : decode cX6_isMissing 1 = .ok (.getfield 9, 3) := by decide +kernel
theorem dX6_isMissing_4 : decode cX6_isMissing 4 = .ok (.ifCond .ne 7, 3) := by decide +kernel
theorem dX6_isMissing_7 : decode cX6_isMissing 7 = .ok (.iconst 1, 1) := by decide +kernel
theorem dX6_isMissing_8 : decode cX6_isMissing 8 = .ok (.goto 4, 3) := by decide +kernel
theorem dX6_isMissing_11 : decode cX6_isMissing 11 = .ok (.iconst 0, 1) := by decide +kernel
theorem dX6_isMissing_12 : decode cX6_isMissing 12 = .ok (.ireturn, 1) := by decide +kernel
theorem y_X6_isMissing : qY yX6_isMissing cX6_isMissing 1 (some .boolean) 0 ({ frames := 0, cells := 0, slots := 0, locals := 0 } : Room) 0 0 := ⟨(qm_47 _ (List.mem_of_getElem? (i := 23) rfl)), (qm_2 _ (List.mem_of_getElem? (i := 20) rfl)), by decide +kernel, by decide +kernel, rfl, rfl⟩
theorem c_X6_isMissing (l : Launch) (G : qG) {o : Nat} {μ : qM} (hn : 66 ≤ gn G) (hk_o : qk o = 5) : qCi l G yX6_isMissing cX6_isMissing 1 (some .boolean) ({ frames := 0, cells := 0, slots := 0, locals := 0 } : Room) 0 0 [.ref (ga G o)] μ (fun post => w_X6_isMissing o post μ) := by
  refine qCi_of (L := [(0, .ref (ga G o))]) (by decide) rfl rfl ?_
  intro Z post hl C hQ h
  have C : qX Z G RX6 cX6_isMissing 1 ({ frames := 0, cells := 0, slots := 0, locals := 0 } : Room) (some .boolean) := C
  have h : w_X6_isMissing o post μ := h
  unfold w_X6_isMissing at h
  refine x_aload_n C 0 dX6_isMissing_0 rfl rfl ?_
  refine g_RX6_9 C hn hk_o dX6_isMissing_1 ?_
  refine x_if_ne C dX6_isMissing_4 (tgt := 11) (by decide) h (fun h => ?_) (fun h => ?_)
  · refine x_iconst C dX6_isMissing_11 (v := 0) (by decide) ?_
    exact x_zret C hQ dX6_isMissing_12 h
  · refine x_iconst C dX6_isMissing_7 (v := 1) (by decide) ?_
    refine x_goto C dX6_isMissing_8 (tgt := 12) (by decide) ?_
    exact x_zret C hQ dX6_isMissing_12 h
theorem dX6_size_0 : decode cX6_size 0 = .ok (.aload_n 0, 1) := by decide +kernel
theorem dX6_size_1 : decode cX6_size 1 = .ok (.getfield 15, 3) := by decide +kernel
theorem dX6_size_4 : decode cX6_size 4 = .ok (.ireturn, 1) := by decide +kernel
theorem g_RX6_15 {Z : qZ} {G : qG} {cc : ByteArray} {nL k n : Nat} {rm : Room} {ret : Option FieldType} {μ : qM} {pc : Nat} {L : List (Nat × Value)} {st : List Value} {o : Nat} (C : qX Z G RX6 cc nL rm ret) (hn : 66 ≤ gn G) (hk : qk o = 5) (hd : decode cc pc = .ok (.getfield 15, 3)) (h : qV Z G nL k n μ (pc + 3) L (.int (μ o 1) :: st)) : qV Z G nL k n μ pc L (.ref (ga G o) :: st) := x_geti C o 5 1 (C0 := RX6) (fn := "size") (fd := "I") (q_lt hk rfl hn) hk (by decide) rfl (by decide) rfl inlX6 (qm_5 _ (List.mem_of_getElem? (i := 9) rfl)) rfl hd h
theorem y_X6_size : qY yX6_size cX6_size 1 (some .int) 0 ({ frames := 0, cells := 0, slots := 0, locals := 0 } : Room) 0 0 := ⟨(qm_47 _ (List.mem_of_getElem? (i := 8) rfl)), (qm_2 _ (List.mem_of_getElem? (i := 20) rfl)), by decide +kernel, by decide +kernel, rfl, rfl⟩
theorem c_X6_size (l : Launch) (G : qG) {o : Nat} {μ : qM} (hn : 66 ≤ gn G) (hk_o : qk o = 5) : qCi l G yX6_size cX6_size 1 (some .int) ({ frames := 0, cells := 0, slots := 0, locals := 0 } : Room) 0 0 [.ref (ga G o)] μ (fun post => w_X6_size o post μ) := by
  refine qCi_of (L := [(0, .ref (ga G o))]) (by decide) rfl rfl ?_
  intro Z post hl C hQ h
  have C : qX Z G RX6 cX6_size 1 ({ frames := 0, cells := 0, slots := 0, locals := 0 } : Room) (some .int) := C
  have h : w_X6_size o post μ := h
  unfold w_X6_size at h
  refine x_aload_n C 0 dX6_size_0 rfl rfl ?_
  refine g_RX6_15 C hn hk_o dX6_size_1 ?_
  exact x_iret C hQ dX6_size_4 h
theorem dX6_rule_0 : decode cX6_rule 0 = .ok (.aload_n 0, 1) := by decide +kernel
theorem dX6_rule_1 : decode cX6_rule 1 = .ok (.iload_n 1, 1) := by decide +kernel
theorem dX6_rule_2 : decode cX6_rule 2 = .ok (.putfield 9, 3) := by decide +kernel
theorem dX6_rule_5 : decode cX6_rule 5 = .ok (.aload_n 0, 1) := by decide +kernel
theorem dX6_rule_6 : decode cX6_rule 6 = .ok (.iload_n 1, 1) := by decide +kernel
theorem dX6_rule_7 : decode cX6_rule 7 = .ok (.ifCond .eq 13, 3) := by decide +kernel
theorem dX6_rule_10 : decode cX6_rule 10 = .ok (.iload_n 2, 1) := by decide +kernel
theorem dX6_rule_11 : decode cX6_rule 11 = .ok (.ifCond .lt 9, 3) := by decide +kernel
theorem dX6_rule_14 : decode cX6_rule 14 = .ok (.iload_n 2, 1) := by decide +kernel
theorem dX6_rule_15 : decode cX6_rule 15 = .ok (.bipush 40, 2) := by decide +kernel
theorem dX6_rule_17 : decode cX6_rule 17 = .ok (.if_icmp .le 7, 3) := by decide +kernel
theorem dX6_rule_20 : decode cX6_rule 20 = .ok (.iconst 0, 1) := by decide +kernel
theorem dX6_rule_21 : decode cX6_rule 21 = .ok (.goto 4, 3) := by decide +kernel
theorem dX6_rule_24 : decode cX6_rule 24 = .ok (.iload_n 2, 1) := by decide +kernel
theorem dX6_rule_25 : decode cX6_rule 25 = .ok (.putfield 15, 3) := by decide +kernel
theorem dX6_rule_28 : decode cX6_rule 28 = .ok (.aload_n 0, 1) := by decide +kernel
theorem dX6_rule_29 : decode cX6_rule 29 = .ok (.getfield 18, 3) := by decide +kernel
theorem dX6_rule_32 : decode cX6_rule 32 = .ok (.iconst 0, 1) := by decide +kernel
theorem dX6_rule_33 : decode cX6_rule 33 = .ok (.invokestatic 22, 3) := by decide +kernel
theorem dX6_rule_36 : decode cX6_rule 36 = .ok (.return_, 1) := by decide +kernel
theorem i_RX6_22 {Z : qZ} {G : qG} {cc : ByteArray} {nL k n : Nat} {rm : Room} {ret : Option FieldType} {μ : qM} {pc : Nat} {L : List (Nat × Value)} {rest : List Value} {K : qM → Prop} {o0 : Nat} {κ0 : Nat} {v1 : Int32} (C : qX Z G RX6 cc nL rm ret) (hn : 66 ≤ gn G) (hk_o0 : qk o0 = κ0) (h11_κ0 : Nat.ble 11 κ0 = true) (h23_κ0 : (κ0 == 23) = false) (hT_κ0 : qaT κ0 = 0) (h9_κ0 : (κ0 == 99 || κ0 == 4) = false) (hR : (Nat.ble (0 + 1) rm.frames && Nat.ble (8 + (4 + 11) + 0) rm.locals) = true) (hf : k + 0 ≤ rm.cells ∧ n + 0 ≤ rm.slots) (hsz : Nat.ble (rest.map fun v => v.category).sum 8 = true) (hd : decode cc pc = .ok (.invokestatic 22, 3)) (h : w_J7_fill_53178 o0 κ0 v1 K μ) (hk : ∀ (μ1 : qM), K μ1 → qV Z G nL k n μ1 (pc + 3) L rest) : qV Z G nL k n μ pc L (.int v1 :: .ref (ga G o0) :: rest) := x_Sv [.ref (ga G o0), .int v1] rest C (wp := fun K => w_J7_fill_53178 o0 κ0 v1 K μ) (y_J7_fill_53178 : qY yJ7_fill_53178 cJ7_fill_53178 4 none 2 ({ frames := 0, cells := 0, slots := 0, locals := 0 } : Room) 0 0) (qm_3 _ (List.mem_of_getElem? (i := 18) rfl)) (qm_47 _ (List.mem_of_getElem? (i := 4) rfl)) (c_J7_fill_53178 Z.2.1 G hn hk_o0 h11_κ0 h23_κ0 hT_κ0 h9_κ0) hR hf rfl rfl hsz hd h hk
theorem g_RX6_18 {Z : qZ} {G : qG} {cc : ByteArray} {nL k n : Nat} {rm : Room} {ret : Option FieldType} {μ : qM} {pc : Nat} {L : List (Nat × Value)} {st : List Value} {o : Nat} (C : qX Z G RX6 cc nL rm ret) (hn : 66 ≤ gn G) (hk : qk o = 5) (hd : decode cc pc = .ok (.getfield 18, 3)) (h : qV Z G nL k n μ (pc + 3) L (.ref (ga G (o + 1)) :: st)) : qV Z G nL k n μ pc L (.ref (ga G o) :: st) := x_getr C o 5 2 1 (o + 1) (C0 := RX6) (fn := "numbers") (fd := "[I") (q_lt hk rfl hn) hk (by decide) rfl (by decide) rfl inlX6 (qm_5 _ (List.mem_of_getElem? (i := 10) rfl)) rfl rfl rfl hd h
theorem p_RX6_9 {Z : qZ} {G : qG} {cc : ByteArray} {nL k n : Nat} {rm : Room} {ret : Option FieldType} {μ : qM} {pc : Nat} {L : List (Nat × Value)} {st : List Value} {x : Int32} {o : Nat} (C : qX Z G RX6 cc nL rm ret) (hn : 66 ≤ gn G) (hk : qk o = 5) (hd : decode cc pc = .ok (.putfield 9, 3)) (h : qV Z G nL k n (qu μ o 0 x) (pc + 3) L st) : qV Z G nL k n μ pc L (.int x :: .ref (ga G o) :: st) := x_puti C o 5 0 (C0 := RX6) (fn := "bits") (fd := "I") (ty := .int) (q_lt hk rfl hn) hk (by decide) rfl (by decide) rfl inlX6 tyX6_ok nmX6 (qm_5 _ (List.mem_of_getElem? (i := 8) rfl)) rfl (by decide +kernel) rfl rfl hd h
theorem p_RX6_15 {Z : qZ} {G : qG} {cc : ByteArray} {nL k n : Nat} {rm : Room} {ret : Option FieldType} {μ : qM} {pc : Nat} {L : List (Nat × Value)} {st : List Value} {x : Int32} {o : Nat} (C : qX Z G RX6 cc nL rm ret) (hn : 66 ≤ gn G) (hk : qk o = 5) (hd : decode cc pc = .ok (.putfield 15, 3)) (h : qV Z G nL k n (qu μ o 1 x) (pc + 3) L st) : qV Z G nL k n μ pc L (.int x :: .ref (ga G o) :: st) := x_puti C o 5 1 (C0 := RX6) (fn := "size") (fd := "I") (ty := .int) (q_lt hk rfl hn) hk (by decide) rfl (by decide) rfl inlX6 tyX6_ok nmX6 (qm_5 _ (List.mem_of_getElem? (i := 9) rfl)) rfl (by decide +kernel) rfl rfl hd h
theorem b_X6_rule_25 {Z : qZ} {G : qG} {o : Nat} {s0 : Int32} {μ : qM} {post : qM → Prop} (C : qX Z G RX6 cX6_rule 3 ({ frames := 1, cells := 0, slots := 0, locals := 23 } : Room) none) (hQ : qQv Z G 0 0 post) (hn : 66 ≤ gn G) (hk_o : qk o = 5) (h : q_X6_rule_25 o post s0 μ) : qV Z G 3 0 0 μ 25 [(0, .ref (ga G o))] [.int s0, .ref (ga G o)] := by
  unfold q_X6_rule_25 at h
  refine p_RX6_15 C hn hk_o dX6_rule_25 ?_
  refine x_aload_n C 0 dX6_rule_28 rfl rfl ?_
  refine g_RX6_18 C hn hk_o dX6_rule_29 ?_
  refine x_iconst C dX6_rule_32 (v := 0) (by decide) ?_
  refine i_RX6_22 (rest := []) C hn (qn_5_1 hk_o) rfl rfl rfl rfl rfl (by decide) rfl dX6_rule_33 h (fun μ33 h => ?_)
  exact x_vret C hQ dX6_rule_36 h
theorem b_X6_rule_20 {Z : qZ} {G : qG} {o : Nat} {μ : qM} {post : qM → Prop} (C : qX Z G RX6 cX6_rule 3 ({ frames := 1, cells := 0, slots := 0, locals := 23 } : Room) none) (hQ : qQv Z G 0 0 post) (hn : 66 ≤ gn G) (hk_o : qk o = 5) (h : q_X6_rule_20 o post μ) : qV Z G 3 0 0 μ 20 [(0, .ref (ga G o))] [.ref (ga G o)] := by
  unfold q_X6_rule_20 at h
  refine x_iconst C dX6_rule_20 (v := 0) (by decide) ?_
  refine x_goto C dX6_rule_21 (tgt := 25) (by decide) ?_
  exact b_X6_rule_25 C hQ hn hk_o h
theorem y_X6_rule : qY yX6_rule cX6_rule 3 none 2 ({ frames := 1, cells := 0, slots := 0, locals := 23 } : Room) 0 0 := ⟨(qm_47 _ (List.mem_of_getElem? (i := 3) rfl)), (qm_2 _ (List.mem_of_getElem? (i := 20) rfl)), by decide +kernel, by decide +kernel, rfl, rfl⟩
theorem c_X6_rule (l : Launch) (G : qG) {o : Nat} {v1 : Int32} {v2 : Int32} {μ : qM} (hn : 66 ≤ gn G) (hk_o : qk o = 5) : qCv l G yX6_rule cX6_rule 3 none ({ frames := 1, cells := 0, slots := 0, locals := 23 } : Room) 0 0 [.ref (ga G o), .int v1, .int v2] μ (fun post => w_X6_rule o v1 v2 post μ) := by
  refine qCv_of (L := [(0, .ref (ga G o)), (1, .int v1), (2, .int v2)]) (by decide) rfl rfl ?_
  intro Z post hl C hQ h
  have C : qX Z G RX6 cX6_rule 3 ({ frames := 1, cells := 0, slots := 0, locals := 23 } : Room) none := C
  have h : w_X6_rule o v1 v2 post μ := h
  unfold w_X6_rule at h
  refine x_aload_n C 0 dX6_rule_0 rfl rfl ?_
  refine x_iload_n C 1 dX6_rule_1 rfl rfl ?_
  refine p_RX6_9 C hn hk_o dX6_rule_2 ?_
  refine x_aload_n C 0 dX6_rule_5 rfl rfl ?_
  refine x_iload_n C 1 dX6_rule_6 rfl rfl ?_
  refine x_if_eq C dX6_rule_7 (tgt := 20) (by decide) h (fun h => ?_) (fun h => ?_)
  · exact qV_sub [0] rfl (b_X6_rule_20 C hQ hn hk_o h)
  · refine x_iload_n C 2 dX6_rule_10 rfl rfl ?_
    refine x_if_lt C dX6_rule_11 (tgt := 20) (by decide) h (fun h => ?_) (fun h => ?_)
    · exact qV_sub [0] rfl (b_X6_rule_20 C hQ hn hk_o h)
    · refine x_iload_n C 2 dX6_rule_14 rfl rfl ?_
      refine x_bipush C dX6_rule_15 (v := 40) (by decide) ?_
      refine x_icmp_le C dX6_rule_17 (tgt := 24) (by decide) h (fun h => ?_) (fun h => ?_)
      · refine x_iload_n C 2 dX6_rule_24 rfl rfl ?_
        exact qV_sub [0] rfl (b_X6_rule_25 C hQ hn hk_o h)
      · exact qV_sub [0] rfl (b_X6_rule_20 C hQ hn hk_o h)
theorem dX6_get_0 : decode cX6_get 0 = .ok (.iload_n 1, 1) := by decide +kernel
theorem dX6_get_1 : decode cX6_get 1 = .ok (.ifCond .lt 20, 3) := by decide +kernel
theorem dX6_get_4 : decode cX6_get 4 = .ok (.iload_n 1, 1) := by decide +kernel
theorem dX6_get_5 : decode cX6_get 5 = .ok (.aload_n 0, 1) := by decide +kernel
theorem dX6_get_6 : decode cX6_get 6 = .ok (.getfield 15, 3) := by decide +kernel
theorem dX6_get_9 : decode cX6_get 9 = .ok (.if_icmp .ge 12, 3) := by decide +kernel
theorem dX6_get_12 : decode cX6_get 12 = .ok (.aload_n 0, 1) := by decide +kernel
theorem dX6_get_13 : decode cX6_get 13 = .ok (.getfield 18, 3) := by decide +kernel
theorem dX6_get_16 : decode cX6_get 16 = .ok (.iload_n 1, 1) := by decide +kernel
theorem dX6_get_17 : decode cX6_get 17 = .ok (.iaload, 1) := by decide +kernel
theorem dX6_get_18 : decode cX6_get 18 = .ok (.goto 4, 3) := by decide +kernel
theorem dX6_get_21 : decode cX6_get 21 = .ok (.iconst 0, 1) := by decide +kernel
theorem dX6_get_22 : decode cX6_get 22 = .ok (.ireturn, 1) := by decide +kernel
theorem b_X6_get_21 {Z : qZ} {G : qG} {o : Nat} {μ : qM} {post : Int32 → qM → Prop} (C : qX Z G RX6 cX6_get 2 ({ frames := 0, cells := 0, slots := 0, locals := 0 } : Room) (some .int)) (hQ : qQi Z G 0 0 post) (hn : 66 ≤ gn G) (hk_o : qk o = 5) (h : q_X6_get_21 o post μ) : qV Z G 2 0 0 μ 21 [] [] := by
  unfold q_X6_get_21 at h
  refine x_iconst C dX6_get_21 (v := 0) (by decide) ?_
  exact x_iret C hQ dX6_get_22 h
theorem y_X6_get : qY yX6_get cX6_get 2 (some .int) 1 ({ frames := 0, cells := 0, slots := 0, locals := 0 } : Room) 0 0 := ⟨(qm_49 _ (List.mem_of_getElem? (i := 20) rfl)), (qm_2 _ (List.mem_of_getElem? (i := 20) rfl)), by decide +kernel, by decide +kernel, rfl, rfl⟩
theorem c_X6_get (l : Launch) (G : qG) {o : Nat} {v1 : Int32} {μ : qM} (hn : 66 ≤ gn G) (hk_o : qk o = 5) : qCi l G yX6_get cX6_get 2 (some .int) ({ frames := 0, cells := 0, slots := 0, locals := 0 } : Room) 0 0 [.ref (ga G o), .int v1] μ (fun post => w_X6_get o v1 post μ) := by
  refine qCi_of (L := [(0, .ref (ga G o)), (1, .int v1)]) (by decide) rfl rfl ?_
  intro Z post hl C hQ h
  have C : qX Z G RX6 cX6_get 2 ({ frames := 0, cells := 0, slots := 0, locals := 0 } : Room) (some .int) := C
  have h : w_X6_get o v1 post μ := h
  unfold w_X6_get at h
  refine x_iload_n C 1 dX6_get_0 rfl rfl ?_
  refine x_if_lt C dX6_get_1 (tgt := 21) (by decide) h (fun h => ?_) (fun h => ?_)
  · exact qV_sub [] rfl (b_X6_get_21 C hQ hn hk_o h)
  · refine x_iload_n C 1 dX6_get_4 rfl rfl ?_
    refine x_aload_n C 0 dX6_get_5 rfl rfl ?_
    refine g_RX6_15 C hn hk_o dX6_get_6 ?_
    refine x_icmp_ge C dX6_get_9 (tgt := 21) (by decide) h (fun h => ?_) (fun h => ?_)
    · exact qV_sub [] rfl (b_X6_get_21 C hQ hn hk_o h)
    · refine x_aload_n C 0 dX6_get_12 rfl rfl ?_
      refine g_RX6_18 C hn hk_o dX6_get_13 ?_
      refine x_iload_n C 1 dX6_get_16 rfl rfl ?_
      refine x_iald C (o + 1) 15 40 (q_lt (qn_5_1 hk_o) rfl hn) (qn_5_1 hk_o) rfl rfl rfl rfl dX6_get_17 h (fun h => ?_)
      refine x_goto C dX6_get_18 (tgt := 22) (by decide) ?_
      exact x_iret C hQ dX6_get_22 h
theorem dX6_set_0 : decode cX6_set 0 = .ok (.iload_n 1, 1) := by decide +kernel
theorem dX6_set_1 : decode cX6_set 1 = .ok (.ifCond .lt 46, 3) := by decide +kernel
theorem dX6_set_4 : decode cX6_set 4 = .ok (.iload_n 1, 1) := by decide +kernel
theorem dX6_set_5 : decode cX6_set 5 = .ok (.aload_n 0, 1) := by decide +kernel
theorem dX6_set_6 : decode cX6_set 6 = .ok (.getfield 15, 3) := by decide +kernel
theorem dX6_set_9 : decode cX6_set 9 = .ok (.if_icmp .ge 38, 3) := by decide +kernel
theorem dX6_set_12 : decode cX6_set 12 = .ok (.aload_n 0, 1) := by decide +kernel
theorem dX6_set_13 : decode cX6_set 13 = .ok (.getfield 18, 3) := by decide +kernel
theorem dX6_set_16 : decode cX6_set 16 = .ok (.iload_n 1, 1) := by decide +kernel
theorem dX6_set_17 : decode cX6_set 17 = .ok (.aload_n 0, 1) := by decide +kernel
theorem dX6_set_18 : decode cX6_set 18 = .ok (.getfield 9, 3) := by decide +kernel
theorem dX6_set_21 : decode cX6_set 21 = .ok (.bipush 8, 2) := by decide +kernel
theorem dX6_set_23 : decode cX6_set 23 = .ok (.if_icmp .ne 8, 3) := by decide +kernel
theorem dX6_set_26 : decode cX6_set 26 = .ok (.iload_n 2, 1) := by decide +kernel
theorem dX6_set_27 : decode cX6_set 27 = .ok (.i2b, 1) := by decide +kernel
theorem dX6_set_28 : decode cX6_set 28 = .ok (.goto 18, 3) := by decide +kernel
theorem dX6_set_31 : decode cX6_set 31 = .ok (.aload_n 0, 1) := by decide +kernel
theorem dX6_set_32 : decode cX6_set 32 = .ok (.getfield 9, 3) := by decide +kernel
theorem dX6_set_35 : decode cX6_set 35 = .ok (.bipush 16, 2) := by decide +kernel
theorem dX6_set_37 : decode cX6_set 37 = .ok (.if_icmp .ne 8, 3) := by decide +kernel
theorem dX6_set_40 : decode cX6_set 40 = .ok (.iload_n 2, 1) := by decide +kernel
theorem dX6_set_41 : decode cX6_set 41 = .ok (.i2s, 1) := by decide +kernel
theorem dX6_set_42 : decode cX6_set 42 = .ok (.goto 4, 3) := by decide +kernel
theorem dX6_set_45 : decode cX6_set 45 = .ok (.iload_n 2, 1) := by decide +kernel
theorem dX6_set_46 : decode cX6_set 46 = .ok (.iastore, 1) := by decide +kernel
theorem dX6_set_47 : decode cX6_set 47 = .ok (.return_, 1) := by decide +kernel
theorem b_X6_set_46 {Z : qZ} {G : qG} {o : Nat} {s0 : Int32} {s1 : Int32} {μ : qM} {post : qM → Prop} (C : qX Z G RX6 cX6_set 3 ({ frames := 0, cells := 0, slots := 0, locals := 0 } : Room) none) (hQ : qQv Z G 0 0 post) (hn : 66 ≤ gn G) (hk_o : qk o = 5) (h : q_X6_set_46 o post s0 s1 μ) : qV Z G 3 0 0 μ 46 [] [.int s0, .int s1, .ref (ga G (o + 1))] := by
  unfold q_X6_set_46 at h
  refine x_iast C (o + 1) 15 40 (q_lt (qn_5_1 hk_o) rfl hn) (qn_5_1 hk_o) rfl rfl rfl rfl dX6_set_46 h (fun h => ?_)
  exact x_vret C hQ dX6_set_47 h
theorem y_X6_set : qY yX6_set cX6_set 3 none 2 ({ frames := 0, cells := 0, slots := 0, locals := 0 } : Room) 0 0 := ⟨(qm_48 _ (List.mem_of_getElem? (i := 3) rfl)), (qm_2 _ (List.mem_of_getElem? (i := 20) rfl)), by decide +kernel, by decide +kernel, rfl, rfl⟩
theorem c_X6_set (l : Launch) (G : qG) {o : Nat} {v1 : Int32} {v2 : Int32} {μ : qM} (hn : 66 ≤ gn G) (hk_o : qk o = 5) : qCv l G yX6_set cX6_set 3 none ({ frames := 0, cells := 0, slots := 0, locals := 0 } : Room) 0 0 [.ref (ga G o), .int v1, .int v2] μ (fun post => w_X6_set o v1 v2 post μ) := by
  refine qCv_of (L := [(0, .ref (ga G o)), (1, .int v1), (2, .int v2)]) (by decide) rfl rfl ?_
  intro Z post hl C hQ h
  have C : qX Z G RX6 cX6_set 3 ({ frames := 0, cells := 0, slots := 0, locals := 0 } : Room) none := C
  have h : w_X6_set o v1 v2 post μ := h
  unfold w_X6_set at h
  refine x_iload_n C 1 dX6_set_0 rfl rfl ?_
  refine x_if_lt C dX6_set_1 (tgt := 47) (by decide) h (fun h => ?_) (fun h => ?_)
  · exact x_vret C hQ dX6_set_47 h
  · refine x_iload_n C 1 dX6_set_4 rfl rfl ?_
    refine x_aload_n C 0 dX6_set_5 rfl rfl ?_
    refine g_RX6_15 C hn hk_o dX6_set_6 ?_
    refine x_icmp_ge C dX6_set_9 (tgt := 47) (by decide) h (fun h => ?_) (fun h => ?_)
    · exact x_vret C hQ dX6_set_47 h
    · refine x_aload_n C 0 dX6_set_12 rfl rfl ?_
      refine g_RX6_18 C hn hk_o dX6_set_13 ?_
      refine x_iload_n C 1 dX6_set_16 rfl rfl ?_
      refine x_aload_n C 0 dX6_set_17 rfl rfl ?_
      refine g_RX6_9 C hn hk_o dX6_set_18 ?_
      refine x_bipush C dX6_set_21 (v := 8) (by decide) ?_
      refine x_icmp_ne C dX6_set_23 (tgt := 31) (by decide) h (fun h => ?_) (fun h => ?_)
      · refine x_aload_n C 0 dX6_set_31 rfl rfl ?_
        refine g_RX6_9 C hn hk_o dX6_set_32 ?_
        refine x_bipush C dX6_set_35 (v := 16) (by decide) ?_
        refine x_icmp_ne C dX6_set_37 (tgt := 45) (by decide) h (fun h => ?_) (fun h => ?_)
        · refine x_iload_n C 2 dX6_set_45 rfl rfl ?_
          exact qV_sub [] rfl (b_X6_set_46 C hQ hn hk_o h)
        · refine x_iload_n C 2 dX6_set_40 rfl rfl ?_
          refine x_i2s C dX6_set_41 ?_
          refine x_goto C dX6_set_42 (tgt := 46) (by decide) ?_
          exact qV_sub [] rfl (b_X6_set_46 C hQ hn hk_o h)
      · refine x_iload_n C 2 dX6_set_26 rfl rfl ?_
        refine x_i2b C dX6_set_27 ?_
        refine x_goto C dX6_set_28 (tgt := 46) (by decide) ?_
        exact qV_sub [] rfl (b_X6_set_46 C hQ hn hk_o h)
theorem dX6_holds_0 : decode cX6_holds 0 = .ok (.iload_n 1, 1) := by decide +kernel
theorem dX6_holds_1 : decode cX6_holds 1 = .ok (.ifCond .lt 21, 3) := by decide +kernel
theorem dX6_holds_4 : decode cX6_holds 4 = .ok (.iload_n 2, 1) := by decide +kernel
theorem dX6_holds_5 : decode cX6_holds 5 = .ok (.ifCond .lt 17, 3) := by decide +kernel
theorem dX6_holds_8 : decode cX6_holds 8 = .ok (.iload_n 1, 1) := by decide +kernel
theorem dX6_holds_9 : decode cX6_holds 9 = .ok (.aload_n 0, 1) := by decide +kernel
theorem dX6_holds_10 : decode cX6_holds 10 = .ok (.getfield 15, 3) := by decide +kernel
theorem dX6_holds_13 : decode cX6_holds 13 = .ok (.iload_n 2, 1) := by decide +kernel
theorem dX6_holds_14 : decode cX6_holds 14 = .ok (.isub, 1) := by decide +kernel
theorem dX6_holds_15 : decode cX6_holds 15 = .ok (.if_icmp .gt 7, 3) := by decide +kernel
theorem dX6_holds_18 : decode cX6_holds 18 = .ok (.iconst 1, 1) := by decide +kernel
theorem dX6_holds_19 : decode cX6_holds 19 = .ok (.goto 4, 3) := by decide +kernel
theorem dX6_holds_22 : decode cX6_holds 22 = .ok (.iconst 0, 1) := by decide +kernel
theorem dX6_holds_23 : decode cX6_holds 23 = .ok (.ireturn, 1) := by decide +kernel
theorem b_X6_holds_22 {Z : qZ} {G : qG} {o : Nat} {μ : qM} {post : Int32 → qM → Prop} (C : qX Z G RX6 cX6_holds 3 ({ frames := 0, cells := 0, slots := 0, locals := 0 } : Room) (some .boolean)) (hQ : qQi Z G 0 0 post) (hn : 66 ≤ gn G) (hk_o : qk o = 5) (h : q_X6_holds_22 o post μ) : qV Z G 3 0 0 μ 22 [] [] := by
  unfold q_X6_holds_22 at h
  refine x_iconst C dX6_holds_22 (v := 0) (by decide) ?_
  exact x_zret C hQ dX6_holds_23 h
theorem y_X6_holds : qY yX6_holds cX6_holds 3 (some .boolean) 2 ({ frames := 0, cells := 0, slots := 0, locals := 0 } : Room) 0 0 := ⟨(qm_49 _ (List.mem_of_getElem? (i := 2) rfl)), (qm_2 _ (List.mem_of_getElem? (i := 20) rfl)), by decide +kernel, by decide +kernel, rfl, rfl⟩
theorem c_X6_holds (l : Launch) (G : qG) {o : Nat} {v1 : Int32} {v2 : Int32} {μ : qM} (hn : 66 ≤ gn G) (hk_o : qk o = 5) : qCi l G yX6_holds cX6_holds 3 (some .boolean) ({ frames := 0, cells := 0, slots := 0, locals := 0 } : Room) 0 0 [.ref (ga G o), .int v1, .int v2] μ (fun post => w_X6_holds o v1 v2 post μ) := by
  refine qCi_of (L := [(0, .ref (ga G o)), (1, .int v1), (2, .int v2)]) (by decide) rfl rfl ?_
  intro Z post hl C hQ h
  have C : qX Z G RX6 cX6_holds 3 ({ frames := 0, cells := 0, slots := 0, locals := 0 } : Room) (some .boolean) := C
  have h : w_X6_holds o v1 v2 post μ := h
  unfold w_X6_holds at h
  refine x_iload_n C 1 dX6_holds_0 rfl rfl ?_
  refine x_if_lt C dX6_holds_1 (tgt := 22) (by decide) h (fun h => ?_) (fun h => ?_)
  · exact qV_sub [] rfl (b_X6_holds_22 C hQ hn hk_o h)
  · refine x_iload_n C 2 dX6_holds_4 rfl rfl ?_
    refine x_if_lt C dX6_holds_5 (tgt := 22) (by decide) h (fun h => ?_) (fun h => ?_)
    · exact qV_sub [] rfl (b_X6_holds_22 C hQ hn hk_o h)
    · refine x_iload_n C 1 dX6_holds_8 rfl rfl ?_
      refine x_aload_n C 0 dX6_holds_9 rfl rfl ?_
      refine g_RX6_15 C hn hk_o dX6_holds_10 ?_
      refine x_iload_n C 2 dX6_holds_13 rfl rfl ?_
      refine x_isub C dX6_holds_14 ?_
      refine x_icmp_gt C dX6_holds_15 (tgt := 22) (by decide) h (fun h => ?_) (fun h => ?_)
      · exact qV_sub [] rfl (b_X6_holds_22 C hQ hn hk_o h)
      · refine x_iconst C dX6_holds_18 (v := 1) (by decide) ?_
        refine x_goto C dX6_holds_19 (tgt := 23) (by decide) ?_
        exact x_zret C hQ dX6_holds_23 h
theorem dX6_take_0 : decode cX6_take 0 = .ok (.aload_n 0, 1) := by decide +kernel
theorem dX6_take_1 : decode cX6_take 1 = .ok (.iload_n 1, 1) := by decide +kernel
theorem dX6_take_2 : decode cX6_take 2 = .ok (.iload 4, 2) := by decide +kernel
theorem dX6_take_4 : decode cX6_take 4 = .ok (.invokevirtual 28, 3) := by decide +kernel
theorem dX6_take_7 : decode cX6_take 7 = .ok (.ifCond .eq 28, 3) := by decide +kernel
theorem dX6_take_10 : decode cX6_take 10 = .ok (.aload_n 2, 1) := by decide +kernel
theorem dX6_take_11 : decode cX6_take 11 = .ok (.iload_n 3, 1) := by decide +kernel
theorem dX6_take_12 : decode cX6_take 12 = .ok (.iload 4, 2) := by decide +kernel
theorem dX6_take_14 : decode cX6_take 14 = .ok (.invokevirtual 28, 3) := by decide +kernel
theorem dX6_take_17 : decode cX6_take 17 = .ok (.ifCond .eq 18, 3) := by decide +kernel
theorem dX6_take_20 : decode cX6_take 20 = .ok (.aload_n 2, 1) := by decide +kernel
theorem dX6_take_21 : decode cX6_take 21 = .ok (.getfield 18, 3) := by decide +kernel
theorem dX6_take_24 : decode cX6_take 24 = .ok (.iload_n 3, 1) := by decide +kernel
theorem dX6_take_25 : decode cX6_take 25 = .ok (.aload_n 0, 1) := by decide +kernel
theorem dX6_take_26 : decode cX6_take 26 = .ok (.getfield 18, 3) := by decide +kernel
theorem dX6_take_29 : decode cX6_take 29 = .ok (.iload_n 1, 1) := by decide +kernel
theorem dX6_take_30 : decode cX6_take 30 = .ok (.iload 4, 2) := by decide +kernel
theorem dX6_take_32 : decode cX6_take 32 = .ok (.invokestatic 32, 3) := by decide +kernel
theorem dX6_take_35 : decode cX6_take 35 = .ok (.return_, 1) := by decide +kernel
theorem i_RX6_28 {Z : qZ} {G : qG} {cc : ByteArray} {nL k n : Nat} {rm : Room} {ret : Option FieldType} {μ : qM} {pc : Nat} {L : List (Nat × Value)} {rest : List Value} {K : Int32 → qM → Prop} {o : Nat} {v1 : Int32} {v2 : Int32} (C : qX Z G RX6 cc nL rm ret) (hn : 66 ≤ gn G) (hk_o : qk o = 5) (hR : (Nat.ble (0 + 1) rm.frames && Nat.ble (8 + (3 + 11) + 0) rm.locals) = true) (hf : k + 0 ≤ rm.cells ∧ n + 0 ≤ rm.slots) (hsz : Nat.ble (rest.map fun v => v.category).sum 8 = true) (hd : decode cc pc = .ok (.invokevirtual 28, 3)) (h : w_X6_holds o v1 v2 K μ) (hk : ∀ (r : Int32) (μ1 : qM), K r μ1 → qV Z G nL k n μ1 (pc + 3) L (.int r :: rest)) : qV Z G nL k n μ pc L (.int v2 :: .int v1 :: .ref (ga G o) :: rest) := x_Vi [.int v1, .int v2] rest C o 5 (wp := fun K => w_X6_holds o v1 v2 K μ) (y_X6_holds : qY yX6_holds cX6_holds 3 (some .boolean) 2 ({ frames := 0, cells := 0, slots := 0, locals := 0 } : Room) 0 0) (qm_49 _ (List.mem_of_getElem? (i := 0) rfl)) (qm_49 _ (List.mem_of_getElem? (i := 1) rfl)) (qm_49 _ (List.mem_of_getElem? (i := 8) rfl)) (c_X6_holds Z.2.1 G hn hk_o) (q_lt hk_o rfl hn) hk_o (by decide) rfl rfl hR hf rfl rfl hsz hd h hk
theorem y_X6_take : qY yX6_take cX6_take 5 none 4 ({ frames := 1, cells := 0, slots := 0, locals := 48 } : Room) 0 0 := ⟨(qm_49 _ (List.mem_of_getElem? (i := 6) rfl)), (qm_2 _ (List.mem_of_getElem? (i := 20) rfl)), by decide +kernel, by decide +kernel, rfl, rfl⟩
theorem c_X6_take (l : Launch) (G : qG) {o : Nat} {o2 : Nat} {v1 : Int32} {v3 : Int32} {v4 : Int32} {μ : qM} (hn : 66 ≤ gn G) (hk_o : qk o = 5) (hk_o2 : qk o2 = 5) : qCv l G yX6_take cX6_take 5 none ({ frames := 1, cells := 0, slots := 0, locals := 48 } : Room) 0 0 [.ref (ga G o), .int v1, .ref (ga G o2), .int v3, .int v4] μ (fun post => w_X6_take o o2 v1 v3 v4 post μ) := by
  refine qCv_of (L := [(0, .ref (ga G o)), (1, .int v1), (2, .ref (ga G o2)), (3, .int v3), (4, .int v4)]) (by decide) rfl rfl ?_
  intro Z post hl C hQ h
  have C : qX Z G RX6 cX6_take 5 ({ frames := 1, cells := 0, slots := 0, locals := 48 } : Room) none := C
  have h : w_X6_take o o2 v1 v3 v4 post μ := h
  unfold w_X6_take at h
  refine x_aload_n C 0 dX6_take_0 rfl rfl ?_
  refine x_iload_n C 1 dX6_take_1 rfl rfl ?_
  refine x_iload C 4 dX6_take_2 rfl ?_
  refine i_RX6_28 (rest := []) C hn hk_o rfl (by decide) rfl dX6_take_4 h (fun r4 μ4 h => ?_)
  refine x_if_eq C dX6_take_7 (tgt := 35) (by decide) h (fun h => ?_) (fun h => ?_)
  · exact x_vret C hQ dX6_take_35 h
  · refine x_aload_n C 2 dX6_take_10 rfl rfl ?_
    refine x_iload_n C 3 dX6_take_11 rfl rfl ?_
    refine x_iload C 4 dX6_take_12 rfl ?_
    refine i_RX6_28 (rest := []) C hn hk_o2 rfl (by decide) rfl dX6_take_14 h (fun r14 μ14 h => ?_)
    refine x_if_eq C dX6_take_17 (tgt := 35) (by decide) h (fun h => ?_) (fun h => ?_)
    · exact x_vret C hQ dX6_take_35 h
    · refine x_aload_n C 2 dX6_take_20 rfl rfl ?_
      refine g_RX6_18 C hn hk_o2 dX6_take_21 ?_
      refine x_iload_n C 3 dX6_take_24 rfl rfl ?_
      refine x_aload_n C 0 dX6_take_25 rfl rfl ?_
      refine g_RX6_18 C hn hk_o dX6_take_26 ?_
      refine x_iload_n C 1 dX6_take_29 rfl rfl ?_
      refine x_iload C 4 dX6_take_30 rfl ?_
      refine x_copy C (o2 + 1) (o + 1) 15 15 40 40 (q_lt (qn_5_1 hk_o2) rfl hn) (q_lt (qn_5_1 hk_o) rfl hn) (qn_5_1 hk_o2) (qn_5_1 hk_o) rfl rfl rfl rfl rfl rfl rfl rfl (qm_49 _ (List.mem_of_getElem? (i := 7) rfl)) rfl rfl dX6_take_32 h (fun h => ?_)
      exact x_vret C hQ dX6_take_35 h
theorem dX8_put_0 : decode cX8_put 0 = .ok (.aload_n 0, 1) := by decide +kernel
theorem dX8_put_1 : decode cX8_put 1 = .ok (.getfield 15, 3) := by decide +kernel
theorem dX8_put_4 : decode cX8_put 4 = .ok (.bipush 120, 2) := by decide +kernel
theorem dX8_put_6 : decode cX8_put 6 = .ok (.if_icmp .ge 24, 3) := by decide +kernel
theorem dX8_put_9 : decode cX8_put 9 = .ok (.aload_n 0, 1) := by decide +kernel
theorem dX8_put_10 : decode cX8_put 10 = .ok (.getfield 9, 3) := by decide +kernel
theorem dX8_put_13 : decode cX8_put 13 = .ok (.aload_n 0, 1) := by decide +kernel
theorem dX8_put_14 : decode cX8_put 14 = .ok (.getfield 15, 3) := by decide +kernel
theorem dX8_put_17 : decode cX8_put 17 = .ok (.iload_n 1, 1) := by decide +kernel
theorem dX8_put_18 : decode cX8_put 18 = .ok (.i2b, 1) := by decide +kernel
theorem dX8_put_19 : decode cX8_put 19 = .ok (.bastore, 1) := by decide +kernel
theorem dX8_put_20 : decode cX8_put 20 = .ok (.aload_n 0, 1) := by decide +kernel
theorem dX8_put_21 : decode cX8_put 21 = .ok (.dup, 1) := by decide +kernel
theorem dX8_put_22 : decode cX8_put 22 = .ok (.getfield 15, 3) := by decide +kernel
theorem dX8_put_25 : decode cX8_put 25 = .ok (.iconst 1, 1) := by decide +kernel
theorem dX8_put_26 : decode cX8_put 26 = .ok (.iadd, 1) := by decide +kernel
theorem dX8_put_27 : decode cX8_put 27 = .ok (.putfield 15, 3) := by decide +kernel
theorem dX8_put_30 : decode cX8_put 30 = .ok (.return_, 1) := by decide +kernel
theorem p_RX8_15 {Z : qZ} {G : qG} {cc : ByteArray} {nL k n : Nat} {rm : Room} {ret : Option FieldType} {μ : qM} {pc : Nat} {L : List (Nat × Value)} {st : List Value} {x : Int32} {o : Nat} (C : qX Z G RX8 cc nL rm ret) (hn : 66 ≤ gn G) (hk : qk o = 7) (hd : decode cc pc = .ok (.putfield 15, 3)) (h : qV Z G nL k n (qu μ o 1 x) (pc + 3) L st) : qV Z G nL k n μ pc L (.int x :: .ref (ga G o) :: st) := x_puti C o 7 1 (C0 := RX8) (fn := "size") (fd := "I") (ty := .int) (q_lt hk rfl hn) hk (by decide) rfl (by decide) rfl inlX8 tyX8_ok nmX8 (qm_4 _ (List.mem_of_getElem? (i := 2) rfl)) rfl (by decide +kernel) rfl rfl hd h
theorem y_X8_put : qY yX8_put cX8_put 2 none 1 ({ frames := 0, cells := 0, slots := 0, locals := 0 } : Room) 0 0 := ⟨(qm_36 _ (List.mem_of_getElem? (i := 17) rfl)), (qm_1 _ (List.mem_of_getElem? (i := 21) rfl)), by decide +kernel, by decide +kernel, rfl, rfl⟩
theorem c_X8_put (l : Launch) (G : qG) {o : Nat} {v1 : Int32} {μ : qM} (hn : 66 ≤ gn G) (hk_o : qk o = 7) : qCv l G yX8_put cX8_put 2 none ({ frames := 0, cells := 0, slots := 0, locals := 0 } : Room) 0 0 [.ref (ga G o), .int v1] μ (fun post => w_X8_put o v1 post μ) := by
  refine qCv_of (L := [(0, .ref (ga G o)), (1, .int v1)]) (by decide) rfl rfl ?_
  intro Z post hl C hQ h
  have C : qX Z G RX8 cX8_put 2 ({ frames := 0, cells := 0, slots := 0, locals := 0 } : Room) none := C
  have h : w_X8_put o v1 post μ := h
  unfold w_X8_put at h
  refine x_aload_n C 0 dX8_put_0 rfl rfl ?_
  refine g_RX8_15 C hn hk_o dX8_put_1 ?_
  refine x_bipush C dX8_put_4 (v := 120) (by decide) ?_
  refine x_icmp_ge C dX8_put_6 (tgt := 30) (by decide) h (fun h => ?_) (fun h => ?_)
  · exact x_vret C hQ dX8_put_30 h
  · refine x_aload_n C 0 dX8_put_9 rfl rfl ?_
    refine g_RX8_9 C hn hk_o dX8_put_10 ?_
    refine x_aload_n C 0 dX8_put_13 rfl rfl ?_
    refine g_RX8_15 C hn hk_o dX8_put_14 ?_
    refine x_iload_n C 1 dX8_put_17 rfl rfl ?_
    refine x_i2b C dX8_put_18 ?_
    refine x_bast C (o + 1) 14 120 (q_lt (qn_7_1 hk_o) rfl hn) (qn_7_1 hk_o) rfl rfl rfl rfl dX8_put_19 h (fun h => ?_)
    refine x_aload_n C 0 dX8_put_20 rfl rfl ?_
    refine x_dup C dX8_put_21 rfl ?_
    refine g_RX8_15 C hn hk_o dX8_put_22 ?_
    refine x_iconst C dX8_put_25 (v := 1) (by decide) ?_
    refine x_iadd C dX8_put_26 ?_
    refine p_RX8_15 C hn hk_o dX8_put_27 ?_
    exact x_vret C hQ dX8_put_30 h
theorem dX8_empty_0 : decode cX8_empty 0 = .ok (.aload_n 0, 1) := by decide +kernel
theorem dX8_empty_1 : decode cX8_empty 1 = .ok (.iconst 0, 1) := by decide +kernel
theorem dX8_empty_2 : decode cX8_empty 2 = .ok (.putfield 15, 3) := by decide +kernel
theorem dX8_empty_5 : decode cX8_empty 5 = .ok (.return_, 1) := by decide +kernel
theorem y_X8_empty : qY yX8_empty cX8_empty 1 none 0 ({ frames := 0, cells := 0, slots := 0, locals := 0 } : Room) 0 0 := ⟨(qm_37 _ (List.mem_of_getElem? (i := 6) rfl)), (qm_1 _ (List.mem_of_getElem? (i := 21) rfl)), by decide +kernel, by decide +kernel, rfl, rfl⟩
theorem c_X8_empty (l : Launch) (G : qG) {o : Nat} {μ : qM} (hn : 66 ≤ gn G) (hk_o : qk o = 7) : qCv l G yX8_empty cX8_empty 1 none ({ frames := 0, cells := 0, slots := 0, locals := 0 } : Room) 0 0 [.ref (ga G o)] μ (fun post => w_X8_empty o post μ) := by
  refine qCv_of (L := [(0, .ref (ga G o))]) (by decide) rfl rfl ?_
  intro Z post hl C hQ h
  have C : qX Z G RX8 cX8_empty 1 ({ frames := 0, cells := 0, slots := 0, locals := 0 } : Room) none := C
  have h : w_X8_empty o post μ := h
  unfold w_X8_empty at h
  refine x_aload_n C 0 dX8_empty_0 rfl rfl ?_
  refine x_iconst C dX8_empty_1 (v := 0) (by decide) ?_
  refine p_RX8_15 C hn hk_o dX8_empty_2 ?_
  exact x_vret C hQ dX8_empty_5 h
theorem dX10_isSpot_0 : decode cX10_isSpot 0 = .ok (.iload_n 0, 1) := by decide +kernel
theorem dX10_isSpot_1 : decode cX10_isSpot 1 = .ok (.ifCond .lt 13, 3) := by decide +kernel
theorem dX10_isSpot_4 : decode cX10_isSpot 4 = .ok (.iload_n 0, 1) := by decide +kernel
theorem dX10_isSpot_5 : decode cX10_isSpot 5 = .ok (.bipush 10, 2) := by decide +kernel
theorem dX10_isSpot_7 : decode cX10_isSpot 7 = .ok (.if_icmp .ge 7, 3) := by decide +kernel
theorem dX10_isSpot_10 : decode cX10_isSpot 10 = .ok (.iconst 1, 1) := by decide +kernel
theorem dX10_isSpot_11 : decode cX10_isSpot 11 = .ok (.goto 4, 3) := by decide +kernel
theorem dX10_isSpot_14 : decode cX10_isSpot 14 = .ok (.iconst 0, 1) := by decide +kernel
theorem dX10_isSpot_15 : decode cX10_isSpot 15 = .ok (.ireturn, 1) := by decide +kernel
theorem b_X10_isSpot_14 {Z : qZ} {G : qG} {μ : qM} {post : Int32 → qM → Prop} (C : qX Z G RX10 cX10_isSpot 1 ({ frames := 0, cells := 0, slots := 0, locals := 0 } : Room) (some .boolean)) (hQ : qQi Z G 0 0 post) (hn : 66 ≤ gn G) (h : q_X10_isSpot_14 post μ) : qV Z G 1 0 0 μ 14 [] [] := by
  unfold q_X10_isSpot_14 at h
  refine x_iconst C dX10_isSpot_14 (v := 0) (by decide) ?_
  exact x_zret C hQ dX10_isSpot_15 h
theorem y_X10_isSpot : qY yX10_isSpot cX10_isSpot 1 (some .boolean) 1 ({ frames := 0, cells := 0, slots := 0, locals := 0 } : Room) 0 0 := ⟨(qm_45 _ (List.mem_of_getElem? (i := 4) rfl)), (qm_1 _ (List.mem_of_getElem? (i := 2) rfl)), by decide +kernel, by decide +kernel, rfl, rfl⟩
theorem c_X10_isSpot (l : Launch) (G : qG) {v0 : Int32} {μ : qM} (hn : 66 ≤ gn G) : qCi l G yX10_isSpot cX10_isSpot 1 (some .boolean) ({ frames := 0, cells := 0, slots := 0, locals := 0 } : Room) 0 0 [.int v0] μ (fun post => w_X10_isSpot v0 post μ) := by
  refine qCi_of (L := [(0, .int v0)]) (by decide) rfl rfl ?_
  intro Z post hl C hQ h
  have C : qX Z G RX10 cX10_isSpot 1 ({ frames := 0, cells := 0, slots := 0, locals := 0 } : Room) (some .boolean) := C
  have h : w_X10_isSpot v0 post μ := h
  unfold w_X10_isSpot at h
  refine x_iload_n C 0 dX10_isSpot_0 rfl rfl ?_
  refine x_if_lt C dX10_isSpot_1 (tgt := 14) (by decide) h (fun h => ?_) (fun h => ?_)
  · exact qV_sub [] rfl (b_X10_isSpot_14 C hQ hn h)
  · refine x_iload_n C 0 dX10_isSpot_4 rfl rfl ?_
    refine x_bipush C dX10_isSpot_5 (v := 10) (by decide) ?_
    refine x_icmp_ge C dX10_isSpot_7 (tgt := 14) (by decide) h (fun h => ?_) (fun h => ?_)
    · exact qV_sub [] rfl (b_X10_isSpot_14 C hQ hn h)
    · refine x_iconst C dX10_isSpot_10 (v := 1) (by decide) ?_
      refine x_goto C dX10_isSpot_11 (tgt := 15) (by decide) ?_
      exact x_zret C hQ dX10_isSpot_15 h
theorem dX10_isKind_0 : decode cX10_isKind 0 = .ok (.iload_n 0, 1) := by decide +kernel
theorem dX10_isKind_1 : decode cX10_isKind 1 = .ok (.ifCond .lt 13, 3) := by decide +kernel
theorem dX10_isKind_4 : decode cX10_isKind 4 = .ok (.iload_n 0, 1) := by decide +kernel
theorem dX10_isKind_5 : decode cX10_isKind 5 = .ok (.bipush 7, 2) := by decide +kernel
theorem dX10_isKind_7 : decode cX10_isKind 7 = .ok (.if_icmp .ge 7, 3) := by decide +kernel
theorem dX10_isKind_10 : decode cX10_isKind 10 = .ok (.iconst 1, 1) := by decide +kernel
theorem dX10_isKind_11 : decode cX10_isKind 11 = .ok (.goto 4, 3) := by decide +kernel
theorem dX10_isKind_14 : decode cX10_isKind 14 = .ok (.iconst 0, 1) := by decide +kernel
theorem dX10_isKind_15 : decode cX10_isKind 15 = .ok (.ireturn, 1) := by decide +kernel
theorem b_X10_isKind_14 {Z : qZ} {G : qG} {μ : qM} {post : Int32 → qM → Prop} (C : qX Z G RX10 cX10_isKind 1 ({ frames := 0, cells := 0, slots := 0, locals := 0 } : Room) (some .boolean)) (hQ : qQi Z G 0 0 post) (hn : 66 ≤ gn G) (h : q_X10_isKind_14 post μ) : qV Z G 1 0 0 μ 14 [] [] := by
  unfold q_X10_isKind_14 at h
  refine x_iconst C dX10_isKind_14 (v := 0) (by decide) ?_
  exact x_zret C hQ dX10_isKind_15 h
theorem y_X10_isKind : qY yX10_isKind cX10_isKind 1 (some .boolean) 1 ({ frames := 0, cells := 0, slots := 0, locals := 0 } : Room) 0 0 := ⟨(qm_6 _ (List.mem_of_getElem? (i := 21) rfl)), (qm_1 _ (List.mem_of_getElem? (i := 2) rfl)), by decide +kernel, by decide +kernel, rfl, rfl⟩
theorem c_X10_isKind (l : Launch) (G : qG) {v0 : Int32} {μ : qM} (hn : 66 ≤ gn G) : qCi l G yX10_isKind cX10_isKind 1 (some .boolean) ({ frames := 0, cells := 0, slots := 0, locals := 0 } : Room) 0 0 [.int v0] μ (fun post => w_X10_isKind v0 post μ) := by
  refine qCi_of (L := [(0, .int v0)]) (by decide) rfl rfl ?_
  intro Z post hl C hQ h
  have C : qX Z G RX10 cX10_isKind 1 ({ frames := 0, cells := 0, slots := 0, locals := 0 } : Room) (some .boolean) := C
  have h : w_X10_isKind v0 post μ := h
  unfold w_X10_isKind at h
  refine x_iload_n C 0 dX10_isKind_0 rfl rfl ?_
  refine x_if_lt C dX10_isKind_1 (tgt := 14) (by decide) h (fun h => ?_) (fun h => ?_)
  · exact qV_sub [] rfl (b_X10_isKind_14 C hQ hn h)
  · refine x_iload_n C 0 dX10_isKind_4 rfl rfl ?_
    refine x_bipush C dX10_isKind_5 (v := 7) (by decide) ?_
    refine x_icmp_ge C dX10_isKind_7 (tgt := 14) (by decide) h (fun h => ?_) (fun h => ?_)
    · exact qV_sub [] rfl (b_X10_isKind_14 C hQ hn h)
    · refine x_iconst C dX10_isKind_10 (v := 1) (by decide) ?_
      refine x_goto C dX10_isKind_11 (tgt := 15) (by decide) ?_
      exact x_zret C hQ dX10_isKind_15 h
theorem dX10_isPlace_0 : decode cX10_isPlace 0 = .ok (.iload_n 0, 1) := by decide +kernel
theorem dX10_isPlace_1 : decode cX10_isPlace 1 = .ok (.ifCond .lt 13, 3) := by decide +kernel
theorem dX10_isPlace_4 : decode cX10_isPlace 4 = .ok (.iload_n 0, 1) := by decide +kernel
theorem dX10_isPlace_5 : decode cX10_isPlace 5 = .ok (.bipush 12, 2) := by decide +kernel
theorem dX10_isPlace_7 : decode cX10_isPlace 7 = .ok (.if_icmp .ge 7, 3) := by decide +kernel
theorem dX10_isPlace_10 : decode cX10_isPlace 10 = .ok (.iconst 1, 1) := by decide +kernel
theorem dX10_isPlace_11 : decode cX10_isPlace 11 = .ok (.goto 4, 3) := by decide +kernel
theorem dX10_isPlace_14 : decode cX10_isPlace 14 = .ok (.iconst 0, 1) := by decide +kernel
theorem dX10_isPlace_15 : decode cX10_isPlace 15 = .ok (.ireturn, 1) := by decide +kernel
theorem b_X10_isPlace_14 {Z : qZ} {G : qG} {μ : qM} {post : Int32 → qM → Prop} (C : qX Z G RX10 cX10_isPlace 1 ({ frames := 0, cells := 0, slots := 0, locals := 0 } : Room) (some .boolean)) (hQ : qQi Z G 0 0 post) (hn : 66 ≤ gn G) (h : q_X10_isPlace_14 post μ) : qV Z G 1 0 0 μ 14 [] [] := by
  unfold q_X10_isPlace_14 at h
  refine x_iconst C dX10_isPlace_14 (v := 0) (by decide) ?_
  exact x_zret C hQ dX10_isPlace_15 h
theorem y_X10_isPlace : qY yX10_isPlace cX10_isPlace 1 (some .boolean) 1 ({ frames := 0, cells := 0, slots := 0, locals := 0 } : Room) 0 0 := ⟨(qm_7 _ (List.mem_of_getElem? (i := 3) rfl)), (qm_1 _ (List.mem_of_getElem? (i := 2) rfl)), by decide +kernel, by decide +kernel, rfl, rfl⟩
theorem c_X10_isPlace (l : Launch) (G : qG) {v0 : Int32} {μ : qM} (hn : 66 ≤ gn G) : qCi l G yX10_isPlace cX10_isPlace 1 (some .boolean) ({ frames := 0, cells := 0, slots := 0, locals := 0 } : Room) 0 0 [.int v0] μ (fun post => w_X10_isPlace v0 post μ) := by
  refine qCi_of (L := [(0, .int v0)]) (by decide) rfl rfl ?_
  intro Z post hl C hQ h
  have C : qX Z G RX10 cX10_isPlace 1 ({ frames := 0, cells := 0, slots := 0, locals := 0 } : Room) (some .boolean) := C
  have h : w_X10_isPlace v0 post μ := h
  unfold w_X10_isPlace at h
  refine x_iload_n C 0 dX10_isPlace_0 rfl rfl ?_
  refine x_if_lt C dX10_isPlace_1 (tgt := 14) (by decide) h (fun h => ?_) (fun h => ?_)
  · exact qV_sub [] rfl (b_X10_isPlace_14 C hQ hn h)
  · refine x_iload_n C 0 dX10_isPlace_4 rfl rfl ?_
    refine x_bipush C dX10_isPlace_5 (v := 12) (by decide) ?_
    refine x_icmp_ge C dX10_isPlace_7 (tgt := 14) (by decide) h (fun h => ?_) (fun h => ?_)
    · exact qV_sub [] rfl (b_X10_isPlace_14 C hQ hn h)
    · refine x_iconst C dX10_isPlace_10 (v := 1) (by decide) ?_
      refine x_goto C dX10_isPlace_11 (tgt := 15) (by decide) ?_
      exact x_zret C hQ dX10_isPlace_15 h
theorem dX10_isLot_0 : decode cX10_isLot 0 = .ok (.iload_n 0, 1) := by decide +kernel
theorem dX10_isLot_1 : decode cX10_isLot 1 = .ok (.invokestatic 168, 3) := by decide +kernel
theorem dX10_isLot_4 : decode cX10_isLot 4 = .ok (.ifCond .eq 14, 3) := by decide +kernel
theorem dX10_isLot_7 : decode cX10_isLot 7 = .ok (.iload_n 1, 1) := by decide +kernel
theorem dX10_isLot_8 : decode cX10_isLot 8 = .ok (.invokestatic 168, 3) := by decide +kernel
theorem dX10_isLot_11 : decode cX10_isLot 11 = .ok (.ifCond .eq 7, 3) := by decide +kernel
theorem dX10_isLot_14 : decode cX10_isLot 14 = .ok (.iconst 1, 1) := by decide +kernel
theorem dX10_isLot_15 : decode cX10_isLot 15 = .ok (.goto 4, 3) := by decide +kernel
theorem dX10_isLot_18 : decode cX10_isLot 18 = .ok (.iconst 0, 1) := by decide +kernel
theorem dX10_isLot_19 : decode cX10_isLot 19 = .ok (.ireturn, 1) := by decide +kernel
theorem i_RX10_168 {Z : qZ} {G : qG} {cc : ByteArray} {nL k n : Nat} {rm : Room} {ret : Option FieldType} {μ : qM} {pc : Nat} {L : List (Nat × Value)} {rest : List Value} {K : Int32 → qM → Prop} {v0 : Int32} (C : qX Z G RX10 cc nL rm ret) (hn : 66 ≤ gn G) (hR : (Nat.ble (0 + 1) rm.frames && Nat.ble (8 + (1 + 11) + 0) rm.locals) = true) (hf : k + 0 ≤ rm.cells ∧ n + 0 ≤ rm.slots) (hsz : Nat.ble (rest.map fun v => v.category).sum 8 = true) (hd : decode cc pc = .ok (.invokestatic 168, 3)) (h : w_X10_isPlace v0 K μ) (hk : ∀ (r : Int32) (μ1 : qM), K r μ1 → qV Z G nL k n μ1 (pc + 3) L (.int r :: rest)) : qV Z G nL k n μ pc L (.int v0 :: rest) := x_Si [.int v0] rest C (wp := fun K => w_X10_isPlace v0 K μ) (y_X10_isPlace : qY yX10_isPlace cX10_isPlace 1 (some .boolean) 1 ({ frames := 0, cells := 0, slots := 0, locals := 0 } : Room) 0 0) (qm_7 _ (List.mem_of_getElem? (i := 2) rfl)) (qm_7 _ (List.mem_of_getElem? (i := 1) rfl)) (c_X10_isPlace Z.2.1 G hn ) hR hf rfl rfl hsz hd h hk
theorem b_X10_isLot_18 {Z : qZ} {G : qG} {μ : qM} {post : Int32 → qM → Prop} (C : qX Z G RX10 cX10_isLot 2 ({ frames := 1, cells := 0, slots := 0, locals := 20 } : Room) (some .boolean)) (hQ : qQi Z G 0 0 post) (hn : 66 ≤ gn G) (h : q_X10_isLot_18 post μ) : qV Z G 2 0 0 μ 18 [] [] := by
  unfold q_X10_isLot_18 at h
  refine x_iconst C dX10_isLot_18 (v := 0) (by decide) ?_
  exact x_zret C hQ dX10_isLot_19 h
theorem y_X10_isLot : qY yX10_isLot cX10_isLot 2 (some .boolean) 2 ({ frames := 1, cells := 0, slots := 0, locals := 20 } : Room) 0 0 := ⟨(qm_7 _ (List.mem_of_getElem? (i := 0) rfl)), (qm_1 _ (List.mem_of_getElem? (i := 2) rfl)), by decide +kernel, by decide +kernel, rfl, rfl⟩
theorem c_X10_isLot (l : Launch) (G : qG) {v0 : Int32} {v1 : Int32} {μ : qM} (hn : 66 ≤ gn G) : qCi l G yX10_isLot cX10_isLot 2 (some .boolean) ({ frames := 1, cells := 0, slots := 0, locals := 20 } : Room) 0 0 [.int v0, .int v1] μ (fun post => w_X10_isLot v0 v1 post μ) := by
  refine qCi_of (L := [(0, .int v0), (1, .int v1)]) (by decide) rfl rfl ?_
  intro Z post hl C hQ h
  have C : qX Z G RX10 cX10_isLot 2 ({ frames := 1, cells := 0, slots := 0, locals := 20 } : Room) (some .boolean) := C
  have h : w_X10_isLot v0 v1 post μ := h
  unfold w_X10_isLot at h
  refine x_iload_n C 0 dX10_isLot_0 rfl rfl ?_
  refine i_RX10_168 (rest := []) C hn  rfl (by decide) rfl dX10_isLot_1 h (fun r1 μ1 h => ?_)
  refine x_if_eq C dX10_isLot_4 (tgt := 18) (by decide) h (fun h => ?_) (fun h => ?_)
  · exact qV_sub [] rfl (b_X10_isLot_18 C hQ hn h)
  · refine x_iload_n C 1 dX10_isLot_7 rfl rfl ?_
    refine i_RX10_168 (rest := []) C hn  rfl (by decide) rfl dX10_isLot_8 h (fun r8 μ8 h => ?_)
    refine x_if_eq C dX10_isLot_11 (tgt := 18) (by decide) h (fun h => ?_) (fun h => ?_)
    · exact qV_sub [] rfl (b_X10_isLot_18 C hQ hn h)
    · refine x_iconst C dX10_isLot_14 (v := 1) (by decide) ?_
      refine x_goto C dX10_isLot_15 (tgt := 19) (by decide) ?_
      exact x_zret C hQ dX10_isLot_19 h
theorem dX10_sheetAt_0 : decode cX10_sheetAt 0 = .ok (.iload_n 1, 1) := by decide +kernel
theorem dX10_sheetAt_1 : decode cX10_sheetAt 1 = .ok (.ifCond .lt 17, 3) := by decide +kernel
theorem dX10_sheetAt_4 : decode cX10_sheetAt 4 = .ok (.iload_n 1, 1) := by decide +kernel
theorem dX10_sheetAt_5 : decode cX10_sheetAt 5 = .ok (.iconst 4, 1) := by decide +kernel
theorem dX10_sheetAt_6 : decode cX10_sheetAt 6 = .ok (.if_icmp .ge 12, 3) := by decide +kernel
theorem dX10_sheetAt_9 : decode cX10_sheetAt 9 = .ok (.aload_n 0, 1) := by decide +kernel
theorem dX10_sheetAt_10 : decode cX10_sheetAt 10 = .ok (.getfield 35, 3) := by decide +kernel
theorem dX10_sheetAt_13 : decode cX10_sheetAt 13 = .ok (.iload_n 1, 1) := by decide +kernel
theorem dX10_sheetAt_14 : decode cX10_sheetAt 14 = .ok (.aaload, 1) := by decide +kernel
theorem dX10_sheetAt_15 : decode cX10_sheetAt 15 = .ok (.goto 4, 3) := by decide +kernel
theorem dX10_sheetAt_18 : decode cX10_sheetAt 18 = .ok (.aconst_null, 1) := by decide +kernel
theorem dX10_sheetAt_19 : decode cX10_sheetAt 19 = .ok (.areturn, 1) := by decide +kernel
theorem g_RX10_35 {Z : qZ} {G : qG} {cc : ByteArray} {nL k n : Nat} {rm : Room} {ret : Option FieldType} {μ : qM} {pc : Nat} {L : List (Nat × Value)} {st : List Value} (C : qX Z G RX10 cc nL rm ret) (hn : 66 ≤ gn G) (hd : decode cc pc = .ok (.getfield 35, 3)) (h : qV Z G nL k n μ (pc + 3) L (.ref (ga G 24) :: st)) : qV Z G nL k n μ pc L (.ref (ga G 0) :: st) := x_getr C 0 9 5 24 24 (C0 := RX10) (fn := "sheets") (fd := "[LEqualPlain$Sheet;") (Nat.lt_of_lt_of_le (by decide) hn) rfl (by decide) rfl (by decide) rfl inlX10 (qm_2 _ (List.mem_of_getElem? (i := 0) rfl)) rfl rfl rfl hd h
theorem b_X10_sheetAt_18 {Z : qZ} {G : qG} {μ : qM} {post : Option Nat → qM → Prop} (C : qX Z G RX10 cX10_sheetAt 2 ({ frames := 0, cells := 0, slots := 0, locals := 0 } : Room) (some (.object "EqualPlain$Sheet"))) (hQ : qQq Z G 0 0 post) (hn : 66 ≤ gn G) (h : q_X10_sheetAt_18 post μ) : qV Z G 2 0 0 μ 18 [] [] := by
  unfold q_X10_sheetAt_18 at h
  refine x_null C dX10_sheetAt_18 ?_
  exact x_qretN C hQ dX10_sheetAt_19 h
theorem y_X10_sheetAt : qY yX10_sheetAt cX10_sheetAt 2 (some (.object "EqualPlain$Sheet")) 1 ({ frames := 0, cells := 0, slots := 0, locals := 0 } : Room) 0 0 := ⟨(qm_46 _ (List.mem_of_getElem? (i := 23) rfl)), (qm_1 _ (List.mem_of_getElem? (i := 2) rfl)), by decide +kernel, by decide +kernel, rfl, rfl⟩
theorem c_X10_sheetAt (l : Launch) (G : qG) {v1 : Int32} {μ : qM} (hn : 66 ≤ gn G) : qCq l G yX10_sheetAt cX10_sheetAt 2 (some (.object "EqualPlain$Sheet")) ({ frames := 0, cells := 0, slots := 0, locals := 0 } : Room) 0 0 [.ref (ga G 0), .int v1] μ (fun post => w_X10_sheetAt v1 post μ) := by
  refine qCq_of (L := [(0, .ref (ga G 0)), (1, .int v1)]) (by decide) rfl rfl ?_
  intro Z post hl C hQ h
  have C : qX Z G RX10 cX10_sheetAt 2 ({ frames := 0, cells := 0, slots := 0, locals := 0 } : Room) (some (.object "EqualPlain$Sheet")) := C
  have h : w_X10_sheetAt v1 post μ := h
  unfold w_X10_sheetAt at h
  refine x_iload_n C 1 dX10_sheetAt_0 rfl rfl ?_
  refine x_if_lt C dX10_sheetAt_1 (tgt := 18) (by decide) h (fun h => ?_) (fun h => ?_)
  · exact qV_sub [] rfl (b_X10_sheetAt_18 C hQ hn h)
  · refine x_iload_n C 1 dX10_sheetAt_4 rfl rfl ?_
    refine x_iconst C dX10_sheetAt_5 (v := 4) (by decide) ?_
    refine x_icmp_ge C dX10_sheetAt_6 (tgt := 18) (by decide) h (fun h => ?_) (fun h => ?_)
    · exact qV_sub [] rfl (b_X10_sheetAt_18 C hQ hn h)
    · refine x_aload_n C 0 dX10_sheetAt_9 rfl rfl ?_
      refine g_RX10_35 C hn dX10_sheetAt_10 ?_
      refine x_iload_n C 1 dX10_sheetAt_13 rfl rfl ?_
      refine x_aald C (by omega) dX10_sheetAt_14 h (fun hs14 h => ?_)
      refine x_goto C dX10_sheetAt_15 (tgt := 19) (by decide) ?_
      exact x_qret C hQ dX10_sheetAt_19 h
