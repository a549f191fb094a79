theorem dX9_houses_0 : decode cX9_houses 0 = .ok (.aload_n 0, 1) := by decide +kernel
theorem dX9_houses_1 : decode cX9_houses 1 = .ok (.getfield 12, 3) := by decide +kernel
theorem dX9_houses_4 : decode cX9_houses 4 = .ok (.areturn, 1) := by decide +kernel
theorem g_RX9_12 {Z : qZ} {G : qG} {cc : ByteArray} {nL k n : Nat} {rm : Room} {ret : Option FieldType} {μ : qM} {pc : Nat} {L : List (Nat × Value)} {st : List Value} {o : Nat} (C : qX Z G RX9 cc nL rm ret) (hn : 66 ≤ gn G) (hk : qk o = 8) (hd : decode cc pc = .ok (.getfield 12, 3)) (h : qV Z G nL k n μ (pc + 3) L (.ref (ga G (o + 1)) :: st)) : qV Z G nL k n μ pc L (.ref (ga G o) :: st) := x_getr C o 8 0 1 (o + 1) (C0 := RX9) (fn := "houses") (fd := "LEqualPlain$Houses;") (q_lt hk rfl hn) hk (by decide) rfl (by decide) rfl inlX9 (qm_3 _ (List.mem_of_getElem? (i := 4) rfl)) rfl rfl rfl hd h
theorem y_X9_houses : qY yX9_houses cX9_houses 1 (some (.object "EqualPlain$Houses")) 0 ({ frames := 0, cells := 0, slots := 0, locals := 0 } : Room) 0 0 := ⟨(qm_7 _ (List.mem_of_getElem? (i := 11) rfl)), (qm_1 _ (List.mem_of_getElem? (i := 14) rfl)), by decide +kernel, by decide +kernel, rfl, rfl⟩
theorem c_X9_houses (l : Launch) (G : qG) {o : Nat} {μ : qM} (hn : 66 ≤ gn G) (hk_o : qk o = 8) : qCr l G yX9_houses cX9_houses 1 (some (.object "EqualPlain$Houses")) ({ frames := 0, cells := 0, slots := 0, locals := 0 } : Room) 0 0 [.ref (ga G o)] μ (fun post => w_X9_houses o post μ) := by
  refine qCr_of (L := [(0, .ref (ga G o))]) (by decide) rfl rfl ?_
  intro Z post hl C hQ h
  have C : qX Z G RX9 cX9_houses 1 ({ frames := 0, cells := 0, slots := 0, locals := 0 } : Room) (some (.object "EqualPlain$Houses")) := C
  have h : w_X9_houses o post μ := h
  unfold w_X9_houses at h
  refine x_aload_n C 0 dX9_houses_0 rfl rfl ?_
  refine g_RX9_12 C hn hk_o dX9_houses_1 ?_
  exact x_aret C hQ dX9_houses_4 h
theorem dX9_setWorth_0 : decode cX9_setWorth 0 = .ok (.iload_n 1, 1) := by decide +kernel
theorem dX9_setWorth_1 : decode cX9_setWorth 1 = .ok (.ifCond .lt 17, 3) := by decide +kernel
theorem dX9_setWorth_4 : decode cX9_setWorth 4 = .ok (.iload_n 1, 1) := by decide +kernel
theorem dX9_setWorth_5 : decode cX9_setWorth 5 = .ok (.sipush 144, 3) := by decide +kernel
theorem dX9_setWorth_8 : decode cX9_setWorth 8 = .ok (.if_icmp .ge 10, 3) := by decide +kernel
theorem dX9_setWorth_11 : decode cX9_setWorth 11 = .ok (.aload_n 0, 1) := by decide +kernel
theorem dX9_setWorth_12 : decode cX9_setWorth 12 = .ok (.getfield 18, 3) := by decide +kernel
theorem dX9_setWorth_15 : decode cX9_setWorth 15 = .ok (.iload_n 1, 1) := by decide +kernel
theorem dX9_setWorth_16 : decode cX9_setWorth 16 = .ok (.iload_n 2, 1) := by decide +kernel
theorem dX9_setWorth_17 : decode cX9_setWorth 17 = .ok (.iastore, 1) := by decide +kernel
theorem dX9_setWorth_18 : decode cX9_setWorth 18 = .ok (.return_, 1) := by decide +kernel
theorem g_RX9_18 {Z : qZ} {G : qG} {cc : ByteArray} {nL k n : Nat} {rm : Room} {ret : Option FieldType} {μ : qM} {pc : Nat} {L : List (Nat × Value)} {st : List Value} {o : Nat} (C : qX Z G RX9 cc nL rm ret) (hn : 66 ≤ gn G) (hk : qk o = 8) (hd : decode cc pc = .ok (.getfield 18, 3)) (h : qV Z G nL k n μ (pc + 3) L (.ref (ga G (o + 5)) :: st)) : qV Z G nL k n μ pc L (.ref (ga G o) :: st) := x_getr C o 8 1 5 (o + 5) (C0 := RX9) (fn := "worth") (fd := "[I") (q_lt hk rfl hn) hk (by decide) rfl (by decide) rfl inlX9 (qm_3 _ (List.mem_of_getElem? (i := 5) rfl)) rfl rfl rfl hd h
theorem y_X9_setWorth : qY yX9_setWorth cX9_setWorth 3 none 2 ({ frames := 0, cells := 0, slots := 0, locals := 0 } : Room) 0 0 := ⟨(qm_15 _ (List.mem_of_getElem? (i := 20) rfl)), (qm_1 _ (List.mem_of_getElem? (i := 14) rfl)), by decide +kernel, by decide +kernel, rfl, rfl⟩
theorem c_X9_setWorth (l : Launch) (G : qG) {o : Nat} {v1 : Int32} {v2 : Int32} {μ : qM} (hn : 66 ≤ gn G) (hk_o : qk o = 8) : qCv l G yX9_setWorth cX9_setWorth 3 none ({ frames := 0, cells := 0, slots := 0, locals := 0 } : Room) 0 0 [.ref (ga G o), .int v1, .int v2] μ (fun post => w_X9_setWorth o v1 v2 post μ) := by
  refine qCv_of (L := [(0, .ref (ga G o)), (1, .int v1), (2, .int v2)]) (by decide) rfl rfl ?_
  intro Z post hl C hQ h
  have C : qX Z G RX9 cX9_setWorth 3 ({ frames := 0, cells := 0, slots := 0, locals := 0 } : Room) none := C
  have h : w_X9_setWorth o v1 v2 post μ := h
  unfold w_X9_setWorth at h
  refine x_iload_n C 1 dX9_setWorth_0 rfl rfl ?_
  refine x_if_lt C dX9_setWorth_1 (tgt := 18) (by decide) h (fun h => ?_) (fun h => ?_)
  · exact x_vret C hQ dX9_setWorth_18 h
  · refine x_iload_n C 1 dX9_setWorth_4 rfl rfl ?_
    refine x_sipush C dX9_setWorth_5 (v := 144) (by decide) ?_
    refine x_icmp_ge C dX9_setWorth_8 (tgt := 18) (by decide) h (fun h => ?_) (fun h => ?_)
    · exact x_vret C hQ dX9_setWorth_18 h
    · refine x_aload_n C 0 dX9_setWorth_11 rfl rfl ?_
      refine g_RX9_18 C hn hk_o dX9_setWorth_12 ?_
      refine x_iload_n C 1 dX9_setWorth_15 rfl rfl ?_
      refine x_iload_n C 2 dX9_setWorth_16 rfl rfl ?_
      refine x_iast C (o + 5) 12 144 (q_lt (qn_8_5 hk_o) rfl hn) (qn_8_5 hk_o) rfl rfl rfl rfl dX9_setWorth_17 h (fun h => ?_)
      exact x_vret C hQ dX9_setWorth_18 h
theorem dX9_setPurse_0 : decode cX9_setPurse 0 = .ok (.aload_n 0, 1) := by decide +kernel
theorem dX9_setPurse_1 : decode cX9_setPurse 1 = .ok (.iload_n 1, 1) := by decide +kernel
theorem dX9_setPurse_2 : decode cX9_setPurse 2 = .ok (.putfield 25, 3) := by decide +kernel
theorem dX9_setPurse_5 : decode cX9_setPurse 5 = .ok (.return_, 1) := by decide +kernel
theorem p_RX9_25 {Z : qZ} {G : qG} {cc : ByteArray} {nL k n : Nat} {rm : Room} {ret : Option FieldType} {μ : qM} {pc : Nat} {L : List (Nat × Value)} {st : List Value} {x : Int32} {o : Nat} (C : qX Z G RX9 cc nL rm ret) (hn : 66 ≤ gn G) (hk : qk o = 8) (hd : decode cc pc = .ok (.putfield 25, 3)) (h : qV Z G nL k n (qu μ o 3 x) (pc + 3) L st) : qV Z G nL k n μ pc L (.int x :: .ref (ga G o) :: st) := x_puti C o 8 3 (C0 := RX9) (fn := "purse") (fd := "I") (ty := .int) (q_lt hk rfl hn) hk (by decide) rfl (by decide) rfl inlX9 tyX9_ok nmX9 (qm_3 _ (List.mem_of_getElem? (i := 7) rfl)) rfl (by decide +kernel) rfl rfl hd h
theorem y_X9_setPurse : qY yX9_setPurse cX9_setPurse 2 none 1 ({ frames := 0, cells := 0, slots := 0, locals := 0 } : Room) 0 0 := ⟨(qm_16 _ (List.mem_of_getElem? (i := 9) rfl)), (qm_1 _ (List.mem_of_getElem? (i := 14) rfl)), by decide +kernel, by decide +kernel, rfl, rfl⟩
theorem c_X9_setPurse (l : Launch) (G : qG) {o : Nat} {v1 : Int32} {μ : qM} (hn : 66 ≤ gn G) (hk_o : qk o = 8) : qCv l G yX9_setPurse cX9_setPurse 2 none ({ frames := 0, cells := 0, slots := 0, locals := 0 } : Room) 0 0 [.ref (ga G o), .int v1] μ (fun post => w_X9_setPurse o v1 post μ) := by
  refine qCv_of (L := [(0, .ref (ga G o)), (1, .int v1)]) (by decide) rfl rfl ?_
  intro Z post hl C hQ h
  have C : qX Z G RX9 cX9_setPurse 2 ({ frames := 0, cells := 0, slots := 0, locals := 0 } : Room) none := C
  have h : w_X9_setPurse o v1 post μ := h
  unfold w_X9_setPurse at h
  refine x_aload_n C 0 dX9_setPurse_0 rfl rfl ?_
  refine x_iload_n C 1 dX9_setPurse_1 rfl rfl ?_
  refine p_RX9_25 C hn hk_o dX9_setPurse_2 ?_
  exact x_vret C hQ dX9_setPurse_5 h
theorem dX9_purse_0 : decode cX9_purse 0 = .ok (.aload_n 0, 1) := by decide +kernel
theorem dX9_purse_1 : decode cX9_purse 1 = .ok (.getfield 25, 3) := by decide +kernel
theorem dX9_purse_4 : decode cX9_purse 4 = .ok (.ireturn, 1) := by decide +kernel
theorem g_RX9_25 {Z : qZ} {G : qG} {cc : ByteArray} {nL k n : Nat} {rm : Room} {ret : Option FieldType} {μ : qM} {pc : Nat} {L : List (Nat × Value)} {st : List Value} {o : Nat} (C : qX Z G RX9 cc nL rm ret) (hn : 66 ≤ gn G) (hk : qk o = 8) (hd : decode cc pc = .ok (.getfield 25, 3)) (h : qV Z G nL k n μ (pc + 3) L (.int (μ o 3) :: st)) : qV Z G nL k n μ pc L (.ref (ga G o) :: st) := x_geti C o 8 3 (C0 := RX9) (fn := "purse") (fd := "I") (q_lt hk rfl hn) hk (by decide) rfl (by decide) rfl inlX9 (qm_3 _ (List.mem_of_getElem? (i := 7) rfl)) rfl hd h
theorem y_X9_purse : qY yX9_purse cX9_purse 1 (some .int) 0 ({ frames := 0, cells := 0, slots := 0, locals := 0 } : Room) 0 0 := ⟨(qm_11 _ (List.mem_of_getElem? (i := 10) rfl)), (qm_1 _ (List.mem_of_getElem? (i := 14) rfl)), by decide +kernel, by decide +kernel, rfl, rfl⟩
theorem c_X9_purse (l : Launch) (G : qG) {o : Nat} {μ : qM} (hn : 66 ≤ gn G) (hk_o : qk o = 8) : qCi l G yX9_purse cX9_purse 1 (some .int) ({ frames := 0, cells := 0, slots := 0, locals := 0 } : Room) 0 0 [.ref (ga G o)] μ (fun post => w_X9_purse o post μ) := by
  refine qCi_of (L := [(0, .ref (ga G o))]) (by decide) rfl rfl ?_
  intro Z post hl C hQ h
  have C : qX Z G RX9 cX9_purse 1 ({ frames := 0, cells := 0, slots := 0, locals := 0 } : Room) (some .int) := C
  have h : w_X9_purse o post μ := h
  unfold w_X9_purse at h
  refine x_aload_n C 0 dX9_purse_0 rfl rfl ?_
  refine g_RX9_25 C hn hk_o dX9_purse_1 ?_
  exact x_iret C hQ dX9_purse_4 h
theorem dX9_age_0 : decode cX9_age 0 = .ok (.aload_n 0, 1) := by decide +kernel
theorem dX9_age_1 : decode cX9_age 1 = .ok (.getfield 29, 3) := by decide +kernel
theorem dX9_age_4 : decode cX9_age 4 = .ok (.ireturn, 1) := by decide +kernel
theorem g_RX9_29 {Z : qZ} {G : qG} {cc : ByteArray} {nL k n : Nat} {rm : Room} {ret : Option FieldType} {μ : qM} {pc : Nat} {L : List (Nat × Value)} {st : List Value} {o : Nat} (C : qX Z G RX9 cc nL rm ret) (hn : 66 ≤ gn G) (hk : qk o = 8) (hd : decode cc pc = .ok (.getfield 29, 3)) (h : qV Z G nL k n μ (pc + 3) L (.int (μ o 4) :: st)) : qV Z G nL k n μ pc L (.ref (ga G o) :: st) := x_geti C o 8 4 (C0 := RX9) (fn := "age") (fd := "I") (q_lt hk rfl hn) hk (by decide) rfl (by decide) rfl inlX9 (qm_3 _ (List.mem_of_getElem? (i := 8) rfl)) rfl hd h
theorem y_X9_age : qY yX9_age cX9_age 1 (some .int) 0 ({ frames := 0, cells := 0, slots := 0, locals := 0 } : Room) 0 0 := ⟨(qm_32 _ (List.mem_of_getElem? (i := 5) rfl)), (qm_1 _ (List.mem_of_getElem? (i := 14) rfl)), by decide +kernel, by decide +kernel, rfl, rfl⟩
theorem c_X9_age (l : Launch) (G : qG) {o : Nat} {μ : qM} (hn : 66 ≤ gn G) (hk_o : qk o = 8) : qCi l G yX9_age cX9_age 1 (some .int) ({ frames := 0, cells := 0, slots := 0, locals := 0 } : Room) 0 0 [.ref (ga G o)] μ (fun post => w_X9_age o post μ) := by
  refine qCi_of (L := [(0, .ref (ga G o))]) (by decide) rfl rfl ?_
  intro Z post hl C hQ h
  have C : qX Z G RX9 cX9_age 1 ({ frames := 0, cells := 0, slots := 0, locals := 0 } : Room) (some .int) := C
  have h : w_X9_age o post μ := h
  unfold w_X9_age at h
  refine x_aload_n C 0 dX9_age_0 rfl rfl ?_
  refine g_RX9_29 C hn hk_o dX9_age_1 ?_
  exact x_iret C hQ dX9_age_4 h
theorem dX9_luck_0 : decode cX9_luck 0 = .ok (.aload_n 0, 1) := by decide +kernel
theorem dX9_luck_1 : decode cX9_luck 1 = .ok (.getfield 32, 3) := by decide +kernel
theorem dX9_luck_4 : decode cX9_luck 4 = .ok (.ireturn, 1) := by decide +kernel
theorem g_RX9_32 {Z : qZ} {G : qG} {cc : ByteArray} {nL k n : Nat} {rm : Room} {ret : Option FieldType} {μ : qM} {pc : Nat} {L : List (Nat × Value)} {st : List Value} {o : Nat} (C : qX Z G RX9 cc nL rm ret) (hn : 66 ≤ gn G) (hk : qk o = 8) (hd : decode cc pc = .ok (.getfield 32, 3)) (h : qV Z G nL k n μ (pc + 3) L (.int (μ o 5) :: st)) : qV Z G nL k n μ pc L (.ref (ga G o) :: st) := x_geti C o 8 5 (C0 := RX9) (fn := "luck") (fd := "I") (q_lt hk rfl hn) hk (by decide) rfl (by decide) rfl inlX9 (qm_3 _ (List.mem_of_getElem? (i := 9) rfl)) rfl hd h
theorem y_X9_luck : qY yX9_luck cX9_luck 1 (some .int) 0 ({ frames := 0, cells := 0, slots := 0, locals := 0 } : Room) 0 0 := ⟨(qm_35 _ (List.mem_of_getElem? (i := 21) rfl)), (qm_1 _ (List.mem_of_getElem? (i := 14) rfl)), by decide +kernel, by decide +kernel, rfl, rfl⟩
theorem c_X9_luck (l : Launch) (G : qG) {o : Nat} {μ : qM} (hn : 66 ≤ gn G) (hk_o : qk o = 8) : qCi l G yX9_luck cX9_luck 1 (some .int) ({ frames := 0, cells := 0, slots := 0, locals := 0 } : Room) 0 0 [.ref (ga G o)] μ (fun post => w_X9_luck o post μ) := by
  refine qCi_of (L := [(0, .ref (ga G o))]) (by decide) rfl rfl ?_
  intro Z post hl C hQ h
  have C : qX Z G RX9 cX9_luck 1 ({ frames := 0, cells := 0, slots := 0, locals := 0 } : Room) (some .int) := C
  have h : w_X9_luck o post μ := h
  unfold w_X9_luck at h
  refine x_aload_n C 0 dX9_luck_0 rfl rfl ?_
  refine g_RX9_32 C hn hk_o dX9_luck_1 ?_
  exact x_iret C hQ dX9_luck_4 h
theorem dX9_setLuck_0 : decode cX9_setLuck 0 = .ok (.aload_n 0, 1) := by decide +kernel
theorem dX9_setLuck_1 : decode cX9_setLuck 1 = .ok (.iload_n 1, 1) := by decide +kernel
theorem dX9_setLuck_2 : decode cX9_setLuck 2 = .ok (.putfield 32, 3) := by decide +kernel
theorem dX9_setLuck_5 : decode cX9_setLuck 5 = .ok (.return_, 1) := by decide +kernel
theorem p_RX9_32 {Z : qZ} {G : qG} {cc : ByteArray} {nL k n : Nat} {rm : Room} {ret : Option FieldType} {μ : qM} {pc : Nat} {L : List (Nat × Value)} {st : List Value} {x : Int32} {o : Nat} (C : qX Z G RX9 cc nL rm ret) (hn : 66 ≤ gn G) (hk : qk o = 8) (hd : decode cc pc = .ok (.putfield 32, 3)) (h : qV Z G nL k n (qu μ o 5 x) (pc + 3) L st) : qV Z G nL k n μ pc L (.int x :: .ref (ga G o) :: st) := x_puti C o 8 5 (C0 := RX9) (fn := "luck") (fd := "I") (ty := .int) (q_lt hk rfl hn) hk (by decide) rfl (by decide) rfl inlX9 tyX9_ok nmX9 (qm_3 _ (List.mem_of_getElem? (i := 9) rfl)) rfl (by decide +kernel) rfl rfl hd h
theorem y_X9_setLuck : qY yX9_setLuck cX9_setLuck 2 none 1 ({ frames := 0, cells := 0, slots := 0, locals := 0 } : Room) 0 0 := ⟨(qm_36 _ (List.mem_of_getElem? (i := 1) rfl)), (qm_1 _ (List.mem_of_getElem? (i := 14) rfl)), by decide +kernel, by decide +kernel, rfl, rfl⟩
theorem c_X9_setLuck (l : Launch) (G : qG) {o : Nat} {v1 : Int32} {μ : qM} (hn : 66 ≤ gn G) (hk_o : qk o = 8) : qCv l G yX9_setLuck cX9_setLuck 2 none ({ frames := 0, cells := 0, slots := 0, locals := 0 } : Room) 0 0 [.ref (ga G o), .int v1] μ (fun post => w_X9_setLuck o v1 post μ) := by
  refine qCv_of (L := [(0, .ref (ga G o)), (1, .int v1)]) (by decide) rfl rfl ?_
  intro Z post hl C hQ h
  have C : qX Z G RX9 cX9_setLuck 2 ({ frames := 0, cells := 0, slots := 0, locals := 0 } : Room) none := C
  have h : w_X9_setLuck o v1 post μ := h
  unfold w_X9_setLuck at h
  refine x_aload_n C 0 dX9_setLuck_0 rfl rfl ?_
  refine x_iload_n C 1 dX9_setLuck_1 rfl rfl ?_
  refine p_RX9_32 C hn hk_o dX9_setLuck_2 ?_
  exact x_vret C hQ dX9_setLuck_5 h
theorem dX9_worthOf_0 : decode cX9_worthOf 0 = .ok (.iload_n 1, 1) := by decide +kernel
theorem dX9_worthOf_1 : decode cX9_worthOf 1 = .ok (.ifCond .lt 19, 3) := by decide +kernel
theorem dX9_worthOf_4 : decode cX9_worthOf 4 = .ok (.iload_n 1, 1) := by decide +kernel
theorem dX9_worthOf_5 : decode cX9_worthOf 5 = .ok (.sipush 144, 3) := by decide +kernel
theorem dX9_worthOf_8 : decode cX9_worthOf 8 = .ok (.if_icmp .ge 12, 3) := by decide +kernel
theorem dX9_worthOf_11 : decode cX9_worthOf 11 = .ok (.aload_n 0, 1) := by decide +kernel
theorem dX9_worthOf_12 : decode cX9_worthOf 12 = .ok (.getfield 18, 3) := by decide +kernel
theorem dX9_worthOf_15 : decode cX9_worthOf 15 = .ok (.iload_n 1, 1) := by decide +kernel
theorem dX9_worthOf_16 : decode cX9_worthOf 16 = .ok (.iaload, 1) := by decide +kernel
theorem dX9_worthOf_17 : decode cX9_worthOf 17 = .ok (.goto 4, 3) := by decide +kernel
theorem dX9_worthOf_20 : decode cX9_worthOf 20 = .ok (.iconst 0, 1) := by decide +kernel
theorem dX9_worthOf_21 : decode cX9_worthOf 21 = .ok (.ireturn, 1) := by decide +kernel
theorem b_X9_worthOf_20 {Z : qZ} {G : qG} {o : Nat} {μ : qM} {post : Int32 → qM → Prop} (C : qX Z G RX9 cX9_worthOf 2 ({ frames := 0, cells := 0, slots := 0, locals := 0 } : Room) (some .int)) (hQ : qQi Z G 0 0 post) (hn : 66 ≤ gn G) (hk_o : qk o = 8) (h : q_X9_worthOf_20 o post μ) : qV Z G 2 0 0 μ 20 [] [] := by
  unfold q_X9_worthOf_20 at h
  refine x_iconst C dX9_worthOf_20 (v := 0) (by decide) ?_
  exact x_iret C hQ dX9_worthOf_21 h
theorem y_X9_worthOf : qY yX9_worthOf cX9_worthOf 2 (some .int) 1 ({ frames := 0, cells := 0, slots := 0, locals := 0 } : Room) 0 0 := ⟨(qm_11 _ (List.mem_of_getElem? (i := 6) rfl)), (qm_1 _ (List.mem_of_getElem? (i := 14) rfl)), by decide +kernel, by decide +kernel, rfl, rfl⟩
theorem c_X9_worthOf (l : Launch) (G : qG) {o : Nat} {v1 : Int32} {μ : qM} (hn : 66 ≤ gn G) (hk_o : qk o = 8) : qCi l G yX9_worthOf cX9_worthOf 2 (some .int) ({ frames := 0, cells := 0, slots := 0, locals := 0 } : Room) 0 0 [.ref (ga G o), .int v1] μ (fun post => w_X9_worthOf o v1 post μ) := by
  refine qCi_of (L := [(0, .ref (ga G o)), (1, .int v1)]) (by decide) rfl rfl ?_
  intro Z post hl C hQ h
  have C : qX Z G RX9 cX9_worthOf 2 ({ frames := 0, cells := 0, slots := 0, locals := 0 } : Room) (some .int) := C
  have h : w_X9_worthOf o v1 post μ := h
  unfold w_X9_worthOf at h
  refine x_iload_n C 1 dX9_worthOf_0 rfl rfl ?_
  refine x_if_lt C dX9_worthOf_1 (tgt := 20) (by decide) h (fun h => ?_) (fun h => ?_)
  · exact qV_sub [] rfl (b_X9_worthOf_20 C hQ hn hk_o h)
  · refine x_iload_n C 1 dX9_worthOf_4 rfl rfl ?_
    refine x_sipush C dX9_worthOf_5 (v := 144) (by decide) ?_
    refine x_icmp_ge C dX9_worthOf_8 (tgt := 20) (by decide) h (fun h => ?_) (fun h => ?_)
    · exact qV_sub [] rfl (b_X9_worthOf_20 C hQ hn hk_o h)
    · refine x_aload_n C 0 dX9_worthOf_11 rfl rfl ?_
      refine g_RX9_18 C hn hk_o dX9_worthOf_12 ?_
      refine x_iload_n C 1 dX9_worthOf_15 rfl rfl ?_
      refine x_iald C (o + 5) 12 144 (q_lt (qn_8_5 hk_o) rfl hn) (qn_8_5 hk_o) rfl rfl rfl rfl dX9_worthOf_16 h (fun h => ?_)
      refine x_goto C dX9_worthOf_17 (tgt := 21) (by decide) ?_
      exact x_iret C hQ dX9_worthOf_21 h
theorem dX9_allWorth_0 : decode cX9_allWorth 0 = .ok (.iconst 0, 1) := by decide +kernel
theorem dX9_allWorth_1 : decode cX9_allWorth 1 = .ok (.istore_n 1, 1) := by decide +kernel
theorem dX9_allWorth_2 : decode cX9_allWorth 2 = .ok (.iconst 0, 1) := by decide +kernel
theorem dX9_allWorth_3 : decode cX9_allWorth 3 = .ok (.istore_n 2, 1) := by decide +kernel
theorem dX9_allWorth_4 : decode cX9_allWorth 4 = .ok (.iload_n 2, 1) := by decide +kernel
theorem dX9_allWorth_5 : decode cX9_allWorth 5 = .ok (.sipush 144, 3) := by decide +kernel
theorem dX9_allWorth_8 : decode cX9_allWorth 8 = .ok (.if_icmp .ge 18, 3) := by decide +kernel
theorem dX9_allWorth_11 : decode cX9_allWorth 11 = .ok (.iload_n 1, 1) := by decide +kernel
theorem dX9_allWorth_12 : decode cX9_allWorth 12 = .ok (.aload_n 0, 1) := by decide +kernel
theorem dX9_allWorth_13 : decode cX9_allWorth 13 = .ok (.getfield 18, 3) := by decide +kernel
theorem dX9_allWorth_16 : decode cX9_allWorth 16 = .ok (.iload_n 2, 1) := by decide +kernel
theorem dX9_allWorth_17 : decode cX9_allWorth 17 = .ok (.iaload, 1) := by decide +kernel
theorem dX9_allWorth_18 : decode cX9_allWorth 18 = .ok (.iadd, 1) := by decide +kernel
theorem dX9_allWorth_19 : decode cX9_allWorth 19 = .ok (.istore_n 1, 1) := by decide +kernel
theorem dX9_allWorth_20 : decode cX9_allWorth 20 = .ok (.iinc 2 1, 3) := by decide +kernel
theorem dX9_allWorth_23 : decode cX9_allWorth 23 = .ok (.goto (-19), 3) := by decide +kernel
theorem dX9_allWorth_26 : decode cX9_allWorth 26 = .ok (.iload_n 1, 1) := by decide +kernel
theorem dX9_allWorth_27 : decode cX9_allWorth 27 = .ok (.ireturn, 1) := by decide +kernel
theorem b_X9_allWorth_4 {Z : qZ} {G : qG} {o : Nat} {v1 : Int32} {v2 : Int32} {μ : qM} {post : Int32 → qM → Prop} (C : qX Z G RX9 cX9_allWorth 3 ({ frames := 0, cells := 0, slots := 0, locals := 0 } : Room) (some .int)) (hQ : qQi Z G 0 0 post) (hn : 66 ≤ gn G) (hk_o : qk o = 8) (h : q_X9_allWorth_4 o post v1 v2 μ) : qV Z G 3 0 0 μ 4 [(0, .ref (ga G o)), (1, .int v1), (2, .int v2)] [] := by
  refine h (fun v1 v2 μ => qV Z G 3 0 0 μ 4 [(0, .ref (ga G o)), (1, .int v1), (2, .int v2)] []) (fun v1 v2 μ h => ?_)
  refine x_iload_n C 2 dX9_allWorth_4 rfl rfl ?_
  refine x_sipush C dX9_allWorth_5 (v := 144) (by decide) ?_
  refine x_icmp_ge C dX9_allWorth_8 (tgt := 26) (by decide) h (fun h => ?_) (fun h => ?_)
  · refine x_iload_n C 1 dX9_allWorth_26 rfl rfl ?_
    exact x_iret C hQ dX9_allWorth_27 h
  · refine x_iload_n C 1 dX9_allWorth_11 rfl rfl ?_
    refine x_aload_n C 0 dX9_allWorth_12 rfl rfl ?_
    refine g_RX9_18 C hn hk_o dX9_allWorth_13 ?_
    refine x_iload_n C 2 dX9_allWorth_16 rfl rfl ?_
    refine x_iald C (o + 5) 12 144 (q_lt (qn_8_5 hk_o) rfl hn) (qn_8_5 hk_o) rfl rfl rfl rfl dX9_allWorth_17 h (fun h => ?_)
    refine x_iadd C dX9_allWorth_18 ?_
    refine x_istore_n C (L' := [(1, .int ((v1 + (μ (o + 5) v2.toNatClampNeg)))), (0, .ref (ga G o)), (2, .int v2)]) dX9_allWorth_19 rfl (by decide) rfl ?_
    refine x_iinc C 2 (v := 1) (L' := [(2, .int ((v2 + 1))), (1, .int ((v1 + (μ (o + 5) v2.toNatClampNeg)))), (0, .ref (ga G o))]) dX9_allWorth_20 rfl (by decide) (by decide) rfl ?_
    refine x_goto C dX9_allWorth_23 (tgt := 4) (by decide) ?_
    exact qV_sub [2, 1, 0] rfl (h)
theorem y_X9_allWorth : qY yX9_allWorth cX9_allWorth 3 (some .int) 0 ({ frames := 0, cells := 0, slots := 0, locals := 0 } : Room) 0 0 := ⟨(qm_52 _ (List.mem_of_getElem? (i := 6) rfl)), (qm_1 _ (List.mem_of_getElem? (i := 14) rfl)), by decide +kernel, by decide +kernel, rfl, rfl⟩
theorem c_X9_allWorth (l : Launch) (G : qG) {o : Nat} {μ : qM} (hn : 66 ≤ gn G) (hk_o : qk o = 8) : qCi l G yX9_allWorth cX9_allWorth 3 (some .int) ({ frames := 0, cells := 0, slots := 0, locals := 0 } : Room) 0 0 [.ref (ga G o)] μ (fun post => w_X9_allWorth o post μ) := by
  refine qCi_of (L := [(0, .ref (ga G o))]) (by decide) rfl rfl ?_
  intro Z post hl C hQ h
  have C : qX Z G RX9 cX9_allWorth 3 ({ frames := 0, cells := 0, slots := 0, locals := 0 } : Room) (some .int) := C
  have h : w_X9_allWorth o post μ := h
  unfold w_X9_allWorth at h
  refine x_iconst C dX9_allWorth_0 (v := 0) (by decide) ?_
  refine x_istore_n C (L' := [(1, .int ((0 : Int32))), (0, .ref (ga G o))]) dX9_allWorth_1 rfl (by decide) rfl ?_
  refine x_iconst C dX9_allWorth_2 (v := 0) (by decide) ?_
  refine x_istore_n C (L' := [(2, .int ((0 : Int32))), (1, .int ((0 : Int32))), (0, .ref (ga G o))]) dX9_allWorth_3 rfl (by decide) rfl ?_
  exact qV_sub [2, 1, 0] rfl (b_X9_allWorth_4 C hQ hn hk_o h)
theorem dX9_worthLost_0 : decode cX9_worthLost 0 = .ok (.iconst 0, 1) := by decide +kernel
theorem dX9_worthLost_1 : decode cX9_worthLost 1 = .ok (.istore_n 2, 1) := by decide +kernel
theorem dX9_worthLost_2 : decode cX9_worthLost 2 = .ok (.iconst 0, 1) := by decide +kernel
theorem dX9_worthLost_3 : decode cX9_worthLost 3 = .ok (.istore_n 3, 1) := by decide +kernel
theorem dX9_worthLost_4 : decode cX9_worthLost 4 = .ok (.iload_n 3, 1) := by decide +kernel
theorem dX9_worthLost_5 : decode cX9_worthLost 5 = .ok (.sipush 144, 3) := by decide +kernel
theorem dX9_worthLost_8 : decode cX9_worthLost 8 = .ok (.if_icmp .ge 50, 3) := by decide +kernel
theorem dX9_worthLost_11 : decode cX9_worthLost 11 = .ok (.aload_n 0, 1) := by decide +kernel
theorem dX9_worthLost_12 : decode cX9_worthLost 12 = .ok (.getfield 18, 3) := by decide +kernel
theorem dX9_worthLost_15 : decode cX9_worthLost 15 = .ok (.iload_n 3, 1) := by decide +kernel
theorem dX9_worthLost_16 : decode cX9_worthLost 16 = .ok (.iaload, 1) := by decide +kernel
theorem dX9_worthLost_17 : decode cX9_worthLost 17 = .ok (.ifCond .eq 35, 3) := by decide +kernel
theorem dX9_worthLost_20 : decode cX9_worthLost 20 = .ok (.aload_n 0, 1) := by decide +kernel
theorem dX9_worthLost_21 : decode cX9_worthLost 21 = .ok (.getfield 12, 3) := by decide +kernel
theorem dX9_worthLost_24 : decode cX9_worthLost 24 = .ok (.iload_n 3, 1) := by decide +kernel
theorem dX9_worthLost_25 : decode cX9_worthLost 25 = .ok (.invokevirtual 41, 3) := by decide +kernel
theorem dX9_worthLost_28 : decode cX9_worthLost 28 = .ok (.ifCond .eq 24, 3) := by decide +kernel
theorem dX9_worthLost_31 : decode cX9_worthLost 31 = .ok (.aload_n 0, 1) := by decide +kernel
theorem dX9_worthLost_32 : decode cX9_worthLost 32 = .ok (.getfield 12, 3) := by decide +kernel
theorem dX9_worthLost_35 : decode cX9_worthLost 35 = .ok (.iload_n 3, 1) := by decide +kernel
theorem dX9_worthLost_36 : decode cX9_worthLost 36 = .ok (.iload_n 1, 1) := by decide +kernel
theorem dX9_worthLost_37 : decode cX9_worthLost 37 = .ok (.invokevirtual 45, 3) := by decide +kernel
theorem dX9_worthLost_40 : decode cX9_worthLost 40 = .ok (.ifCond .ne 12, 3) := by decide +kernel
theorem dX9_worthLost_43 : decode cX9_worthLost 43 = .ok (.iload_n 2, 1) := by decide +kernel
theorem dX9_worthLost_44 : decode cX9_worthLost 44 = .ok (.aload_n 0, 1) := by decide +kernel
theorem dX9_worthLost_45 : decode cX9_worthLost 45 = .ok (.getfield 18, 3) := by decide +kernel
theorem dX9_worthLost_48 : decode cX9_worthLost 48 = .ok (.iload_n 3, 1) := by decide +kernel
theorem dX9_worthLost_49 : decode cX9_worthLost 49 = .ok (.iaload, 1) := by decide +kernel
theorem dX9_worthLost_50 : decode cX9_worthLost 50 = .ok (.iadd, 1) := by decide +kernel
theorem dX9_worthLost_51 : decode cX9_worthLost 51 = .ok (.istore_n 2, 1) := by decide +kernel
theorem dX9_worthLost_52 : decode cX9_worthLost 52 = .ok (.iinc 3 1, 3) := by decide +kernel
theorem dX9_worthLost_55 : decode cX9_worthLost 55 = .ok (.goto (-51), 3) := by decide +kernel
theorem dX9_worthLost_58 : decode cX9_worthLost 58 = .ok (.iload_n 2, 1) := by decide +kernel
theorem dX9_worthLost_59 : decode cX9_worthLost 59 = .ok (.ireturn, 1) := by decide +kernel
theorem i_RX9_41 {Z : qZ} {G : qG} {cc : ByteArray} {nL k n : Nat} {rm : Room} {ret : Option FieldType} {μ : qM} {pc : Nat} {L : List (Nat × Value)} {rest : List Value} {K : Int32 → qM → Prop} {o : Nat} {v1 : Int32} (C : qX Z G RX9 cc nL rm ret) (hn : 66 ≤ gn G) (hk_o : qk o = 1) (hR : (Nat.ble (4 + 1) rm.frames && Nat.ble (8 + (2 + 11) + 97) rm.locals) = true) (hf : k + 0 ≤ rm.cells ∧ n + 0 ≤ rm.slots) (hsz : Nat.ble (rest.map fun v => v.category).sum 8 = true) (hd : decode cc pc = .ok (.invokevirtual 41, 3)) (h : w_X1_isFree o v1 K μ) (hk : ∀ (r : Int32) (μ1 : qM), K r μ1 → qV Z G nL k n μ1 (pc + 3) L (.int r :: rest)) : qV Z G nL k n μ pc L (.int v1 :: .ref (ga G o) :: rest) := x_Vi [.int v1] rest C o 1 (wp := fun K => w_X1_isFree o v1 K μ) (y_X1_isFree : qY yX1_isFree cX1_isFree 2 (some .boolean) 1 ({ frames := 4, cells := 0, slots := 0, locals := 97 } : Room) 0 0) (qm_10 _ (List.mem_of_getElem? (i := 0) rfl)) (qm_10 _ (List.mem_of_getElem? (i := 1) rfl)) (qm_9 _ (List.mem_of_getElem? (i := 23) rfl)) (c_X1_isFree Z.2.1 G hn hk_o) (q_lt hk_o rfl hn) hk_o (by decide) rfl rfl hR hf rfl rfl hsz hd h hk
theorem i_RX9_45 {Z : qZ} {G : qG} {cc : ByteArray} {nL k n : Nat} {rm : Room} {ret : Option FieldType} {μ : qM} {pc : Nat} {L : List (Nat × Value)} {rest : List Value} {K : Int32 → qM → Prop} {o : Nat} {v1 : Int32} {v2 : Int32} (C : qX Z G RX9 cc nL rm ret) (hn : 66 ≤ gn G) (hk_o : qk o = 1) (hR : (Nat.ble (4 + 1) rm.frames && Nat.ble (8 + (3 + 11) + 97) rm.locals) = true) (hf : k + 0 ≤ rm.cells ∧ n + 0 ≤ rm.slots) (hsz : Nat.ble (rest.map fun v => v.category).sum 8 = true) (hd : decode cc pc = .ok (.invokevirtual 45, 3)) (h : w_X1_isFreeWithout o v1 v2 K μ) (hk : ∀ (r : Int32) (μ1 : qM), K r μ1 → qV Z G nL k n μ1 (pc + 3) L (.int r :: rest)) : qV Z G nL k n μ pc L (.int v2 :: .int v1 :: .ref (ga G o) :: rest) := x_Vi [.int v1, .int v2] rest C o 1 (wp := fun K => w_X1_isFreeWithout o v1 v2 K μ) (y_X1_isFreeWithout : qY yX1_isFreeWithout cX1_isFreeWithout 3 (some .boolean) 2 ({ frames := 4, cells := 0, slots := 0, locals := 97 } : Room) 0 0) (qm_22 _ (List.mem_of_getElem? (i := 10) rfl)) (qm_22 _ (List.mem_of_getElem? (i := 11) rfl)) (qm_23 _ (List.mem_of_getElem? (i := 9) rfl)) (c_X1_isFreeWithout Z.2.1 G hn hk_o) (q_lt hk_o rfl hn) hk_o (by decide) rfl rfl hR hf rfl rfl hsz hd h hk
theorem b_X9_worthLost_52 {Z : qZ} {G : qG} {o : Nat} {v1 : Int32} {v2 : Int32} {v3 : Int32} {μ : qM} {P4 : Int32 → Int32 → qM → Prop} {post : Int32 → qM → Prop} (C : qX Z G RX9 cX9_worthLost 4 ({ frames := 5, cells := 0, slots := 0, locals := 119 } : Room) (some .int)) (hQ : qQi Z G 0 0 post) (hn : 66 ≤ gn G) (hk_o : qk o = 8) (hP4 : ∀ (b2 : Int32) (b3 : Int32) (μ1 : qM), P4 b2 b3 μ1 → qV Z G 4 0 0 μ1 4 [(0, .ref (ga G o)), (1, .int v1), (2, .int b2), (3, .int b3)] []) (h : q_X9_worthLost_52 o P4 post v1 v2 v3 μ) : qV Z G 4 0 0 μ 52 [(0, .ref (ga G o)), (1, .int v1), (2, .int v2), (3, .int v3)] [] := by
  unfold q_X9_worthLost_52 at h
  refine x_iinc C 3 (v := 1) (L' := [(3, .int ((v3 + 1))), (0, .ref (ga G o)), (1, .int v1), (2, .int v2)]) dX9_worthLost_52 rfl (by decide) (by decide) rfl ?_
  refine x_goto C dX9_worthLost_55 (tgt := 4) (by decide) ?_
  exact qV_sub [1, 2, 3, 0] rfl ((hP4 _ _ _ h))
theorem b_X9_worthLost_4 {Z : qZ} {G : qG} {o : Nat} {v1 : Int32} {v2 : Int32} {v3 : Int32} {μ : qM} {post : Int32 → qM → Prop} (C : qX Z G RX9 cX9_worthLost 4 ({ frames := 5, cells := 0, slots := 0, locals := 119 } : Room) (some .int)) (hQ : qQi Z G 0 0 post) (hn : 66 ≤ gn G) (hk_o : qk o = 8) (h : q_X9_worthLost_4 o v1 post v2 v3 μ) : qV Z G 4 0 0 μ 4 [(0, .ref (ga G o)), (1, .int v1), (2, .int v2), (3, .int v3)] [] := by
  refine h (fun v2 v3 μ => qV Z G 4 0 0 μ 4 [(0, .ref (ga G o)), (1, .int v1), (2, .int v2), (3, .int v3)] []) (fun v2 v3 μ h => ?_)
  refine x_iload_n C 3 dX9_worthLost_4 rfl rfl ?_
  refine x_sipush C dX9_worthLost_5 (v := 144) (by decide) ?_
  refine x_icmp_ge C dX9_worthLost_8 (tgt := 58) (by decide) h (fun h => ?_) (fun h => ?_)
  · refine x_iload_n C 2 dX9_worthLost_58 rfl rfl ?_
    exact x_iret C hQ dX9_worthLost_59 h
  · refine x_aload_n C 0 dX9_worthLost_11 rfl rfl ?_
    refine g_RX9_18 C hn hk_o dX9_worthLost_12 ?_
    refine x_iload_n C 3 dX9_worthLost_15 rfl rfl ?_
    refine x_iald C (o + 5) 12 144 (q_lt (qn_8_5 hk_o) rfl hn) (qn_8_5 hk_o) rfl rfl rfl rfl dX9_worthLost_16 h (fun h => ?_)
    refine x_if_eq C dX9_worthLost_17 (tgt := 52) (by decide) h (fun h => ?_) (fun h => ?_)
    · exact b_X9_worthLost_52 C hQ hn hk_o (fun _ _ _ h => h) h
    · refine x_aload_n C 0 dX9_worthLost_20 rfl rfl ?_
      refine g_RX9_12 C hn hk_o dX9_worthLost_21 ?_
      refine x_iload_n C 3 dX9_worthLost_24 rfl rfl ?_
      refine i_RX9_41 (rest := []) C hn (qn_8_1 hk_o) rfl (by decide) rfl dX9_worthLost_25 h (fun r25 μ25 h => ?_)
      refine x_if_eq C dX9_worthLost_28 (tgt := 52) (by decide) h (fun h => ?_) (fun h => ?_)
      · exact b_X9_worthLost_52 C hQ hn hk_o (fun _ _ _ h => h) h
      · refine x_aload_n C 0 dX9_worthLost_31 rfl rfl ?_
        refine g_RX9_12 C hn hk_o dX9_worthLost_32 ?_
        refine x_iload_n C 3 dX9_worthLost_35 rfl rfl ?_
        refine x_iload_n C 1 dX9_worthLost_36 rfl rfl ?_
        refine i_RX9_45 (rest := []) C hn (qn_8_1 hk_o) rfl (by decide) rfl dX9_worthLost_37 h (fun r37 μ37 h => ?_)
        refine x_if_ne C dX9_worthLost_40 (tgt := 52) (by decide) h (fun h => ?_) (fun h => ?_)
        · exact b_X9_worthLost_52 C hQ hn hk_o (fun _ _ _ h => h) h
        · refine x_iload_n C 2 dX9_worthLost_43 rfl rfl ?_
          refine x_aload_n C 0 dX9_worthLost_44 rfl rfl ?_
          refine g_RX9_18 C hn hk_o dX9_worthLost_45 ?_
          refine x_iload_n C 3 dX9_worthLost_48 rfl rfl ?_
          refine x_iald C (o + 5) 12 144 (q_lt (qn_8_5 hk_o) rfl hn) (qn_8_5 hk_o) rfl rfl rfl rfl dX9_worthLost_49 h (fun h => ?_)
          refine x_iadd C dX9_worthLost_50 ?_
          refine x_istore_n C (L' := [(2, .int ((v2 + (μ37 (o + 5) v3.toNatClampNeg)))), (0, .ref (ga G o)), (1, .int v1), (3, .int v3)]) dX9_worthLost_51 rfl (by decide) rfl ?_
          exact qV_sub [1, 2, 0, 3] rfl (b_X9_worthLost_52 C hQ hn hk_o (fun _ _ _ h => h) h)
theorem y_X9_worthLost : qY yX9_worthLost cX9_worthLost 4 (some .int) 1 ({ frames := 5, cells := 0, slots := 0, locals := 119 } : Room) 0 0 := ⟨(qm_23 _ (List.mem_of_getElem? (i := 8) rfl)), (qm_1 _ (List.mem_of_getElem? (i := 14) rfl)), by decide +kernel, by decide +kernel, rfl, rfl⟩
theorem c_X9_worthLost (l : Launch) (G : qG) {o : Nat} {v1 : Int32} {μ : qM} (hn : 66 ≤ gn G) (hk_o : qk o = 8) : qCi l G yX9_worthLost cX9_worthLost 4 (some .int) ({ frames := 5, cells := 0, slots := 0, locals := 119 } : Room) 0 0 [.ref (ga G o), .int v1] μ (fun post => w_X9_worthLost o v1 post μ) := by
  refine qCi_of (L := [(0, .ref (ga G o)), (1, .int v1)]) (by decide) rfl rfl ?_
  intro Z post hl C hQ h
  have C : qX Z G RX9 cX9_worthLost 4 ({ frames := 5, cells := 0, slots := 0, locals := 119 } : Room) (some .int) := C
  have h : w_X9_worthLost o v1 post μ := h
  unfold w_X9_worthLost at h
  refine x_iconst C dX9_worthLost_0 (v := 0) (by decide) ?_
  refine x_istore_n C (L' := [(2, .int ((0 : Int32))), (0, .ref (ga G o)), (1, .int v1)]) dX9_worthLost_1 rfl (by decide) rfl ?_
  refine x_iconst C dX9_worthLost_2 (v := 0) (by decide) ?_
  refine x_istore_n C (L' := [(3, .int ((0 : Int32))), (2, .int ((0 : Int32))), (0, .ref (ga G o)), (1, .int v1)]) dX9_worthLost_3 rfl (by decide) rfl ?_
  exact qV_sub [2, 3, 1, 0] rfl (b_X9_worthLost_4 C hQ hn hk_o h)
theorem dX9_spotOf_0 : decode cX9_spotOf 0 = .ok (.iload_n 1, 1) := by decide +kernel
theorem dX9_spotOf_1 : decode cX9_spotOf 1 = .ok (.invokestatic 49, 3) := by decide +kernel
theorem dX9_spotOf_4 : decode cX9_spotOf 4 = .ok (.ifCond .eq 12, 3) := by decide +kernel
theorem dX9_spotOf_7 : decode cX9_spotOf 7 = .ok (.aload_n 0, 1) := by decide +kernel
theorem dX9_spotOf_8 : decode cX9_spotOf 8 = .ok (.getfield 22, 3) := by decide +kernel
theorem dX9_spotOf_11 : decode cX9_spotOf 11 = .ok (.iload_n 1, 1) := by decide +kernel
theorem dX9_spotOf_12 : decode cX9_spotOf 12 = .ok (.iaload, 1) := by decide +kernel
theorem dX9_spotOf_13 : decode cX9_spotOf 13 = .ok (.goto 4, 3) := by decide +kernel
theorem dX9_spotOf_16 : decode cX9_spotOf 16 = .ok (.iconst (-1), 1) := by decide +kernel
theorem dX9_spotOf_17 : decode cX9_spotOf 17 = .ok (.ireturn, 1) := by decide +kernel
theorem i_RX9_49 {Z : qZ} {G : qG} {cc : ByteArray} {nL k n : Nat} {rm : Room} {ret : Option FieldType} {μ : qM} {pc : Nat} {L : List (Nat × Value)} {rest : List Value} {K : Int32 → qM → Prop} {v0 : Int32} (C : qX Z G RX9 cc nL rm ret) (hn : 66 ≤ gn G) (hR : (Nat.ble (0 + 1) rm.frames && Nat.ble (8 + (1 + 11) + 0) rm.locals) = true) (hf : k + 0 ≤ rm.cells ∧ n + 0 ≤ rm.slots) (hsz : Nat.ble (rest.map fun v => v.category).sum 8 = true) (hd : decode cc pc = .ok (.invokestatic 49, 3)) (h : w_X10_isSpot v0 K μ) (hk : ∀ (r : Int32) (μ1 : qM), K r μ1 → qV Z G nL k n μ1 (pc + 3) L (.int r :: rest)) : qV Z G nL k n μ pc L (.int v0 :: rest) := x_Ni [.int v0] rest C (wp := fun K => w_X10_isSpot v0 K μ) (y_X10_isSpot : qY yX10_isSpot cX10_isSpot 1 (some .boolean) 1 ({ frames := 0, cells := 0, slots := 0, locals := 0 } : Room) 0 0) (qm_45 _ (List.mem_of_getElem? (i := 3) rfl)) (host := RX10) (by decide +kernel) (c_X10_isSpot Z.2.1 G hn ) hR hf rfl rfl hsz hd h hk
theorem g_RX9_22 {Z : qZ} {G : qG} {cc : ByteArray} {nL k n : Nat} {rm : Room} {ret : Option FieldType} {μ : qM} {pc : Nat} {L : List (Nat × Value)} {st : List Value} {o : Nat} (C : qX Z G RX9 cc nL rm ret) (hn : 66 ≤ gn G) (hk : qk o = 8) (hd : decode cc pc = .ok (.getfield 22, 3)) (h : qV Z G nL k n μ (pc + 3) L (.ref (ga G (o + 6)) :: st)) : qV Z G nL k n μ pc L (.ref (ga G o) :: st) := x_getr C o 8 2 6 (o + 6) (C0 := RX9) (fn := "spots") (fd := "[I") (q_lt hk rfl hn) hk (by decide) rfl (by decide) rfl inlX9 (qm_3 _ (List.mem_of_getElem? (i := 6) rfl)) rfl rfl rfl hd h
theorem y_X9_spotOf : qY yX9_spotOf cX9_spotOf 2 (some .int) 1 ({ frames := 1, cells := 0, slots := 0, locals := 20 } : Room) 0 0 := ⟨(qm_45 _ (List.mem_of_getElem? (i := 22) rfl)), (qm_1 _ (List.mem_of_getElem? (i := 14) rfl)), by decide +kernel, by decide +kernel, rfl, rfl⟩
theorem c_X9_spotOf (l : Launch) (G : qG) {o : Nat} {v1 : Int32} {μ : qM} (hn : 66 ≤ gn G) (hk_o : qk o = 8) : qCi l G yX9_spotOf cX9_spotOf 2 (some .int) ({ frames := 1, cells := 0, slots := 0, locals := 20 } : Room) 0 0 [.ref (ga G o), .int v1] μ (fun post => w_X9_spotOf o v1 post μ) := by
  refine qCi_of (L := [(0, .ref (ga G o)), (1, .int v1)]) (by decide) rfl rfl ?_
  intro Z post hl C hQ h
  have C : qX Z G RX9 cX9_spotOf 2 ({ frames := 1, cells := 0, slots := 0, locals := 20 } : Room) (some .int) := C
  have h : w_X9_spotOf o v1 post μ := h
  unfold w_X9_spotOf at h
  refine x_iload_n C 1 dX9_spotOf_0 rfl rfl ?_
  refine i_RX9_49 (rest := []) C hn  rfl (by decide) rfl dX9_spotOf_1 h (fun r1 μ1 h => ?_)
  refine x_if_eq C dX9_spotOf_4 (tgt := 16) (by decide) h (fun h => ?_) (fun h => ?_)
  · refine x_iconst C dX9_spotOf_16 (v := -1) (by decide) ?_
    exact x_iret C hQ dX9_spotOf_17 h
  · refine x_aload_n C 0 dX9_spotOf_7 rfl rfl ?_
    refine g_RX9_22 C hn hk_o dX9_spotOf_8 ?_
    refine x_iload_n C 1 dX9_spotOf_11 rfl rfl ?_
    refine x_iald C (o + 6) 11 10 (q_lt (qn_8_6 hk_o) rfl hn) (qn_8_6 hk_o) rfl rfl rfl rfl dX9_spotOf_12 h (fun h => ?_)
    refine x_goto C dX9_spotOf_13 (tgt := 17) (by decide) ?_
    exact x_iret C hQ dX9_spotOf_17 h
theorem dX9_setSpot_0 : decode cX9_setSpot 0 = .ok (.iload_n 1, 1) := by decide +kernel
theorem dX9_setSpot_1 : decode cX9_setSpot 1 = .ok (.invokestatic 49, 3) := by decide +kernel
theorem dX9_setSpot_4 : decode cX9_setSpot 4 = .ok (.ifCond .eq 10, 3) := by decide +kernel
theorem dX9_setSpot_7 : decode cX9_setSpot 7 = .ok (.aload_n 0, 1) := by decide +kernel
theorem dX9_setSpot_8 : decode cX9_setSpot 8 = .ok (.getfield 22, 3) := by decide +kernel
theorem dX9_setSpot_11 : decode cX9_setSpot 11 = .ok (.iload_n 1, 1) := by decide +kernel
theorem dX9_setSpot_12 : decode cX9_setSpot 12 = .ok (.iload_n 2, 1) := by decide +kernel
theorem dX9_setSpot_13 : decode cX9_setSpot 13 = .ok (.iastore, 1) := by decide +kernel
theorem dX9_setSpot_14 : decode cX9_setSpot 14 = .ok (.return_, 1) := by decide +kernel
theorem y_X9_setSpot : qY yX9_setSpot cX9_setSpot 3 none 2 ({ frames := 1, cells := 0, slots := 0, locals := 20 } : Room) 0 0 := ⟨(qm_45 _ (List.mem_of_getElem? (i := 8) rfl)), (qm_1 _ (List.mem_of_getElem? (i := 14) rfl)), by decide +kernel, by decide +kernel, rfl, rfl⟩
theorem c_X9_setSpot (l : Launch) (G : qG) {o : Nat} {v1 : Int32} {v2 : Int32} {μ : qM} (hn : 66 ≤ gn G) (hk_o : qk o = 8) : qCv l G yX9_setSpot cX9_setSpot 3 none ({ frames := 1, cells := 0, slots := 0, locals := 20 } : Room) 0 0 [.ref (ga G o), .int v1, .int v2] μ (fun post => w_X9_setSpot o v1 v2 post μ) := by
  refine qCv_of (L := [(0, .ref (ga G o)), (1, .int v1), (2, .int v2)]) (by decide) rfl rfl ?_
  intro Z post hl C hQ h
  have C : qX Z G RX9 cX9_setSpot 3 ({ frames := 1, cells := 0, slots := 0, locals := 20 } : Room) none := C
  have h : w_X9_setSpot o v1 v2 post μ := h
  unfold w_X9_setSpot at h
  refine x_iload_n C 1 dX9_setSpot_0 rfl rfl ?_
  refine i_RX9_49 (rest := []) C hn  rfl (by decide) rfl dX9_setSpot_1 h (fun r1 μ1 h => ?_)
  refine x_if_eq C dX9_setSpot_4 (tgt := 14) (by decide) h (fun h => ?_) (fun h => ?_)
  · exact x_vret C hQ dX9_setSpot_14 h
  · refine x_aload_n C 0 dX9_setSpot_7 rfl rfl ?_
    refine g_RX9_22 C hn hk_o dX9_setSpot_8 ?_
    refine x_iload_n C 1 dX9_setSpot_11 rfl rfl ?_
    refine x_iload_n C 2 dX9_setSpot_12 rfl rfl ?_
    refine x_iast C (o + 6) 11 10 (q_lt (qn_8_6 hk_o) rfl hn) (qn_8_6 hk_o) rfl rfl rfl rfl dX9_setSpot_13 h (fun h => ?_)
    exact x_vret C hQ dX9_setSpot_14 h
theorem dX9_filledSpots_0 : decode cX9_filledSpots 0 = .ok (.iconst 0, 1) := by decide +kernel
theorem dX9_filledSpots_1 : decode cX9_filledSpots 1 = .ok (.istore_n 1, 1) := by decide +kernel
theorem dX9_filledSpots_2 : decode cX9_filledSpots 2 = .ok (.iconst 0, 1) := by decide +kernel
theorem dX9_filledSpots_3 : decode cX9_filledSpots 3 = .ok (.istore_n 2, 1) := by decide +kernel
theorem dX9_filledSpots_4 : decode cX9_filledSpots 4 = .ok (.iload_n 2, 1) := by decide +kernel
theorem dX9_filledSpots_5 : decode cX9_filledSpots 5 = .ok (.bipush 10, 2) := by decide +kernel
theorem dX9_filledSpots_7 : decode cX9_filledSpots 7 = .ok (.if_icmp .ge 22, 3) := by decide +kernel
theorem dX9_filledSpots_10 : decode cX9_filledSpots 10 = .ok (.aload_n 0, 1) := by decide +kernel
theorem dX9_filledSpots_11 : decode cX9_filledSpots 11 = .ok (.getfield 22, 3) := by decide +kernel
theorem dX9_filledSpots_14 : decode cX9_filledSpots 14 = .ok (.iload_n 2, 1) := by decide +kernel
theorem dX9_filledSpots_15 : decode cX9_filledSpots 15 = .ok (.iaload, 1) := by decide +kernel
theorem dX9_filledSpots_16 : decode cX9_filledSpots 16 = .ok (.iconst (-1), 1) := by decide +kernel
theorem dX9_filledSpots_17 : decode cX9_filledSpots 17 = .ok (.if_icmp .eq 6, 3) := by decide +kernel
theorem dX9_filledSpots_20 : decode cX9_filledSpots 20 = .ok (.iinc 1 1, 3) := by decide +kernel
theorem dX9_filledSpots_23 : decode cX9_filledSpots 23 = .ok (.iinc 2 1, 3) := by decide +kernel
theorem dX9_filledSpots_26 : decode cX9_filledSpots 26 = .ok (.goto (-22), 3) := by decide +kernel
theorem dX9_filledSpots_29 : decode cX9_filledSpots 29 = .ok (.iload_n 1, 1) := by decide +kernel
theorem dX9_filledSpots_30 : decode cX9_filledSpots 30 = .ok (.ireturn, 1) := by decide +kernel
theorem b_X9_filledSpots_23 {Z : qZ} {G : qG} {o : Nat} {v1 : Int32} {v2 : Int32} {μ : qM} {P4 : Int32 → Int32 → qM → Prop} {post : Int32 → qM → Prop} (C : qX Z G RX9 cX9_filledSpots 3 ({ frames := 0, cells := 0, slots := 0, locals := 0 } : Room) (some .int)) (hQ : qQi Z G 0 0 post) (hn : 66 ≤ gn G) (hk_o : qk o = 8) (hP4 : ∀ (b1 : Int32) (b2 : Int32) (μ1 : qM), P4 b1 b2 μ1 → qV Z G 3 0 0 μ1 4 [(0, .ref (ga G o)), (1, .int b1), (2, .int b2)] []) (h : q_X9_filledSpots_23 o P4 post v1 v2 μ) : qV Z G 3 0 0 μ 23 [(0, .ref (ga G o)), (1, .int v1), (2, .int v2)] [] := by
  unfold q_X9_filledSpots_23 at h
  refine x_iinc C 2 (v := 1) (L' := [(2, .int ((v2 + 1))), (0, .ref (ga G o)), (1, .int v1)]) dX9_filledSpots_23 rfl (by decide) (by decide) rfl ?_
  refine x_goto C dX9_filledSpots_26 (tgt := 4) (by decide) ?_
  exact qV_sub [1, 2, 0] rfl ((hP4 _ _ _ h))
theorem b_X9_filledSpots_4 {Z : qZ} {G : qG} {o : Nat} {v1 : Int32} {v2 : Int32} {μ : qM} {post : Int32 → qM → Prop} (C : qX Z G RX9 cX9_filledSpots 3 ({ frames := 0, cells := 0, slots := 0, locals := 0 } : Room) (some .int)) (hQ : qQi Z G 0 0 post) (hn : 66 ≤ gn G) (hk_o : qk o = 8) (h : q_X9_filledSpots_4 o post v1 v2 μ) : qV Z G 3 0 0 μ 4 [(0, .ref (ga G o)), (1, .int v1), (2, .int v2)] [] := by
  refine h (fun v1 v2 μ => qV Z G 3 0 0 μ 4 [(0, .ref (ga G o)), (1, .int v1), (2, .int v2)] []) (fun v1 v2 μ h => ?_)
  refine x_iload_n C 2 dX9_filledSpots_4 rfl rfl ?_
  refine x_bipush C dX9_filledSpots_5 (v := 10) (by decide) ?_
  refine x_icmp_ge C dX9_filledSpots_7 (tgt := 29) (by decide) h (fun h => ?_) (fun h => ?_)
  · refine x_iload_n C 1 dX9_filledSpots_29 rfl rfl ?_
    exact x_iret C hQ dX9_filledSpots_30 h
  · refine x_aload_n C 0 dX9_filledSpots_10 rfl rfl ?_
    refine g_RX9_22 C hn hk_o dX9_filledSpots_11 ?_
    refine x_iload_n C 2 dX9_filledSpots_14 rfl rfl ?_
    refine x_iald C (o + 6) 11 10 (q_lt (qn_8_6 hk_o) rfl hn) (qn_8_6 hk_o) rfl rfl rfl rfl dX9_filledSpots_15 h (fun h => ?_)
    refine x_iconst C dX9_filledSpots_16 (v := -1) (by decide) ?_
    refine x_icmp_eq C dX9_filledSpots_17 (tgt := 23) (by decide) h (fun h => ?_) (fun h => ?_)
    · exact b_X9_filledSpots_23 C hQ hn hk_o (fun _ _ _ h => h) h
    · refine x_iinc C 1 (v := 1) (L' := [(1, .int ((v1 + 1))), (0, .ref (ga G o)), (2, .int v2)]) dX9_filledSpots_20 rfl (by decide) (by decide) rfl ?_
      exact qV_sub [1, 0, 2] rfl (b_X9_filledSpots_23 C hQ hn hk_o (fun _ _ _ h => h) h)
theorem y_X9_filledSpots : qY yX9_filledSpots cX9_filledSpots 3 (some .int) 0 ({ frames := 0, cells := 0, slots := 0, locals := 0 } : Room) 0 0 := ⟨(qm_52 _ (List.mem_of_getElem? (i := 10) rfl)), (qm_1 _ (List.mem_of_getElem? (i := 14) rfl)), by decide +kernel, by decide +kernel, rfl, rfl⟩
theorem c_X9_filledSpots (l : Launch) (G : qG) {o : Nat} {μ : qM} (hn : 66 ≤ gn G) (hk_o : qk o = 8) : qCi l G yX9_filledSpots cX9_filledSpots 3 (some .int) ({ frames := 0, cells := 0, slots := 0, locals := 0 } : Room) 0 0 [.ref (ga G o)] μ (fun post => w_X9_filledSpots o post μ) := by
  refine qCi_of (L := [(0, .ref (ga G o))]) (by decide) rfl rfl ?_
  intro Z post hl C hQ h
  have C : qX Z G RX9 cX9_filledSpots 3 ({ frames := 0, cells := 0, slots := 0, locals := 0 } : Room) (some .int) := C
  have h : w_X9_filledSpots o post μ := h
  unfold w_X9_filledSpots at h
  refine x_iconst C dX9_filledSpots_0 (v := 0) (by decide) ?_
  refine x_istore_n C (L' := [(1, .int ((0 : Int32))), (0, .ref (ga G o))]) dX9_filledSpots_1 rfl (by decide) rfl ?_
  refine x_iconst C dX9_filledSpots_2 (v := 0) (by decide) ?_
  refine x_istore_n C (L' := [(2, .int ((0 : Int32))), (1, .int ((0 : Int32))), (0, .ref (ga G o))]) dX9_filledSpots_3 rfl (by decide) rfl ?_
  exact qV_sub [2, 1, 0] rfl (b_X9_filledSpots_4 C hQ hn hk_o h)
theorem dX9_becomeAs_0 : decode cX9_becomeAs 0 = .ok (.aload_n 0, 1) := by decide +kernel
theorem dX9_becomeAs_1 : decode cX9_becomeAs 1 = .ok (.getfield 12, 3) := by decide +kernel
theorem dX9_becomeAs_4 : decode cX9_becomeAs 4 = .ok (.aload_n 1, 1) := by decide +kernel
theorem dX9_becomeAs_5 : decode cX9_becomeAs 5 = .ok (.getfield 12, 3) := by decide +kernel
theorem dX9_becomeAs_8 : decode cX9_becomeAs 8 = .ok (.invokevirtual 52, 3) := by decide +kernel
theorem dX9_becomeAs_11 : decode cX9_becomeAs 11 = .ok (.aload_n 1, 1) := by decide +kernel
theorem dX9_becomeAs_12 : decode cX9_becomeAs 12 = .ok (.getfield 18, 3) := by decide +kernel
theorem dX9_becomeAs_15 : decode cX9_becomeAs 15 = .ok (.iconst 0, 1) := by decide +kernel
theorem dX9_becomeAs_16 : decode cX9_becomeAs 16 = .ok (.aload_n 0, 1) := by decide +kernel
theorem dX9_becomeAs_17 : decode cX9_becomeAs 17 = .ok (.getfield 18, 3) := by decide +kernel
theorem dX9_becomeAs_20 : decode cX9_becomeAs 20 = .ok (.iconst 0, 1) := by decide +kernel
theorem dX9_becomeAs_21 : decode cX9_becomeAs 21 = .ok (.sipush 144, 3) := by decide +kernel
theorem dX9_becomeAs_24 : decode cX9_becomeAs 24 = .ok (.invokestatic 56, 3) := by decide +kernel
theorem dX9_becomeAs_27 : decode cX9_becomeAs 27 = .ok (.aload_n 1, 1) := by decide +kernel
theorem dX9_becomeAs_28 : decode cX9_becomeAs 28 = .ok (.getfield 22, 3) := by decide +kernel
theorem dX9_becomeAs_31 : decode cX9_becomeAs 31 = .ok (.iconst 0, 1) := by decide +kernel
theorem dX9_becomeAs_32 : decode cX9_becomeAs 32 = .ok (.aload_n 0, 1) := by decide +kernel
theorem dX9_becomeAs_33 : decode cX9_becomeAs 33 = .ok (.getfield 22, 3) := by decide +kernel
theorem dX9_becomeAs_36 : decode cX9_becomeAs 36 = .ok (.iconst 0, 1) := by decide +kernel
theorem dX9_becomeAs_37 : decode cX9_becomeAs 37 = .ok (.bipush 10, 2) := by decide +kernel
theorem dX9_becomeAs_39 : decode cX9_becomeAs 39 = .ok (.invokestatic 56, 3) := by decide +kernel
theorem dX9_becomeAs_42 : decode cX9_becomeAs 42 = .ok (.aload_n 0, 1) := by decide +kernel
theorem dX9_becomeAs_43 : decode cX9_becomeAs 43 = .ok (.aload_n 1, 1) := by decide +kernel
theorem dX9_becomeAs_44 : decode cX9_becomeAs 44 = .ok (.getfield 25, 3) := by decide +kernel
theorem dX9_becomeAs_47 : decode cX9_becomeAs 47 = .ok (.putfield 25, 3) := by decide +kernel
theorem dX9_becomeAs_50 : decode cX9_becomeAs 50 = .ok (.aload_n 0, 1) := by decide +kernel
theorem dX9_becomeAs_51 : decode cX9_becomeAs 51 = .ok (.aload_n 1, 1) := by decide +kernel
theorem dX9_becomeAs_52 : decode cX9_becomeAs 52 = .ok (.getfield 29, 3) := by decide +kernel
theorem dX9_becomeAs_55 : decode cX9_becomeAs 55 = .ok (.putfield 29, 3) := by decide +kernel
theorem dX9_becomeAs_58 : decode cX9_becomeAs 58 = .ok (.aload_n 0, 1) := by decide +kernel
theorem dX9_becomeAs_59 : decode cX9_becomeAs 59 = .ok (.aload_n 1, 1) := by decide +kernel
theorem dX9_becomeAs_60 : decode cX9_becomeAs 60 = .ok (.getfield 32, 3) := by decide +kernel
theorem dX9_becomeAs_63 : decode cX9_becomeAs 63 = .ok (.putfield 32, 3) := by decide +kernel
theorem dX9_becomeAs_66 : decode cX9_becomeAs 66 = .ok (.return_, 1) := by decide +kernel
theorem i_RX9_52 {Z : qZ} {G : qG} {cc : ByteArray} {nL k n : Nat} {rm : Room} {ret : Option FieldType} {μ : qM} {pc : Nat} {L : List (Nat × Value)} {rest : List Value} {K : qM → Prop} {o : Nat} {o1 : Nat} (C : qX Z G RX9 cc nL rm ret) (hn : 66 ≤ gn G) (hk_o : qk o = 1) (hk_o1 : qk o1 = 1) (hR : (Nat.ble (0 + 1) rm.frames && Nat.ble (8 + (3 + 11) + 0) rm.locals) = true) (hf : k + 0 ≤ rm.cells ∧ n + 0 ≤ rm.slots) (hsz : Nat.ble (rest.map fun v => v.category).sum 8 = true) (hd : decode cc pc = .ok (.invokevirtual 52, 3)) (h : w_X1_becomeAs o o1 K μ) (hk : ∀ (μ1 : qM), K μ1 → qV Z G nL k n μ1 (pc + 3) L rest) : qV Z G nL k n μ pc L (.ref (ga G o1) :: .ref (ga G o) :: rest) := x_Vv [.ref (ga G o1)] rest C o 1 (wp := fun K => w_X1_becomeAs o o1 K μ) (y_X1_becomeAs : qY yX1_becomeAs cX1_becomeAs 3 none 1 ({ frames := 0, cells := 0, slots := 0, locals := 0 } : Room) 0 0) (qm_24 _ (List.mem_of_getElem? (i := 11) rfl)) (qm_24 _ (List.mem_of_getElem? (i := 12) rfl)) (qm_33 _ (List.mem_of_getElem? (i := 19) rfl)) (c_X1_becomeAs Z.2.1 G hn hk_o hk_o1) (q_lt hk_o rfl hn) hk_o (by decide) rfl rfl hR hf rfl rfl hsz hd h hk
theorem p_RX9_29 {Z : qZ} {G : qG} {cc : ByteArray} {nL k n : Nat} {rm : Room} {ret : Option FieldType} {μ : qM} {pc : Nat} {L : List (Nat × Value)} {st : List Value} {x : Int32} {o : Nat} (C : qX Z G RX9 cc nL rm ret) (hn : 66 ≤ gn G) (hk : qk o = 8) (hd : decode cc pc = .ok (.putfield 29, 3)) (h : qV Z G nL k n (qu μ o 4 x) (pc + 3) L st) : qV Z G nL k n μ pc L (.int x :: .ref (ga G o) :: st) := x_puti C o 8 4 (C0 := RX9) (fn := "age") (fd := "I") (ty := .int) (q_lt hk rfl hn) hk (by decide) rfl (by decide) rfl inlX9 tyX9_ok nmX9 (qm_3 _ (List.mem_of_getElem? (i := 8) rfl)) rfl (by decide +kernel) rfl rfl hd h
theorem y_X9_becomeAs : qY yX9_becomeAs cX9_becomeAs 2 none 1 ({ frames := 1, cells := 0, slots := 0, locals := 48 } : Room) 0 0 := ⟨(qm_33 _ (List.mem_of_getElem? (i := 14) rfl)), (qm_1 _ (List.mem_of_getElem? (i := 14) rfl)), by decide +kernel, by decide +kernel, rfl, rfl⟩
theorem c_X9_becomeAs (l : Launch) (G : qG) {o : Nat} {o1 : Nat} {μ : qM} (hn : 66 ≤ gn G) (hk_o : qk o = 8) (hk_o1 : qk o1 = 8) : qCv l G yX9_becomeAs cX9_becomeAs 2 none ({ frames := 1, cells := 0, slots := 0, locals := 48 } : Room) 0 0 [.ref (ga G o), .ref (ga G o1)] μ (fun post => w_X9_becomeAs o o1 post μ) := by
  refine qCv_of (L := [(0, .ref (ga G o)), (1, .ref (ga G o1))]) (by decide) rfl rfl ?_
  intro Z post hl C hQ h
  have C : qX Z G RX9 cX9_becomeAs 2 ({ frames := 1, cells := 0, slots := 0, locals := 48 } : Room) none := C
  have h : w_X9_becomeAs o o1 post μ := h
  unfold w_X9_becomeAs at h
  refine x_aload_n C 0 dX9_becomeAs_0 rfl rfl ?_
  refine g_RX9_12 C hn hk_o dX9_becomeAs_1 ?_
  refine x_aload_n C 1 dX9_becomeAs_4 rfl rfl ?_
  refine g_RX9_12 C hn hk_o1 dX9_becomeAs_5 ?_
  refine i_RX9_52 (rest := []) C hn (qn_8_1 hk_o) (qn_8_1 hk_o1) rfl (by decide) rfl dX9_becomeAs_8 h (fun μ8 h => ?_)
  refine x_aload_n C 1 dX9_becomeAs_11 rfl rfl ?_
  refine g_RX9_18 C hn hk_o1 dX9_becomeAs_12 ?_
  refine x_iconst C dX9_becomeAs_15 (v := 0) (by decide) ?_
  refine x_aload_n C 0 dX9_becomeAs_16 rfl rfl ?_
  refine g_RX9_18 C hn hk_o dX9_becomeAs_17 ?_
  refine x_iconst C dX9_becomeAs_20 (v := 0) (by decide) ?_
  refine x_sipush C dX9_becomeAs_21 (v := 144) (by decide) ?_
  refine x_copy C (o1 + 5) (o + 5) 12 12 144 144 (q_lt (qn_8_5 hk_o1) rfl hn) (q_lt (qn_8_5 hk_o) rfl hn) (qn_8_5 hk_o1) (qn_8_5 hk_o) rfl rfl rfl rfl rfl rfl rfl rfl (qm_33 _ (List.mem_of_getElem? (i := 15) rfl)) rfl rfl dX9_becomeAs_24 h (fun h => ?_)
  refine x_aload_n C 1 dX9_becomeAs_27 rfl rfl ?_
  refine g_RX9_22 C hn hk_o1 dX9_becomeAs_28 ?_
  refine x_iconst C dX9_becomeAs_31 (v := 0) (by decide) ?_
  refine x_aload_n C 0 dX9_becomeAs_32 rfl rfl ?_
  refine g_RX9_22 C hn hk_o dX9_becomeAs_33 ?_
  refine x_iconst C dX9_becomeAs_36 (v := 0) (by decide) ?_
  refine x_bipush C dX9_becomeAs_37 (v := 10) (by decide) ?_
  refine x_copy C (o1 + 6) (o + 6) 11 11 10 10 (q_lt (qn_8_6 hk_o1) rfl hn) (q_lt (qn_8_6 hk_o) rfl hn) (qn_8_6 hk_o1) (qn_8_6 hk_o) rfl rfl rfl rfl rfl rfl rfl rfl (qm_33 _ (List.mem_of_getElem? (i := 15) rfl)) rfl rfl dX9_becomeAs_39 h (fun h => ?_)
  refine x_aload_n C 0 dX9_becomeAs_42 rfl rfl ?_
  refine x_aload_n C 1 dX9_becomeAs_43 rfl rfl ?_
  refine g_RX9_25 C hn hk_o1 dX9_becomeAs_44 ?_
  refine p_RX9_25 C hn hk_o dX9_becomeAs_47 ?_
  refine x_aload_n C 0 dX9_becomeAs_50 rfl rfl ?_
  refine x_aload_n C 1 dX9_becomeAs_51 rfl rfl ?_
  refine g_RX9_29 C hn hk_o1 dX9_becomeAs_52 ?_
  refine p_RX9_29 C hn hk_o dX9_becomeAs_55 ?_
  refine x_aload_n C 0 dX9_becomeAs_58 rfl rfl ?_
  refine x_aload_n C 1 dX9_becomeAs_59 rfl rfl ?_
  refine g_RX9_32 C hn hk_o1 dX9_becomeAs_60 ?_
  refine p_RX9_32 C hn hk_o dX9_becomeAs_63 ?_
  exact x_vret C hQ dX9_becomeAs_66 h
theorem dX9_allows_0 : decode cX9_allows 0 = .ok (.aload_n 0, 1) := by decide +kernel
theorem dX9_allows_1 : decode cX9_allows 1 = .ok (.getfield 25, 3) := by decide +kernel
theorem dX9_allows_4 : decode cX9_allows 4 = .ok (.iload_n 1, 1) := by decide +kernel
theorem dX9_allows_5 : decode cX9_allows 5 = .ok (.invokestatic 62, 3) := by decide +kernel
theorem dX9_allows_8 : decode cX9_allows 8 = .ok (.if_icmp .lt 18, 3) := by decide +kernel
theorem dX9_allows_11 : decode cX9_allows 11 = .ok (.aload_n 0, 1) := by decide +kernel
theorem dX9_allows_12 : decode cX9_allows 12 = .ok (.getfield 12, 3) := by decide +kernel
theorem dX9_allows_15 : decode cX9_allows 15 = .ok (.iload_n 2, 1) := by decide +kernel
theorem dX9_allows_16 : decode cX9_allows 16 = .ok (.invokevirtual 41, 3) := by decide +kernel
theorem dX9_allows_19 : decode cX9_allows 19 = .ok (.ifCond .eq 7, 3) := by decide +kernel
theorem dX9_allows_22 : decode cX9_allows 22 = .ok (.iconst 1, 1) := by decide +kernel
theorem dX9_allows_23 : decode cX9_allows 23 = .ok (.goto 4, 3) := by decide +kernel
theorem dX9_allows_26 : decode cX9_allows 26 = .ok (.iconst 0, 1) := by decide +kernel
theorem dX9_allows_27 : decode cX9_allows 27 = .ok (.ireturn, 1) := by decide +kernel
theorem i_RX9_62 {Z : qZ} {G : qG} {cc : ByteArray} {nL k n : Nat} {rm : Room} {ret : Option FieldType} {μ : qM} {pc : Nat} {L : List (Nat × Value)} {rest : List Value} {K : Int32 → qM → Prop} {v0 : Int32} (C : qX Z G RX9 cc nL rm ret) (hn : 66 ≤ gn G) (hR : (Nat.ble (0 + 1) rm.frames && Nat.ble (8 + (1 + 11) + 0) rm.locals) = true) (hf : k + 0 ≤ rm.cells ∧ n + 0 ≤ rm.slots) (hsz : Nat.ble (rest.map fun v => v.category).sum 8 = true) (hd : decode cc pc = .ok (.invokestatic 62, 3)) (h : w_X2_costs v0 K μ) (hk : ∀ (r : Int32) (μ1 : qM), K r μ1 → qV Z G nL k n μ1 (pc + 3) L (.int r :: rest)) : qV Z G nL k n μ pc L (.int v0 :: rest) := x_Si [.int v0] rest C (wp := fun K => w_X2_costs v0 K μ) (y_X2_costs : qY yX2_costs cX2_costs 1 (some .int) 1 ({ frames := 0, cells := 0, slots := 0, locals := 0 } : Room) 0 0) (qm_9 _ (List.mem_of_getElem? (i := 20) rfl)) (qm_9 _ (List.mem_of_getElem? (i := 19) rfl)) (c_X2_costs Z.2.1 G hn ) hR hf rfl rfl hsz hd h hk
theorem b_X9_allows_26 {Z : qZ} {G : qG} {o : Nat} {μ : qM} {post : Int32 → qM → Prop} (C : qX Z G RX9 cX9_allows 3 ({ frames := 5, cells := 0, slots := 0, locals := 118 } : Room) (some .boolean)) (hQ : qQi Z G 0 0 post) (hn : 66 ≤ gn G) (hk_o : qk o = 8) (h : q_X9_allows_26 o post μ) : qV Z G 3 0 0 μ 26 [] [] := by
  unfold q_X9_allows_26 at h
  refine x_iconst C dX9_allows_26 (v := 0) (by decide) ?_
  exact x_zret C hQ dX9_allows_27 h
theorem y_X9_allows : qY yX9_allows cX9_allows 3 (some .boolean) 2 ({ frames := 5, cells := 0, slots := 0, locals := 118 } : Room) 0 0 := ⟨(qm_9 _ (List.mem_of_getElem? (i := 18) rfl)), (qm_1 _ (List.mem_of_getElem? (i := 14) rfl)), by decide +kernel, by decide +kernel, rfl, rfl⟩
theorem c_X9_allows (l : Launch) (G : qG) {o : Nat} {v1 : Int32} {v2 : Int32} {μ : qM} (hn : 66 ≤ gn G) (hk_o : qk o = 8) : qCi l G yX9_allows cX9_allows 3 (some .boolean) ({ frames := 5, cells := 0, slots := 0, locals := 118 } : Room) 0 0 [.ref (ga G o), .int v1, .int v2] μ (fun post => w_X9_allows o v1 v2 post μ) := by
  refine qCi_of (L := [(0, .ref (ga G o)), (1, .int v1), (2, .int v2)]) (by decide) rfl rfl ?_
  intro Z post hl C hQ h
  have C : qX Z G RX9 cX9_allows 3 ({ frames := 5, cells := 0, slots := 0, locals := 118 } : Room) (some .boolean) := C
  have h : w_X9_allows o v1 v2 post μ := h
  unfold w_X9_allows at h
  refine x_aload_n C 0 dX9_allows_0 rfl rfl ?_
  refine g_RX9_25 C hn hk_o dX9_allows_1 ?_
  refine x_iload_n C 1 dX9_allows_4 rfl rfl ?_
  refine i_RX9_62 (rest := [.int ((μ o 3))]) C hn  rfl (by decide) rfl dX9_allows_5 h (fun r5 μ5 h => ?_)
  refine x_icmp_lt C dX9_allows_8 (tgt := 26) (by decide) h (fun h => ?_) (fun h => ?_)
  · exact qV_sub [] rfl (b_X9_allows_26 C hQ hn hk_o h)
  · refine x_aload_n C 0 dX9_allows_11 rfl rfl ?_
    refine g_RX9_12 C hn hk_o dX9_allows_12 ?_
    refine x_iload_n C 2 dX9_allows_15 rfl rfl ?_
    refine i_RX9_41 (rest := []) C hn (qn_8_1 hk_o) rfl (by decide) rfl dX9_allows_16 h (fun r16 μ16 h => ?_)
    refine x_if_eq C dX9_allows_19 (tgt := 26) (by decide) h (fun h => ?_) (fun h => ?_)
    · exact qV_sub [] rfl (b_X9_allows_26 C hQ hn hk_o h)
    · refine x_iconst C dX9_allows_22 (v := 1) (by decide) ?_
      refine x_goto C dX9_allows_23 (tgt := 27) (by decide) ?_
      exact x_zret C hQ dX9_allows_27 h
theorem dX9_raise_0 : decode cX9_raise 0 = .ok (.aload_n 0, 1) := by decide +kernel
theorem dX9_raise_1 : decode cX9_raise 1 = .ok (.getfield 12, 3) := by decide +kernel
theorem dX9_raise_4 : decode cX9_raise 4 = .ok (.iload_n 1, 1) := by decide +kernel
theorem dX9_raise_5 : decode cX9_raise 5 = .ok (.iload_n 2, 1) := by decide +kernel
theorem dX9_raise_6 : decode cX9_raise 6 = .ok (.invokevirtual 68, 3) := by decide +kernel
theorem dX9_raise_9 : decode cX9_raise 9 = .ok (.aload_n 0, 1) := by decide +kernel
theorem dX9_raise_10 : decode cX9_raise 10 = .ok (.dup, 1) := by decide +kernel
theorem dX9_raise_11 : decode cX9_raise 11 = .ok (.getfield 25, 3) := by decide +kernel
theorem dX9_raise_14 : decode cX9_raise 14 = .ok (.aload_n 0, 1) := by decide +kernel
theorem dX9_raise_15 : decode cX9_raise 15 = .ok (.iload_n 2, 1) := by decide +kernel
theorem dX9_raise_16 : decode cX9_raise 16 = .ok (.invokevirtual 72, 3) := by decide +kernel
theorem dX9_raise_19 : decode cX9_raise 19 = .ok (.iload_n 1, 1) := by decide +kernel
theorem dX9_raise_20 : decode cX9_raise 20 = .ok (.invokestatic 62, 3) := by decide +kernel
theorem dX9_raise_23 : decode cX9_raise 23 = .ok (.isub, 1) := by decide +kernel
theorem dX9_raise_24 : decode cX9_raise 24 = .ok (.iadd, 1) := by decide +kernel
theorem dX9_raise_25 : decode cX9_raise 25 = .ok (.putfield 25, 3) := by decide +kernel
theorem dX9_raise_28 : decode cX9_raise 28 = .ok (.return_, 1) := by decide +kernel
theorem i_RX9_68 {Z : qZ} {G : qG} {cc : ByteArray} {nL k n : Nat} {rm : Room} {ret : Option FieldType} {μ : qM} {pc : Nat} {L : List (Nat × Value)} {rest : List Value} {K : qM → Prop} {o : Nat} {v1 : Int32} {v2 : Int32} (C : qX Z G RX9 cc nL rm ret) (hn : 66 ≤ gn G) (hk_o : qk o = 1) (hR : (Nat.ble (1 + 1) rm.frames && Nat.ble (8 + (3 + 11) + 20) rm.locals) = true) (hf : k + 0 ≤ rm.cells ∧ n + 0 ≤ rm.slots) (hsz : Nat.ble (rest.map fun v => v.category).sum 8 = true) (hd : decode cc pc = .ok (.invokevirtual 68, 3)) (h : w_X1_put o v1 v2 K μ) (hk : ∀ (μ1 : qM), K μ1 → qV Z G nL k n μ1 (pc + 3) L rest) : qV Z G nL k n μ pc L (.int v2 :: .int v1 :: .ref (ga G o) :: rest) := x_Vv [.int v1, .int v2] rest C o 1 (wp := fun K => w_X1_put o v1 v2 K μ) (y_X1_put : qY yX1_put cX1_put 3 none 2 ({ frames := 1, cells := 0, slots := 0, locals := 20 } : Room) 0 0) (qm_8 _ (List.mem_of_getElem? (i := 0) rfl)) (qm_8 _ (List.mem_of_getElem? (i := 1) rfl)) (qm_11 _ (List.mem_of_getElem? (i := 2) rfl)) (c_X1_put Z.2.1 G hn hk_o) (q_lt hk_o rfl hn) hk_o (by decide) rfl rfl hR hf rfl rfl hsz hd h hk
theorem i_RX9_72 {Z : qZ} {G : qG} {cc : ByteArray} {nL k n : Nat} {rm : Room} {ret : Option FieldType} {μ : qM} {pc : Nat} {L : List (Nat × Value)} {rest : List Value} {K : Int32 → qM → Prop} {o : Nat} {v1 : Int32} (C : qX Z G RX9 cc nL rm ret) (hn : 66 ≤ gn G) (hk_o : qk o = 8) (hR : (Nat.ble (0 + 1) rm.frames && Nat.ble (8 + (2 + 11) + 0) rm.locals) = true) (hf : k + 0 ≤ rm.cells ∧ n + 0 ≤ rm.slots) (hsz : Nat.ble (rest.map fun v => v.category).sum 8 = true) (hd : decode cc pc = .ok (.invokevirtual 72, 3)) (h : w_X9_worthOf o v1 K μ) (hk : ∀ (r : Int32) (μ1 : qM), K r μ1 → qV Z G nL k n μ1 (pc + 3) L (.int r :: rest)) : qV Z G nL k n μ pc L (.int v1 :: .ref (ga G o) :: rest) := x_Vi [.int v1] rest C o 8 (wp := fun K => w_X9_worthOf o v1 K μ) (y_X9_worthOf : qY yX9_worthOf cX9_worthOf 2 (some .int) 1 ({ frames := 0, cells := 0, slots := 0, locals := 0 } : Room) 0 0) (qm_11 _ (List.mem_of_getElem? (i := 4) rfl)) (qm_11 _ (List.mem_of_getElem? (i := 5) rfl)) (qm_11 _ (List.mem_of_getElem? (i := 3) rfl)) (c_X9_worthOf Z.2.1 G hn hk_o) (q_lt hk_o rfl hn) hk_o (by decide) rfl rfl hR hf rfl rfl hsz hd h hk
theorem y_X9_raise : qY yX9_raise cX9_raise 3 none 2 ({ frames := 2, cells := 0, slots := 0, locals := 42 } : Room) 0 0 := ⟨(qm_11 _ (List.mem_of_getElem? (i := 1) rfl)), (qm_1 _ (List.mem_of_getElem? (i := 14) rfl)), by decide +kernel, by decide +kernel, rfl, rfl⟩
theorem c_X9_raise (l : Launch) (G : qG) {o : Nat} {v1 : Int32} {v2 : Int32} {μ : qM} (hn : 66 ≤ gn G) (hk_o : qk o = 8) : qCv l G yX9_raise cX9_raise 3 none ({ frames := 2, cells := 0, slots := 0, locals := 42 } : Room) 0 0 [.ref (ga G o), .int v1, .int v2] μ (fun post => w_X9_raise o v1 v2 post μ) := by
  refine qCv_of (L := [(0, .ref (ga G o)), (1, .int v1), (2, .int v2)]) (by decide) rfl rfl ?_
  intro Z post hl C hQ h
  have C : qX Z G RX9 cX9_raise 3 ({ frames := 2, cells := 0, slots := 0, locals := 42 } : Room) none := C
  have h : w_X9_raise o v1 v2 post μ := h
  unfold w_X9_raise at h
  refine x_aload_n C 0 dX9_raise_0 rfl rfl ?_
  refine g_RX9_12 C hn hk_o dX9_raise_1 ?_
  refine x_iload_n C 1 dX9_raise_4 rfl rfl ?_
  refine x_iload_n C 2 dX9_raise_5 rfl rfl ?_
  refine i_RX9_68 (rest := []) C hn (qn_8_1 hk_o) rfl (by decide) rfl dX9_raise_6 h (fun μ6 h => ?_)
  refine x_aload_n C 0 dX9_raise_9 rfl rfl ?_
  refine x_dup C dX9_raise_10 rfl ?_
  refine g_RX9_25 C hn hk_o dX9_raise_11 ?_
  refine x_aload_n C 0 dX9_raise_14 rfl rfl ?_
  refine x_iload_n C 2 dX9_raise_15 rfl rfl ?_
  refine i_RX9_72 (rest := [.int ((μ6 o 3)), .ref (ga G o)]) C hn hk_o rfl (by decide) rfl dX9_raise_16 h (fun r16 μ16 h => ?_)
  refine x_iload_n C 1 dX9_raise_19 rfl rfl ?_
  refine i_RX9_62 (rest := [.int r16, .int ((μ6 o 3)), .ref (ga G o)]) C hn  rfl (by decide) rfl dX9_raise_20 h (fun r20 μ20 h => ?_)
  refine x_isub C dX9_raise_23 ?_
  refine x_iadd C dX9_raise_24 ?_
  refine p_RX9_25 C hn hk_o dX9_raise_25 ?_
  exact x_vret C hQ dX9_raise_28 h
theorem dX9_draw_0 : decode cX9_draw 0 = .ok (.aload_n 0, 1) := by decide +kernel
theorem dX9_draw_1 : decode cX9_draw 1 = .ok (.aload_n 0, 1) := by decide +kernel
theorem dX9_draw_2 : decode cX9_draw 2 = .ok (.getfield 32, 3) := by decide +kernel
theorem dX9_draw_5 : decode cX9_draw 5 = .ok (.ldc 75, 2) := by decide +kernel
theorem dX9_draw_7 : decode cX9_draw 7 = .ok (.imul, 1) := by decide +kernel
theorem dX9_draw_8 : decode cX9_draw 8 = .ok (.sipush 12345, 3) := by decide +kernel
theorem dX9_draw_11 : decode cX9_draw 11 = .ok (.iadd, 1) := by decide +kernel
theorem dX9_draw_12 : decode cX9_draw 12 = .ok (.putfield 32, 3) := by decide +kernel
theorem dX9_draw_15 : decode cX9_draw 15 = .ok (.aload_n 0, 1) := by decide +kernel
theorem dX9_draw_16 : decode cX9_draw 16 = .ok (.getfield 32, 3) := by decide +kernel
theorem dX9_draw_19 : decode cX9_draw 19 = .ok (.bipush 8, 2) := by decide +kernel
theorem dX9_draw_21 : decode cX9_draw 21 = .ok (.iushr, 1) := by decide +kernel
theorem dX9_draw_22 : decode cX9_draw 22 = .ok (.ireturn, 1) := by decide +kernel
theorem y_X9_draw : qY yX9_draw cX9_draw 1 (some .int) 0 ({ frames := 0, cells := 0, slots := 0, locals := 0 } : Room) 0 0 := ⟨(qm_32 _ (List.mem_of_getElem? (i := 13) rfl)), (qm_1 _ (List.mem_of_getElem? (i := 14) rfl)), by decide +kernel, by decide +kernel, rfl, rfl⟩
theorem c_X9_draw (l : Launch) (G : qG) {o : Nat} {μ : qM} (hn : 66 ≤ gn G) (hk_o : qk o = 8) : qCi l G yX9_draw cX9_draw 1 (some .int) ({ frames := 0, cells := 0, slots := 0, locals := 0 } : Room) 0 0 [.ref (ga G o)] μ (fun post => w_X9_draw o post μ) := by
  refine qCi_of (L := [(0, .ref (ga G o))]) (by decide) rfl rfl ?_
  intro Z post hl C hQ h
  have C : qX Z G RX9 cX9_draw 1 ({ frames := 0, cells := 0, slots := 0, locals := 0 } : Room) (some .int) := C
  have h : w_X9_draw o post μ := h
  unfold w_X9_draw at h
  refine x_aload_n C 0 dX9_draw_0 rfl rfl ?_
  refine x_aload_n C 0 dX9_draw_1 rfl rfl ?_
  refine g_RX9_32 C hn hk_o dX9_draw_2 ?_
  refine x_ldc C (v := 1103515245) (qm_32 _ (List.mem_of_getElem? (i := 14) rfl)) dX9_draw_5 ?_
  refine x_imul C dX9_draw_7 ?_
  refine x_sipush C dX9_draw_8 (v := 12345) (by decide) ?_
  refine x_iadd C dX9_draw_11 ?_
  refine p_RX9_32 C hn hk_o dX9_draw_12 ?_
  refine x_aload_n C 0 dX9_draw_15 rfl rfl ?_
  refine g_RX9_32 C hn hk_o dX9_draw_16 ?_
  refine x_bipush C dX9_draw_19 (v := 8) (by decide) ?_
  refine x_iushr C dX9_draw_21 ?_
  exact x_iret C hQ dX9_draw_22 h
theorem dX9_pass_0 : decode cX9_pass 0 = .ok (.iconst 0, 1) := by decide +kernel
theorem dX9_pass_1 : decode cX9_pass 1 = .ok (.istore_n 2, 1) := by decide +kernel
theorem dX9_pass_2 : decode cX9_pass 2 = .ok (.iconst 0, 1) := by decide +kernel
theorem dX9_pass_3 : decode cX9_pass 3 = .ok (.istore_n 3, 1) := by decide +kernel
theorem dX9_pass_4 : decode cX9_pass 4 = .ok (.iload_n 3, 1) := by decide +kernel
theorem dX9_pass_5 : decode cX9_pass 5 = .ok (.iload_n 1, 1) := by decide +kernel
theorem dX9_pass_6 : decode cX9_pass 6 = .ok (.if_icmp .ge 86, 3) := by decide +kernel
theorem dX9_pass_9 : decode cX9_pass 9 = .ok (.aload_n 0, 1) := by decide +kernel
theorem dX9_pass_10 : decode cX9_pass 10 = .ok (.invokevirtual 76, 3) := by decide +kernel
theorem dX9_pass_13 : decode cX9_pass 13 = .ok (.bipush 12, 2) := by decide +kernel
theorem dX9_pass_15 : decode cX9_pass 15 = .ok (.irem, 1) := by decide +kernel
theorem dX9_pass_16 : decode cX9_pass 16 = .ok (.istore 4, 2) := by decide +kernel
theorem dX9_pass_18 : decode cX9_pass 18 = .ok (.iload 4, 2) := by decide +kernel
theorem dX9_pass_20 : decode cX9_pass 20 = .ok (.aload_n 0, 1) := by decide +kernel
theorem dX9_pass_21 : decode cX9_pass 21 = .ok (.invokevirtual 76, 3) := by decide +kernel
theorem dX9_pass_24 : decode cX9_pass 24 = .ok (.bipush 12, 2) := by decide +kernel
theorem dX9_pass_26 : decode cX9_pass 26 = .ok (.irem, 1) := by decide +kernel
theorem dX9_pass_27 : decode cX9_pass 27 = .ok (.invokestatic 80, 3) := by decide +kernel
theorem dX9_pass_30 : decode cX9_pass 30 = .ok (.istore 5, 2) := by decide +kernel
theorem dX9_pass_32 : decode cX9_pass 32 = .ok (.aload_n 0, 1) := by decide +kernel
theorem dX9_pass_33 : decode cX9_pass 33 = .ok (.invokevirtual 76, 3) := by decide +kernel
theorem dX9_pass_36 : decode cX9_pass 36 = .ok (.bipush 7, 2) := by decide +kernel
theorem dX9_pass_38 : decode cX9_pass 38 = .ok (.irem, 1) := by decide +kernel
theorem dX9_pass_39 : decode cX9_pass 39 = .ok (.istore 6, 2) := by decide +kernel
theorem dX9_pass_41 : decode cX9_pass 41 = .ok (.aload_n 0, 1) := by decide +kernel
theorem dX9_pass_42 : decode cX9_pass 42 = .ok (.getfield 12, 3) := by decide +kernel
theorem dX9_pass_45 : decode cX9_pass 45 = .ok (.invokevirtual 84, 3) := by decide +kernel
theorem dX9_pass_48 : decode cX9_pass 48 = .ok (.ifCond .ne 38, 3) := by decide +kernel
theorem dX9_pass_51 : decode cX9_pass 51 = .ok (.aload_n 0, 1) := by decide +kernel
theorem dX9_pass_52 : decode cX9_pass 52 = .ok (.getfield 25, 3) := by decide +kernel
theorem dX9_pass_55 : decode cX9_pass 55 = .ok (.iload 6, 2) := by decide +kernel
theorem dX9_pass_57 : decode cX9_pass 57 = .ok (.invokestatic 62, 3) := by decide +kernel
theorem dX9_pass_60 : decode cX9_pass 60 = .ok (.if_icmp .lt 26, 3) := by decide +kernel
theorem dX9_pass_63 : decode cX9_pass 63 = .ok (.aload_n 0, 1) := by decide +kernel
theorem dX9_pass_64 : decode cX9_pass 64 = .ok (.getfield 12, 3) := by decide +kernel
theorem dX9_pass_67 : decode cX9_pass 67 = .ok (.iload 5, 2) := by decide +kernel
theorem dX9_pass_69 : decode cX9_pass 69 = .ok (.invokevirtual 41, 3) := by decide +kernel
theorem dX9_pass_72 : decode cX9_pass 72 = .ok (.ifCond .eq 14, 3) := by decide +kernel
theorem dX9_pass_75 : decode cX9_pass 75 = .ok (.aload_n 0, 1) := by decide +kernel
theorem dX9_pass_76 : decode cX9_pass 76 = .ok (.iload 6, 2) := by decide +kernel
theorem dX9_pass_78 : decode cX9_pass 78 = .ok (.iload 5, 2) := by decide +kernel
theorem dX9_pass_80 : decode cX9_pass 80 = .ok (.invokevirtual 88, 3) := by decide +kernel
theorem dX9_pass_83 : decode cX9_pass 83 = .ok (.iinc 2 1, 3) := by decide +kernel
theorem dX9_pass_86 : decode cX9_pass 86 = .ok (.iinc 3 1, 3) := by decide +kernel
theorem dX9_pass_89 : decode cX9_pass 89 = .ok (.goto (-85), 3) := by decide +kernel
theorem dX9_pass_92 : decode cX9_pass 92 = .ok (.aload_n 0, 1) := by decide +kernel
theorem dX9_pass_93 : decode cX9_pass 93 = .ok (.dup, 1) := by decide +kernel
theorem dX9_pass_94 : decode cX9_pass 94 = .ok (.getfield 29, 3) := by decide +kernel
theorem dX9_pass_97 : decode cX9_pass 97 = .ok (.iload_n 1, 1) := by decide +kernel
theorem dX9_pass_98 : decode cX9_pass 98 = .ok (.iadd, 1) := by decide +kernel
theorem dX9_pass_99 : decode cX9_pass 99 = .ok (.putfield 29, 3) := by decide +kernel
theorem dX9_pass_102 : decode cX9_pass 102 = .ok (.iload_n 2, 1) := by decide +kernel
theorem dX9_pass_103 : decode cX9_pass 103 = .ok (.ireturn, 1) := by decide +kernel
theorem i_RX9_76 {Z : qZ} {G : qG} {cc : ByteArray} {nL k n : Nat} {rm : Room} {ret : Option FieldType} {μ : qM} {pc : Nat} {L : List (Nat × Value)} {rest : List Value} {K : Int32 → qM → Prop} {o : Nat} (C : qX Z G RX9 cc nL rm ret) (hn : 66 ≤ gn G) (hk_o : qk o = 8) (hR : (Nat.ble (0 + 1) rm.frames && Nat.ble (8 + (1 + 11) + 0) rm.locals) = true) (hf : k + 0 ≤ rm.cells ∧ n + 0 ≤ rm.slots) (hsz : Nat.ble (rest.map fun v => v.category).sum 8 = true) (hd : decode cc pc = .ok (.invokevirtual 76, 3)) (h : w_X9_draw o K μ) (hk : ∀ (r : Int32) (μ1 : qM), K r μ1 → qV Z G nL k n μ1 (pc + 3) L (.int r :: rest)) : qV Z G nL k n μ pc L (.ref (ga G o) :: rest) := x_Vi [] rest C o 8 (wp := fun K => w_X9_draw o K μ) (y_X9_draw : qY yX9_draw cX9_draw 1 (some .int) 0 ({ frames := 0, cells := 0, slots := 0, locals := 0 } : Room) 0 0) (qm_32 _ (List.mem_of_getElem? (i := 11) rfl)) (qm_32 _ (List.mem_of_getElem? (i := 12) rfl)) (qm_32 _ (List.mem_of_getElem? (i := 10) rfl)) (c_X9_draw Z.2.1 G hn hk_o) (q_lt hk_o rfl hn) hk_o (by decide) rfl rfl hR hf rfl rfl hsz hd h hk
theorem i_RX9_80 {Z : qZ} {G : qG} {cc : ByteArray} {nL k n : Nat} {rm : Room} {ret : Option FieldType} {μ : qM} {pc : Nat} {L : List (Nat × Value)} {rest : List Value} {K : Int32 → qM → Prop} {v0 : Int32} {v1 : Int32} (C : qX Z G RX9 cc nL rm ret) (hn : 66 ≤ gn G) (hR : (Nat.ble (0 + 1) rm.frames && Nat.ble (8 + (2 + 11) + 0) rm.locals) = true) (hf : k + 0 ≤ rm.cells ∧ n + 0 ≤ rm.slots) (hsz : Nat.ble (rest.map fun v => v.category).sum 8 = true) (hd : decode cc pc = .ok (.invokestatic 80, 3)) (h : w_X10_lotOf v0 v1 K μ) (hk : ∀ (r : Int32) (μ1 : qM), K r μ1 → qV Z G nL k n μ1 (pc + 3) L (.int r :: rest)) : qV Z G nL k n μ pc L (.int v1 :: .int v0 :: rest) := x_Ni [.int v0, .int v1] rest C (wp := fun K => w_X10_lotOf v0 v1 K μ) (y_X10_lotOf : qY yX10_lotOf cX10_lotOf 2 (some .int) 2 ({ frames := 0, cells := 0, slots := 0, locals := 0 } : Room) 0 0) (qm_7 _ (List.mem_of_getElem? (i := 13) rfl)) (host := RX10) (by decide +kernel) (c_X10_lotOf Z.2.1 G hn ) hR hf rfl rfl hsz hd h hk
theorem i_RX9_84 {Z : qZ} {G : qG} {cc : ByteArray} {nL k n : Nat} {rm : Room} {ret : Option FieldType} {μ : qM} {pc : Nat} {L : List (Nat × Value)} {rest : List Value} {K : Int32 → qM → Prop} {o : Nat} (C : qX Z G RX9 cc nL rm ret) (hn : 66 ≤ gn G) (hk_o : qk o = 1) (hR : (Nat.ble (0 + 1) rm.frames && Nat.ble (8 + (1 + 11) + 0) rm.locals) = true) (hf : k + 0 ≤ rm.cells ∧ n + 0 ≤ rm.slots) (hsz : Nat.ble (rest.map fun v => v.category).sum 8 = true) (hd : decode cc pc = .ok (.invokevirtual 84, 3)) (h : w_X1_isFull o K μ) (hk : ∀ (r : Int32) (μ1 : qM), K r μ1 → qV Z G nL k n μ1 (pc + 3) L (.int r :: rest)) : qV Z G nL k n μ pc L (.ref (ga G o) :: rest) := x_Vi [] rest C o 1 (wp := fun K => w_X1_isFull o K μ) (y_X1_isFull : qY yX1_isFull cX1_isFull 1 (some .boolean) 0 ({ frames := 0, cells := 0, slots := 0, locals := 0 } : Room) 0 0) (qm_7 _ (List.mem_of_getElem? (i := 20) rfl)) (qm_7 _ (List.mem_of_getElem? (i := 21) rfl)) (qm_32 _ (List.mem_of_getElem? (i := 15) rfl)) (c_X1_isFull Z.2.1 G hn hk_o) (q_lt hk_o rfl hn) hk_o (by decide) rfl rfl hR hf rfl rfl hsz hd h hk
theorem i_RX9_88 {Z : qZ} {G : qG} {cc : ByteArray} {nL k n : Nat} {rm : Room} {ret : Option FieldType} {μ : qM} {pc : Nat} {L : List (Nat × Value)} {rest : List Value} {K : qM → Prop} {o : Nat} {v1 : Int32} {v2 : Int32} (C : qX Z G RX9 cc nL rm ret) (hn : 66 ≤ gn G) (hk_o : qk o = 8) (hR : (Nat.ble (2 + 1) rm.frames && Nat.ble (8 + (3 + 11) + 42) rm.locals) = true) (hf : k + 0 ≤ rm.cells ∧ n + 0 ≤ rm.slots) (hsz : Nat.ble (rest.map fun v => v.category).sum 8 = true) (hd : decode cc pc = .ok (.invokevirtual 88, 3)) (h : w_X9_raise o v1 v2 K μ) (hk : ∀ (μ1 : qM), K μ1 → qV Z G nL k n μ1 (pc + 3) L rest) : qV Z G nL k n μ pc L (.int v2 :: .int v1 :: .ref (ga G o) :: rest) := x_Vv [.int v1, .int v2] rest C o 8 (wp := fun K => w_X9_raise o v1 v2 K μ) (y_X9_raise : qY yX9_raise cX9_raise 3 none 2 ({ frames := 2, cells := 0, slots := 0, locals := 42 } : Room) 0 0) (qm_10 _ (List.mem_of_getElem? (i := 23) rfl)) (qm_11 _ (List.mem_of_getElem? (i := 0) rfl)) (qm_32 _ (List.mem_of_getElem? (i := 16) rfl)) (c_X9_raise Z.2.1 G hn hk_o) (q_lt hk_o rfl hn) hk_o (by decide) rfl rfl hR hf rfl rfl hsz hd h hk
theorem b_X9_pass_86 {Z : qZ} {G : qG} {o : Nat} {v1 : Int32} {v2 : Int32} {v3 : Int32} {μ : qM} {P4 : Int32 → Int32 → qM → Prop} {post : Int32 → qM → Prop} (C : qX Z G RX9 cX9_pass 7 ({ frames := 5, cells := 0, slots := 0, locals := 118 } : Room) (some .int)) (hQ : qQi Z G 0 0 post) (hn : 66 ≤ gn G) (hk_o : qk o = 8) (hP4 : ∀ (b2 : Int32) (b3 : Int32) (μ1 : qM), P4 b2 b3 μ1 → qV Z G 7 0 0 μ1 4 [(0, .ref (ga G o)), (1, .int v1), (2, .int b2), (3, .int b3)] []) (h : q_X9_pass_86 o P4 post v1 v2 v3 μ) : qV Z G 7 0 0 μ 86 [(0, .ref (ga G o)), (1, .int v1), (2, .int v2), (3, .int v3)] [] := by
  unfold q_X9_pass_86 at h
  refine x_iinc C 3 (v := 1) (L' := [(3, .int ((v3 + 1))), (0, .ref (ga G o)), (1, .int v1), (2, .int v2)]) dX9_pass_86 rfl (by decide) (by decide) rfl ?_
  refine x_goto C dX9_pass_89 (tgt := 4) (by decide) ?_
  exact qV_sub [1, 2, 3, 0] rfl ((hP4 _ _ _ h))
theorem b_X9_pass_4 {Z : qZ} {G : qG} {o : Nat} {v1 : Int32} {v2 : Int32} {v3 : Int32} {μ : qM} {post : Int32 → qM → Prop} (C : qX Z G RX9 cX9_pass 7 ({ frames := 5, cells := 0, slots := 0, locals := 118 } : Room) (some .int)) (hQ : qQi Z G 0 0 post) (hn : 66 ≤ gn G) (hk_o : qk o = 8) (h : q_X9_pass_4 o v1 post v2 v3 μ) : qV Z G 7 0 0 μ 4 [(0, .ref (ga G o)), (1, .int v1), (2, .int v2), (3, .int v3)] [] := by
  refine h (fun v2 v3 μ => qV Z G 7 0 0 μ 4 [(0, .ref (ga G o)), (1, .int v1), (2, .int v2), (3, .int v3)] []) (fun v2 v3 μ h => ?_)
  refine x_iload_n C 3 dX9_pass_4 rfl rfl ?_
  refine x_iload_n C 1 dX9_pass_5 rfl rfl ?_
  refine x_icmp_ge C dX9_pass_6 (tgt := 92) (by decide) h (fun h => ?_) (fun h => ?_)
  · refine x_aload_n C 0 dX9_pass_92 rfl rfl ?_
    refine x_dup C dX9_pass_93 rfl ?_
    refine g_RX9_29 C hn hk_o dX9_pass_94 ?_
    refine x_iload_n C 1 dX9_pass_97 rfl rfl ?_
    refine x_iadd C dX9_pass_98 ?_
    refine p_RX9_29 C hn hk_o dX9_pass_99 ?_
    refine x_iload_n C 2 dX9_pass_102 rfl rfl ?_
    exact x_iret C hQ dX9_pass_103 h
  · refine x_aload_n C 0 dX9_pass_9 rfl rfl ?_
    refine i_RX9_76 (rest := []) C hn hk_o rfl (by decide) rfl dX9_pass_10 h (fun r10 μ10 h => ?_)
    refine x_bipush C dX9_pass_13 (v := 12) (by decide) ?_
    refine x_irem C dX9_pass_15 h (fun h => ?_)
    refine x_istore C (L' := [(4, .int ((r10 - r10 / (12 : Int32) * (12 : Int32)))), (0, .ref (ga G o)), (1, .int v1), (2, .int v2), (3, .int v3)]) dX9_pass_16 (by decide) rfl ?_
    refine x_iload C 0 dX9_pass_18 rfl ?_
    refine x_aload_n C 1 dX9_pass_20 rfl rfl ?_
    refine i_RX9_76 (rest := [.int ((r10 - r10 / (12 : Int32) * (12 : Int32)))]) C hn hk_o rfl (by decide) rfl dX9_pass_21 h (fun r21 μ21 h => ?_)
    refine x_bipush C dX9_pass_24 (v := 12) (by decide) ?_
    refine x_irem C dX9_pass_26 h (fun h => ?_)
    refine i_RX9_80 (rest := []) C hn  rfl (by decide) rfl dX9_pass_27 h (fun r27 μ27 h => ?_)
    refine x_istore C (L' := [(5, .int r27), (4, .int ((r10 - r10 / (12 : Int32) * (12 : Int32)))), (0, .ref (ga G o)), (1, .int v1), (2, .int v2), (3, .int v3)]) dX9_pass_30 (by decide) rfl ?_
    refine x_aload_n C 2 dX9_pass_32 rfl rfl ?_
    refine i_RX9_76 (rest := []) C hn hk_o rfl (by decide) rfl dX9_pass_33 h (fun r33 μ33 h => ?_)
    refine x_bipush C dX9_pass_36 (v := 7) (by decide) ?_
    refine x_irem C dX9_pass_38 h (fun h => ?_)
    refine x_istore C (L' := [(6, .int ((r33 - r33 / (7 : Int32) * (7 : Int32)))), (5, .int r27), (4, .int ((r10 - r10 / (12 : Int32) * (12 : Int32)))), (0, .ref (ga G o)), (1, .int v1), (2, .int v2), (3, .int v3)]) dX9_pass_39 (by decide) rfl ?_
    refine x_aload_n C 3 dX9_pass_41 rfl rfl ?_
    refine g_RX9_12 C hn hk_o dX9_pass_42 ?_
    refine i_RX9_84 (rest := []) C hn (qn_8_1 hk_o) rfl (by decide) rfl dX9_pass_45 h (fun r45 μ45 h => ?_)
    refine x_if_ne C dX9_pass_48 (tgt := 86) (by decide) h (fun h => ?_) (fun h => ?_)
    · exact qV_sub [3, 4, 5, 6] rfl (b_X9_pass_86 C hQ hn hk_o (fun _ _ _ h => h) h)
    · refine x_aload_n C 3 dX9_pass_51 rfl rfl ?_
      refine g_RX9_25 C hn hk_o dX9_pass_52 ?_
      refine x_iload C 0 dX9_pass_55 rfl ?_
      refine i_RX9_62 (rest := [.int ((μ45 o 3))]) C hn  rfl (by decide) rfl dX9_pass_57 h (fun r57 μ57 h => ?_)
      refine x_icmp_lt C dX9_pass_60 (tgt := 86) (by decide) h (fun h => ?_) (fun h => ?_)
      · exact qV_sub [3, 4, 5, 6] rfl (b_X9_pass_86 C hQ hn hk_o (fun _ _ _ h => h) h)
      · refine x_aload_n C 3 dX9_pass_63 rfl rfl ?_
        refine g_RX9_12 C hn hk_o dX9_pass_64 ?_
        refine x_iload C 1 dX9_pass_67 rfl ?_
        refine i_RX9_41 (rest := []) C hn (qn_8_1 hk_o) rfl (by decide) rfl dX9_pass_69 h (fun r69 μ69 h => ?_)
        refine x_if_eq C dX9_pass_72 (tgt := 86) (by decide) h (fun h => ?_) (fun h => ?_)
        · exact qV_sub [3, 4, 5, 6] rfl (b_X9_pass_86 C hQ hn hk_o (fun _ _ _ h => h) h)
        · refine x_aload_n C 3 dX9_pass_75 rfl rfl ?_
          refine x_iload C 0 dX9_pass_76 rfl ?_
          refine x_iload C 1 dX9_pass_78 rfl ?_
          refine i_RX9_88 (rest := []) C hn hk_o rfl (by decide) rfl dX9_pass_80 h (fun μ80 h => ?_)
          refine x_iinc C 5 (v := 1) (L' := [(2, .int ((v2 + 1))), (6, .int ((r33 - r33 / (7 : Int32) * (7 : Int32)))), (5, .int r27), (4, .int ((r10 - r10 / (12 : Int32) * (12 : Int32)))), (0, .ref (ga G o)), (1, .int v1), (3, .int v3)]) dX9_pass_83 rfl (by decide) (by decide) rfl ?_
          exact qV_sub [4, 5, 0, 6] rfl (b_X9_pass_86 C hQ hn hk_o (fun _ _ _ h => h) h)
theorem y_X9_pass : qY yX9_pass cX9_pass 7 (some .int) 1 ({ frames := 5, cells := 0, slots := 0, locals := 118 } : Room) 0 0 := ⟨(qm_32 _ (List.mem_of_getElem? (i := 9) rfl)), (qm_1 _ (List.mem_of_getElem? (i := 14) rfl)), by decide +kernel, by decide +kernel, rfl, rfl⟩
theorem c_X9_pass (l : Launch) (G : qG) {o : Nat} {v1 : Int32} {μ : qM} (hn : 66 ≤ gn G) (hk_o : qk o = 8) : qCi l G yX9_pass cX9_pass 7 (some .int) ({ frames := 5, cells := 0, slots := 0, locals := 118 } : Room) 0 0 [.ref (ga G o), .int v1] μ (fun post => w_X9_pass o v1 post μ) := by
  refine qCi_of (L := [(0, .ref (ga G o)), (1, .int v1)]) (by decide) rfl rfl ?_
  intro Z post hl C hQ h
  have C : qX Z G RX9 cX9_pass 7 ({ frames := 5, cells := 0, slots := 0, locals := 118 } : Room) (some .int) := C
  have h : w_X9_pass o v1 post μ := h
  unfold w_X9_pass at h
  refine x_iconst C dX9_pass_0 (v := 0) (by decide) ?_
  refine x_istore_n C (L' := [(2, .int ((0 : Int32))), (0, .ref (ga G o)), (1, .int v1)]) dX9_pass_1 rfl (by decide) rfl ?_
  refine x_iconst C dX9_pass_2 (v := 0) (by decide) ?_
  refine x_istore_n C (L' := [(3, .int ((0 : Int32))), (2, .int ((0 : Int32))), (0, .ref (ga G o)), (1, .int v1)]) dX9_pass_3 rfl (by decide) rfl ?_
  exact qV_sub [2, 3, 1, 0] rfl (b_X9_pass_4 C hQ hn hk_o h)
theorem dX9_strewOne_0 : decode cX9_strewOne 0 = .ok (.aload_n 0, 1) := by decide +kernel
theorem dX9_strewOne_1 : decode cX9_strewOne 1 = .ok (.getfield 12, 3) := by decide +kernel
theorem dX9_strewOne_4 : decode cX9_strewOne 4 = .ok (.invokevirtual 91, 3) := by decide +kernel
theorem dX9_strewOne_7 : decode cX9_strewOne 7 = .ok (.ifCond .le 45, 3) := by decide +kernel
theorem dX9_strewOne_10 : decode cX9_strewOne 10 = .ok (.aload_n 0, 1) := by decide +kernel
theorem dX9_strewOne_11 : decode cX9_strewOne 11 = .ok (.invokevirtual 76, 3) := by decide +kernel
theorem dX9_strewOne_14 : decode cX9_strewOne 14 = .ok (.aload_n 0, 1) := by decide +kernel
theorem dX9_strewOne_15 : decode cX9_strewOne 15 = .ok (.getfield 12, 3) := by decide +kernel
theorem dX9_strewOne_18 : decode cX9_strewOne 18 = .ok (.invokevirtual 91, 3) := by decide +kernel
theorem dX9_strewOne_21 : decode cX9_strewOne 21 = .ok (.irem, 1) := by decide +kernel
theorem dX9_strewOne_22 : decode cX9_strewOne 22 = .ok (.istore_n 1, 1) := by decide +kernel
theorem dX9_strewOne_23 : decode cX9_strewOne 23 = .ok (.aload_n 0, 1) := by decide +kernel
theorem dX9_strewOne_24 : decode cX9_strewOne 24 = .ok (.invokevirtual 76, 3) := by decide +kernel
theorem dX9_strewOne_27 : decode cX9_strewOne 27 = .ok (.sipush 144, 3) := by decide +kernel
theorem dX9_strewOne_30 : decode cX9_strewOne 30 = .ok (.irem, 1) := by decide +kernel
theorem dX9_strewOne_31 : decode cX9_strewOne 31 = .ok (.istore_n 2, 1) := by decide +kernel
theorem dX9_strewOne_32 : decode cX9_strewOne 32 = .ok (.aload_n 0, 1) := by decide +kernel
theorem dX9_strewOne_33 : decode cX9_strewOne 33 = .ok (.getfield 12, 3) := by decide +kernel
theorem dX9_strewOne_36 : decode cX9_strewOne 36 = .ok (.iload_n 2, 1) := by decide +kernel
theorem dX9_strewOne_37 : decode cX9_strewOne 37 = .ok (.invokevirtual 94, 3) := by decide +kernel
theorem dX9_strewOne_40 : decode cX9_strewOne 40 = .ok (.ifCond .ne 12, 3) := by decide +kernel
theorem dX9_strewOne_43 : decode cX9_strewOne 43 = .ok (.aload_n 0, 1) := by decide +kernel
theorem dX9_strewOne_44 : decode cX9_strewOne 44 = .ok (.getfield 12, 3) := by decide +kernel
theorem dX9_strewOne_47 : decode cX9_strewOne 47 = .ok (.iload_n 1, 1) := by decide +kernel
theorem dX9_strewOne_48 : decode cX9_strewOne 48 = .ok (.iload_n 2, 1) := by decide +kernel
theorem dX9_strewOne_49 : decode cX9_strewOne 49 = .ok (.invokevirtual 97, 3) := by decide +kernel
theorem dX9_strewOne_52 : decode cX9_strewOne 52 = .ok (.return_, 1) := by decide +kernel
theorem i_RX9_91 {Z : qZ} {G : qG} {cc : ByteArray} {nL k n : Nat} {rm : Room} {ret : Option FieldType} {μ : qM} {pc : Nat} {L : List (Nat × Value)} {rest : List Value} {K : Int32 → qM → Prop} {o : Nat} (C : qX Z G RX9 cc nL rm ret) (hn : 66 ≤ gn G) (hk_o : qk o = 1) (hR : (Nat.ble (0 + 1) rm.frames && Nat.ble (8 + (1 + 11) + 0) rm.locals) = true) (hf : k + 0 ≤ rm.cells ∧ n + 0 ≤ rm.slots) (hsz : Nat.ble (rest.map fun v => v.category).sum 8 = true) (hd : decode cc pc = .ok (.invokevirtual 91, 3)) (h : w_X1_size o K μ) (hk : ∀ (r : Int32) (μ1 : qM), K r μ1 → qV Z G nL k n μ1 (pc + 3) L (.int r :: rest)) : qV Z G nL k n μ pc L (.ref (ga G o) :: rest) := x_Vi [] rest C o 1 (wp := fun K => w_X1_size o K μ) (y_X1_size : qY yX1_size cX1_size 1 (some .int) 0 ({ frames := 0, cells := 0, slots := 0, locals := 0 } : Room) 0 0) (qm_8 _ (List.mem_of_getElem? (i := 5) rfl)) (qm_8 _ (List.mem_of_getElem? (i := 6) rfl)) (qm_35 _ (List.mem_of_getElem? (i := 4) rfl)) (c_X1_size Z.2.1 G hn hk_o) (q_lt hk_o rfl hn) hk_o (by decide) rfl rfl hR hf rfl rfl hsz hd h hk
theorem i_RX9_94 {Z : qZ} {G : qG} {cc : ByteArray} {nL k n : Nat} {rm : Room} {ret : Option FieldType} {μ : qM} {pc : Nat} {L : List (Nat × Value)} {rest : List Value} {K : Int32 → qM → Prop} {o : Nat} {v1 : Int32} (C : qX Z G RX9 cc nL rm ret) (hn : 66 ≤ gn G) (hk_o : qk o = 1) (hR : (Nat.ble (0 + 1) rm.frames && Nat.ble (8 + (3 + 11) + 0) rm.locals) = true) (hf : k + 0 ≤ rm.cells ∧ n + 0 ≤ rm.slots) (hsz : Nat.ble (rest.map fun v => v.category).sum 8 = true) (hd : decode cc pc = .ok (.invokevirtual 94, 3)) (h : w_X1_stands o v1 K μ) (hk : ∀ (r : Int32) (μ1 : qM), K r μ1 → qV Z G nL k n μ1 (pc + 3) L (.int r :: rest)) : qV Z G nL k n μ pc L (.int v1 :: .ref (ga G o) :: rest) := x_Vi [.int v1] rest C o 1 (wp := fun K => w_X1_stands o v1 K μ) (y_X1_stands : qY yX1_stands cX1_stands 3 (some .boolean) 1 ({ frames := 0, cells := 0, slots := 0, locals := 0 } : Room) 0 0) (qm_7 _ (List.mem_of_getElem? (i := 16) rfl)) (qm_7 _ (List.mem_of_getElem? (i := 17) rfl)) (qm_35 _ (List.mem_of_getElem? (i := 5) rfl)) (c_X1_stands Z.2.1 G hn hk_o) (q_lt hk_o rfl hn) hk_o (by decide) rfl rfl hR hf rfl rfl hsz hd h hk
theorem i_RX9_97 {Z : qZ} {G : qG} {cc : ByteArray} {nL k n : Nat} {rm : Room} {ret : Option FieldType} {μ : qM} {pc : Nat} {L : List (Nat × Value)} {rest : List Value} {K : qM → Prop} {o : Nat} {v1 : Int32} {v2 : Int32} (C : qX Z G RX9 cc nL rm ret) (hn : 66 ≤ gn G) (hk_o : qk o = 1) (hR : (Nat.ble (1 + 1) rm.frames && Nat.ble (8 + (3 + 11) + 21) rm.locals) = true) (hf : k + 0 ≤ rm.cells ∧ n + 0 ≤ rm.slots) (hsz : Nat.ble (rest.map fun v => v.category).sum 8 = true) (hd : decode cc pc = .ok (.invokevirtual 97, 3)) (h : w_X1_move o v1 v2 K μ) (hk : ∀ (μ1 : qM), K μ1 → qV Z G nL k n μ1 (pc + 3) L rest) : qV Z G nL k n μ pc L (.int v2 :: .int v1 :: .ref (ga G o) :: rest) := x_Vv [.int v1, .int v2] rest C o 1 (wp := fun K => w_X1_move o v1 v2 K μ) (y_X1_move : qY yX1_move cX1_move 3 none 2 ({ frames := 1, cells := 0, slots := 0, locals := 21 } : Room) 0 0) (qm_35 _ (List.mem_of_getElem? (i := 7) rfl)) (qm_35 _ (List.mem_of_getElem? (i := 8) rfl)) (qm_35 _ (List.mem_of_getElem? (i := 6) rfl)) (c_X1_move Z.2.1 G hn hk_o) (q_lt hk_o rfl hn) hk_o (by decide) rfl rfl hR hf rfl rfl hsz hd h hk
theorem y_X9_strewOne : qY yX9_strewOne cX9_strewOne 3 none 0 ({ frames := 2, cells := 0, slots := 0, locals := 43 } : Room) 0 0 := ⟨(qm_35 _ (List.mem_of_getElem? (i := 3) rfl)), (qm_1 _ (List.mem_of_getElem? (i := 14) rfl)), by decide +kernel, by decide +kernel, rfl, rfl⟩
theorem c_X9_strewOne (l : Launch) (G : qG) {o : Nat} {μ : qM} (hn : 66 ≤ gn G) (hk_o : qk o = 8) : qCv l G yX9_strewOne cX9_strewOne 3 none ({ frames := 2, cells := 0, slots := 0, locals := 43 } : Room) 0 0 [.ref (ga G o)] μ (fun post => w_X9_strewOne o post μ) := by
  refine qCv_of (L := [(0, .ref (ga G o))]) (by decide) rfl rfl ?_
  intro Z post hl C hQ h
  have C : qX Z G RX9 cX9_strewOne 3 ({ frames := 2, cells := 0, slots := 0, locals := 43 } : Room) none := C
  have h : w_X9_strewOne o post μ := h
  unfold w_X9_strewOne at h
  refine x_aload_n C 0 dX9_strewOne_0 rfl rfl ?_
  refine g_RX9_12 C hn hk_o dX9_strewOne_1 ?_
  refine i_RX9_91 (rest := []) C hn (qn_8_1 hk_o) rfl (by decide) rfl dX9_strewOne_4 h (fun r4 μ4 h => ?_)
  refine x_if_le C dX9_strewOne_7 (tgt := 52) (by decide) h (fun h => ?_) (fun h => ?_)
  · exact x_vret C hQ dX9_strewOne_52 h
  · refine x_aload_n C 0 dX9_strewOne_10 rfl rfl ?_
    refine i_RX9_76 (rest := []) C hn hk_o rfl (by decide) rfl dX9_strewOne_11 h (fun r11 μ11 h => ?_)
    refine x_aload_n C 0 dX9_strewOne_14 rfl rfl ?_
    refine g_RX9_12 C hn hk_o dX9_strewOne_15 ?_
    refine i_RX9_91 (rest := [.int r11]) C hn (qn_8_1 hk_o) rfl (by decide) rfl dX9_strewOne_18 h (fun r18 μ18 h => ?_)
    refine x_irem C dX9_strewOne_21 h (fun h => ?_)
    refine x_istore_n C (L' := [(1, .int ((r11 - r11 / r18 * r18))), (0, .ref (ga G o))]) dX9_strewOne_22 rfl (by decide) rfl ?_
    refine x_aload_n C 1 dX9_strewOne_23 rfl rfl ?_
    refine i_RX9_76 (rest := []) C hn hk_o rfl (by decide) rfl dX9_strewOne_24 h (fun r24 μ24 h => ?_)
    refine x_sipush C dX9_strewOne_27 (v := 144) (by decide) ?_
    refine x_irem C dX9_strewOne_30 h (fun h => ?_)
    refine x_istore_n C (L' := [(2, .int ((r24 - r24 / (144 : Int32) * (144 : Int32)))), (1, .int ((r11 - r11 / r18 * r18))), (0, .ref (ga G o))]) dX9_strewOne_31 rfl (by decide) rfl ?_
    refine x_aload_n C 2 dX9_strewOne_32 rfl rfl ?_
    refine g_RX9_12 C hn hk_o dX9_strewOne_33 ?_
    refine x_iload_n C 0 dX9_strewOne_36 rfl rfl ?_
    refine i_RX9_94 (rest := []) C hn (qn_8_1 hk_o) rfl (by decide) rfl dX9_strewOne_37 h (fun r37 μ37 h => ?_)
    refine x_if_ne C dX9_strewOne_40 (tgt := 52) (by decide) h (fun h => ?_) (fun h => ?_)
    · exact x_vret C hQ dX9_strewOne_52 h
    · refine x_aload_n C 2 dX9_strewOne_43 rfl rfl ?_
      refine g_RX9_12 C hn hk_o dX9_strewOne_44 ?_
      refine x_iload_n C 1 dX9_strewOne_47 rfl rfl ?_
      refine x_iload_n C 0 dX9_strewOne_48 rfl rfl ?_
      refine i_RX9_97 (rest := []) C hn (qn_8_1 hk_o) rfl (by decide) rfl dX9_strewOne_49 h (fun μ49 h => ?_)
      exact x_vret C hQ dX9_strewOne_52 h
