theorem dX11_years_0 : decode cX11_years 0 = .ok (.iload_n 1, 1) := by decide +kernel
theorem dX11_years_1 : decode cX11_years 1 = .ok (.iconst 1, 1) := by decide +kernel
theorem dX11_years_2 : decode cX11_years 2 = .ok (.bipush 60, 2) := by decide +kernel
theorem dX11_years_4 : decode cX11_years 4 = .ok (.invokestatic 79, 3) := by decide +kernel
theorem dX11_years_7 : decode cX11_years 7 = .ok (.ifCond .ne 9, 3) := by decide +kernel
theorem dX11_years_10 : decode cX11_years 10 = .ok (.aload_n 0, 1) := by decide +kernel
theorem dX11_years_11 : decode cX11_years 11 = .ok (.iconst 0, 1) := by decide +kernel
theorem dX11_years_12 : decode cX11_years 12 = .ok (.invokevirtual 119, 3) := by decide +kernel
theorem dX11_years_15 : decode cX11_years 15 = .ok (.ireturn, 1) := by decide +kernel
theorem dX11_years_16 : decode cX11_years 16 = .ok (.aload_n 0, 1) := by decide +kernel
theorem dX11_years_17 : decode cX11_years 17 = .ok (.getfield 201, 3) := by decide +kernel
theorem dX11_years_20 : decode cX11_years 20 = .ok (.iload_n 1, 1) := by decide +kernel
theorem dX11_years_21 : decode cX11_years 21 = .ok (.iadd, 1) := by decide +kernel
theorem dX11_years_22 : decode cX11_years 22 = .ok (.sipush 9999, 3) := by decide +kernel
theorem dX11_years_25 : decode cX11_years 25 = .ok (.if_icmp .le 9, 3) := by decide +kernel
theorem dX11_years_28 : decode cX11_years 28 = .ok (.aload_n 0, 1) := by decide +kernel
theorem dX11_years_29 : decode cX11_years 29 = .ok (.iconst 4, 1) := by decide +kernel
theorem dX11_years_30 : decode cX11_years 30 = .ok (.invokevirtual 119, 3) := by decide +kernel
theorem dX11_years_33 : decode cX11_years 33 = .ok (.ireturn, 1) := by decide +kernel
theorem dX11_years_34 : decode cX11_years 34 = .ok (.iconst 0, 1) := by decide +kernel
theorem dX11_years_35 : decode cX11_years 35 = .ok (.istore_n 2, 1) := by decide +kernel
theorem dX11_years_36 : decode cX11_years 36 = .ok (.iconst 0, 1) := by decide +kernel
theorem dX11_years_37 : decode cX11_years 37 = .ok (.istore_n 3, 1) := by decide +kernel
theorem dX11_years_38 : decode cX11_years 38 = .ok (.iload_n 3, 1) := by decide +kernel
theorem dX11_years_39 : decode cX11_years 39 = .ok (.iload_n 1, 1) := by decide +kernel
theorem dX11_years_40 : decode cX11_years 40 = .ok (.if_icmp .ge 24, 3) := by decide +kernel
theorem dX11_years_43 : decode cX11_years 43 = .ok (.iload_n 2, 1) := by decide +kernel
theorem dX11_years_44 : decode cX11_years 44 = .ok (.aload_n 0, 1) := by decide +kernel
theorem dX11_years_45 : decode cX11_years 45 = .ok (.invokevirtual 204, 3) := by decide +kernel
theorem dX11_years_48 : decode cX11_years 48 = .ok (.ifCond .eq 7, 3) := by decide +kernel
theorem dX11_years_51 : decode cX11_years 51 = .ok (.iconst 1, 1) := by decide +kernel
theorem dX11_years_52 : decode cX11_years 52 = .ok (.goto 4, 3) := by decide +kernel
theorem dX11_years_55 : decode cX11_years 55 = .ok (.iconst 0, 1) := by decide +kernel
theorem dX11_years_56 : decode cX11_years 56 = .ok (.iadd, 1) := by decide +kernel
theorem dX11_years_57 : decode cX11_years 57 = .ok (.istore_n 2, 1) := by decide +kernel
theorem dX11_years_58 : decode cX11_years 58 = .ok (.iinc 3 1, 3) := by decide +kernel
theorem dX11_years_61 : decode cX11_years 61 = .ok (.goto (-23), 3) := by decide +kernel
theorem dX11_years_64 : decode cX11_years 64 = .ok (.iload_n 2, 1) := by decide +kernel
theorem dX11_years_65 : decode cX11_years 65 = .ok (.ireturn, 1) := by decide +kernel
theorem i_RX11_204 {Z : qZ} {G : qG} {cc : ByteArray} {nL k n : Nat} {rm : Room} {ret : Option FieldType} {μ : qM} {pc : Nat} {L : List (Nat × Value)} {rest : List Value} {K : Int32 → qM → Prop} (C : qX Z G RX11 cc nL rm ret) (hn : 66 ≤ gn G) (hR : (Nat.ble (6 + 1) rm.frames && Nat.ble (8 + (5 + 11) + 136) rm.locals) = true) (hf : k + 0 ≤ rm.cells ∧ n + 0 ≤ rm.slots) (hsz : Nat.ble (rest.map fun v => v.category).sum 8 = true) (hd : decode cc pc = .ok (.invokevirtual 204, 3)) (h : w_X11_aYear  K μ) (hk : ∀ (r : Int32) (μ1 : qM), K r μ1 → qV Z G nL k n μ1 (pc + 3) L (.int r :: rest)) : qV Z G nL k n μ pc L (.ref (ga G 46) :: rest) := x_Vi [] rest C 46 10 (wp := fun K => w_X11_aYear  K μ) (y_X11_aYear : qY yX11_aYear cX11_aYear 5 (some .boolean) 0 ({ frames := 6, cells := 0, slots := 0, locals := 136 } : Room) 0 0) (qm_32 _ (List.mem_of_getElem? (i := 23) rfl)) (qm_33 _ (List.mem_of_getElem? (i := 0) rfl)) (qm_32 _ (List.mem_of_getElem? (i := 22) rfl)) (c_X11_aYear Z.2.1 G hn ) (Nat.lt_of_lt_of_le (by decide) hn) rfl (by decide) rfl rfl hR hf rfl rfl hsz hd h hk
theorem b_X11_years_56 {Z : qZ} {G : qG} {v1 : Int32} {v3 : Int32} {s0 : Int32} {s1 : Int32} {μ : qM} {P38 : Int32 → Int32 → qM → Prop} {post : Int32 → qM → Prop} (C : qX Z G RX11 cX11_years 4 ({ frames := 7, cells := 0, slots := 0, locals := 160 } : Room) (some .int)) (hQ : qQi Z G 0 0 post) (hn : 66 ≤ gn G) (hP38 : ∀ (b2 : Int32) (b3 : Int32) (μ1 : qM), P38 b2 b3 μ1 → qV Z G 4 0 0 μ1 38 [(0, .ref (ga G 46)), (1, .int v1), (2, .int b2), (3, .int b3)] []) (h : q_X11_years_56 P38 post v1 v3 s0 s1 μ) : qV Z G 4 0 0 μ 56 [(0, .ref (ga G 46)), (1, .int v1), (3, .int v3)] [.int s0, .int s1] := by
  unfold q_X11_years_56 at h
  refine x_iadd C dX11_years_56 ?_
  refine x_istore_n C (L' := [(2, .int ((s1 + s0))), (0, .ref (ga G 46)), (1, .int v1), (3, .int v3)]) dX11_years_57 rfl (by decide) rfl ?_
  refine x_iinc C 3 (v := 1) (L' := [(3, .int ((v3 + 1))), (2, .int ((s1 + s0))), (0, .ref (ga G 46)), (1, .int v1)]) dX11_years_58 rfl (by decide) (by decide) rfl ?_
  refine x_goto C dX11_years_61 (tgt := 38) (by decide) ?_
  exact qV_sub [2, 3, 1, 0] rfl ((hP38 _ _ _ h))
theorem b_X11_years_38 {Z : qZ} {G : qG} {v1 : Int32} {v2 : Int32} {v3 : Int32} {μ : qM} {post : Int32 → qM → Prop} (C : qX Z G RX11 cX11_years 4 ({ frames := 7, cells := 0, slots := 0, locals := 160 } : Room) (some .int)) (hQ : qQi Z G 0 0 post) (hn : 66 ≤ gn G) (h : q_X11_years_38 v1 post v2 v3 μ) : qV Z G 4 0 0 μ 38 [(0, .ref (ga G 46)), (1, .int v1), (2, .int v2), (3, .int v3)] [] := by
  refine h (fun v2 v3 μ => qV Z G 4 0 0 μ 38 [(0, .ref (ga G 46)), (1, .int v1), (2, .int v2), (3, .int v3)] []) (fun v2 v3 μ h => ?_)
  refine x_iload_n C 3 dX11_years_38 rfl rfl ?_
  refine x_iload_n C 1 dX11_years_39 rfl rfl ?_
  refine x_icmp_ge C dX11_years_40 (tgt := 64) (by decide) h (fun h => ?_) (fun h => ?_)
  · refine x_iload_n C 2 dX11_years_64 rfl rfl ?_
    exact x_iret C hQ dX11_years_65 h
  · refine x_iload_n C 2 dX11_years_43 rfl rfl ?_
    refine x_aload_n C 0 dX11_years_44 rfl rfl ?_
    refine i_RX11_204 (rest := [.int v2]) C hn  rfl (by decide) rfl dX11_years_45 h (fun r45 μ45 h => ?_)
    refine x_if_eq C dX11_years_48 (tgt := 55) (by decide) h (fun h => ?_) (fun h => ?_)
    · refine x_iconst C dX11_years_55 (v := 0) (by decide) ?_
      exact qV_sub [0, 1, 3] rfl (b_X11_years_56 C hQ hn (fun _ _ _ h => h) h)
    · refine x_iconst C dX11_years_51 (v := 1) (by decide) ?_
      refine x_goto C dX11_years_52 (tgt := 56) (by decide) ?_
      exact qV_sub [0, 1, 3] rfl (b_X11_years_56 C hQ hn (fun _ _ _ h => h) h)
theorem y_X11_years : qY yX11_years cX11_years 4 (some .int) 1 ({ frames := 7, cells := 0, slots := 0, locals := 160 } : Room) 0 0 := ⟨(qm_32 _ (List.mem_of_getElem? (i := 20) rfl)), (qm_1 _ (List.mem_of_getElem? (i := 5) rfl)), by decide +kernel, by decide +kernel, rfl, rfl⟩
theorem c_X11_years (l : Launch) (G : qG) {v1 : Int32} {μ : qM} (hn : 66 ≤ gn G) : qCi l G yX11_years cX11_years 4 (some .int) ({ frames := 7, cells := 0, slots := 0, locals := 160 } : Room) 0 0 [.ref (ga G 46), .int v1] μ (fun post => w_X11_years v1 post μ) := by
  refine qCi_of (L := [(0, .ref (ga G 46)), (1, .int v1)]) (by decide) rfl rfl ?_
  intro Z post hl C hQ h
  have C : qX Z G RX11 cX11_years 4 ({ frames := 7, cells := 0, slots := 0, locals := 160 } : Room) (some .int) := C
  have h : w_X11_years v1 post μ := h
  unfold w_X11_years at h
  refine x_iload_n C 1 dX11_years_0 rfl rfl ?_
  refine x_iconst C dX11_years_1 (v := 1) (by decide) ?_
  refine x_bipush C dX11_years_2 (v := 60) (by decide) ?_
  refine i_RX11_79 (rest := []) C hn  rfl (by decide) rfl dX11_years_4 h (fun r4 μ4 h => ?_)
  refine x_if_ne C dX11_years_7 (tgt := 16) (by decide) h (fun h => ?_) (fun h => ?_)
  · refine x_aload_n C 0 dX11_years_16 rfl rfl ?_
    refine g_RX11_201 C hn dX11_years_17 ?_
    refine x_iload_n C 1 dX11_years_20 rfl rfl ?_
    refine x_iadd C dX11_years_21 ?_
    refine x_sipush C dX11_years_22 (v := 9999) (by decide) ?_
    refine x_icmp_le C dX11_years_25 (tgt := 34) (by decide) h (fun h => ?_) (fun h => ?_)
    · refine x_iconst C dX11_years_34 (v := 0) (by decide) ?_
      refine x_istore_n C (L' := [(2, .int ((0 : Int32))), (0, .ref (ga G 46)), (1, .int v1)]) dX11_years_35 rfl (by decide) rfl ?_
      refine x_iconst C dX11_years_36 (v := 0) (by decide) ?_
      refine x_istore_n C (L' := [(3, .int ((0 : Int32))), (2, .int ((0 : Int32))), (0, .ref (ga G 46)), (1, .int v1)]) dX11_years_37 rfl (by decide) rfl ?_
      exact qV_sub [2, 3, 1, 0] rfl (b_X11_years_38 C hQ hn h)
    · refine x_aload_n C 0 dX11_years_28 rfl rfl ?_
      refine x_iconst C dX11_years_29 (v := 4) (by decide) ?_
      refine i_RX11_119 (rest := []) C hn  rfl (by decide) rfl dX11_years_30 h (fun r30 μ30 h => ?_)
      exact x_iret C hQ dX11_years_33 h
  · refine x_aload_n C 0 dX11_years_10 rfl rfl ?_
    refine x_iconst C dX11_years_11 (v := 0) (by decide) ?_
    refine i_RX11_119 (rest := []) C hn  rfl (by decide) rfl dX11_years_12 h (fun r12 μ12 h => ?_)
    exact x_iret C hQ dX11_years_15 h
theorem dX11_marks_0 : decode cX11_marks 0 = .ok (.aload_n 0, 1) := by decide +kernel
theorem dX11_marks_1 : decode cX11_marks 1 = .ok (.aload_n 0, 1) := by decide +kernel
theorem dX11_marks_2 : decode cX11_marks 2 = .ok (.getfield 76, 3) := by decide +kernel
theorem dX11_marks_5 : decode cX11_marks 5 = .ok (.putfield 208, 3) := by decide +kernel
theorem dX11_marks_8 : decode cX11_marks 8 = .ok (.aload_n 0, 1) := by decide +kernel
theorem dX11_marks_9 : decode cX11_marks 9 = .ok (.aload_n 0, 1) := by decide +kernel
theorem dX11_marks_10 : decode cX11_marks 10 = .ok (.getfield 22, 3) := by decide +kernel
theorem dX11_marks_13 : decode cX11_marks 13 = .ok (.putfield 211, 3) := by decide +kernel
theorem dX11_marks_16 : decode cX11_marks 16 = .ok (.aload_n 0, 1) := by decide +kernel
theorem dX11_marks_17 : decode cX11_marks 17 = .ok (.aload_n 0, 1) := by decide +kernel
theorem dX11_marks_18 : decode cX11_marks 18 = .ok (.getfield 201, 3) := by decide +kernel
theorem dX11_marks_21 : decode cX11_marks 21 = .ok (.putfield 214, 3) := by decide +kernel
theorem dX11_marks_24 : decode cX11_marks 24 = .ok (.aload_n 0, 1) := by decide +kernel
theorem dX11_marks_25 : decode cX11_marks 25 = .ok (.aload_n 0, 1) := by decide +kernel
theorem dX11_marks_26 : decode cX11_marks 26 = .ok (.getfield 26, 3) := by decide +kernel
theorem dX11_marks_29 : decode cX11_marks 29 = .ok (.putfield 217, 3) := by decide +kernel
theorem dX11_marks_32 : decode cX11_marks 32 = .ok (.return_, 1) := by decide +kernel
theorem p_RX11_208 {Z : qZ} {G : qG} {cc : ByteArray} {nL k n : Nat} {rm : Room} {ret : Option FieldType} {μ : qM} {pc : Nat} {L : List (Nat × Value)} {st : List Value} {x : Int32} (C : qX Z G RX11 cc nL rm ret) (hn : 66 ≤ gn G) (hd : decode cc pc = .ok (.putfield 208, 3)) (h : qV Z G nL k n (qu μ 46 27 x) (pc + 3) L st) : qV Z G nL k n μ pc L (.int x :: .ref (ga G 46) :: st) := x_puti C 46 10 27 (C0 := RX11) (fn := "wasMany") (fd := "I") (ty := .int) (Nat.lt_of_lt_of_le (by decide) hn) rfl (by decide) rfl (by decide) rfl inlX11 tyX11_ok nmX11 (qm_34 _ (List.mem_of_getElem? (i := 4) rfl)) rfl (by decide +kernel) rfl rfl hd h
theorem p_RX11_211 {Z : qZ} {G : qG} {cc : ByteArray} {nL k n : Nat} {rm : Room} {ret : Option FieldType} {μ : qM} {pc : Nat} {L : List (Nat × Value)} {st : List Value} {x : Int32} (C : qX Z G RX11 cc nL rm ret) (hn : 66 ≤ gn G) (hd : decode cc pc = .ok (.putfield 211, 3)) (h : qV Z G nL k n (qu μ 46 28 x) (pc + 3) L st) : qV Z G nL k n μ pc L (.int x :: .ref (ga G 46) :: st) := x_puti C 46 10 28 (C0 := RX11) (fn := "wasCoin") (fd := "I") (ty := .int) (Nat.lt_of_lt_of_le (by decide) hn) rfl (by decide) rfl (by decide) rfl inlX11 tyX11_ok nmX11 (qm_34 _ (List.mem_of_getElem? (i := 5) rfl)) rfl (by decide +kernel) rfl rfl hd h
theorem p_RX11_214 {Z : qZ} {G : qG} {cc : ByteArray} {nL k n : Nat} {rm : Room} {ret : Option FieldType} {μ : qM} {pc : Nat} {L : List (Nat × Value)} {st : List Value} {x : Int32} (C : qX Z G RX11 cc nL rm ret) (hn : 66 ≤ gn G) (hd : decode cc pc = .ok (.putfield 214, 3)) (h : qV Z G nL k n (qu μ 46 29 x) (pc + 3) L st) : qV Z G nL k n μ pc L (.int x :: .ref (ga G 46) :: st) := x_puti C 46 10 29 (C0 := RX11) (fn := "wasYear") (fd := "I") (ty := .int) (Nat.lt_of_lt_of_le (by decide) hn) rfl (by decide) rfl (by decide) rfl inlX11 tyX11_ok nmX11 (qm_34 _ (List.mem_of_getElem? (i := 6) rfl)) rfl (by decide +kernel) rfl rfl hd h
theorem p_RX11_217 {Z : qZ} {G : qG} {cc : ByteArray} {nL k n : Nat} {rm : Room} {ret : Option FieldType} {μ : qM} {pc : Nat} {L : List (Nat × Value)} {st : List Value} {x : Int32} (C : qX Z G RX11 cc nL rm ret) (hn : 66 ≤ gn G) (hd : decode cc pc = .ok (.putfield 217, 3)) (h : qV Z G nL k n (qu μ 46 30 x) (pc + 3) L st) : qV Z G nL k n μ pc L (.int x :: .ref (ga G 46) :: st) := x_puti C 46 10 30 (C0 := RX11) (fn := "wasZ") (fd := "I") (ty := .int) (Nat.lt_of_lt_of_le (by decide) hn) rfl (by decide) rfl (by decide) rfl inlX11 tyX11_ok nmX11 (qm_34 _ (List.mem_of_getElem? (i := 7) rfl)) rfl (by decide +kernel) rfl rfl hd h
theorem y_X11_marks : qY yX11_marks cX11_marks 1 none 0 ({ frames := 0, cells := 0, slots := 0, locals := 0 } : Room) 0 0 := ⟨(qm_34 _ (List.mem_of_getElem? (i := 3) rfl)), (qm_1 _ (List.mem_of_getElem? (i := 5) rfl)), by decide +kernel, by decide +kernel, rfl, rfl⟩
theorem c_X11_marks (l : Launch) (G : qG) {μ : qM} (hn : 66 ≤ gn G) : qCv l G yX11_marks cX11_marks 1 none ({ frames := 0, cells := 0, slots := 0, locals := 0 } : Room) 0 0 [.ref (ga G 46)] μ (fun post => w_X11_marks  post μ) := by
  refine qCv_of (L := [(0, .ref (ga G 46))]) (by decide) rfl rfl ?_
  intro Z post hl C hQ h
  have C : qX Z G RX11 cX11_marks 1 ({ frames := 0, cells := 0, slots := 0, locals := 0 } : Room) none := C
  have h : w_X11_marks  post μ := h
  unfold w_X11_marks at h
  refine x_aload_n C 0 dX11_marks_0 rfl rfl ?_
  refine x_aload_n C 0 dX11_marks_1 rfl rfl ?_
  refine g_RX11_76 C hn dX11_marks_2 ?_
  refine p_RX11_208 C hn dX11_marks_5 ?_
  refine x_aload_n C 0 dX11_marks_8 rfl rfl ?_
  refine x_aload_n C 0 dX11_marks_9 rfl rfl ?_
  refine g_RX11_22 C hn dX11_marks_10 ?_
  refine p_RX11_211 C hn dX11_marks_13 ?_
  refine x_aload_n C 0 dX11_marks_16 rfl rfl ?_
  refine x_aload_n C 0 dX11_marks_17 rfl rfl ?_
  refine g_RX11_201 C hn dX11_marks_18 ?_
  refine p_RX11_214 C hn dX11_marks_21 ?_
  refine x_aload_n C 0 dX11_marks_24 rfl rfl ?_
  refine x_aload_n C 0 dX11_marks_25 rfl rfl ?_
  refine g_RX11_26 C hn dX11_marks_26 ?_
  refine p_RX11_217 C hn dX11_marks_29 ?_
  exact x_vret C hQ dX11_marks_32 h
theorem dX11_goesBack_0 : decode cX11_goesBack 0 = .ok (.aload_n 0, 1) := by decide +kernel
theorem dX11_goesBack_1 : decode cX11_goesBack 1 = .ok (.aload_n 0, 1) := by decide +kernel
theorem dX11_goesBack_2 : decode cX11_goesBack 2 = .ok (.getfield 208, 3) := by decide +kernel
theorem dX11_goesBack_5 : decode cX11_goesBack 5 = .ok (.putfield 76, 3) := by decide +kernel
theorem dX11_goesBack_8 : decode cX11_goesBack 8 = .ok (.aload_n 0, 1) := by decide +kernel
theorem dX11_goesBack_9 : decode cX11_goesBack 9 = .ok (.aload_n 0, 1) := by decide +kernel
theorem dX11_goesBack_10 : decode cX11_goesBack 10 = .ok (.getfield 211, 3) := by decide +kernel
theorem dX11_goesBack_13 : decode cX11_goesBack 13 = .ok (.putfield 22, 3) := by decide +kernel
theorem dX11_goesBack_16 : decode cX11_goesBack 16 = .ok (.aload_n 0, 1) := by decide +kernel
theorem dX11_goesBack_17 : decode cX11_goesBack 17 = .ok (.aload_n 0, 1) := by decide +kernel
theorem dX11_goesBack_18 : decode cX11_goesBack 18 = .ok (.getfield 214, 3) := by decide +kernel
theorem dX11_goesBack_21 : decode cX11_goesBack 21 = .ok (.putfield 201, 3) := by decide +kernel
theorem dX11_goesBack_24 : decode cX11_goesBack 24 = .ok (.aload_n 0, 1) := by decide +kernel
theorem dX11_goesBack_25 : decode cX11_goesBack 25 = .ok (.aload_n 0, 1) := by decide +kernel
theorem dX11_goesBack_26 : decode cX11_goesBack 26 = .ok (.getfield 217, 3) := by decide +kernel
theorem dX11_goesBack_29 : decode cX11_goesBack 29 = .ok (.putfield 26, 3) := by decide +kernel
theorem dX11_goesBack_32 : decode cX11_goesBack 32 = .ok (.return_, 1) := by decide +kernel
theorem g_RX11_208 {Z : qZ} {G : qG} {cc : ByteArray} {nL k n : Nat} {rm : Room} {ret : Option FieldType} {μ : qM} {pc : Nat} {L : List (Nat × Value)} {st : List Value} (C : qX Z G RX11 cc nL rm ret) (hn : 66 ≤ gn G) (hd : decode cc pc = .ok (.getfield 208, 3)) (h : qV Z G nL k n μ (pc + 3) L (.int (μ 46 27) :: st)) : qV Z G nL k n μ pc L (.ref (ga G 46) :: st) := x_geti C 46 10 27 (C0 := RX11) (fn := "wasMany") (fd := "I") (Nat.lt_of_lt_of_le (by decide) hn) rfl (by decide) rfl (by decide) rfl inlX11 (qm_34 _ (List.mem_of_getElem? (i := 4) rfl)) rfl hd h
theorem g_RX11_211 {Z : qZ} {G : qG} {cc : ByteArray} {nL k n : Nat} {rm : Room} {ret : Option FieldType} {μ : qM} {pc : Nat} {L : List (Nat × Value)} {st : List Value} (C : qX Z G RX11 cc nL rm ret) (hn : 66 ≤ gn G) (hd : decode cc pc = .ok (.getfield 211, 3)) (h : qV Z G nL k n μ (pc + 3) L (.int (μ 46 28) :: st)) : qV Z G nL k n μ pc L (.ref (ga G 46) :: st) := x_geti C 46 10 28 (C0 := RX11) (fn := "wasCoin") (fd := "I") (Nat.lt_of_lt_of_le (by decide) hn) rfl (by decide) rfl (by decide) rfl inlX11 (qm_34 _ (List.mem_of_getElem? (i := 5) rfl)) rfl hd h
theorem g_RX11_214 {Z : qZ} {G : qG} {cc : ByteArray} {nL k n : Nat} {rm : Room} {ret : Option FieldType} {μ : qM} {pc : Nat} {L : List (Nat × Value)} {st : List Value} (C : qX Z G RX11 cc nL rm ret) (hn : 66 ≤ gn G) (hd : decode cc pc = .ok (.getfield 214, 3)) (h : qV Z G nL k n μ (pc + 3) L (.int (μ 46 29) :: st)) : qV Z G nL k n μ pc L (.ref (ga G 46) :: st) := x_geti C 46 10 29 (C0 := RX11) (fn := "wasYear") (fd := "I") (Nat.lt_of_lt_of_le (by decide) hn) rfl (by decide) rfl (by decide) rfl inlX11 (qm_34 _ (List.mem_of_getElem? (i := 6) rfl)) rfl hd h
theorem g_RX11_217 {Z : qZ} {G : qG} {cc : ByteArray} {nL k n : Nat} {rm : Room} {ret : Option FieldType} {μ : qM} {pc : Nat} {L : List (Nat × Value)} {st : List Value} (C : qX Z G RX11 cc nL rm ret) (hn : 66 ≤ gn G) (hd : decode cc pc = .ok (.getfield 217, 3)) (h : qV Z G nL k n μ (pc + 3) L (.int (μ 46 30) :: st)) : qV Z G nL k n μ pc L (.ref (ga G 46) :: st) := x_geti C 46 10 30 (C0 := RX11) (fn := "wasZ") (fd := "I") (Nat.lt_of_lt_of_le (by decide) hn) rfl (by decide) rfl (by decide) rfl inlX11 (qm_34 _ (List.mem_of_getElem? (i := 7) rfl)) rfl hd h
theorem y_X11_goesBack : qY yX11_goesBack cX11_goesBack 1 none 0 ({ frames := 0, cells := 0, slots := 0, locals := 0 } : Room) 0 0 := ⟨(qm_34 _ (List.mem_of_getElem? (i := 11) rfl)), (qm_1 _ (List.mem_of_getElem? (i := 5) rfl)), by decide +kernel, by decide +kernel, rfl, rfl⟩
theorem c_X11_goesBack (l : Launch) (G : qG) {μ : qM} (hn : 66 ≤ gn G) : qCv l G yX11_goesBack cX11_goesBack 1 none ({ frames := 0, cells := 0, slots := 0, locals := 0 } : Room) 0 0 [.ref (ga G 46)] μ (fun post => w_X11_goesBack  post μ) := by
  refine qCv_of (L := [(0, .ref (ga G 46))]) (by decide) rfl rfl ?_
  intro Z post hl C hQ h
  have C : qX Z G RX11 cX11_goesBack 1 ({ frames := 0, cells := 0, slots := 0, locals := 0 } : Room) none := C
  have h : w_X11_goesBack  post μ := h
  unfold w_X11_goesBack at h
  refine x_aload_n C 0 dX11_goesBack_0 rfl rfl ?_
  refine x_aload_n C 0 dX11_goesBack_1 rfl rfl ?_
  refine g_RX11_208 C hn dX11_goesBack_2 ?_
  refine p_RX11_76 C hn dX11_goesBack_5 ?_
  refine x_aload_n C 0 dX11_goesBack_8 rfl rfl ?_
  refine x_aload_n C 0 dX11_goesBack_9 rfl rfl ?_
  refine g_RX11_211 C hn dX11_goesBack_10 ?_
  refine p_RX11_22 C hn dX11_goesBack_13 ?_
  refine x_aload_n C 0 dX11_goesBack_16 rfl rfl ?_
  refine x_aload_n C 0 dX11_goesBack_17 rfl rfl ?_
  refine g_RX11_214 C hn dX11_goesBack_18 ?_
  refine p_RX11_201 C hn dX11_goesBack_21 ?_
  refine x_aload_n C 0 dX11_goesBack_24 rfl rfl ?_
  refine x_aload_n C 0 dX11_goesBack_25 rfl rfl ?_
  refine g_RX11_217 C hn dX11_goesBack_26 ?_
  refine p_RX11_26 C hn dX11_goesBack_29 ?_
  exact x_vret C hQ dX11_goesBack_32 h
theorem dX11_ahead_0 : decode cX11_ahead 0 = .ok (.iload_n 1, 1) := by decide +kernel
theorem dX11_ahead_1 : decode cX11_ahead 1 = .ok (.iconst 0, 1) := by decide +kernel
theorem dX11_ahead_2 : decode cX11_ahead 2 = .ok (.bipush 60, 2) := by decide +kernel
theorem dX11_ahead_4 : decode cX11_ahead 4 = .ok (.invokestatic 79, 3) := by decide +kernel
theorem dX11_ahead_7 : decode cX11_ahead 7 = .ok (.ifCond .eq 12, 3) := by decide +kernel
theorem dX11_ahead_10 : decode cX11_ahead 10 = .ok (.iload_n 2, 1) := by decide +kernel
theorem dX11_ahead_11 : decode cX11_ahead 11 = .ok (.iconst 0, 1) := by decide +kernel
theorem dX11_ahead_12 : decode cX11_ahead 12 = .ok (.iconst 2, 1) := by decide +kernel
theorem dX11_ahead_13 : decode cX11_ahead 13 = .ok (.invokestatic 79, 3) := by decide +kernel
theorem dX11_ahead_16 : decode cX11_ahead 16 = .ok (.ifCond .ne 9, 3) := by decide +kernel
theorem dX11_ahead_19 : decode cX11_ahead 19 = .ok (.aload_n 0, 1) := by decide +kernel
theorem dX11_ahead_20 : decode cX11_ahead 20 = .ok (.iconst 0, 1) := by decide +kernel
theorem dX11_ahead_21 : decode cX11_ahead 21 = .ok (.invokevirtual 119, 3) := by decide +kernel
theorem dX11_ahead_24 : decode cX11_ahead 24 = .ok (.ireturn, 1) := by decide +kernel
theorem dX11_ahead_25 : decode cX11_ahead 25 = .ok (.aload_n 0, 1) := by decide +kernel
theorem dX11_ahead_26 : decode cX11_ahead 26 = .ok (.getfield 201, 3) := by decide +kernel
theorem dX11_ahead_29 : decode cX11_ahead 29 = .ok (.iload_n 1, 1) := by decide +kernel
theorem dX11_ahead_30 : decode cX11_ahead 30 = .ok (.iadd, 1) := by decide +kernel
theorem dX11_ahead_31 : decode cX11_ahead 31 = .ok (.sipush 9999, 3) := by decide +kernel
theorem dX11_ahead_34 : decode cX11_ahead 34 = .ok (.if_icmp .le 9, 3) := by decide +kernel
theorem dX11_ahead_37 : decode cX11_ahead 37 = .ok (.aload_n 0, 1) := by decide +kernel
theorem dX11_ahead_38 : decode cX11_ahead 38 = .ok (.iconst 4, 1) := by decide +kernel
theorem dX11_ahead_39 : decode cX11_ahead 39 = .ok (.invokevirtual 119, 3) := by decide +kernel
theorem dX11_ahead_42 : decode cX11_ahead 42 = .ok (.ireturn, 1) := by decide +kernel
theorem dX11_ahead_43 : decode cX11_ahead 43 = .ok (.aload_n 0, 1) := by decide +kernel
theorem dX11_ahead_44 : decode cX11_ahead 44 = .ok (.invokevirtual 220, 3) := by decide +kernel
theorem dX11_ahead_47 : decode cX11_ahead 47 = .ok (.iconst 0, 1) := by decide +kernel
theorem dX11_ahead_48 : decode cX11_ahead 48 = .ok (.istore_n 3, 1) := by decide +kernel
theorem dX11_ahead_49 : decode cX11_ahead 49 = .ok (.iconst 0, 1) := by decide +kernel
theorem dX11_ahead_50 : decode cX11_ahead 50 = .ok (.istore 4, 2) := by decide +kernel
theorem dX11_ahead_52 : decode cX11_ahead 52 = .ok (.iload 4, 2) := by decide +kernel
theorem dX11_ahead_54 : decode cX11_ahead 54 = .ok (.iload_n 1, 1) := by decide +kernel
theorem dX11_ahead_55 : decode cX11_ahead 55 = .ok (.if_icmp .ge 24, 3) := by decide +kernel
theorem dX11_ahead_58 : decode cX11_ahead 58 = .ok (.iload_n 3, 1) := by decide +kernel
theorem dX11_ahead_59 : decode cX11_ahead 59 = .ok (.aload_n 0, 1) := by decide +kernel
theorem dX11_ahead_60 : decode cX11_ahead 60 = .ok (.invokevirtual 204, 3) := by decide +kernel
theorem dX11_ahead_63 : decode cX11_ahead 63 = .ok (.ifCond .eq 7, 3) := by decide +kernel
theorem dX11_ahead_66 : decode cX11_ahead 66 = .ok (.iconst 1, 1) := by decide +kernel
theorem dX11_ahead_67 : decode cX11_ahead 67 = .ok (.goto 4, 3) := by decide +kernel
theorem dX11_ahead_70 : decode cX11_ahead 70 = .ok (.iconst 0, 1) := by decide +kernel
theorem dX11_ahead_71 : decode cX11_ahead 71 = .ok (.iadd, 1) := by decide +kernel
theorem dX11_ahead_72 : decode cX11_ahead 72 = .ok (.istore_n 3, 1) := by decide +kernel
theorem dX11_ahead_73 : decode cX11_ahead 73 = .ok (.iinc 4 1, 3) := by decide +kernel
theorem dX11_ahead_76 : decode cX11_ahead 76 = .ok (.goto (-24), 3) := by decide +kernel
theorem dX11_ahead_79 : decode cX11_ahead 79 = .ok (.iload_n 2, 1) := by decide +kernel
theorem dX11_ahead_80 : decode cX11_ahead 80 = .ok (.ifCond .ne 10, 3) := by decide +kernel
theorem dX11_ahead_83 : decode cX11_ahead 83 = .ok (.aload_n 0, 1) := by decide +kernel
theorem dX11_ahead_84 : decode cX11_ahead 84 = .ok (.getfield 76, 3) := by decide +kernel
theorem dX11_ahead_87 : decode cX11_ahead 87 = .ok (.goto 19, 3) := by decide +kernel
theorem dX11_ahead_90 : decode cX11_ahead 90 = .ok (.iload_n 2, 1) := by decide +kernel
theorem dX11_ahead_91 : decode cX11_ahead 91 = .ok (.iconst 1, 1) := by decide +kernel
theorem dX11_ahead_92 : decode cX11_ahead 92 = .ok (.if_icmp .ne 10, 3) := by decide +kernel
theorem dX11_ahead_95 : decode cX11_ahead 95 = .ok (.aload_n 0, 1) := by decide +kernel
theorem dX11_ahead_96 : decode cX11_ahead 96 = .ok (.getfield 22, 3) := by decide +kernel
theorem dX11_ahead_99 : decode cX11_ahead 99 = .ok (.goto 7, 3) := by decide +kernel
theorem dX11_ahead_102 : decode cX11_ahead 102 = .ok (.aload_n 0, 1) := by decide +kernel
theorem dX11_ahead_103 : decode cX11_ahead 103 = .ok (.invokevirtual 159, 3) := by decide +kernel
theorem dX11_ahead_106 : decode cX11_ahead 106 = .ok (.istore 4, 2) := by decide +kernel
theorem dX11_ahead_108 : decode cX11_ahead 108 = .ok (.aload_n 0, 1) := by decide +kernel
theorem dX11_ahead_109 : decode cX11_ahead 109 = .ok (.invokevirtual 223, 3) := by decide +kernel
theorem dX11_ahead_112 : decode cX11_ahead 112 = .ok (.iload 4, 2) := by decide +kernel
theorem dX11_ahead_114 : decode cX11_ahead 114 = .ok (.ireturn, 1) := by decide +kernel
theorem i_RX11_220 {Z : qZ} {G : qG} {cc : ByteArray} {nL k n : Nat} {rm : Room} {ret : Option FieldType} {μ : qM} {pc : Nat} {L : List (Nat × Value)} {rest : List Value} {K : qM → Prop} (C : qX Z G RX11 cc nL rm ret) (hn : 66 ≤ gn G) (hR : (Nat.ble (0 + 1) rm.frames && Nat.ble (8 + (1 + 11) + 0) rm.locals) = true) (hf : k + 0 ≤ rm.cells ∧ n + 0 ≤ rm.slots) (hsz : Nat.ble (rest.map fun v => v.category).sum 8 = true) (hd : decode cc pc = .ok (.invokevirtual 220, 3)) (h : w_X11_marks  K μ) (hk : ∀ (μ1 : qM), K μ1 → qV Z G nL k n μ1 (pc + 3) L rest) : qV Z G nL k n μ pc L (.ref (ga G 46) :: rest) := x_Vv [] rest C 46 10 (wp := fun K => w_X11_marks  K μ) (y_X11_marks : qY yX11_marks cX11_marks 1 none 0 ({ frames := 0, cells := 0, slots := 0, locals := 0 } : Room) 0 0) (qm_34 _ (List.mem_of_getElem? (i := 1) rfl)) (qm_34 _ (List.mem_of_getElem? (i := 2) rfl)) (qm_34 _ (List.mem_of_getElem? (i := 0) rfl)) (c_X11_marks Z.2.1 G hn ) (Nat.lt_of_lt_of_le (by decide) hn) rfl (by decide) rfl rfl hR hf rfl rfl hsz hd h hk
theorem i_RX11_223 {Z : qZ} {G : qG} {cc : ByteArray} {nL k n : Nat} {rm : Room} {ret : Option FieldType} {μ : qM} {pc : Nat} {L : List (Nat × Value)} {rest : List Value} {K : qM → Prop} (C : qX Z G RX11 cc nL rm ret) (hn : 66 ≤ gn G) (hR : (Nat.ble (0 + 1) rm.frames && Nat.ble (8 + (1 + 11) + 0) rm.locals) = true) (hf : k + 0 ≤ rm.cells ∧ n + 0 ≤ rm.slots) (hsz : Nat.ble (rest.map fun v => v.category).sum 8 = true) (hd : decode cc pc = .ok (.invokevirtual 223, 3)) (h : w_X11_goesBack  K μ) (hk : ∀ (μ1 : qM), K μ1 → qV Z G nL k n μ1 (pc + 3) L rest) : qV Z G nL k n μ pc L (.ref (ga G 46) :: rest) := x_Vv [] rest C 46 10 (wp := fun K => w_X11_goesBack  K μ) (y_X11_goesBack : qY yX11_goesBack cX11_goesBack 1 none 0 ({ frames := 0, cells := 0, slots := 0, locals := 0 } : Room) 0 0) (qm_34 _ (List.mem_of_getElem? (i := 9) rfl)) (qm_34 _ (List.mem_of_getElem? (i := 10) rfl)) (qm_34 _ (List.mem_of_getElem? (i := 8) rfl)) (c_X11_goesBack Z.2.1 G hn ) (Nat.lt_of_lt_of_le (by decide) hn) rfl (by decide) rfl rfl hR hf rfl rfl hsz hd h hk
theorem b_X11_ahead_19 {Z : qZ} {G : qG} {μ : qM} {post : Int32 → qM → Prop} (C : qX Z G RX11 cX11_ahead 5 ({ frames := 7, cells := 0, slots := 0, locals := 160 } : Room) (some .int)) (hQ : qQi Z G 0 0 post) (hn : 66 ≤ gn G) (h : q_X11_ahead_19 post μ) : qV Z G 5 0 0 μ 19 [(0, .ref (ga G 46))] [] := by
  unfold q_X11_ahead_19 at h
  refine x_aload_n C 0 dX11_ahead_19 rfl rfl ?_
  refine x_iconst C dX11_ahead_20 (v := 0) (by decide) ?_
  refine i_RX11_119 (rest := []) C hn  rfl (by decide) rfl dX11_ahead_21 h (fun r21 μ21 h => ?_)
  exact x_iret C hQ dX11_ahead_24 h
theorem b_X11_ahead_106 {Z : qZ} {G : qG} {s0 : Int32} {μ : qM} {post : Int32 → qM → Prop} (C : qX Z G RX11 cX11_ahead 5 ({ frames := 7, cells := 0, slots := 0, locals := 160 } : Room) (some .int)) (hQ : qQi Z G 0 0 post) (hn : 66 ≤ gn G) (h : q_X11_ahead_106 post s0 μ) : qV Z G 5 0 0 μ 106 [(0, .ref (ga G 46))] [.int s0] := by
  unfold q_X11_ahead_106 at h
  refine x_istore C (L' := [(4, .int s0), (0, .ref (ga G 46))]) dX11_ahead_106 (by decide) rfl ?_
  refine x_aload_n C 1 dX11_ahead_108 rfl rfl ?_
  refine i_RX11_223 (rest := []) C hn  rfl (by decide) rfl dX11_ahead_109 h (fun μ109 h => ?_)
  refine x_iload C 0 dX11_ahead_112 rfl ?_
  exact x_iret C hQ dX11_ahead_114 h
theorem b_X11_ahead_71 {Z : qZ} {G : qG} {v1 : Int32} {v2 : Int32} {v4 : Int32} {s0 : Int32} {s1 : Int32} {μ : qM} {P52 : Int32 → Int32 → qM → Prop} {post : Int32 → qM → Prop} (C : qX Z G RX11 cX11_ahead 5 ({ frames := 7, cells := 0, slots := 0, locals := 160 } : Room) (some .int)) (hQ : qQi Z G 0 0 post) (hn : 66 ≤ gn G) (hP52 : ∀ (b3 : Int32) (b4 : Int32) (μ1 : qM), P52 b3 b4 μ1 → qV Z G 5 0 0 μ1 52 [(0, .ref (ga G 46)), (1, .int v1), (2, .int v2), (3, .int b3), (4, .int b4)] []) (h : q_X11_ahead_71 P52 post v1 v2 v4 s0 s1 μ) : qV Z G 5 0 0 μ 71 [(0, .ref (ga G 46)), (1, .int v1), (2, .int v2), (4, .int v4)] [.int s0, .int s1] := by
  unfold q_X11_ahead_71 at h
  refine x_iadd C dX11_ahead_71 ?_
  refine x_istore_n C (L' := [(3, .int ((s1 + s0))), (0, .ref (ga G 46)), (1, .int v1), (2, .int v2), (4, .int v4)]) dX11_ahead_72 rfl (by decide) rfl ?_
  refine x_iinc C 4 (v := 1) (L' := [(4, .int ((v4 + 1))), (3, .int ((s1 + s0))), (0, .ref (ga G 46)), (1, .int v1), (2, .int v2)]) dX11_ahead_73 rfl (by decide) (by decide) rfl ?_
  refine x_goto C dX11_ahead_76 (tgt := 52) (by decide) ?_
  exact qV_sub [2, 3, 4, 1, 0] rfl ((hP52 _ _ _ h))
theorem b_X11_ahead_52 {Z : qZ} {G : qG} {v1 : Int32} {v2 : Int32} {v3 : Int32} {v4 : Int32} {μ : qM} {post : Int32 → qM → Prop} (C : qX Z G RX11 cX11_ahead 5 ({ frames := 7, cells := 0, slots := 0, locals := 160 } : Room) (some .int)) (hQ : qQi Z G 0 0 post) (hn : 66 ≤ gn G) (h : q_X11_ahead_52 v1 v2 post v3 v4 μ) : qV Z G 5 0 0 μ 52 [(0, .ref (ga G 46)), (1, .int v1), (2, .int v2), (3, .int v3), (4, .int v4)] [] := by
  refine h (fun v3 v4 μ => qV Z G 5 0 0 μ 52 [(0, .ref (ga G 46)), (1, .int v1), (2, .int v2), (3, .int v3), (4, .int v4)] []) (fun v3 v4 μ h => ?_)
  refine x_iload C 4 dX11_ahead_52 rfl ?_
  refine x_iload_n C 1 dX11_ahead_54 rfl rfl ?_
  refine x_icmp_ge C dX11_ahead_55 (tgt := 79) (by decide) h (fun h => ?_) (fun h => ?_)
  · refine x_iload_n C 2 dX11_ahead_79 rfl rfl ?_
    refine x_if_ne C dX11_ahead_80 (tgt := 90) (by decide) h (fun h => ?_) (fun h => ?_)
    · refine x_iload_n C 2 dX11_ahead_90 rfl rfl ?_
      refine x_iconst C dX11_ahead_91 (v := 1) (by decide) ?_
      refine x_icmp_ne C dX11_ahead_92 (tgt := 102) (by decide) h (fun h => ?_) (fun h => ?_)
      · refine x_aload_n C 0 dX11_ahead_102 rfl rfl ?_
        refine i_RX11_159 (rest := []) C hn  rfl (by decide) rfl dX11_ahead_103 h (fun r103 μ103 h => ?_)
        exact qV_sub [0] rfl (b_X11_ahead_106 C hQ hn h)
      · refine x_aload_n C 0 dX11_ahead_95 rfl rfl ?_
        refine g_RX11_22 C hn dX11_ahead_96 ?_
        refine x_goto C dX11_ahead_99 (tgt := 106) (by decide) ?_
        exact qV_sub [0] rfl (b_X11_ahead_106 C hQ hn h)
    · refine x_aload_n C 0 dX11_ahead_83 rfl rfl ?_
      refine g_RX11_76 C hn dX11_ahead_84 ?_
      refine x_goto C dX11_ahead_87 (tgt := 106) (by decide) ?_
      exact qV_sub [0] rfl (b_X11_ahead_106 C hQ hn h)
  · refine x_iload_n C 3 dX11_ahead_58 rfl rfl ?_
    refine x_aload_n C 0 dX11_ahead_59 rfl rfl ?_
    refine i_RX11_204 (rest := [.int v3]) C hn  rfl (by decide) rfl dX11_ahead_60 h (fun r60 μ60 h => ?_)
    refine x_if_eq C dX11_ahead_63 (tgt := 70) (by decide) h (fun h => ?_) (fun h => ?_)
    · refine x_iconst C dX11_ahead_70 (v := 0) (by decide) ?_
      exact qV_sub [0, 1, 2, 4] rfl (b_X11_ahead_71 C hQ hn (fun _ _ _ h => h) h)
    · refine x_iconst C dX11_ahead_66 (v := 1) (by decide) ?_
      refine x_goto C dX11_ahead_67 (tgt := 71) (by decide) ?_
      exact qV_sub [0, 1, 2, 4] rfl (b_X11_ahead_71 C hQ hn (fun _ _ _ h => h) h)
theorem y_X11_ahead : qY yX11_ahead cX11_ahead 5 (some .int) 2 ({ frames := 7, cells := 0, slots := 0, locals := 160 } : Room) 0 0 := ⟨(qm_33 _ (List.mem_of_getElem? (i := 23) rfl)), (qm_1 _ (List.mem_of_getElem? (i := 5) rfl)), by decide +kernel, by decide +kernel, rfl, rfl⟩
theorem c_X11_ahead (l : Launch) (G : qG) {v1 : Int32} {v2 : Int32} {μ : qM} (hn : 66 ≤ gn G) : qCi l G yX11_ahead cX11_ahead 5 (some .int) ({ frames := 7, cells := 0, slots := 0, locals := 160 } : Room) 0 0 [.ref (ga G 46), .int v1, .int v2] μ (fun post => w_X11_ahead v1 v2 post μ) := by
  refine qCi_of (L := [(0, .ref (ga G 46)), (1, .int v1), (2, .int v2)]) (by decide) rfl rfl ?_
  intro Z post hl C hQ h
  have C : qX Z G RX11 cX11_ahead 5 ({ frames := 7, cells := 0, slots := 0, locals := 160 } : Room) (some .int) := C
  have h : w_X11_ahead v1 v2 post μ := h
  unfold w_X11_ahead at h
  refine x_iload_n C 1 dX11_ahead_0 rfl rfl ?_
  refine x_iconst C dX11_ahead_1 (v := 0) (by decide) ?_
  refine x_bipush C dX11_ahead_2 (v := 60) (by decide) ?_
  refine i_RX11_79 (rest := []) C hn  rfl (by decide) rfl dX11_ahead_4 h (fun r4 μ4 h => ?_)
  refine x_if_eq C dX11_ahead_7 (tgt := 19) (by decide) h (fun h => ?_) (fun h => ?_)
  · exact qV_sub [0] rfl (b_X11_ahead_19 C hQ hn h)
  · refine x_iload_n C 2 dX11_ahead_10 rfl rfl ?_
    refine x_iconst C dX11_ahead_11 (v := 0) (by decide) ?_
    refine x_iconst C dX11_ahead_12 (v := 2) (by decide) ?_
    refine i_RX11_79 (rest := []) C hn  rfl (by decide) rfl dX11_ahead_13 h (fun r13 μ13 h => ?_)
    refine x_if_ne C dX11_ahead_16 (tgt := 25) (by decide) h (fun h => ?_) (fun h => ?_)
    · refine x_aload_n C 0 dX11_ahead_25 rfl rfl ?_
      refine g_RX11_201 C hn dX11_ahead_26 ?_
      refine x_iload_n C 1 dX11_ahead_29 rfl rfl ?_
      refine x_iadd C dX11_ahead_30 ?_
      refine x_sipush C dX11_ahead_31 (v := 9999) (by decide) ?_
      refine x_icmp_le C dX11_ahead_34 (tgt := 43) (by decide) h (fun h => ?_) (fun h => ?_)
      · refine x_aload_n C 0 dX11_ahead_43 rfl rfl ?_
        refine i_RX11_220 (rest := []) C hn  rfl (by decide) rfl dX11_ahead_44 h (fun μ44 h => ?_)
        refine x_iconst C dX11_ahead_47 (v := 0) (by decide) ?_
        refine x_istore_n C (L' := [(3, .int ((0 : Int32))), (0, .ref (ga G 46)), (1, .int v1), (2, .int v2)]) dX11_ahead_48 rfl (by decide) rfl ?_
        refine x_iconst C dX11_ahead_49 (v := 0) (by decide) ?_
        refine x_istore C (L' := [(4, .int ((0 : Int32))), (3, .int ((0 : Int32))), (0, .ref (ga G 46)), (1, .int v1), (2, .int v2)]) dX11_ahead_50 (by decide) rfl ?_
        exact qV_sub [2, 3, 4, 1, 0] rfl (b_X11_ahead_52 C hQ hn h)
      · refine x_aload_n C 0 dX11_ahead_37 rfl rfl ?_
        refine x_iconst C dX11_ahead_38 (v := 4) (by decide) ?_
        refine i_RX11_119 (rest := []) C hn  rfl (by decide) rfl dX11_ahead_39 h (fun r39 μ39 h => ?_)
        exact x_iret C hQ dX11_ahead_42 h
    · exact qV_sub [0] rfl (b_X11_ahead_19 C hQ hn h)
theorem dX11_when_0 : decode cX11_when 0 = .ok (.aload_n 0, 1) := by decide +kernel
theorem dX11_when_1 : decode cX11_when 1 = .ok (.getfield 201, 3) := by decide +kernel
theorem dX11_when_4 : decode cX11_when 4 = .ok (.sipush 9900, 3) := by decide +kernel
theorem dX11_when_7 : decode cX11_when 7 = .ok (.if_icmp .le 9, 3) := by decide +kernel
theorem dX11_when_10 : decode cX11_when 10 = .ok (.aload_n 0, 1) := by decide +kernel
theorem dX11_when_11 : decode cX11_when 11 = .ok (.iconst 4, 1) := by decide +kernel
theorem dX11_when_12 : decode cX11_when 12 = .ok (.invokevirtual 119, 3) := by decide +kernel
theorem dX11_when_15 : decode cX11_when 15 = .ok (.ireturn, 1) := by decide +kernel
theorem dX11_when_16 : decode cX11_when 16 = .ok (.aload_n 0, 1) := by decide +kernel
theorem dX11_when_17 : decode cX11_when 17 = .ok (.invokevirtual 220, 3) := by decide +kernel
theorem dX11_when_20 : decode cX11_when 20 = .ok (.iconst 1, 1) := by decide +kernel
theorem dX11_when_21 : decode cX11_when 21 = .ok (.istore_n 1, 1) := by decide +kernel
theorem dX11_when_22 : decode cX11_when 22 = .ok (.iload_n 1, 1) := by decide +kernel
theorem dX11_when_23 : decode cX11_when 23 = .ok (.bipush 100, 2) := by decide +kernel
theorem dX11_when_25 : decode cX11_when 25 = .ok (.if_icmp .ge 16, 3) := by decide +kernel
theorem dX11_when_28 : decode cX11_when 28 = .ok (.aload_n 0, 1) := by decide +kernel
theorem dX11_when_29 : decode cX11_when 29 = .ok (.invokevirtual 204, 3) := by decide +kernel
theorem dX11_when_32 : decode cX11_when 32 = .ok (.ifCond .ne 9, 3) := by decide +kernel
theorem dX11_when_35 : decode cX11_when 35 = .ok (.iinc 1 1, 3) := by decide +kernel
theorem dX11_when_38 : decode cX11_when 38 = .ok (.goto (-16), 3) := by decide +kernel
theorem dX11_when_41 : decode cX11_when 41 = .ok (.aload_n 0, 1) := by decide +kernel
theorem dX11_when_42 : decode cX11_when 42 = .ok (.invokevirtual 223, 3) := by decide +kernel
theorem dX11_when_45 : decode cX11_when 45 = .ok (.iload_n 1, 1) := by decide +kernel
theorem dX11_when_46 : decode cX11_when 46 = .ok (.bipush 100, 2) := by decide +kernel
theorem dX11_when_48 : decode cX11_when 48 = .ok (.if_icmp .ge 7, 3) := by decide +kernel
theorem dX11_when_51 : decode cX11_when 51 = .ok (.iload_n 1, 1) := by decide +kernel
theorem dX11_when_52 : decode cX11_when 52 = .ok (.goto 8, 3) := by decide +kernel
theorem dX11_when_55 : decode cX11_when 55 = .ok (.aload_n 0, 1) := by decide +kernel
theorem dX11_when_56 : decode cX11_when 56 = .ok (.iconst 3, 1) := by decide +kernel
theorem dX11_when_57 : decode cX11_when 57 = .ok (.invokevirtual 119, 3) := by decide +kernel
theorem dX11_when_60 : decode cX11_when 60 = .ok (.ireturn, 1) := by decide +kernel
theorem b_X11_when_41 {Z : qZ} {G : qG} {v1 : Int32} {μ : qM} {post : Int32 → qM → Prop} (C : qX Z G RX11 cX11_when 2 ({ frames := 7, cells := 0, slots := 0, locals := 160 } : Room) (some .int)) (hQ : qQi Z G 0 0 post) (hn : 66 ≤ gn G) (h : q_X11_when_41 post v1 μ) : qV Z G 2 0 0 μ 41 [(0, .ref (ga G 46)), (1, .int v1)] [] := by
  unfold q_X11_when_41 at h
  refine x_aload_n C 0 dX11_when_41 rfl rfl ?_
  refine i_RX11_223 (rest := []) C hn  rfl (by decide) rfl dX11_when_42 h (fun μ42 h => ?_)
  refine x_iload_n C 1 dX11_when_45 rfl rfl ?_
  refine x_bipush C dX11_when_46 (v := 100) (by decide) ?_
  refine x_icmp_ge C dX11_when_48 (tgt := 55) (by decide) h (fun h => ?_) (fun h => ?_)
  · refine x_aload_n C 0 dX11_when_55 rfl rfl ?_
    refine x_iconst C dX11_when_56 (v := 3) (by decide) ?_
    refine i_RX11_119 (rest := []) C hn  rfl (by decide) rfl dX11_when_57 h (fun r57 μ57 h => ?_)
    exact x_iret C hQ dX11_when_60 h
  · refine x_iload_n C 1 dX11_when_51 rfl rfl ?_
    refine x_goto C dX11_when_52 (tgt := 60) (by decide) ?_
    exact x_iret C hQ dX11_when_60 h
theorem b_X11_when_22 {Z : qZ} {G : qG} {v1 : Int32} {μ : qM} {post : Int32 → qM → Prop} (C : qX Z G RX11 cX11_when 2 ({ frames := 7, cells := 0, slots := 0, locals := 160 } : Room) (some .int)) (hQ : qQi Z G 0 0 post) (hn : 66 ≤ gn G) (h : q_X11_when_22 post v1 μ) : qV Z G 2 0 0 μ 22 [(0, .ref (ga G 46)), (1, .int v1)] [] := by
  refine h (fun v1 μ => qV Z G 2 0 0 μ 22 [(0, .ref (ga G 46)), (1, .int v1)] []) (fun v1 μ h => ?_)
  refine x_iload_n C 1 dX11_when_22 rfl rfl ?_
  refine x_bipush C dX11_when_23 (v := 100) (by decide) ?_
  refine x_icmp_ge C dX11_when_25 (tgt := 41) (by decide) h (fun h => ?_) (fun h => ?_)
  · exact b_X11_when_41 C hQ hn h
  · refine x_aload_n C 0 dX11_when_28 rfl rfl ?_
    refine i_RX11_204 (rest := []) C hn  rfl (by decide) rfl dX11_when_29 h (fun r29 μ29 h => ?_)
    refine x_if_ne C dX11_when_32 (tgt := 41) (by decide) h (fun h => ?_) (fun h => ?_)
    · exact b_X11_when_41 C hQ hn h
    · refine x_iinc C 1 (v := 1) (L' := [(1, .int ((v1 + 1))), (0, .ref (ga G 46))]) dX11_when_35 rfl (by decide) (by decide) rfl ?_
      refine x_goto C dX11_when_38 (tgt := 22) (by decide) ?_
      exact qV_sub [1, 0] rfl (h)
theorem y_X11_when : qY yX11_when cX11_when 2 (some .int) 0 ({ frames := 7, cells := 0, slots := 0, locals := 160 } : Room) 0 0 := ⟨(qm_34 _ (List.mem_of_getElem? (i := 19) rfl)), (qm_1 _ (List.mem_of_getElem? (i := 5) rfl)), by decide +kernel, by decide +kernel, rfl, rfl⟩
theorem c_X11_when (l : Launch) (G : qG) {μ : qM} (hn : 66 ≤ gn G) : qCi l G yX11_when cX11_when 2 (some .int) ({ frames := 7, cells := 0, slots := 0, locals := 160 } : Room) 0 0 [.ref (ga G 46)] μ (fun post => w_X11_when  post μ) := by
  refine qCi_of (L := [(0, .ref (ga G 46))]) (by decide) rfl rfl ?_
  intro Z post hl C hQ h
  have C : qX Z G RX11 cX11_when 2 ({ frames := 7, cells := 0, slots := 0, locals := 160 } : Room) (some .int) := C
  have h : w_X11_when  post μ := h
  unfold w_X11_when at h
  refine x_aload_n C 0 dX11_when_0 rfl rfl ?_
  refine g_RX11_201 C hn dX11_when_1 ?_
  refine x_sipush C dX11_when_4 (v := 9900) (by decide) ?_
  refine x_icmp_le C dX11_when_7 (tgt := 16) (by decide) h (fun h => ?_) (fun h => ?_)
  · refine x_aload_n C 0 dX11_when_16 rfl rfl ?_
    refine i_RX11_220 (rest := []) C hn  rfl (by decide) rfl dX11_when_17 h (fun μ17 h => ?_)
    refine x_iconst C dX11_when_20 (v := 1) (by decide) ?_
    refine x_istore_n C (L' := [(1, .int ((1 : Int32))), (0, .ref (ga G 46))]) dX11_when_21 rfl (by decide) rfl ?_
    exact qV_sub [1, 0] rfl (b_X11_when_22 C hQ hn h)
  · refine x_aload_n C 0 dX11_when_10 rfl rfl ?_
    refine x_iconst C dX11_when_11 (v := 4) (by decide) ?_
    refine i_RX11_119 (rest := []) C hn  rfl (by decide) rfl dX11_when_12 h (fun r12 μ12 h => ?_)
    exact x_iret C hQ dX11_when_15 h
theorem dX11_strew_0 : decode cX11_strew 0 = .ok (.iload_n 1, 1) := by decide +kernel
theorem dX11_strew_1 : decode cX11_strew 1 = .ok (.iconst 1, 1) := by decide +kernel
theorem dX11_strew_2 : decode cX11_strew 2 = .ok (.bipush 12, 2) := by decide +kernel
theorem dX11_strew_4 : decode cX11_strew 4 = .ok (.invokestatic 79, 3) := by decide +kernel
theorem dX11_strew_7 : decode cX11_strew 7 = .ok (.ifCond .ne 9, 3) := by decide +kernel
theorem dX11_strew_10 : decode cX11_strew 10 = .ok (.aload_n 0, 1) := by decide +kernel
theorem dX11_strew_11 : decode cX11_strew 11 = .ok (.iconst 0, 1) := by decide +kernel
theorem dX11_strew_12 : decode cX11_strew 12 = .ok (.invokevirtual 119, 3) := by decide +kernel
theorem dX11_strew_15 : decode cX11_strew 15 = .ok (.ireturn, 1) := by decide +kernel
theorem dX11_strew_16 : decode cX11_strew 16 = .ok (.aload_n 0, 1) := by decide +kernel
theorem dX11_strew_17 : decode cX11_strew 17 = .ok (.getfield 76, 3) := by decide +kernel
theorem dX11_strew_20 : decode cX11_strew 20 = .ok (.ifCond .ne 9, 3) := by decide +kernel
theorem dX11_strew_23 : decode cX11_strew 23 = .ok (.aload_n 0, 1) := by decide +kernel
theorem dX11_strew_24 : decode cX11_strew 24 = .ok (.iconst 4, 1) := by decide +kernel
theorem dX11_strew_25 : decode cX11_strew 25 = .ok (.invokevirtual 119, 3) := by decide +kernel
theorem dX11_strew_28 : decode cX11_strew 28 = .ok (.ireturn, 1) := by decide +kernel
theorem dX11_strew_29 : decode cX11_strew 29 = .ok (.iconst 0, 1) := by decide +kernel
theorem dX11_strew_30 : decode cX11_strew 30 = .ok (.istore_n 2, 1) := by decide +kernel
theorem dX11_strew_31 : decode cX11_strew 31 = .ok (.iload_n 2, 1) := by decide +kernel
theorem dX11_strew_32 : decode cX11_strew 32 = .ok (.iload_n 1, 1) := by decide +kernel
theorem dX11_strew_33 : decode cX11_strew 33 = .ok (.if_icmp .ge 46, 3) := by decide +kernel
theorem dX11_strew_36 : decode cX11_strew 36 = .ok (.aload_n 0, 1) := by decide +kernel
theorem dX11_strew_37 : decode cX11_strew 37 = .ok (.invokevirtual 198, 3) := by decide +kernel
theorem dX11_strew_40 : decode cX11_strew 40 = .ok (.aload_n 0, 1) := by decide +kernel
theorem dX11_strew_41 : decode cX11_strew 41 = .ok (.getfield 76, 3) := by decide +kernel
theorem dX11_strew_44 : decode cX11_strew 44 = .ok (.irem, 1) := by decide +kernel
theorem dX11_strew_45 : decode cX11_strew 45 = .ok (.istore_n 3, 1) := by decide +kernel
theorem dX11_strew_46 : decode cX11_strew 46 = .ok (.aload_n 0, 1) := by decide +kernel
theorem dX11_strew_47 : decode cX11_strew 47 = .ok (.invokevirtual 198, 3) := by decide +kernel
theorem dX11_strew_50 : decode cX11_strew 50 = .ok (.sipush 144, 3) := by decide +kernel
theorem dX11_strew_53 : decode cX11_strew 53 = .ok (.irem, 1) := by decide +kernel
theorem dX11_strew_54 : decode cX11_strew 54 = .ok (.istore 4, 2) := by decide +kernel
theorem dX11_strew_56 : decode cX11_strew 56 = .ok (.aload_n 0, 1) := by decide +kernel
theorem dX11_strew_57 : decode cX11_strew 57 = .ok (.iload 4, 2) := by decide +kernel
theorem dX11_strew_59 : decode cX11_strew 59 = .ok (.invokevirtual 103, 3) := by decide +kernel
theorem dX11_strew_62 : decode cX11_strew 62 = .ok (.ifCond .ge 11, 3) := by decide +kernel
theorem dX11_strew_65 : decode cX11_strew 65 = .ok (.aload_n 0, 1) := by decide +kernel
theorem dX11_strew_66 : decode cX11_strew 66 = .ok (.getfield 13, 3) := by decide +kernel
theorem dX11_strew_69 : decode cX11_strew 69 = .ok (.iload_n 3, 1) := by decide +kernel
theorem dX11_strew_70 : decode cX11_strew 70 = .ok (.iload 4, 2) := by decide +kernel
theorem dX11_strew_72 : decode cX11_strew 72 = .ok (.iastore, 1) := by decide +kernel
theorem dX11_strew_73 : decode cX11_strew 73 = .ok (.iinc 2 1, 3) := by decide +kernel
theorem dX11_strew_76 : decode cX11_strew 76 = .ok (.goto (-45), 3) := by decide +kernel
theorem dX11_strew_79 : decode cX11_strew 79 = .ok (.aload_n 0, 1) := by decide +kernel
theorem dX11_strew_80 : decode cX11_strew 80 = .ok (.invokevirtual 159, 3) := by decide +kernel
theorem dX11_strew_83 : decode cX11_strew 83 = .ok (.ireturn, 1) := by decide +kernel
theorem b_X11_strew_73 {Z : qZ} {G : qG} {v1 : Int32} {v2 : Int32} {μ : qM} {P31 : Int32 → qM → Prop} {post : Int32 → qM → Prop} (C : qX Z G RX11 cX11_strew 5 ({ frames := 7, cells := 0, slots := 0, locals := 158 } : Room) (some .int)) (hQ : qQi Z G 0 0 post) (hn : 66 ≤ gn G) (hP31 : ∀ (b2 : Int32) (μ1 : qM), P31 b2 μ1 → qV Z G 5 0 0 μ1 31 [(0, .ref (ga G 46)), (1, .int v1), (2, .int b2)] []) (h : q_X11_strew_73 P31 post v1 v2 μ) : qV Z G 5 0 0 μ 73 [(0, .ref (ga G 46)), (1, .int v1), (2, .int v2)] [] := by
  unfold q_X11_strew_73 at h
  refine x_iinc C 2 (v := 1) (L' := [(2, .int ((v2 + 1))), (0, .ref (ga G 46)), (1, .int v1)]) dX11_strew_73 rfl (by decide) (by decide) rfl ?_
  refine x_goto C dX11_strew_76 (tgt := 31) (by decide) ?_
  exact qV_sub [1, 2, 0] rfl ((hP31 _ _ h))
theorem b_X11_strew_31 {Z : qZ} {G : qG} {v1 : Int32} {v2 : Int32} {μ : qM} {post : Int32 → qM → Prop} (C : qX Z G RX11 cX11_strew 5 ({ frames := 7, cells := 0, slots := 0, locals := 158 } : Room) (some .int)) (hQ : qQi Z G 0 0 post) (hn : 66 ≤ gn G) (h : q_X11_strew_31 v1 post v2 μ) : qV Z G 5 0 0 μ 31 [(0, .ref (ga G 46)), (1, .int v1), (2, .int v2)] [] := by
  refine h (fun v2 μ => qV Z G 5 0 0 μ 31 [(0, .ref (ga G 46)), (1, .int v1), (2, .int v2)] []) (fun v2 μ h => ?_)
  refine x_iload_n C 2 dX11_strew_31 rfl rfl ?_
  refine x_iload_n C 1 dX11_strew_32 rfl rfl ?_
  refine x_icmp_ge C dX11_strew_33 (tgt := 79) (by decide) h (fun h => ?_) (fun h => ?_)
  · refine x_aload_n C 0 dX11_strew_79 rfl rfl ?_
    refine i_RX11_159 (rest := []) C hn  rfl (by decide) rfl dX11_strew_80 h (fun r80 μ80 h => ?_)
    exact x_iret C hQ dX11_strew_83 h
  · refine x_aload_n C 0 dX11_strew_36 rfl rfl ?_
    refine i_RX11_198 (rest := []) C hn  rfl (by decide) rfl dX11_strew_37 h (fun r37 μ37 h => ?_)
    refine x_aload_n C 0 dX11_strew_40 rfl rfl ?_
    refine g_RX11_76 C hn dX11_strew_41 ?_
    refine x_irem C dX11_strew_44 h (fun h => ?_)
    refine x_istore_n C (L' := [(3, .int ((r37 - r37 / (μ37 46 0) * (μ37 46 0)))), (0, .ref (ga G 46)), (1, .int v1), (2, .int v2)]) dX11_strew_45 rfl (by decide) rfl ?_
    refine x_aload_n C 1 dX11_strew_46 rfl rfl ?_
    refine i_RX11_198 (rest := []) C hn  rfl (by decide) rfl dX11_strew_47 h (fun r47 μ47 h => ?_)
    refine x_sipush C dX11_strew_50 (v := 144) (by decide) ?_
    refine x_irem C dX11_strew_53 h (fun h => ?_)
    refine x_istore C (L' := [(4, .int ((r47 - r47 / (144 : Int32) * (144 : Int32)))), (3, .int ((r37 - r37 / (μ37 46 0) * (μ37 46 0)))), (0, .ref (ga G 46)), (1, .int v1), (2, .int v2)]) dX11_strew_54 (by decide) rfl ?_
    refine x_aload_n C 2 dX11_strew_56 rfl rfl ?_
    refine x_iload C 0 dX11_strew_57 rfl ?_
    refine i_RX11_103 (rest := []) C hn  rfl (by decide) rfl dX11_strew_59 h (fun r59 μ59 h => ?_)
    refine x_if_ge C dX11_strew_62 (tgt := 73) (by decide) h (fun h => ?_) (fun h => ?_)
    · exact qV_sub [2, 3, 4] rfl (b_X11_strew_73 C hQ hn (fun _ _ h => h) h)
    · refine x_aload_n C 2 dX11_strew_65 rfl rfl ?_
      refine g_RX11_13 C hn dX11_strew_66 ?_
      refine x_iload_n C 1 dX11_strew_69 rfl rfl ?_
      refine x_iload C 0 dX11_strew_70 rfl ?_
      refine x_iast C 48 19 154 (q_lt rfl rfl hn) rfl rfl rfl rfl rfl dX11_strew_72 h (fun h => ?_)
      exact qV_sub [2, 3, 4] rfl (b_X11_strew_73 C hQ hn (fun _ _ h => h) h)
theorem y_X11_strew : qY yX11_strew cX11_strew 5 (some .int) 1 ({ frames := 7, cells := 0, slots := 0, locals := 158 } : Room) 0 0 := ⟨(qm_35 _ (List.mem_of_getElem? (i := 13) rfl)), (qm_1 _ (List.mem_of_getElem? (i := 5) rfl)), by decide +kernel, by decide +kernel, rfl, rfl⟩
theorem c_X11_strew (l : Launch) (G : qG) {v1 : Int32} {μ : qM} (hn : 66 ≤ gn G) : qCi l G yX11_strew cX11_strew 5 (some .int) ({ frames := 7, cells := 0, slots := 0, locals := 158 } : Room) 0 0 [.ref (ga G 46), .int v1] μ (fun post => w_X11_strew v1 post μ) := by
  refine qCi_of (L := [(0, .ref (ga G 46)), (1, .int v1)]) (by decide) rfl rfl ?_
  intro Z post hl C hQ h
  have C : qX Z G RX11 cX11_strew 5 ({ frames := 7, cells := 0, slots := 0, locals := 158 } : Room) (some .int) := C
  have h : w_X11_strew v1 post μ := h
  unfold w_X11_strew at h
  refine x_iload_n C 1 dX11_strew_0 rfl rfl ?_
  refine x_iconst C dX11_strew_1 (v := 1) (by decide) ?_
  refine x_bipush C dX11_strew_2 (v := 12) (by decide) ?_
  refine i_RX11_79 (rest := []) C hn  rfl (by decide) rfl dX11_strew_4 h (fun r4 μ4 h => ?_)
  refine x_if_ne C dX11_strew_7 (tgt := 16) (by decide) h (fun h => ?_) (fun h => ?_)
  · refine x_aload_n C 0 dX11_strew_16 rfl rfl ?_
    refine g_RX11_76 C hn dX11_strew_17 ?_
    refine x_if_ne C dX11_strew_20 (tgt := 29) (by decide) h (fun h => ?_) (fun h => ?_)
    · refine x_iconst C dX11_strew_29 (v := 0) (by decide) ?_
      refine x_istore_n C (L' := [(2, .int ((0 : Int32))), (0, .ref (ga G 46)), (1, .int v1)]) dX11_strew_30 rfl (by decide) rfl ?_
      exact qV_sub [1, 2, 0] rfl (b_X11_strew_31 C hQ hn h)
    · refine x_aload_n C 0 dX11_strew_23 rfl rfl ?_
      refine x_iconst C dX11_strew_24 (v := 4) (by decide) ?_
      refine i_RX11_119 (rest := []) C hn  rfl (by decide) rfl dX11_strew_25 h (fun r25 μ25 h => ?_)
      exact x_iret C hQ dX11_strew_28 h
  · refine x_aload_n C 0 dX11_strew_10 rfl rfl ?_
    refine x_iconst C dX11_strew_11 (v := 0) (by decide) ?_
    refine i_RX11_119 (rest := []) C hn  rfl (by decide) rfl dX11_strew_12 h (fun r12 μ12 h => ?_)
    exact x_iret C hQ dX11_strew_15 h
theorem dX11_seed_0 : decode cX11_seed 0 = .ok (.aload_n 0, 1) := by decide +kernel
theorem dX11_seed_1 : decode cX11_seed 1 = .ok (.getfield 26, 3) := by decide +kernel
theorem dX11_seed_4 : decode cX11_seed 4 = .ok (.istore_n 2, 1) := by decide +kernel
theorem dX11_seed_5 : decode cX11_seed 5 = .ok (.aload_n 0, 1) := by decide +kernel
theorem dX11_seed_6 : decode cX11_seed 6 = .ok (.iload_n 1, 1) := by decide +kernel
theorem dX11_seed_7 : decode cX11_seed 7 = .ok (.putfield 26, 3) := by decide +kernel
theorem dX11_seed_10 : decode cX11_seed 10 = .ok (.iload_n 2, 1) := by decide +kernel
theorem dX11_seed_11 : decode cX11_seed 11 = .ok (.ireturn, 1) := by decide +kernel
theorem y_X11_seed : qY yX11_seed cX11_seed 3 (some .int) 1 ({ frames := 0, cells := 0, slots := 0, locals := 0 } : Room) 0 0 := ⟨(qm_36 _ (List.mem_of_getElem? (i := 5) rfl)), (qm_1 _ (List.mem_of_getElem? (i := 5) rfl)), by decide +kernel, by decide +kernel, rfl, rfl⟩
theorem c_X11_seed (l : Launch) (G : qG) {v1 : Int32} {μ : qM} (hn : 66 ≤ gn G) : qCi l G yX11_seed cX11_seed 3 (some .int) ({ frames := 0, cells := 0, slots := 0, locals := 0 } : Room) 0 0 [.ref (ga G 46), .int v1] μ (fun post => w_X11_seed v1 post μ) := by
  refine qCi_of (L := [(0, .ref (ga G 46)), (1, .int v1)]) (by decide) rfl rfl ?_
  intro Z post hl C hQ h
  have C : qX Z G RX11 cX11_seed 3 ({ frames := 0, cells := 0, slots := 0, locals := 0 } : Room) (some .int) := C
  have h : w_X11_seed v1 post μ := h
  unfold w_X11_seed at h
  refine x_aload_n C 0 dX11_seed_0 rfl rfl ?_
  refine g_RX11_26 C hn dX11_seed_1 ?_
  refine x_istore_n C (L' := [(2, .int ((μ 46 7))), (0, .ref (ga G 46)), (1, .int v1)]) dX11_seed_4 rfl (by decide) rfl ?_
  refine x_aload_n C 1 dX11_seed_5 rfl rfl ?_
  refine x_iload_n C 2 dX11_seed_6 rfl rfl ?_
  refine p_RX11_26 C hn dX11_seed_7 ?_
  refine x_iload_n C 0 dX11_seed_10 rfl rfl ?_
  exact x_iret C hQ dX11_seed_11 h
theorem dX11_feed_0 : decode cX11_feed 0 = .ok (.iload_n 2, 1) := by decide +kernel
theorem dX11_feed_1 : decode cX11_feed 1 = .ok (.iconst 1, 1) := by decide +kernel
theorem dX11_feed_2 : decode cX11_feed 2 = .ok (.iconst 4, 1) := by decide +kernel
theorem dX11_feed_3 : decode cX11_feed 3 = .ok (.invokestatic 79, 3) := by decide +kernel
theorem dX11_feed_6 : decode cX11_feed 6 = .ok (.ifCond .ne 9, 3) := by decide +kernel
theorem dX11_feed_9 : decode cX11_feed 9 = .ok (.aload_n 0, 1) := by decide +kernel
theorem dX11_feed_10 : decode cX11_feed 10 = .ok (.iconst 0, 1) := by decide +kernel
theorem dX11_feed_11 : decode cX11_feed 11 = .ok (.invokevirtual 119, 3) := by decide +kernel
theorem dX11_feed_14 : decode cX11_feed 14 = .ok (.ireturn, 1) := by decide +kernel
theorem dX11_feed_15 : decode cX11_feed 15 = .ok (.aload_n 0, 1) := by decide +kernel
theorem dX11_feed_16 : decode cX11_feed 16 = .ok (.getfield 226, 3) := by decide +kernel
theorem dX11_feed_19 : decode cX11_feed 19 = .ok (.iload_n 2, 1) := by decide +kernel
theorem dX11_feed_20 : decode cX11_feed 20 = .ok (.iadd, 1) := by decide +kernel
theorem dX11_feed_21 : decode cX11_feed 21 = .ok (.bipush 120, 2) := by decide +kernel
theorem dX11_feed_23 : decode cX11_feed 23 = .ok (.if_icmp .le 9, 3) := by decide +kernel
theorem dX11_feed_26 : decode cX11_feed 26 = .ok (.aload_n 0, 1) := by decide +kernel
theorem dX11_feed_27 : decode cX11_feed 27 = .ok (.iconst 1, 1) := by decide +kernel
theorem dX11_feed_28 : decode cX11_feed 28 = .ok (.invokevirtual 119, 3) := by decide +kernel
theorem dX11_feed_31 : decode cX11_feed 31 = .ok (.ireturn, 1) := by decide +kernel
theorem dX11_feed_32 : decode cX11_feed 32 = .ok (.bipush 8, 2) := by decide +kernel
theorem dX11_feed_34 : decode cX11_feed 34 = .ok (.iload_n 2, 1) := by decide +kernel
theorem dX11_feed_35 : decode cX11_feed 35 = .ok (.imul, 1) := by decide +kernel
theorem dX11_feed_36 : decode cX11_feed 36 = .ok (.bipush 8, 2) := by decide +kernel
theorem dX11_feed_38 : decode cX11_feed 38 = .ok (.isub, 1) := by decide +kernel
theorem dX11_feed_39 : decode cX11_feed 39 = .ok (.istore_n 3, 1) := by decide +kernel
theorem dX11_feed_40 : decode cX11_feed 40 = .ok (.iload_n 3, 1) := by decide +kernel
theorem dX11_feed_41 : decode cX11_feed 41 = .ok (.ifCond .lt 35, 3) := by decide +kernel
theorem dX11_feed_44 : decode cX11_feed 44 = .ok (.aload_n 0, 1) := by decide +kernel
theorem dX11_feed_45 : decode cX11_feed 45 = .ok (.getfield 41, 3) := by decide +kernel
theorem dX11_feed_48 : decode cX11_feed 48 = .ok (.aload_n 0, 1) := by decide +kernel
theorem dX11_feed_49 : decode cX11_feed 49 = .ok (.getfield 226, 3) := by decide +kernel
theorem dX11_feed_52 : decode cX11_feed 52 = .ok (.iload_n 1, 1) := by decide +kernel
theorem dX11_feed_53 : decode cX11_feed 53 = .ok (.iload_n 3, 1) := by decide +kernel
theorem dX11_feed_54 : decode cX11_feed 54 = .ok (.ishr, 1) := by decide +kernel
theorem dX11_feed_55 : decode cX11_feed 55 = .ok (.sipush 255, 3) := by decide +kernel
theorem dX11_feed_58 : decode cX11_feed 58 = .ok (.iand, 1) := by decide +kernel
theorem dX11_feed_59 : decode cX11_feed 59 = .ok (.iastore, 1) := by decide +kernel
theorem dX11_feed_60 : decode cX11_feed 60 = .ok (.aload_n 0, 1) := by decide +kernel
theorem dX11_feed_61 : decode cX11_feed 61 = .ok (.dup, 1) := by decide +kernel
theorem dX11_feed_62 : decode cX11_feed 62 = .ok (.getfield 226, 3) := by decide +kernel
theorem dX11_feed_65 : decode cX11_feed 65 = .ok (.iconst 1, 1) := by decide +kernel
theorem dX11_feed_66 : decode cX11_feed 66 = .ok (.iadd, 1) := by decide +kernel
theorem dX11_feed_67 : decode cX11_feed 67 = .ok (.putfield 226, 3) := by decide +kernel
theorem dX11_feed_70 : decode cX11_feed 70 = .ok (.iinc 3 (-8), 3) := by decide +kernel
theorem dX11_feed_73 : decode cX11_feed 73 = .ok (.goto (-33), 3) := by decide +kernel
theorem dX11_feed_76 : decode cX11_feed 76 = .ok (.aload_n 0, 1) := by decide +kernel
theorem dX11_feed_77 : decode cX11_feed 77 = .ok (.getfield 226, 3) := by decide +kernel
theorem dX11_feed_80 : decode cX11_feed 80 = .ok (.ireturn, 1) := by decide +kernel
theorem g_RX11_41 {Z : qZ} {G : qG} {cc : ByteArray} {nL k n : Nat} {rm : Room} {ret : Option FieldType} {μ : qM} {pc : Nat} {L : List (Nat × Value)} {st : List Value} (C : qX Z G RX11 cc nL rm ret) (hn : 66 ≤ gn G) (hd : decode cc pc = .ok (.getfield 41, 3)) (h : qV Z G nL k n μ (pc + 3) L (.ref (ga G 55) :: st)) : qV Z G nL k n μ pc L (.ref (ga G 46) :: st) := x_getr C 46 10 17 9 55 (C0 := RX11) (fn := "tape") (fd := "[I") (Nat.lt_of_lt_of_le (by decide) hn) rfl (by decide) rfl (by decide) rfl inlX11 (qm_6 _ (List.mem_of_getElem? (i := 1) rfl)) rfl rfl rfl hd h
theorem g_RX11_226 {Z : qZ} {G : qG} {cc : ByteArray} {nL k n : Nat} {rm : Room} {ret : Option FieldType} {μ : qM} {pc : Nat} {L : List (Nat × Value)} {st : List Value} (C : qX Z G RX11 cc nL rm ret) (hn : 66 ≤ gn G) (hd : decode cc pc = .ok (.getfield 226, 3)) (h : qV Z G nL k n μ (pc + 3) L (.int (μ 46 18) :: st)) : qV Z G nL k n μ pc L (.ref (ga G 46) :: st) := x_geti C 46 10 18 (C0 := RX11) (fn := "taped") (fd := "I") (Nat.lt_of_lt_of_le (by decide) hn) rfl (by decide) rfl (by decide) rfl inlX11 (qm_36 _ (List.mem_of_getElem? (i := 22) rfl)) rfl hd h
theorem p_RX11_226 {Z : qZ} {G : qG} {cc : ByteArray} {nL k n : Nat} {rm : Room} {ret : Option FieldType} {μ : qM} {pc : Nat} {L : List (Nat × Value)} {st : List Value} {x : Int32} (C : qX Z G RX11 cc nL rm ret) (hn : 66 ≤ gn G) (hd : decode cc pc = .ok (.putfield 226, 3)) (h : qV Z G nL k n (qu μ 46 18 x) (pc + 3) L st) : qV Z G nL k n μ pc L (.int x :: .ref (ga G 46) :: st) := x_puti C 46 10 18 (C0 := RX11) (fn := "taped") (fd := "I") (ty := .int) (Nat.lt_of_lt_of_le (by decide) hn) rfl (by decide) rfl (by decide) rfl inlX11 tyX11_ok nmX11 (qm_36 _ (List.mem_of_getElem? (i := 22) rfl)) rfl (by decide +kernel) rfl rfl hd h
theorem b_X11_feed_40 {Z : qZ} {G : qG} {v1 : Int32} {v3 : Int32} {μ : qM} {post : Int32 → qM → Prop} (C : qX Z G RX11 cX11_feed 4 ({ frames := 1, cells := 0, slots := 0, locals := 22 } : Room) (some .int)) (hQ : qQi Z G 0 0 post) (hn : 66 ≤ gn G) (h : q_X11_feed_40 v1 post v3 μ) : qV Z G 4 0 0 μ 40 [(0, .ref (ga G 46)), (1, .int v1), (3, .int v3)] [] := by
  refine h (fun v3 μ => qV Z G 4 0 0 μ 40 [(0, .ref (ga G 46)), (1, .int v1), (3, .int v3)] []) (fun v3 μ h => ?_)
  refine x_iload_n C 2 dX11_feed_40 rfl rfl ?_
  refine x_if_lt C dX11_feed_41 (tgt := 76) (by decide) h (fun h => ?_) (fun h => ?_)
  · refine x_aload_n C 0 dX11_feed_76 rfl rfl ?_
    refine g_RX11_226 C hn dX11_feed_77 ?_
    exact x_iret C hQ dX11_feed_80 h
  · refine x_aload_n C 0 dX11_feed_44 rfl rfl ?_
    refine g_RX11_41 C hn dX11_feed_45 ?_
    refine x_aload_n C 0 dX11_feed_48 rfl rfl ?_
    refine g_RX11_226 C hn dX11_feed_49 ?_
    refine x_iload_n C 1 dX11_feed_52 rfl rfl ?_
    refine x_iload_n C 2 dX11_feed_53 rfl rfl ?_
    refine x_ishr C dX11_feed_54 ?_
    refine x_sipush C dX11_feed_55 (v := 255) (by decide) ?_
    refine x_iand C dX11_feed_58 ?_
    refine x_iast C 55 20 120 (q_lt rfl rfl hn) rfl rfl rfl rfl rfl dX11_feed_59 h (fun h => ?_)
    refine x_aload_n C 0 dX11_feed_60 rfl rfl ?_
    refine x_dup C dX11_feed_61 rfl ?_
    refine g_RX11_226 C hn dX11_feed_62 ?_
    refine x_iconst C dX11_feed_65 (v := 1) (by decide) ?_
    refine x_iadd C dX11_feed_66 ?_
    refine p_RX11_226 C hn dX11_feed_67 ?_
    refine x_iinc C 2 (v := -8) (L' := [(3, .int ((v3 + -8))), (0, .ref (ga G 46)), (1, .int v1)]) dX11_feed_70 rfl (by decide) (by decide) rfl ?_
    refine x_goto C dX11_feed_73 (tgt := 40) (by decide) ?_
    exact qV_sub [1, 2, 0] rfl (h)
theorem y_X11_feed : qY yX11_feed cX11_feed 4 (some .int) 2 ({ frames := 1, cells := 0, slots := 0, locals := 22 } : Room) 0 0 := ⟨(qm_36 _ (List.mem_of_getElem? (i := 21) rfl)), (qm_1 _ (List.mem_of_getElem? (i := 5) rfl)), by decide +kernel, by decide +kernel, rfl, rfl⟩
theorem c_X11_feed (l : Launch) (G : qG) {v1 : Int32} {v2 : Int32} {μ : qM} (hn : 66 ≤ gn G) : qCi l G yX11_feed cX11_feed 4 (some .int) ({ frames := 1, cells := 0, slots := 0, locals := 22 } : Room) 0 0 [.ref (ga G 46), .int v1, .int v2] μ (fun post => w_X11_feed v1 v2 post μ) := by
  refine qCi_of (L := [(0, .ref (ga G 46)), (1, .int v1), (2, .int v2)]) (by decide) rfl rfl ?_
  intro Z post hl C hQ h
  have C : qX Z G RX11 cX11_feed 4 ({ frames := 1, cells := 0, slots := 0, locals := 22 } : Room) (some .int) := C
  have h : w_X11_feed v1 v2 post μ := h
  unfold w_X11_feed at h
  refine x_iload_n C 2 dX11_feed_0 rfl rfl ?_
  refine x_iconst C dX11_feed_1 (v := 1) (by decide) ?_
  refine x_iconst C dX11_feed_2 (v := 4) (by decide) ?_
  refine i_RX11_79 (rest := []) C hn  rfl (by decide) rfl dX11_feed_3 h (fun r3 μ3 h => ?_)
  refine x_if_ne C dX11_feed_6 (tgt := 15) (by decide) h (fun h => ?_) (fun h => ?_)
  · refine x_aload_n C 0 dX11_feed_15 rfl rfl ?_
    refine g_RX11_226 C hn dX11_feed_16 ?_
    refine x_iload_n C 2 dX11_feed_19 rfl rfl ?_
    refine x_iadd C dX11_feed_20 ?_
    refine x_bipush C dX11_feed_21 (v := 120) (by decide) ?_
    refine x_icmp_le C dX11_feed_23 (tgt := 32) (by decide) h (fun h => ?_) (fun h => ?_)
    · refine x_bipush C dX11_feed_32 (v := 8) (by decide) ?_
      refine x_iload_n C 2 dX11_feed_34 rfl rfl ?_
      refine x_imul C dX11_feed_35 ?_
      refine x_bipush C dX11_feed_36 (v := 8) (by decide) ?_
      refine x_isub C dX11_feed_38 ?_
      refine x_istore_n C (L' := [(3, .int ((((8 : Int32) * v2) - (8 : Int32)))), (0, .ref (ga G 46)), (1, .int v1), (2, .int v2)]) dX11_feed_39 rfl (by decide) rfl ?_
      exact qV_sub [1, 2, 0] rfl (b_X11_feed_40 C hQ hn h)
    · refine x_aload_n C 0 dX11_feed_26 rfl rfl ?_
      refine x_iconst C dX11_feed_27 (v := 1) (by decide) ?_
      refine i_RX11_119 (rest := []) C hn  rfl (by decide) rfl dX11_feed_28 h (fun r28 μ28 h => ?_)
      exact x_iret C hQ dX11_feed_31 h
  · refine x_aload_n C 0 dX11_feed_9 rfl rfl ?_
    refine x_iconst C dX11_feed_10 (v := 0) (by decide) ?_
    refine i_RX11_119 (rest := []) C hn  rfl (by decide) rfl dX11_feed_11 h (fun r11 μ11 h => ?_)
    exact x_iret C hQ dX11_feed_14 h
theorem dX11_wipe_0 : decode cX11_wipe 0 = .ok (.aload_n 0, 1) := by decide +kernel
theorem dX11_wipe_1 : decode cX11_wipe 1 = .ok (.getfield 226, 3) := by decide +kernel
theorem dX11_wipe_4 : decode cX11_wipe 4 = .ok (.istore_n 1, 1) := by decide +kernel
theorem dX11_wipe_5 : decode cX11_wipe 5 = .ok (.aload_n 0, 1) := by decide +kernel
theorem dX11_wipe_6 : decode cX11_wipe 6 = .ok (.iconst 0, 1) := by decide +kernel
theorem dX11_wipe_7 : decode cX11_wipe 7 = .ok (.putfield 226, 3) := by decide +kernel
theorem dX11_wipe_10 : decode cX11_wipe 10 = .ok (.iload_n 1, 1) := by decide +kernel
theorem dX11_wipe_11 : decode cX11_wipe 11 = .ok (.ireturn, 1) := by decide +kernel
theorem y_X11_wipe : qY yX11_wipe cX11_wipe 2 (some .int) 0 ({ frames := 0, cells := 0, slots := 0, locals := 0 } : Room) 0 0 := ⟨(qm_37 _ (List.mem_of_getElem? (i := 10) rfl)), (qm_1 _ (List.mem_of_getElem? (i := 5) rfl)), by decide +kernel, by decide +kernel, rfl, rfl⟩
theorem c_X11_wipe (l : Launch) (G : qG) {μ : qM} (hn : 66 ≤ gn G) : qCi l G yX11_wipe cX11_wipe 2 (some .int) ({ frames := 0, cells := 0, slots := 0, locals := 0 } : Room) 0 0 [.ref (ga G 46)] μ (fun post => w_X11_wipe  post μ) := by
  refine qCi_of (L := [(0, .ref (ga G 46))]) (by decide) rfl rfl ?_
  intro Z post hl C hQ h
  have C : qX Z G RX11 cX11_wipe 2 ({ frames := 0, cells := 0, slots := 0, locals := 0 } : Room) (some .int) := C
  have h : w_X11_wipe  post μ := h
  unfold w_X11_wipe at h
  refine x_aload_n C 0 dX11_wipe_0 rfl rfl ?_
  refine g_RX11_226 C hn dX11_wipe_1 ?_
  refine x_istore_n C (L' := [(1, .int ((μ 46 18))), (0, .ref (ga G 46))]) dX11_wipe_4 rfl (by decide) rfl ?_
  refine x_aload_n C 1 dX11_wipe_5 rfl rfl ?_
  refine x_iconst C dX11_wipe_6 (v := 0) (by decide) ?_
  refine p_RX11_226 C hn dX11_wipe_7 ?_
  refine x_iload_n C 0 dX11_wipe_10 rfl rfl ?_
  exact x_iret C hQ dX11_wipe_11 h
theorem dX11_isByte_0 : decode cX11_isByte 0 = .ok (.iload_n 1, 1) := by decide +kernel
theorem dX11_isByte_1 : decode cX11_isByte 1 = .ok (.aload_n 0, 1) := by decide +kernel
theorem dX11_isByte_2 : decode cX11_isByte 2 = .ok (.getfield 226, 3) := by decide +kernel
theorem dX11_isByte_5 : decode cX11_isByte 5 = .ok (.if_icmp .ge 21, 3) := by decide +kernel
theorem dX11_isByte_8 : decode cX11_isByte 8 = .ok (.aload_n 0, 1) := by decide +kernel
theorem dX11_isByte_9 : decode cX11_isByte 9 = .ok (.getfield 41, 3) := by decide +kernel
theorem dX11_isByte_12 : decode cX11_isByte 12 = .ok (.iload_n 1, 1) := by decide +kernel
theorem dX11_isByte_13 : decode cX11_isByte 13 = .ok (.iaload, 1) := by decide +kernel
theorem dX11_isByte_14 : decode cX11_isByte 14 = .ok (.iload_n 2, 1) := by decide +kernel
theorem dX11_isByte_15 : decode cX11_isByte 15 = .ok (.iload_n 3, 1) := by decide +kernel
theorem dX11_isByte_16 : decode cX11_isByte 16 = .ok (.invokestatic 79, 3) := by decide +kernel
theorem dX11_isByte_19 : decode cX11_isByte 19 = .ok (.ifCond .eq 7, 3) := by decide +kernel
theorem dX11_isByte_22 : decode cX11_isByte 22 = .ok (.iconst 1, 1) := by decide +kernel
theorem dX11_isByte_23 : decode cX11_isByte 23 = .ok (.goto 4, 3) := by decide +kernel
theorem dX11_isByte_26 : decode cX11_isByte 26 = .ok (.iconst 0, 1) := by decide +kernel
theorem dX11_isByte_27 : decode cX11_isByte 27 = .ok (.ireturn, 1) := by decide +kernel
theorem b_X11_isByte_26 {Z : qZ} {G : qG} {μ : qM} {post : Int32 → qM → Prop} (C : qX Z G RX11 cX11_isByte 4 ({ frames := 1, cells := 0, slots := 0, locals := 22 } : Room) (some .boolean)) (hQ : qQi Z G 0 0 post) (hn : 66 ≤ gn G) (h : q_X11_isByte_26 post μ) : qV Z G 4 0 0 μ 26 [] [] := by
  unfold q_X11_isByte_26 at h
  refine x_iconst C dX11_isByte_26 (v := 0) (by decide) ?_
  exact x_zret C hQ dX11_isByte_27 h
theorem y_X11_isByte : qY yX11_isByte cX11_isByte 4 (some .boolean) 3 ({ frames := 1, cells := 0, slots := 0, locals := 22 } : Room) 0 0 := ⟨(qm_43 _ (List.mem_of_getElem? (i := 4) rfl)), (qm_1 _ (List.mem_of_getElem? (i := 5) rfl)), by decide +kernel, by decide +kernel, rfl, rfl⟩
theorem c_X11_isByte (l : Launch) (G : qG) {v1 : Int32} {v2 : Int32} {v3 : Int32} {μ : qM} (hn : 66 ≤ gn G) : qCi l G yX11_isByte cX11_isByte 4 (some .boolean) ({ frames := 1, cells := 0, slots := 0, locals := 22 } : Room) 0 0 [.ref (ga G 46), .int v1, .int v2, .int v3] μ (fun post => w_X11_isByte v1 v2 v3 post μ) := by
  refine qCi_of (L := [(0, .ref (ga G 46)), (1, .int v1), (2, .int v2), (3, .int v3)]) (by decide) rfl rfl ?_
  intro Z post hl C hQ h
  have C : qX Z G RX11 cX11_isByte 4 ({ frames := 1, cells := 0, slots := 0, locals := 22 } : Room) (some .boolean) := C
  have h : w_X11_isByte v1 v2 v3 post μ := h
  unfold w_X11_isByte at h
  refine x_iload_n C 1 dX11_isByte_0 rfl rfl ?_
  refine x_aload_n C 0 dX11_isByte_1 rfl rfl ?_
  refine g_RX11_226 C hn dX11_isByte_2 ?_
  refine x_icmp_ge C dX11_isByte_5 (tgt := 26) (by decide) h (fun h => ?_) (fun h => ?_)
  · exact qV_sub [] rfl (b_X11_isByte_26 C hQ hn h)
  · refine x_aload_n C 0 dX11_isByte_8 rfl rfl ?_
    refine g_RX11_41 C hn dX11_isByte_9 ?_
    refine x_iload_n C 1 dX11_isByte_12 rfl rfl ?_
    refine x_iald C 55 20 120 (q_lt rfl rfl hn) rfl rfl rfl rfl rfl dX11_isByte_13 h (fun h => ?_)
    refine x_iload_n C 2 dX11_isByte_14 rfl rfl ?_
    refine x_iload_n C 3 dX11_isByte_15 rfl rfl ?_
    refine i_RX11_79 (rest := []) C hn  rfl (by decide) rfl dX11_isByte_16 h (fun r16 μ16 h => ?_)
    refine x_if_eq C dX11_isByte_19 (tgt := 26) (by decide) h (fun h => ?_) (fun h => ?_)
    · exact qV_sub [] rfl (b_X11_isByte_26 C hQ hn h)
    · refine x_iconst C dX11_isByte_22 (v := 1) (by decide) ?_
      refine x_goto C dX11_isByte_23 (tgt := 27) (by decide) ?_
      exact x_zret C hQ dX11_isByte_27 h
theorem dX11_next_0 : decode cX11_next 0 = .ok (.aload_n 0, 1) := by decide +kernel
theorem dX11_next_1 : decode cX11_next 1 = .ok (.aload_n 0, 1) := by decide +kernel
theorem dX11_next_2 : decode cX11_next 2 = .ok (.getfield 229, 3) := by decide +kernel
theorem dX11_next_5 : decode cX11_next 5 = .ok (.putfield 232, 3) := by decide +kernel
theorem dX11_next_8 : decode cX11_next 8 = .ok (.aload_n 0, 1) := by decide +kernel
theorem dX11_next_9 : decode cX11_next 9 = .ok (.aload_n 0, 1) := by decide +kernel
theorem dX11_next_10 : decode cX11_next 10 = .ok (.getfield 232, 3) := by decide +kernel
theorem dX11_next_13 : decode cX11_next 13 = .ok (.bipush 32, 2) := by decide +kernel
theorem dX11_next_15 : decode cX11_next 15 = .ok (.bipush 32, 2) := by decide +kernel
theorem dX11_next_17 : decode cX11_next 17 = .ok (.invokevirtual 235, 3) := by decide +kernel
theorem dX11_next_20 : decode cX11_next 20 = .ok (.ifCond .eq 16, 3) := by decide +kernel
theorem dX11_next_23 : decode cX11_next 23 = .ok (.aload_n 0, 1) := by decide +kernel
theorem dX11_next_24 : decode cX11_next 24 = .ok (.dup, 1) := by decide +kernel
theorem dX11_next_25 : decode cX11_next 25 = .ok (.getfield 232, 3) := by decide +kernel
theorem dX11_next_28 : decode cX11_next 28 = .ok (.iconst 1, 1) := by decide +kernel
theorem dX11_next_29 : decode cX11_next 29 = .ok (.iadd, 1) := by decide +kernel
theorem dX11_next_30 : decode cX11_next 30 = .ok (.putfield 232, 3) := by decide +kernel
theorem dX11_next_33 : decode cX11_next 33 = .ok (.goto (-25), 3) := by decide +kernel
theorem dX11_next_36 : decode cX11_next 36 = .ok (.aload_n 0, 1) := by decide +kernel
theorem dX11_next_37 : decode cX11_next 37 = .ok (.aload_n 0, 1) := by decide +kernel
theorem dX11_next_38 : decode cX11_next 38 = .ok (.getfield 232, 3) := by decide +kernel
theorem dX11_next_41 : decode cX11_next 41 = .ok (.putfield 229, 3) := by decide +kernel
theorem dX11_next_44 : decode cX11_next 44 = .ok (.aload_n 0, 1) := by decide +kernel
theorem dX11_next_45 : decode cX11_next 45 = .ok (.aload_n 0, 1) := by decide +kernel
theorem dX11_next_46 : decode cX11_next 46 = .ok (.getfield 232, 3) := by decide +kernel
theorem dX11_next_49 : decode cX11_next 49 = .ok (.bipush 97, 2) := by decide +kernel
theorem dX11_next_51 : decode cX11_next 51 = .ok (.bipush 122, 2) := by decide +kernel
theorem dX11_next_53 : decode cX11_next 53 = .ok (.invokevirtual 235, 3) := by decide +kernel
theorem dX11_next_56 : decode cX11_next 56 = .ok (.istore_n 1, 1) := by decide +kernel
theorem dX11_next_57 : decode cX11_next 57 = .ok (.aload_n 0, 1) := by decide +kernel
theorem dX11_next_58 : decode cX11_next 58 = .ok (.aload_n 0, 1) := by decide +kernel
theorem dX11_next_59 : decode cX11_next 59 = .ok (.getfield 232, 3) := by decide +kernel
theorem dX11_next_62 : decode cX11_next 62 = .ok (.bipush 48, 2) := by decide +kernel
theorem dX11_next_64 : decode cX11_next 64 = .ok (.bipush 57, 2) := by decide +kernel
theorem dX11_next_66 : decode cX11_next 66 = .ok (.invokevirtual 235, 3) := by decide +kernel
theorem dX11_next_69 : decode cX11_next 69 = .ok (.istore_n 2, 1) := by decide +kernel
theorem dX11_next_70 : decode cX11_next 70 = .ok (.iload_n 1, 1) := by decide +kernel
theorem dX11_next_71 : decode cX11_next 71 = .ok (.ifCond .eq 18, 3) := by decide +kernel
theorem dX11_next_74 : decode cX11_next 74 = .ok (.aload_n 0, 1) := by decide +kernel
theorem dX11_next_75 : decode cX11_next 75 = .ok (.aload_n 0, 1) := by decide +kernel
theorem dX11_next_76 : decode cX11_next 76 = .ok (.getfield 229, 3) := by decide +kernel
theorem dX11_next_79 : decode cX11_next 79 = .ok (.bipush 97, 2) := by decide +kernel
theorem dX11_next_81 : decode cX11_next 81 = .ok (.bipush 122, 2) := by decide +kernel
theorem dX11_next_83 : decode cX11_next 83 = .ok (.invokevirtual 235, 3) := by decide +kernel
theorem dX11_next_86 : decode cX11_next 86 = .ok (.ifCond .ne 22, 3) := by decide +kernel
theorem dX11_next_89 : decode cX11_next 89 = .ok (.iload_n 2, 1) := by decide +kernel
theorem dX11_next_90 : decode cX11_next 90 = .ok (.ifCond .eq 31, 3) := by decide +kernel
theorem dX11_next_93 : decode cX11_next 93 = .ok (.aload_n 0, 1) := by decide +kernel
theorem dX11_next_94 : decode cX11_next 94 = .ok (.aload_n 0, 1) := by decide +kernel
theorem dX11_next_95 : decode cX11_next 95 = .ok (.getfield 229, 3) := by decide +kernel
theorem dX11_next_98 : decode cX11_next 98 = .ok (.bipush 48, 2) := by decide +kernel
theorem dX11_next_100 : decode cX11_next 100 = .ok (.bipush 57, 2) := by decide +kernel
theorem dX11_next_102 : decode cX11_next 102 = .ok (.invokevirtual 235, 3) := by decide +kernel
theorem dX11_next_105 : decode cX11_next 105 = .ok (.ifCond .eq 16, 3) := by decide +kernel
theorem dX11_next_108 : decode cX11_next 108 = .ok (.aload_n 0, 1) := by decide +kernel
theorem dX11_next_109 : decode cX11_next 109 = .ok (.dup, 1) := by decide +kernel
theorem dX11_next_110 : decode cX11_next 110 = .ok (.getfield 229, 3) := by decide +kernel
theorem dX11_next_113 : decode cX11_next 113 = .ok (.iconst 1, 1) := by decide +kernel
theorem dX11_next_114 : decode cX11_next 114 = .ok (.iadd, 1) := by decide +kernel
theorem dX11_next_115 : decode cX11_next 115 = .ok (.putfield 229, 3) := by decide +kernel
theorem dX11_next_118 : decode cX11_next 118 = .ok (.goto (-48), 3) := by decide +kernel
theorem dX11_next_121 : decode cX11_next 121 = .ok (.aload_n 0, 1) := by decide +kernel
theorem dX11_next_122 : decode cX11_next 122 = .ok (.dup, 1) := by decide +kernel
theorem dX11_next_123 : decode cX11_next 123 = .ok (.getfield 229, 3) := by decide +kernel
theorem dX11_next_126 : decode cX11_next 126 = .ok (.iload_n 1, 1) := by decide +kernel
theorem dX11_next_127 : decode cX11_next 127 = .ok (.ifCond .ne 22, 3) := by decide +kernel
theorem dX11_next_130 : decode cX11_next 130 = .ok (.iload_n 2, 1) := by decide +kernel
theorem dX11_next_131 : decode cX11_next 131 = .ok (.ifCond .ne 18, 3) := by decide +kernel
theorem dX11_next_134 : decode cX11_next 134 = .ok (.aload_n 0, 1) := by decide +kernel
theorem dX11_next_135 : decode cX11_next 135 = .ok (.getfield 232, 3) := by decide +kernel
theorem dX11_next_138 : decode cX11_next 138 = .ok (.aload_n 0, 1) := by decide +kernel
theorem dX11_next_139 : decode cX11_next 139 = .ok (.getfield 226, 3) := by decide +kernel
theorem dX11_next_142 : decode cX11_next 142 = .ok (.if_icmp .ge 7, 3) := by decide +kernel
theorem dX11_next_145 : decode cX11_next 145 = .ok (.iconst 1, 1) := by decide +kernel
theorem dX11_next_146 : decode cX11_next 146 = .ok (.goto 4, 3) := by decide +kernel
theorem dX11_next_149 : decode cX11_next 149 = .ok (.iconst 0, 1) := by decide +kernel
theorem dX11_next_150 : decode cX11_next 150 = .ok (.iadd, 1) := by decide +kernel
theorem dX11_next_151 : decode cX11_next 151 = .ok (.putfield 229, 3) := by decide +kernel
theorem dX11_next_154 : decode cX11_next 154 = .ok (.return_, 1) := by decide +kernel
theorem i_RX11_235 {Z : qZ} {G : qG} {cc : ByteArray} {nL k n : Nat} {rm : Room} {ret : Option FieldType} {μ : qM} {pc : Nat} {L : List (Nat × Value)} {rest : List Value} {K : Int32 → qM → Prop} {v1 : Int32} {v2 : Int32} {v3 : Int32} (C : qX Z G RX11 cc nL rm ret) (hn : 66 ≤ gn G) (hR : (Nat.ble (1 + 1) rm.frames && Nat.ble (8 + (4 + 11) + 22) rm.locals) = true) (hf : k + 0 ≤ rm.cells ∧ n + 0 ≤ rm.slots) (hsz : Nat.ble (rest.map fun v => v.category).sum 8 = true) (hd : decode cc pc = .ok (.invokevirtual 235, 3)) (h : w_X11_isByte v1 v2 v3 K μ) (hk : ∀ (r : Int32) (μ1 : qM), K r μ1 → qV Z G nL k n μ1 (pc + 3) L (.int r :: rest)) : qV Z G nL k n μ pc L (.int v3 :: .int v2 :: .int v1 :: .ref (ga G 46) :: rest) := x_Vi [.int v1, .int v2, .int v3] rest C 46 10 (wp := fun K => w_X11_isByte v1 v2 v3 K μ) (y_X11_isByte : qY yX11_isByte cX11_isByte 4 (some .boolean) 3 ({ frames := 1, cells := 0, slots := 0, locals := 22 } : Room) 0 0) (qm_43 _ (List.mem_of_getElem? (i := 2) rfl)) (qm_43 _ (List.mem_of_getElem? (i := 3) rfl)) (qm_43 _ (List.mem_of_getElem? (i := 1) rfl)) (c_X11_isByte Z.2.1 G hn ) (Nat.lt_of_lt_of_le (by decide) hn) rfl (by decide) rfl rfl hR hf rfl rfl hsz hd h hk
theorem g_RX11_229 {Z : qZ} {G : qG} {cc : ByteArray} {nL k n : Nat} {rm : Room} {ret : Option FieldType} {μ : qM} {pc : Nat} {L : List (Nat × Value)} {st : List Value} (C : qX Z G RX11 cc nL rm ret) (hn : 66 ≤ gn G) (hd : decode cc pc = .ok (.getfield 229, 3)) (h : qV Z G nL k n μ (pc + 3) L (.int (μ 46 32) :: st)) : qV Z G nL k n μ pc L (.ref (ga G 46) :: st) := x_geti C 46 10 32 (C0 := RX11) (fn := "to") (fd := "I") (Nat.lt_of_lt_of_le (by decide) hn) rfl (by decide) rfl (by decide) rfl inlX11 (qm_42 _ (List.mem_of_getElem? (i := 19) rfl)) rfl hd h
theorem g_RX11_232 {Z : qZ} {G : qG} {cc : ByteArray} {nL k n : Nat} {rm : Room} {ret : Option FieldType} {μ : qM} {pc : Nat} {L : List (Nat × Value)} {st : List Value} (C : qX Z G RX11 cc nL rm ret) (hn : 66 ≤ gn G) (hd : decode cc pc = .ok (.getfield 232, 3)) (h : qV Z G nL k n μ (pc + 3) L (.int (μ 46 31) :: st)) : qV Z G nL k n μ pc L (.ref (ga G 46) :: st) := x_geti C 46 10 31 (C0 := RX11) (fn := "from") (fd := "I") (Nat.lt_of_lt_of_le (by decide) hn) rfl (by decide) rfl (by decide) rfl inlX11 (qm_42 _ (List.mem_of_getElem? (i := 20) rfl)) rfl hd h
theorem p_RX11_229 {Z : qZ} {G : qG} {cc : ByteArray} {nL k n : Nat} {rm : Room} {ret : Option FieldType} {μ : qM} {pc : Nat} {L : List (Nat × Value)} {st : List Value} {x : Int32} (C : qX Z G RX11 cc nL rm ret) (hn : 66 ≤ gn G) (hd : decode cc pc = .ok (.putfield 229, 3)) (h : qV Z G nL k n (qu μ 46 32 x) (pc + 3) L st) : qV Z G nL k n μ pc L (.int x :: .ref (ga G 46) :: st) := x_puti C 46 10 32 (C0 := RX11) (fn := "to") (fd := "I") (ty := .int) (Nat.lt_of_lt_of_le (by decide) hn) rfl (by decide) rfl (by decide) rfl inlX11 tyX11_ok nmX11 (qm_42 _ (List.mem_of_getElem? (i := 19) rfl)) rfl (by decide +kernel) rfl rfl hd h
theorem p_RX11_232 {Z : qZ} {G : qG} {cc : ByteArray} {nL k n : Nat} {rm : Room} {ret : Option FieldType} {μ : qM} {pc : Nat} {L : List (Nat × Value)} {st : List Value} {x : Int32} (C : qX Z G RX11 cc nL rm ret) (hn : 66 ≤ gn G) (hd : decode cc pc = .ok (.putfield 232, 3)) (h : qV Z G nL k n (qu μ 46 31 x) (pc + 3) L st) : qV Z G nL k n μ pc L (.int x :: .ref (ga G 46) :: st) := x_puti C 46 10 31 (C0 := RX11) (fn := "from") (fd := "I") (ty := .int) (Nat.lt_of_lt_of_le (by decide) hn) rfl (by decide) rfl (by decide) rfl inlX11 tyX11_ok nmX11 (qm_42 _ (List.mem_of_getElem? (i := 20) rfl)) rfl (by decide +kernel) rfl rfl hd h
theorem b_X11_next_108 {Z : qZ} {G : qG} {v1 : Int32} {v2 : Int32} {μ : qM} {P70 : qM → Prop} {post : qM → Prop} (C : qX Z G RX11 cX11_next 3 ({ frames := 2, cells := 0, slots := 0, locals := 45 } : Room) none) (hQ : qQv Z G 0 0 post) (hn : 66 ≤ gn G) (hP70 : ∀  (μ1 : qM), P70  μ1 → qV Z G 3 0 0 μ1 70 [(0, .ref (ga G 46)), (1, .int v1), (2, .int v2)] []) (h : q_X11_next_108 P70 post v1 v2 μ) : qV Z G 3 0 0 μ 108 [(0, .ref (ga G 46)), (1, .int v1), (2, .int v2)] [] := by
  unfold q_X11_next_108 at h
  refine x_aload_n C 0 dX11_next_108 rfl rfl ?_
  refine x_dup C dX11_next_109 rfl ?_
  refine g_RX11_229 C hn dX11_next_110 ?_
  refine x_iconst C dX11_next_113 (v := 1) (by decide) ?_
  refine x_iadd C dX11_next_114 ?_
  refine p_RX11_229 C hn dX11_next_115 ?_
  refine x_goto C dX11_next_118 (tgt := 70) (by decide) ?_
  exact (hP70 _ h)
theorem b_X11_next_150 {Z : qZ} {G : qG} {s0 : Int32} {s1 : Int32} {μ : qM} {post : qM → Prop} (C : qX Z G RX11 cX11_next 3 ({ frames := 2, cells := 0, slots := 0, locals := 45 } : Room) none) (hQ : qQv Z G 0 0 post) (hn : 66 ≤ gn G) (h : q_X11_next_150 post s0 s1 μ) : qV Z G 3 0 0 μ 150 [] [.int s0, .int s1, .ref (ga G 46)] := by
  unfold q_X11_next_150 at h
  refine x_iadd C dX11_next_150 ?_
  refine p_RX11_229 C hn dX11_next_151 ?_
  exact x_vret C hQ dX11_next_154 h
theorem b_X11_next_149 {Z : qZ} {G : qG} {s0 : Int32} {μ : qM} {post : qM → Prop} (C : qX Z G RX11 cX11_next 3 ({ frames := 2, cells := 0, slots := 0, locals := 45 } : Room) none) (hQ : qQv Z G 0 0 post) (hn : 66 ≤ gn G) (h : q_X11_next_149 post s0 μ) : qV Z G 3 0 0 μ 149 [] [.int s0, .ref (ga G 46)] := by
  unfold q_X11_next_149 at h
  refine x_iconst C dX11_next_149 (v := 0) (by decide) ?_
  exact b_X11_next_150 C hQ hn h
theorem b_X11_next_121 {Z : qZ} {G : qG} {v1 : Int32} {v2 : Int32} {μ : qM} {post : qM → Prop} (C : qX Z G RX11 cX11_next 3 ({ frames := 2, cells := 0, slots := 0, locals := 45 } : Room) none) (hQ : qQv Z G 0 0 post) (hn : 66 ≤ gn G) (h : q_X11_next_121 post v1 v2 μ) : qV Z G 3 0 0 μ 121 [(0, .ref (ga G 46)), (1, .int v1), (2, .int v2)] [] := by
  unfold q_X11_next_121 at h
  refine x_aload_n C 0 dX11_next_121 rfl rfl ?_
  refine x_dup C dX11_next_122 rfl ?_
  refine g_RX11_229 C hn dX11_next_123 ?_
  refine x_iload_n C 1 dX11_next_126 rfl rfl ?_
  refine x_if_ne C dX11_next_127 (tgt := 149) (by decide) h (fun h => ?_) (fun h => ?_)
  · exact qV_sub [] rfl (b_X11_next_149 C hQ hn h)
  · refine x_iload_n C 2 dX11_next_130 rfl rfl ?_
    refine x_if_ne C dX11_next_131 (tgt := 149) (by decide) h (fun h => ?_) (fun h => ?_)
    · exact qV_sub [] rfl (b_X11_next_149 C hQ hn h)
    · refine x_aload_n C 0 dX11_next_134 rfl rfl ?_
      refine g_RX11_232 C hn dX11_next_135 ?_
      refine x_aload_n C 0 dX11_next_138 rfl rfl ?_
      refine g_RX11_226 C hn dX11_next_139 ?_
      refine x_icmp_ge C dX11_next_142 (tgt := 149) (by decide) h (fun h => ?_) (fun h => ?_)
      · exact qV_sub [] rfl (b_X11_next_149 C hQ hn h)
      · refine x_iconst C dX11_next_145 (v := 1) (by decide) ?_
        refine x_goto C dX11_next_146 (tgt := 150) (by decide) ?_
        exact qV_sub [] rfl (b_X11_next_150 C hQ hn h)
theorem b_X11_next_89 {Z : qZ} {G : qG} {v1 : Int32} {v2 : Int32} {μ : qM} {P70 : qM → Prop} {post : qM → Prop} (C : qX Z G RX11 cX11_next 3 ({ frames := 2, cells := 0, slots := 0, locals := 45 } : Room) none) (hQ : qQv Z G 0 0 post) (hn : 66 ≤ gn G) (hP70 : ∀  (μ1 : qM), P70  μ1 → qV Z G 3 0 0 μ1 70 [(0, .ref (ga G 46)), (1, .int v1), (2, .int v2)] []) (h : q_X11_next_89 P70 post v1 v2 μ) : qV Z G 3 0 0 μ 89 [(0, .ref (ga G 46)), (1, .int v1), (2, .int v2)] [] := by
  unfold q_X11_next_89 at h
  refine x_iload_n C 2 dX11_next_89 rfl rfl ?_
  refine x_if_eq C dX11_next_90 (tgt := 121) (by decide) h (fun h => ?_) (fun h => ?_)
  · exact b_X11_next_121 C hQ hn h
  · refine x_aload_n C 0 dX11_next_93 rfl rfl ?_
    refine x_aload_n C 0 dX11_next_94 rfl rfl ?_
    refine g_RX11_229 C hn dX11_next_95 ?_
    refine x_bipush C dX11_next_98 (v := 48) (by decide) ?_
    refine x_bipush C dX11_next_100 (v := 57) (by decide) ?_
    refine i_RX11_235 (rest := []) C hn  rfl (by decide) rfl dX11_next_102 h (fun r102 μ102 h => ?_)
    refine x_if_eq C dX11_next_105 (tgt := 121) (by decide) h (fun h => ?_) (fun h => ?_)
    · exact b_X11_next_121 C hQ hn h
    · exact b_X11_next_108 C hQ hn hP70 h
theorem b_X11_next_70 {Z : qZ} {G : qG} {v1 : Int32} {v2 : Int32} {μ : qM} {post : qM → Prop} (C : qX Z G RX11 cX11_next 3 ({ frames := 2, cells := 0, slots := 0, locals := 45 } : Room) none) (hQ : qQv Z G 0 0 post) (hn : 66 ≤ gn G) (h : q_X11_next_70 v1 v2 post μ) : qV Z G 3 0 0 μ 70 [(0, .ref (ga G 46)), (1, .int v1), (2, .int v2)] [] := by
  refine h (fun μ => qV Z G 3 0 0 μ 70 [(0, .ref (ga G 46)), (1, .int v1), (2, .int v2)] []) (fun μ h => ?_)
  refine x_iload_n C 1 dX11_next_70 rfl rfl ?_
  refine x_if_eq C dX11_next_71 (tgt := 89) (by decide) h (fun h => ?_) (fun h => ?_)
  · exact b_X11_next_89 C hQ hn (fun _ h => h) h
  · refine x_aload_n C 0 dX11_next_74 rfl rfl ?_
    refine x_aload_n C 0 dX11_next_75 rfl rfl ?_
    refine g_RX11_229 C hn dX11_next_76 ?_
    refine x_bipush C dX11_next_79 (v := 97) (by decide) ?_
    refine x_bipush C dX11_next_81 (v := 122) (by decide) ?_
    refine i_RX11_235 (rest := []) C hn  rfl (by decide) rfl dX11_next_83 h (fun r83 μ83 h => ?_)
    refine x_if_ne C dX11_next_86 (tgt := 108) (by decide) h (fun h => ?_) (fun h => ?_)
    · exact b_X11_next_108 C hQ hn (fun _ h => h) h
    · exact b_X11_next_89 C hQ hn (fun _ h => h) h
theorem b_X11_next_8 {Z : qZ} {G : qG} {μ : qM} {post : qM → Prop} (C : qX Z G RX11 cX11_next 3 ({ frames := 2, cells := 0, slots := 0, locals := 45 } : Room) none) (hQ : qQv Z G 0 0 post) (hn : 66 ≤ gn G) (h : q_X11_next_8 post μ) : qV Z G 3 0 0 μ 8 [(0, .ref (ga G 46))] [] := by
  refine h (fun μ => qV Z G 3 0 0 μ 8 [(0, .ref (ga G 46))] []) (fun μ h => ?_)
  refine x_aload_n C 0 dX11_next_8 rfl rfl ?_
  refine x_aload_n C 0 dX11_next_9 rfl rfl ?_
  refine g_RX11_232 C hn dX11_next_10 ?_
  refine x_bipush C dX11_next_13 (v := 32) (by decide) ?_
  refine x_bipush C dX11_next_15 (v := 32) (by decide) ?_
  refine i_RX11_235 (rest := []) C hn  rfl (by decide) rfl dX11_next_17 h (fun r17 μ17 h => ?_)
  refine x_if_eq C dX11_next_20 (tgt := 36) (by decide) h (fun h => ?_) (fun h => ?_)
  · refine x_aload_n C 0 dX11_next_36 rfl rfl ?_
    refine x_aload_n C 0 dX11_next_37 rfl rfl ?_
    refine g_RX11_232 C hn dX11_next_38 ?_
    refine p_RX11_229 C hn dX11_next_41 ?_
    refine x_aload_n C 0 dX11_next_44 rfl rfl ?_
    refine x_aload_n C 0 dX11_next_45 rfl rfl ?_
    refine g_RX11_232 C hn dX11_next_46 ?_
    refine x_bipush C dX11_next_49 (v := 97) (by decide) ?_
    refine x_bipush C dX11_next_51 (v := 122) (by decide) ?_
    refine i_RX11_235 (rest := []) C hn  rfl (by decide) rfl dX11_next_53 h (fun r53 μ53 h => ?_)
    refine x_istore_n C (L' := [(1, .int r53), (0, .ref (ga G 46))]) dX11_next_56 rfl (by decide) rfl ?_
    refine x_aload_n C 1 dX11_next_57 rfl rfl ?_
    refine x_aload_n C 1 dX11_next_58 rfl rfl ?_
    refine g_RX11_232 C hn dX11_next_59 ?_
    refine x_bipush C dX11_next_62 (v := 48) (by decide) ?_
    refine x_bipush C dX11_next_64 (v := 57) (by decide) ?_
    refine i_RX11_235 (rest := []) C hn  rfl (by decide) rfl dX11_next_66 h (fun r66 μ66 h => ?_)
    refine x_istore_n C (L' := [(2, .int r66), (1, .int r53), (0, .ref (ga G 46))]) dX11_next_69 rfl (by decide) rfl ?_
    exact qV_sub [2, 1, 0] rfl (b_X11_next_70 C hQ hn h)
  · refine x_aload_n C 0 dX11_next_23 rfl rfl ?_
    refine x_dup C dX11_next_24 rfl ?_
    refine g_RX11_232 C hn dX11_next_25 ?_
    refine x_iconst C dX11_next_28 (v := 1) (by decide) ?_
    refine x_iadd C dX11_next_29 ?_
    refine p_RX11_232 C hn dX11_next_30 ?_
    refine x_goto C dX11_next_33 (tgt := 8) (by decide) ?_
    exact h
theorem y_X11_next : qY yX11_next cX11_next 3 none 0 ({ frames := 2, cells := 0, slots := 0, locals := 45 } : Room) 0 0 := ⟨(qm_43 _ (List.mem_of_getElem? (i := 0) rfl)), (qm_1 _ (List.mem_of_getElem? (i := 5) rfl)), by decide +kernel, by decide +kernel, rfl, rfl⟩
theorem c_X11_next (l : Launch) (G : qG) {μ : qM} (hn : 66 ≤ gn G) : qCv l G yX11_next cX11_next 3 none ({ frames := 2, cells := 0, slots := 0, locals := 45 } : Room) 0 0 [.ref (ga G 46)] μ (fun post => w_X11_next  post μ) := by
  refine qCv_of (L := [(0, .ref (ga G 46))]) (by decide) rfl rfl ?_
  intro Z post hl C hQ h
  have C : qX Z G RX11 cX11_next 3 ({ frames := 2, cells := 0, slots := 0, locals := 45 } : Room) none := C
  have h : w_X11_next  post μ := h
  unfold w_X11_next at h
  refine x_aload_n C 0 dX11_next_0 rfl rfl ?_
  refine x_aload_n C 0 dX11_next_1 rfl rfl ?_
  refine g_RX11_229 C hn dX11_next_2 ?_
  refine p_RX11_232 C hn dX11_next_5 ?_
  exact b_X11_next_8 C hQ hn h
theorem dX11_isWord_0 : decode cX11_isWord 0 = .ok (.aload_n 0, 1) := by decide +kernel
theorem dX11_isWord_1 : decode cX11_isWord 1 = .ok (.getfield 238, 3) := by decide +kernel
theorem dX11_isWord_4 : decode cX11_isWord 4 = .ok (.ifCond .ne 23, 3) := by decide +kernel
theorem dX11_isWord_7 : decode cX11_isWord 7 = .ok (.aload_n 0, 1) := by decide +kernel
theorem dX11_isWord_8 : decode cX11_isWord 8 = .ok (.getfield 229, 3) := by decide +kernel
theorem dX11_isWord_11 : decode cX11_isWord 11 = .ok (.aload_n 0, 1) := by decide +kernel
theorem dX11_isWord_12 : decode cX11_isWord 12 = .ok (.getfield 232, 3) := by decide +kernel
theorem dX11_isWord_15 : decode cX11_isWord 15 = .ok (.isub, 1) := by decide +kernel
theorem dX11_isWord_16 : decode cX11_isWord 16 = .ok (.aload_n 1, 1) := by decide +kernel
theorem dX11_isWord_17 : decode cX11_isWord 17 = .ok (.invokevirtual 242, 3) := by decide +kernel
theorem dX11_isWord_20 : decode cX11_isWord 20 = .ok (.if_icmp .ne 7, 3) := by decide +kernel
theorem dX11_isWord_23 : decode cX11_isWord 23 = .ok (.iconst 1, 1) := by decide +kernel
theorem dX11_isWord_24 : decode cX11_isWord 24 = .ok (.goto 4, 3) := by decide +kernel
theorem dX11_isWord_27 : decode cX11_isWord 27 = .ok (.iconst 0, 1) := by decide +kernel
theorem dX11_isWord_28 : decode cX11_isWord 28 = .ok (.istore_n 2, 1) := by decide +kernel
theorem dX11_isWord_29 : decode cX11_isWord 29 = .ok (.iconst 0, 1) := by decide +kernel
theorem dX11_isWord_30 : decode cX11_isWord 30 = .ok (.istore_n 3, 1) := by decide +kernel
theorem dX11_isWord_31 : decode cX11_isWord 31 = .ok (.iload_n 2, 1) := by decide +kernel
theorem dX11_isWord_32 : decode cX11_isWord 32 = .ok (.ifCond .eq 42, 3) := by decide +kernel
theorem dX11_isWord_35 : decode cX11_isWord 35 = .ok (.iload_n 3, 1) := by decide +kernel
theorem dX11_isWord_36 : decode cX11_isWord 36 = .ok (.aload_n 1, 1) := by decide +kernel
theorem dX11_isWord_37 : decode cX11_isWord 37 = .ok (.invokevirtual 242, 3) := by decide +kernel
theorem dX11_isWord_40 : decode cX11_isWord 40 = .ok (.if_icmp .ge 34, 3) := by decide +kernel
theorem dX11_isWord_43 : decode cX11_isWord 43 = .ok (.aload_n 0, 1) := by decide +kernel
theorem dX11_isWord_44 : decode cX11_isWord 44 = .ok (.getfield 41, 3) := by decide +kernel
theorem dX11_isWord_47 : decode cX11_isWord 47 = .ok (.aload_n 0, 1) := by decide +kernel
theorem dX11_isWord_48 : decode cX11_isWord 48 = .ok (.getfield 232, 3) := by decide +kernel
theorem dX11_isWord_51 : decode cX11_isWord 51 = .ok (.iload_n 3, 1) := by decide +kernel
theorem dX11_isWord_52 : decode cX11_isWord 52 = .ok (.iadd, 1) := by decide +kernel
theorem dX11_isWord_53 : decode cX11_isWord 53 = .ok (.iaload, 1) := by decide +kernel
theorem dX11_isWord_54 : decode cX11_isWord 54 = .ok (.aload_n 1, 1) := by decide +kernel
theorem dX11_isWord_55 : decode cX11_isWord 55 = .ok (.iload_n 3, 1) := by decide +kernel
theorem dX11_isWord_56 : decode cX11_isWord 56 = .ok (.invokevirtual 247, 3) := by decide +kernel
theorem dX11_isWord_59 : decode cX11_isWord 59 = .ok (.if_icmp .ne 7, 3) := by decide +kernel
theorem dX11_isWord_62 : decode cX11_isWord 62 = .ok (.iconst 1, 1) := by decide +kernel
theorem dX11_isWord_63 : decode cX11_isWord 63 = .ok (.goto 4, 3) := by decide +kernel
theorem dX11_isWord_66 : decode cX11_isWord 66 = .ok (.iconst 0, 1) := by decide +kernel
theorem dX11_isWord_67 : decode cX11_isWord 67 = .ok (.istore_n 2, 1) := by decide +kernel
theorem dX11_isWord_68 : decode cX11_isWord 68 = .ok (.iinc 3 1, 3) := by decide +kernel
theorem dX11_isWord_71 : decode cX11_isWord 71 = .ok (.goto (-40), 3) := by decide +kernel
theorem dX11_isWord_74 : decode cX11_isWord 74 = .ok (.iload_n 2, 1) := by decide +kernel
theorem dX11_isWord_75 : decode cX11_isWord 75 = .ok (.ireturn, 1) := by decide +kernel
theorem g_RX11_238 {Z : qZ} {G : qG} {cc : ByteArray} {nL k n : Nat} {rm : Room} {ret : Option FieldType} {μ : qM} {pc : Nat} {L : List (Nat × Value)} {st : List Value} (C : qX Z G RX11 cc nL rm ret) (hn : 66 ≤ gn G) (hd : decode cc pc = .ok (.getfield 238, 3)) (h : qV Z G nL k n μ (pc + 3) L (.int (μ 46 33) :: st)) : qV Z G nL k n μ pc L (.ref (ga G 46) :: st) := x_geti C 46 10 33 (C0 := RX11) (fn := "isWrong") (fd := "Z") (Nat.lt_of_lt_of_le (by decide) hn) rfl (by decide) rfl (by decide) rfl inlX11 (qm_42 _ (List.mem_of_getElem? (i := 18) rfl)) rfl hd h
theorem b_X11_isWord_74 {Z : qZ} {G : qG} {t1 : Nat} {v2 : Int32} {μ : qM} {post : Int32 → qM → Prop} (C : qX Z G RX11 cX11_isWord 4 ({ frames := 6, cells := 0, slots := 0, locals := 161 } : Room) (some .boolean)) (hQ : qQi Z G 0 0 post) (hn : 66 ≤ gn G) (ht_t1 : t1 < 12) (h : q_X11_isWord_74 t1 post v2 μ) : qV Z G 4 0 0 μ 74 [(2, .int v2)] [] := by
  unfold q_X11_isWord_74 at h
  refine x_iload_n C 0 dX11_isWord_74 rfl rfl ?_
  exact x_zret C hQ dX11_isWord_75 h
theorem b_X11_isWord_67 {Z : qZ} {G : qG} {t1 : Nat} {v3 : Int32} {s0 : Int32} {μ : qM} {P31 : Int32 → Int32 → qM → Prop} {post : Int32 → qM → Prop} (C : qX Z G RX11 cX11_isWord 4 ({ frames := 6, cells := 0, slots := 0, locals := 161 } : Room) (some .boolean)) (hQ : qQi Z G 0 0 post) (hn : 66 ≤ gn G) (ht_t1 : t1 < 12) (hP31 : ∀ (b2 : Int32) (b3 : Int32) (μ1 : qM), P31 b2 b3 μ1 → qV Z G 4 0 0 μ1 31 [(0, .ref (ga G 46)), (1, .ref (gK G t1)), (2, .int b2), (3, .int b3)] []) (h : q_X11_isWord_67 t1 P31 post v3 s0 μ) : qV Z G 4 0 0 μ 67 [(0, .ref (ga G 46)), (1, .ref (gK G t1)), (3, .int v3)] [.int s0] := by
  unfold q_X11_isWord_67 at h
  refine x_istore_n C (L' := [(2, .int s0), (0, .ref (ga G 46)), (1, .ref (gK G t1)), (3, .int v3)]) dX11_isWord_67 rfl (by decide) rfl ?_
  refine x_iinc C 3 (v := 1) (L' := [(3, .int ((v3 + 1))), (2, .int s0), (0, .ref (ga G 46)), (1, .ref (gK G t1))]) dX11_isWord_68 rfl (by decide) (by decide) rfl ?_
  refine x_goto C dX11_isWord_71 (tgt := 31) (by decide) ?_
  exact qV_sub [2, 3, 1, 0] rfl ((hP31 _ _ _ h))
theorem b_X11_isWord_31 {Z : qZ} {G : qG} {t1 : Nat} {v2 : Int32} {v3 : Int32} {μ : qM} {post : Int32 → qM → Prop} (C : qX Z G RX11 cX11_isWord 4 ({ frames := 6, cells := 0, slots := 0, locals := 161 } : Room) (some .boolean)) (hQ : qQi Z G 0 0 post) (hn : 66 ≤ gn G) (ht_t1 : t1 < 12) (h : q_X11_isWord_31 t1 post v2 v3 μ) : qV Z G 4 0 0 μ 31 [(0, .ref (ga G 46)), (1, .ref (gK G t1)), (2, .int v2), (3, .int v3)] [] := by
  refine h (fun v2 v3 μ => qV Z G 4 0 0 μ 31 [(0, .ref (ga G 46)), (1, .ref (gK G t1)), (2, .int v2), (3, .int v3)] []) (fun v2 v3 μ h => ?_)
  refine x_iload_n C 2 dX11_isWord_31 rfl rfl ?_
  refine x_if_eq C dX11_isWord_32 (tgt := 74) (by decide) h (fun h => ?_) (fun h => ?_)
  · exact qV_sub [2] rfl (b_X11_isWord_74 C hQ hn ht_t1 h)
  · refine x_iload_n C 3 dX11_isWord_35 rfl rfl ?_
    refine x_aload_n C 1 dX11_isWord_36 rfl rfl ?_
    refine i_RX11_242 (rest := [.int v3]) C hn ht_t1 rfl (by decide) rfl dX11_isWord_37 h (fun r37 μ37 h => ?_)
    refine x_icmp_ge C dX11_isWord_40 (tgt := 74) (by decide) h (fun h => ?_) (fun h => ?_)
    · exact qV_sub [2] rfl (b_X11_isWord_74 C hQ hn ht_t1 h)
    · refine x_aload_n C 0 dX11_isWord_43 rfl rfl ?_
      refine g_RX11_41 C hn dX11_isWord_44 ?_
      refine x_aload_n C 0 dX11_isWord_47 rfl rfl ?_
      refine g_RX11_232 C hn dX11_isWord_48 ?_
      refine x_iload_n C 3 dX11_isWord_51 rfl rfl ?_
      refine x_iadd C dX11_isWord_52 ?_
      refine x_iald C 55 20 120 (q_lt rfl rfl hn) rfl rfl rfl rfl rfl dX11_isWord_53 h (fun h => ?_)
      refine x_aload_n C 1 dX11_isWord_54 rfl rfl ?_
      refine x_iload_n C 3 dX11_isWord_55 rfl rfl ?_
      refine i_RX11_247 (rest := [.int ((μ37 55 ((μ37 46 31) + v3).toNatClampNeg))]) C hn ht_t1 rfl (by decide) rfl dX11_isWord_56 h (fun r56 μ56 h => ?_)
      refine x_icmp_ne C dX11_isWord_59 (tgt := 66) (by decide) h (fun h => ?_) (fun h => ?_)
      · refine x_iconst C dX11_isWord_66 (v := 0) (by decide) ?_
        exact qV_sub [0, 1, 3] rfl (b_X11_isWord_67 C hQ hn ht_t1 (fun _ _ _ h => h) h)
      · refine x_iconst C dX11_isWord_62 (v := 1) (by decide) ?_
        refine x_goto C dX11_isWord_63 (tgt := 67) (by decide) ?_
        exact qV_sub [0, 1, 3] rfl (b_X11_isWord_67 C hQ hn ht_t1 (fun _ _ _ h => h) h)
theorem b_X11_isWord_28 {Z : qZ} {G : qG} {t1 : Nat} {s0 : Int32} {μ : qM} {post : Int32 → qM → Prop} (C : qX Z G RX11 cX11_isWord 4 ({ frames := 6, cells := 0, slots := 0, locals := 161 } : Room) (some .boolean)) (hQ : qQi Z G 0 0 post) (hn : 66 ≤ gn G) (ht_t1 : t1 < 12) (h : q_X11_isWord_28 t1 post s0 μ) : qV Z G 4 0 0 μ 28 [(0, .ref (ga G 46)), (1, .ref (gK G t1))] [.int s0] := by
  unfold q_X11_isWord_28 at h
  refine x_istore_n C (L' := [(2, .int s0), (0, .ref (ga G 46)), (1, .ref (gK G t1))]) dX11_isWord_28 rfl (by decide) rfl ?_
  refine x_iconst C dX11_isWord_29 (v := 0) (by decide) ?_
  refine x_istore_n C (L' := [(3, .int ((0 : Int32))), (2, .int s0), (0, .ref (ga G 46)), (1, .ref (gK G t1))]) dX11_isWord_30 rfl (by decide) rfl ?_
  exact qV_sub [2, 3, 1, 0] rfl (b_X11_isWord_31 C hQ hn ht_t1 h)
theorem b_X11_isWord_27 {Z : qZ} {G : qG} {t1 : Nat} {μ : qM} {post : Int32 → qM → Prop} (C : qX Z G RX11 cX11_isWord 4 ({ frames := 6, cells := 0, slots := 0, locals := 161 } : Room) (some .boolean)) (hQ : qQi Z G 0 0 post) (hn : 66 ≤ gn G) (ht_t1 : t1 < 12) (h : q_X11_isWord_27 t1 post μ) : qV Z G 4 0 0 μ 27 [(0, .ref (ga G 46)), (1, .ref (gK G t1))] [] := by
  unfold q_X11_isWord_27 at h
  refine x_iconst C dX11_isWord_27 (v := 0) (by decide) ?_
  exact b_X11_isWord_28 C hQ hn ht_t1 h
theorem y_X11_isWord : qY yX11_isWord cX11_isWord 4 (some .boolean) 1 ({ frames := 6, cells := 0, slots := 0, locals := 161 } : Room) 0 0 := ⟨(qm_43 _ (List.mem_of_getElem? (i := 19) rfl)), (qm_1 _ (List.mem_of_getElem? (i := 5) rfl)), by decide +kernel, by decide +kernel, rfl, rfl⟩
theorem c_X11_isWord (l : Launch) (G : qG) {t1 : Nat} {μ : qM} (hn : 66 ≤ gn G) (ht_t1 : t1 < 12) : qCi l G yX11_isWord cX11_isWord 4 (some .boolean) ({ frames := 6, cells := 0, slots := 0, locals := 161 } : Room) 0 0 [.ref (ga G 46), .ref (gK G t1)] μ (fun post => w_X11_isWord t1 post μ) := by
  refine qCi_of (L := [(0, .ref (ga G 46)), (1, .ref (gK G t1))]) (by decide) rfl rfl ?_
  intro Z post hl C hQ h
  have C : qX Z G RX11 cX11_isWord 4 ({ frames := 6, cells := 0, slots := 0, locals := 161 } : Room) (some .boolean) := C
  have h : w_X11_isWord t1 post μ := h
  unfold w_X11_isWord at h
  refine x_aload_n C 0 dX11_isWord_0 rfl rfl ?_
  refine g_RX11_238 C hn dX11_isWord_1 ?_
  refine x_if_ne C dX11_isWord_4 (tgt := 27) (by decide) h (fun h => ?_) (fun h => ?_)
  · exact b_X11_isWord_27 C hQ hn ht_t1 h
  · refine x_aload_n C 0 dX11_isWord_7 rfl rfl ?_
    refine g_RX11_229 C hn dX11_isWord_8 ?_
    refine x_aload_n C 0 dX11_isWord_11 rfl rfl ?_
    refine g_RX11_232 C hn dX11_isWord_12 ?_
    refine x_isub C dX11_isWord_15 ?_
    refine x_aload_n C 1 dX11_isWord_16 rfl rfl ?_
    refine i_RX11_242 (rest := [.int (((μ 46 32) - (μ 46 31)))]) C hn ht_t1 rfl (by decide) rfl dX11_isWord_17 h (fun r17 μ17 h => ?_)
    refine x_icmp_ne C dX11_isWord_20 (tgt := 27) (by decide) h (fun h => ?_) (fun h => ?_)
    · exact b_X11_isWord_27 C hQ hn ht_t1 h
    · refine x_iconst C dX11_isWord_23 (v := 1) (by decide) ?_
      refine x_goto C dX11_isWord_24 (tgt := 28) (by decide) ?_
      exact b_X11_isWord_28 C hQ hn ht_t1 h
theorem dX11_takes_0 : decode cX11_takes 0 = .ok (.aload_n 0, 1) := by decide +kernel
theorem dX11_takes_1 : decode cX11_takes 1 = .ok (.aload_n 1, 1) := by decide +kernel
theorem dX11_takes_2 : decode cX11_takes 2 = .ok (.invokevirtual 251, 3) := by decide +kernel
theorem dX11_takes_5 : decode cX11_takes 5 = .ok (.istore_n 2, 1) := by decide +kernel
theorem dX11_takes_6 : decode cX11_takes 6 = .ok (.iload_n 2, 1) := by decide +kernel
theorem dX11_takes_7 : decode cX11_takes 7 = .ok (.ifCond .eq 7, 3) := by decide +kernel
theorem dX11_takes_10 : decode cX11_takes 10 = .ok (.aload_n 0, 1) := by decide +kernel
theorem dX11_takes_11 : decode cX11_takes 11 = .ok (.invokevirtual 255, 3) := by decide +kernel
theorem dX11_takes_14 : decode cX11_takes 14 = .ok (.iload_n 2, 1) := by decide +kernel
theorem dX11_takes_15 : decode cX11_takes 15 = .ok (.ireturn, 1) := by decide +kernel
theorem i_RX11_251 {Z : qZ} {G : qG} {cc : ByteArray} {nL k n : Nat} {rm : Room} {ret : Option FieldType} {μ : qM} {pc : Nat} {L : List (Nat × Value)} {rest : List Value} {K : Int32 → qM → Prop} {t1 : Nat} (C : qX Z G RX11 cc nL rm ret) (hn : 66 ≤ gn G) (ht_t1 : t1 < 12) (hR : (Nat.ble (6 + 1) rm.frames && Nat.ble (8 + (4 + 11) + 161) rm.locals) = true) (hf : k + 0 ≤ rm.cells ∧ n + 0 ≤ rm.slots) (hsz : Nat.ble (rest.map fun v => v.category).sum 8 = true) (hd : decode cc pc = .ok (.invokevirtual 251, 3)) (h : w_X11_isWord t1 K μ) (hk : ∀ (r : Int32) (μ1 : qM), K r μ1 → qV Z G nL k n μ1 (pc + 3) L (.int r :: rest)) : qV Z G nL k n μ pc L (.ref (gK G t1) :: .ref (ga G 46) :: rest) := x_Vi [.ref (gK G t1)] rest C 46 10 (wp := fun K => w_X11_isWord t1 K μ) (y_X11_isWord : qY yX11_isWord cX11_isWord 4 (some .boolean) 1 ({ frames := 6, cells := 0, slots := 0, locals := 161 } : Room) 0 0) (qm_43 _ (List.mem_of_getElem? (i := 17) rfl)) (qm_43 _ (List.mem_of_getElem? (i := 18) rfl)) (qm_43 _ (List.mem_of_getElem? (i := 16) rfl)) (c_X11_isWord Z.2.1 G hn ht_t1) (Nat.lt_of_lt_of_le (by decide) hn) rfl (by decide) rfl rfl hR hf rfl rfl hsz hd h hk
theorem i_RX11_255 {Z : qZ} {G : qG} {cc : ByteArray} {nL k n : Nat} {rm : Room} {ret : Option FieldType} {μ : qM} {pc : Nat} {L : List (Nat × Value)} {rest : List Value} {K : qM → Prop} (C : qX Z G RX11 cc nL rm ret) (hn : 66 ≤ gn G) (hR : (Nat.ble (2 + 1) rm.frames && Nat.ble (8 + (3 + 11) + 45) rm.locals) = true) (hf : k + 0 ≤ rm.cells ∧ n + 0 ≤ rm.slots) (hsz : Nat.ble (rest.map fun v => v.category).sum 8 = true) (hd : decode cc pc = .ok (.invokevirtual 255, 3)) (h : w_X11_next  K μ) (hk : ∀ (μ1 : qM), K μ1 → qV Z G nL k n μ1 (pc + 3) L rest) : qV Z G nL k n μ pc L (.ref (ga G 46) :: rest) := x_Vv [] rest C 46 10 (wp := fun K => w_X11_next  K μ) (y_X11_next : qY yX11_next cX11_next 3 none 0 ({ frames := 2, cells := 0, slots := 0, locals := 45 } : Room) 0 0) (qm_42 _ (List.mem_of_getElem? (i := 22) rfl)) (qm_42 _ (List.mem_of_getElem? (i := 23) rfl)) (qm_42 _ (List.mem_of_getElem? (i := 21) rfl)) (c_X11_next Z.2.1 G hn ) (Nat.lt_of_lt_of_le (by decide) hn) rfl (by decide) rfl rfl hR hf rfl rfl hsz hd h hk
theorem b_X11_takes_14 {Z : qZ} {G : qG} {t1 : Nat} {v2 : Int32} {μ : qM} {post : Int32 → qM → Prop} (C : qX Z G RX11 cX11_takes 3 ({ frames := 7, cells := 0, slots := 0, locals := 184 } : Room) (some .boolean)) (hQ : qQi Z G 0 0 post) (hn : 66 ≤ gn G) (ht_t1 : t1 < 12) (h : q_X11_takes_14 t1 post v2 μ) : qV Z G 3 0 0 μ 14 [(2, .int v2)] [] := by
  unfold q_X11_takes_14 at h
  refine x_iload_n C 0 dX11_takes_14 rfl rfl ?_
  exact x_zret C hQ dX11_takes_15 h
theorem y_X11_takes : qY yX11_takes cX11_takes 3 (some .boolean) 1 ({ frames := 7, cells := 0, slots := 0, locals := 184 } : Room) 0 0 := ⟨(qm_44 _ (List.mem_of_getElem? (i := 17) rfl)), (qm_1 _ (List.mem_of_getElem? (i := 5) rfl)), by decide +kernel, by decide +kernel, rfl, rfl⟩
theorem c_X11_takes (l : Launch) (G : qG) {t1 : Nat} {μ : qM} (hn : 66 ≤ gn G) (ht_t1 : t1 < 12) : qCi l G yX11_takes cX11_takes 3 (some .boolean) ({ frames := 7, cells := 0, slots := 0, locals := 184 } : Room) 0 0 [.ref (ga G 46), .ref (gK G t1)] μ (fun post => w_X11_takes t1 post μ) := by
  refine qCi_of (L := [(0, .ref (ga G 46)), (1, .ref (gK G t1))]) (by decide) rfl rfl ?_
  intro Z post hl C hQ h
  have C : qX Z G RX11 cX11_takes 3 ({ frames := 7, cells := 0, slots := 0, locals := 184 } : Room) (some .boolean) := C
  have h : w_X11_takes t1 post μ := h
  unfold w_X11_takes at h
  refine x_aload_n C 0 dX11_takes_0 rfl rfl ?_
  refine x_aload_n C 1 dX11_takes_1 rfl rfl ?_
  refine i_RX11_251 (rest := []) C hn ht_t1 rfl (by decide) rfl dX11_takes_2 h (fun r2 μ2 h => ?_)
  refine x_istore_n C (L' := [(2, .int r2), (0, .ref (ga G 46)), (1, .ref (gK G t1))]) dX11_takes_5 rfl (by decide) rfl ?_
  refine x_iload_n C 0 dX11_takes_6 rfl rfl ?_
  refine x_if_eq C dX11_takes_7 (tgt := 14) (by decide) h (fun h => ?_) (fun h => ?_)
  · exact qV_sub [0] rfl (b_X11_takes_14 C hQ hn ht_t1 h)
  · refine x_aload_n C 1 dX11_takes_10 rfl rfl ?_
    refine i_RX11_255 (rest := []) C hn  rfl (by decide) rfl dX11_takes_11 h (fun μ11 h => ?_)
    exact qV_sub [0] rfl (b_X11_takes_14 C hQ hn ht_t1 h)
theorem dX11_wants_0 : decode cX11_wants 0 = .ok (.aload_n 0, 1) := by decide +kernel
theorem dX11_wants_1 : decode cX11_wants 1 = .ok (.aload_n 0, 1) := by decide +kernel
theorem dX11_wants_2 : decode cX11_wants 2 = .ok (.getfield 238, 3) := by decide +kernel
theorem dX11_wants_5 : decode cX11_wants 5 = .ok (.ifCond .ne 11, 3) := by decide +kernel
theorem dX11_wants_8 : decode cX11_wants 8 = .ok (.aload_n 0, 1) := by decide +kernel
theorem dX11_wants_9 : decode cX11_wants 9 = .ok (.aload_n 1, 1) := by decide +kernel
theorem dX11_wants_10 : decode cX11_wants 10 = .ok (.invokevirtual 251, 3) := by decide +kernel
theorem dX11_wants_13 : decode cX11_wants 13 = .ok (.ifCond .ne 7, 3) := by decide +kernel
theorem dX11_wants_16 : decode cX11_wants 16 = .ok (.iconst 1, 1) := by decide +kernel
theorem dX11_wants_17 : decode cX11_wants 17 = .ok (.goto 4, 3) := by decide +kernel
theorem dX11_wants_20 : decode cX11_wants 20 = .ok (.iconst 0, 1) := by decide +kernel
theorem dX11_wants_21 : decode cX11_wants 21 = .ok (.putfield 238, 3) := by decide +kernel
theorem dX11_wants_24 : decode cX11_wants 24 = .ok (.aload_n 0, 1) := by decide +kernel
theorem dX11_wants_25 : decode cX11_wants 25 = .ok (.getfield 238, 3) := by decide +kernel
theorem dX11_wants_28 : decode cX11_wants 28 = .ok (.ifCond .ne 7, 3) := by decide +kernel
theorem dX11_wants_31 : decode cX11_wants 31 = .ok (.aload_n 0, 1) := by decide +kernel
theorem dX11_wants_32 : decode cX11_wants 32 = .ok (.invokevirtual 255, 3) := by decide +kernel
theorem dX11_wants_35 : decode cX11_wants 35 = .ok (.return_, 1) := by decide +kernel
theorem p_RX11_238 {Z : qZ} {G : qG} {cc : ByteArray} {nL k n : Nat} {rm : Room} {ret : Option FieldType} {μ : qM} {pc : Nat} {L : List (Nat × Value)} {st : List Value} {x : Int32} {A : Prop} (C : qX Z G RX11 cc nL rm ret) (hn : 66 ≤ gn G) (hd : decode cc pc = .ok (.putfield 238, 3)) (hh : (x = 0 ∨ x = 1) ∧ A) (h : A → qV Z G nL k n (qu μ 46 33 x) (pc + 3) L st) : qV Z G nL k n μ pc L (.int x :: .ref (ga G 46) :: st) := x_puti C 46 10 33 (C0 := RX11) (fn := "isWrong") (fd := "Z") (ty := .boolean) (Nat.lt_of_lt_of_le (by decide) hn) rfl (by decide) rfl (by decide) rfl inlX11 tyX11_ok nmX11 (qm_42 _ (List.mem_of_getElem? (i := 18) rfl)) rfl (by decide +kernel) (by rcases hh.1 with rfl | rfl <;> decide) (by rcases hh.1 with rfl | rfl <;> decide) hd (h hh.2)
theorem b_X11_wants_21 {Z : qZ} {G : qG} {t1 : Nat} {s0 : Int32} {μ : qM} {post : qM → Prop} (C : qX Z G RX11 cX11_wants 2 ({ frames := 7, cells := 0, slots := 0, locals := 184 } : Room) none) (hQ : qQv Z G 0 0 post) (hn : 66 ≤ gn G) (ht_t1 : t1 < 12) (h : q_X11_wants_21 t1 post s0 μ) : qV Z G 2 0 0 μ 21 [(0, .ref (ga G 46))] [.int s0, .ref (ga G 46)] := by
  unfold q_X11_wants_21 at h
  refine p_RX11_238 C hn dX11_wants_21 h (fun h => ?_)
  refine x_aload_n C 0 dX11_wants_24 rfl rfl ?_
  refine g_RX11_238 C hn dX11_wants_25 ?_
  refine x_if_ne C dX11_wants_28 (tgt := 35) (by decide) h (fun h => ?_) (fun h => ?_)
  · exact x_vret C hQ dX11_wants_35 h
  · refine x_aload_n C 0 dX11_wants_31 rfl rfl ?_
    refine i_RX11_255 (rest := []) C hn  rfl (by decide) rfl dX11_wants_32 h (fun μ32 h => ?_)
    exact x_vret C hQ dX11_wants_35 h
theorem b_X11_wants_16 {Z : qZ} {G : qG} {t1 : Nat} {μ : qM} {post : qM → Prop} (C : qX Z G RX11 cX11_wants 2 ({ frames := 7, cells := 0, slots := 0, locals := 184 } : Room) none) (hQ : qQv Z G 0 0 post) (hn : 66 ≤ gn G) (ht_t1 : t1 < 12) (h : q_X11_wants_16 t1 post μ) : qV Z G 2 0 0 μ 16 [(0, .ref (ga G 46))] [.ref (ga G 46)] := by
  unfold q_X11_wants_16 at h
  refine x_iconst C dX11_wants_16 (v := 1) (by decide) ?_
  refine x_goto C dX11_wants_17 (tgt := 21) (by decide) ?_
  exact b_X11_wants_21 C hQ hn ht_t1 h
theorem y_X11_wants : qY yX11_wants cX11_wants 2 none 1 ({ frames := 7, cells := 0, slots := 0, locals := 184 } : Room) 0 0 := ⟨(qm_44 _ (List.mem_of_getElem? (i := 5) rfl)), (qm_1 _ (List.mem_of_getElem? (i := 5) rfl)), by decide +kernel, by decide +kernel, rfl, rfl⟩
theorem c_X11_wants (l : Launch) (G : qG) {t1 : Nat} {μ : qM} (hn : 66 ≤ gn G) (ht_t1 : t1 < 12) : qCv l G yX11_wants cX11_wants 2 none ({ frames := 7, cells := 0, slots := 0, locals := 184 } : Room) 0 0 [.ref (ga G 46), .ref (gK G t1)] μ (fun post => w_X11_wants t1 post μ) := by
  refine qCv_of (L := [(0, .ref (ga G 46)), (1, .ref (gK G t1))]) (by decide) rfl rfl ?_
  intro Z post hl C hQ h
  have C : qX Z G RX11 cX11_wants 2 ({ frames := 7, cells := 0, slots := 0, locals := 184 } : Room) none := C
  have h : w_X11_wants t1 post μ := h
  unfold w_X11_wants at h
  refine x_aload_n C 0 dX11_wants_0 rfl rfl ?_
  refine x_aload_n C 0 dX11_wants_1 rfl rfl ?_
  refine g_RX11_238 C hn dX11_wants_2 ?_
  refine x_if_ne C dX11_wants_5 (tgt := 16) (by decide) h (fun h => ?_) (fun h => ?_)
  · exact qV_sub [0] rfl (b_X11_wants_16 C hQ hn ht_t1 h)
  · refine x_aload_n C 0 dX11_wants_8 rfl rfl ?_
    refine x_aload_n C 1 dX11_wants_9 rfl rfl ?_
    refine i_RX11_251 (rest := [.ref (ga G 46)]) C hn ht_t1 rfl (by decide) rfl dX11_wants_10 h (fun r10 μ10 h => ?_)
    refine x_if_ne C dX11_wants_13 (tgt := 20) (by decide) h (fun h => ?_) (fun h => ?_)
    · refine x_iconst C dX11_wants_20 (v := 0) (by decide) ?_
      exact qV_sub [0] rfl (b_X11_wants_21 C hQ hn ht_t1 h)
    · exact qV_sub [0] rfl (b_X11_wants_16 C hQ hn ht_t1 h)
theorem dX11_numberHere_0 : decode cX11_numberHere 0 = .ok (.aload_n 0, 1) := by decide +kernel
theorem dX11_numberHere_1 : decode cX11_numberHere 1 = .ok (.aload_n 0, 1) := by decide +kernel
theorem dX11_numberHere_2 : decode cX11_numberHere 2 = .ok (.getfield 232, 3) := by decide +kernel
theorem dX11_numberHere_5 : decode cX11_numberHere 5 = .ok (.bipush 48, 2) := by decide +kernel
theorem dX11_numberHere_7 : decode cX11_numberHere 7 = .ok (.bipush 57, 2) := by decide +kernel
theorem dX11_numberHere_9 : decode cX11_numberHere 9 = .ok (.invokevirtual 235, 3) := by decide +kernel
theorem dX11_numberHere_12 : decode cX11_numberHere 12 = .ok (.ifCond .eq 7, 3) := by decide +kernel
theorem dX11_numberHere_15 : decode cX11_numberHere 15 = .ok (.iconst 0, 1) := by decide +kernel
theorem dX11_numberHere_16 : decode cX11_numberHere 16 = .ok (.goto 4, 3) := by decide +kernel
theorem dX11_numberHere_19 : decode cX11_numberHere 19 = .ok (.iconst (-1), 1) := by decide +kernel
theorem dX11_numberHere_20 : decode cX11_numberHere 20 = .ok (.istore_n 1, 1) := by decide +kernel
theorem dX11_numberHere_21 : decode cX11_numberHere 21 = .ok (.aload_n 0, 1) := by decide +kernel
theorem dX11_numberHere_22 : decode cX11_numberHere 22 = .ok (.getfield 232, 3) := by decide +kernel
theorem dX11_numberHere_25 : decode cX11_numberHere 25 = .ok (.istore_n 2, 1) := by decide +kernel
theorem dX11_numberHere_26 : decode cX11_numberHere 26 = .ok (.iload_n 2, 1) := by decide +kernel
theorem dX11_numberHere_27 : decode cX11_numberHere 27 = .ok (.aload_n 0, 1) := by decide +kernel
theorem dX11_numberHere_28 : decode cX11_numberHere 28 = .ok (.getfield 229, 3) := by decide +kernel
theorem dX11_numberHere_31 : decode cX11_numberHere 31 = .ok (.if_icmp .ge 38, 3) := by decide +kernel
theorem dX11_numberHere_34 : decode cX11_numberHere 34 = .ok (.iload_n 1, 1) := by decide +kernel
theorem dX11_numberHere_35 : decode cX11_numberHere 35 = .ok (.ifCond .lt 34, 3) := by decide +kernel
theorem dX11_numberHere_38 : decode cX11_numberHere 38 = .ok (.iload_n 1, 1) := by decide +kernel
theorem dX11_numberHere_39 : decode cX11_numberHere 39 = .ok (.ldc 138, 2) := by decide +kernel
theorem dX11_numberHere_41 : decode cX11_numberHere 41 = .ok (.if_icmp .le 7, 3) := by decide +kernel
theorem dX11_numberHere_44 : decode cX11_numberHere 44 = .ok (.iload_n 1, 1) := by decide +kernel
theorem dX11_numberHere_45 : decode cX11_numberHere 45 = .ok (.goto 17, 3) := by decide +kernel
theorem dX11_numberHere_48 : decode cX11_numberHere 48 = .ok (.bipush 10, 2) := by decide +kernel
theorem dX11_numberHere_50 : decode cX11_numberHere 50 = .ok (.iload_n 1, 1) := by decide +kernel
theorem dX11_numberHere_51 : decode cX11_numberHere 51 = .ok (.imul, 1) := by decide +kernel
theorem dX11_numberHere_52 : decode cX11_numberHere 52 = .ok (.aload_n 0, 1) := by decide +kernel
theorem dX11_numberHere_53 : decode cX11_numberHere 53 = .ok (.getfield 41, 3) := by decide +kernel
theorem dX11_numberHere_56 : decode cX11_numberHere 56 = .ok (.iload_n 2, 1) := by decide +kernel
theorem dX11_numberHere_57 : decode cX11_numberHere 57 = .ok (.iaload, 1) := by decide +kernel
theorem dX11_numberHere_58 : decode cX11_numberHere 58 = .ok (.iadd, 1) := by decide +kernel
theorem dX11_numberHere_59 : decode cX11_numberHere 59 = .ok (.bipush 48, 2) := by decide +kernel
theorem dX11_numberHere_61 : decode cX11_numberHere 61 = .ok (.isub, 1) := by decide +kernel
theorem dX11_numberHere_62 : decode cX11_numberHere 62 = .ok (.istore_n 1, 1) := by decide +kernel
theorem dX11_numberHere_63 : decode cX11_numberHere 63 = .ok (.iinc 2 1, 3) := by decide +kernel
theorem dX11_numberHere_66 : decode cX11_numberHere 66 = .ok (.goto (-40), 3) := by decide +kernel
theorem dX11_numberHere_69 : decode cX11_numberHere 69 = .ok (.iload_n 1, 1) := by decide +kernel
theorem dX11_numberHere_70 : decode cX11_numberHere 70 = .ok (.ireturn, 1) := by decide +kernel
theorem b_X11_numberHere_62 {Z : qZ} {G : qG} {v2 : Int32} {s0 : Int32} {μ : qM} {P26 : Int32 → Int32 → qM → Prop} {post : Int32 → qM → Prop} (C : qX Z G RX11 cX11_numberHere 3 ({ frames := 2, cells := 0, slots := 0, locals := 45 } : Room) (some .int)) (hQ : qQi Z G 0 0 post) (hn : 66 ≤ gn G) (hP26 : ∀ (b1 : Int32) (b2 : Int32) (μ1 : qM), P26 b1 b2 μ1 → qV Z G 3 0 0 μ1 26 [(0, .ref (ga G 46)), (1, .int b1), (2, .int b2)] []) (h : q_X11_numberHere_62 P26 post v2 s0 μ) : qV Z G 3 0 0 μ 62 [(0, .ref (ga G 46)), (2, .int v2)] [.int s0] := by
  unfold q_X11_numberHere_62 at h
  refine x_istore_n C (L' := [(1, .int s0), (0, .ref (ga G 46)), (2, .int v2)]) dX11_numberHere_62 rfl (by decide) rfl ?_
  refine x_iinc C 2 (v := 1) (L' := [(2, .int ((v2 + 1))), (1, .int s0), (0, .ref (ga G 46))]) dX11_numberHere_63 rfl (by decide) (by decide) rfl ?_
  refine x_goto C dX11_numberHere_66 (tgt := 26) (by decide) ?_
  exact qV_sub [2, 1, 0] rfl ((hP26 _ _ _ h))
theorem b_X11_numberHere_69 {Z : qZ} {G : qG} {v1 : Int32} {μ : qM} {post : Int32 → qM → Prop} (C : qX Z G RX11 cX11_numberHere 3 ({ frames := 2, cells := 0, slots := 0, locals := 45 } : Room) (some .int)) (hQ : qQi Z G 0 0 post) (hn : 66 ≤ gn G) (h : q_X11_numberHere_69 post v1 μ) : qV Z G 3 0 0 μ 69 [(1, .int v1)] [] := by
  unfold q_X11_numberHere_69 at h
  refine x_iload_n C 0 dX11_numberHere_69 rfl rfl ?_
  exact x_iret C hQ dX11_numberHere_70 h
theorem b_X11_numberHere_26 {Z : qZ} {G : qG} {v1 : Int32} {v2 : Int32} {μ : qM} {post : Int32 → qM → Prop} (C : qX Z G RX11 cX11_numberHere 3 ({ frames := 2, cells := 0, slots := 0, locals := 45 } : Room) (some .int)) (hQ : qQi Z G 0 0 post) (hn : 66 ≤ gn G) (h : q_X11_numberHere_26 post v1 v2 μ) : qV Z G 3 0 0 μ 26 [(0, .ref (ga G 46)), (1, .int v1), (2, .int v2)] [] := by
  refine h (fun v1 v2 μ => qV Z G 3 0 0 μ 26 [(0, .ref (ga G 46)), (1, .int v1), (2, .int v2)] []) (fun v1 v2 μ h => ?_)
  refine x_iload_n C 2 dX11_numberHere_26 rfl rfl ?_
  refine x_aload_n C 0 dX11_numberHere_27 rfl rfl ?_
  refine g_RX11_229 C hn dX11_numberHere_28 ?_
  refine x_icmp_ge C dX11_numberHere_31 (tgt := 69) (by decide) h (fun h => ?_) (fun h => ?_)
  · exact qV_sub [1] rfl (b_X11_numberHere_69 C hQ hn h)
  · refine x_iload_n C 1 dX11_numberHere_34 rfl rfl ?_
    refine x_if_lt C dX11_numberHere_35 (tgt := 69) (by decide) h (fun h => ?_) (fun h => ?_)
    · exact qV_sub [1] rfl (b_X11_numberHere_69 C hQ hn h)
    · refine x_iload_n C 1 dX11_numberHere_38 rfl rfl ?_
      refine x_ldc C (v := 99999) (qm_16 _ (List.mem_of_getElem? (i := 14) rfl)) dX11_numberHere_39 ?_
      refine x_icmp_le C dX11_numberHere_41 (tgt := 48) (by decide) h (fun h => ?_) (fun h => ?_)
      · refine x_bipush C dX11_numberHere_48 (v := 10) (by decide) ?_
        refine x_iload_n C 1 dX11_numberHere_50 rfl rfl ?_
        refine x_imul C dX11_numberHere_51 ?_
        refine x_aload_n C 0 dX11_numberHere_52 rfl rfl ?_
        refine g_RX11_41 C hn dX11_numberHere_53 ?_
        refine x_iload_n C 2 dX11_numberHere_56 rfl rfl ?_
        refine x_iald C 55 20 120 (q_lt rfl rfl hn) rfl rfl rfl rfl rfl dX11_numberHere_57 h (fun h => ?_)
        refine x_iadd C dX11_numberHere_58 ?_
        refine x_bipush C dX11_numberHere_59 (v := 48) (by decide) ?_
        refine x_isub C dX11_numberHere_61 ?_
        exact qV_sub [0, 2] rfl (b_X11_numberHere_62 C hQ hn (fun _ _ _ h => h) h)
      · refine x_iload_n C 1 dX11_numberHere_44 rfl rfl ?_
        refine x_goto C dX11_numberHere_45 (tgt := 62) (by decide) ?_
        exact qV_sub [0, 2] rfl (b_X11_numberHere_62 C hQ hn (fun _ _ _ h => h) h)
theorem b_X11_numberHere_20 {Z : qZ} {G : qG} {s0 : Int32} {μ : qM} {post : Int32 → qM → Prop} (C : qX Z G RX11 cX11_numberHere 3 ({ frames := 2, cells := 0, slots := 0, locals := 45 } : Room) (some .int)) (hQ : qQi Z G 0 0 post) (hn : 66 ≤ gn G) (h : q_X11_numberHere_20 post s0 μ) : qV Z G 3 0 0 μ 20 [(0, .ref (ga G 46))] [.int s0] := by
  unfold q_X11_numberHere_20 at h
  refine x_istore_n C (L' := [(1, .int s0), (0, .ref (ga G 46))]) dX11_numberHere_20 rfl (by decide) rfl ?_
  refine x_aload_n C 1 dX11_numberHere_21 rfl rfl ?_
  refine g_RX11_232 C hn dX11_numberHere_22 ?_
  refine x_istore_n C (L' := [(2, .int ((μ 46 31))), (1, .int s0), (0, .ref (ga G 46))]) dX11_numberHere_25 rfl (by decide) rfl ?_
  exact qV_sub [2, 1, 0] rfl (b_X11_numberHere_26 C hQ hn h)
theorem y_X11_numberHere : qY yX11_numberHere cX11_numberHere 3 (some .int) 0 ({ frames := 2, cells := 0, slots := 0, locals := 45 } : Room) 0 0 := ⟨(qm_44 _ (List.mem_of_getElem? (i := 13) rfl)), (qm_1 _ (List.mem_of_getElem? (i := 5) rfl)), by decide +kernel, by decide +kernel, rfl, rfl⟩
theorem c_X11_numberHere (l : Launch) (G : qG) {μ : qM} (hn : 66 ≤ gn G) : qCi l G yX11_numberHere cX11_numberHere 3 (some .int) ({ frames := 2, cells := 0, slots := 0, locals := 45 } : Room) 0 0 [.ref (ga G 46)] μ (fun post => w_X11_numberHere  post μ) := by
  refine qCi_of (L := [(0, .ref (ga G 46))]) (by decide) rfl rfl ?_
  intro Z post hl C hQ h
  have C : qX Z G RX11 cX11_numberHere 3 ({ frames := 2, cells := 0, slots := 0, locals := 45 } : Room) (some .int) := C
  have h : w_X11_numberHere  post μ := h
  unfold w_X11_numberHere at h
  refine x_aload_n C 0 dX11_numberHere_0 rfl rfl ?_
  refine x_aload_n C 0 dX11_numberHere_1 rfl rfl ?_
  refine g_RX11_232 C hn dX11_numberHere_2 ?_
  refine x_bipush C dX11_numberHere_5 (v := 48) (by decide) ?_
  refine x_bipush C dX11_numberHere_7 (v := 57) (by decide) ?_
  refine i_RX11_235 (rest := []) C hn  rfl (by decide) rfl dX11_numberHere_9 h (fun r9 μ9 h => ?_)
  refine x_if_eq C dX11_numberHere_12 (tgt := 19) (by decide) h (fun h => ?_) (fun h => ?_)
  · refine x_iconst C dX11_numberHere_19 (v := -1) (by decide) ?_
    exact b_X11_numberHere_20 C hQ hn h
  · refine x_iconst C dX11_numberHere_15 (v := 0) (by decide) ?_
    refine x_goto C dX11_numberHere_16 (tgt := 20) (by decide) ?_
    exact b_X11_numberHere_20 C hQ hn h
theorem dX11_number_0 : decode cX11_number 0 = .ok (.aload_n 0, 1) := by decide +kernel
theorem dX11_number_1 : decode cX11_number 1 = .ok (.invokevirtual 258, 3) := by decide +kernel
theorem dX11_number_4 : decode cX11_number 4 = .ok (.istore_n 2, 1) := by decide +kernel
theorem dX11_number_5 : decode cX11_number 5 = .ok (.aload_n 0, 1) := by decide +kernel
theorem dX11_number_6 : decode cX11_number 6 = .ok (.aload_n 0, 1) := by decide +kernel
theorem dX11_number_7 : decode cX11_number 7 = .ok (.getfield 238, 3) := by decide +kernel
theorem dX11_number_10 : decode cX11_number 10 = .ok (.ifCond .ne 12, 3) := by decide +kernel
theorem dX11_number_13 : decode cX11_number 13 = .ok (.iload_n 2, 1) := by decide +kernel
theorem dX11_number_14 : decode cX11_number 14 = .ok (.iconst 0, 1) := by decide +kernel
theorem dX11_number_15 : decode cX11_number 15 = .ok (.iload_n 1, 1) := by decide +kernel
theorem dX11_number_16 : decode cX11_number 16 = .ok (.invokestatic 79, 3) := by decide +kernel
theorem dX11_number_19 : decode cX11_number 19 = .ok (.ifCond .ne 7, 3) := by decide +kernel
theorem dX11_number_22 : decode cX11_number 22 = .ok (.iconst 1, 1) := by decide +kernel
theorem dX11_number_23 : decode cX11_number 23 = .ok (.goto 4, 3) := by decide +kernel
theorem dX11_number_26 : decode cX11_number 26 = .ok (.iconst 0, 1) := by decide +kernel
theorem dX11_number_27 : decode cX11_number 27 = .ok (.putfield 238, 3) := by decide +kernel
theorem dX11_number_30 : decode cX11_number 30 = .ok (.aload_n 0, 1) := by decide +kernel
theorem dX11_number_31 : decode cX11_number 31 = .ok (.getfield 238, 3) := by decide +kernel
theorem dX11_number_34 : decode cX11_number 34 = .ok (.ifCond .ne 7, 3) := by decide +kernel
theorem dX11_number_37 : decode cX11_number 37 = .ok (.aload_n 0, 1) := by decide +kernel
theorem dX11_number_38 : decode cX11_number 38 = .ok (.invokevirtual 255, 3) := by decide +kernel
theorem dX11_number_41 : decode cX11_number 41 = .ok (.iload_n 2, 1) := by decide +kernel
theorem dX11_number_42 : decode cX11_number 42 = .ok (.ireturn, 1) := by decide +kernel
theorem i_RX11_258 {Z : qZ} {G : qG} {cc : ByteArray} {nL k n : Nat} {rm : Room} {ret : Option FieldType} {μ : qM} {pc : Nat} {L : List (Nat × Value)} {rest : List Value} {K : Int32 → qM → Prop} (C : qX Z G RX11 cc nL rm ret) (hn : 66 ≤ gn G) (hR : (Nat.ble (2 + 1) rm.frames && Nat.ble (8 + (3 + 11) + 45) rm.locals) = true) (hf : k + 0 ≤ rm.cells ∧ n + 0 ≤ rm.slots) (hsz : Nat.ble (rest.map fun v => v.category).sum 8 = true) (hd : decode cc pc = .ok (.invokevirtual 258, 3)) (h : w_X11_numberHere  K μ) (hk : ∀ (r : Int32) (μ1 : qM), K r μ1 → qV Z G nL k n μ1 (pc + 3) L (.int r :: rest)) : qV Z G nL k n μ pc L (.ref (ga G 46) :: rest) := x_Vi [] rest C 46 10 (wp := fun K => w_X11_numberHere  K μ) (y_X11_numberHere : qY yX11_numberHere cX11_numberHere 3 (some .int) 0 ({ frames := 2, cells := 0, slots := 0, locals := 45 } : Room) 0 0) (qm_44 _ (List.mem_of_getElem? (i := 11) rfl)) (qm_44 _ (List.mem_of_getElem? (i := 12) rfl)) (qm_44 _ (List.mem_of_getElem? (i := 10) rfl)) (c_X11_numberHere Z.2.1 G hn ) (Nat.lt_of_lt_of_le (by decide) hn) rfl (by decide) rfl rfl hR hf rfl rfl hsz hd h hk
theorem b_X11_number_41 {Z : qZ} {G : qG} {v2 : Int32} {μ : qM} {post : Int32 → qM → Prop} (C : qX Z G RX11 cX11_number 3 ({ frames := 3, cells := 0, slots := 0, locals := 67 } : Room) (some .int)) (hQ : qQi Z G 0 0 post) (hn : 66 ≤ gn G) (h : q_X11_number_41 post v2 μ) : qV Z G 3 0 0 μ 41 [(2, .int v2)] [] := by
  unfold q_X11_number_41 at h
  refine x_iload_n C 0 dX11_number_41 rfl rfl ?_
  exact x_iret C hQ dX11_number_42 h
theorem b_X11_number_27 {Z : qZ} {G : qG} {v2 : Int32} {s0 : Int32} {μ : qM} {post : Int32 → qM → Prop} (C : qX Z G RX11 cX11_number 3 ({ frames := 3, cells := 0, slots := 0, locals := 67 } : Room) (some .int)) (hQ : qQi Z G 0 0 post) (hn : 66 ≤ gn G) (h : q_X11_number_27 post v2 s0 μ) : qV Z G 3 0 0 μ 27 [(0, .ref (ga G 46)), (2, .int v2)] [.int s0, .ref (ga G 46)] := by
  unfold q_X11_number_27 at h
  refine p_RX11_238 C hn dX11_number_27 h (fun h => ?_)
  refine x_aload_n C 0 dX11_number_30 rfl rfl ?_
  refine g_RX11_238 C hn dX11_number_31 ?_
  refine x_if_ne C dX11_number_34 (tgt := 41) (by decide) h (fun h => ?_) (fun h => ?_)
  · exact qV_sub [1] rfl (b_X11_number_41 C hQ hn h)
  · refine x_aload_n C 0 dX11_number_37 rfl rfl ?_
    refine i_RX11_255 (rest := []) C hn  rfl (by decide) rfl dX11_number_38 h (fun μ38 h => ?_)
    exact qV_sub [1] rfl (b_X11_number_41 C hQ hn h)
theorem b_X11_number_22 {Z : qZ} {G : qG} {v2 : Int32} {μ : qM} {post : Int32 → qM → Prop} (C : qX Z G RX11 cX11_number 3 ({ frames := 3, cells := 0, slots := 0, locals := 67 } : Room) (some .int)) (hQ : qQi Z G 0 0 post) (hn : 66 ≤ gn G) (h : q_X11_number_22 post v2 μ) : qV Z G 3 0 0 μ 22 [(0, .ref (ga G 46)), (2, .int v2)] [.ref (ga G 46)] := by
  unfold q_X11_number_22 at h
  refine x_iconst C dX11_number_22 (v := 1) (by decide) ?_
  refine x_goto C dX11_number_23 (tgt := 27) (by decide) ?_
  exact b_X11_number_27 C hQ hn h
theorem y_X11_number : qY yX11_number cX11_number 3 (some .int) 1 ({ frames := 3, cells := 0, slots := 0, locals := 67 } : Room) 0 0 := ⟨(qm_44 _ (List.mem_of_getElem? (i := 9) rfl)), (qm_1 _ (List.mem_of_getElem? (i := 5) rfl)), by decide +kernel, by decide +kernel, rfl, rfl⟩
theorem c_X11_number (l : Launch) (G : qG) {v1 : Int32} {μ : qM} (hn : 66 ≤ gn G) : qCi l G yX11_number cX11_number 3 (some .int) ({ frames := 3, cells := 0, slots := 0, locals := 67 } : Room) 0 0 [.ref (ga G 46), .int v1] μ (fun post => w_X11_number v1 post μ) := by
  refine qCi_of (L := [(0, .ref (ga G 46)), (1, .int v1)]) (by decide) rfl rfl ?_
  intro Z post hl C hQ h
  have C : qX Z G RX11 cX11_number 3 ({ frames := 3, cells := 0, slots := 0, locals := 67 } : Room) (some .int) := C
  have h : w_X11_number v1 post μ := h
  unfold w_X11_number at h
  refine x_aload_n C 0 dX11_number_0 rfl rfl ?_
  refine i_RX11_258 (rest := []) C hn  rfl (by decide) rfl dX11_number_1 h (fun r1 μ1 h => ?_)
  refine x_istore_n C (L' := [(2, .int r1), (0, .ref (ga G 46)), (1, .int v1)]) dX11_number_4 rfl (by decide) rfl ?_
  refine x_aload_n C 1 dX11_number_5 rfl rfl ?_
  refine x_aload_n C 1 dX11_number_6 rfl rfl ?_
  refine g_RX11_238 C hn dX11_number_7 ?_
  refine x_if_ne C dX11_number_10 (tgt := 22) (by decide) h (fun h => ?_) (fun h => ?_)
  · exact qV_sub [1, 0] rfl (b_X11_number_22 C hQ hn h)
  · refine x_iload_n C 0 dX11_number_13 rfl rfl ?_
    refine x_iconst C dX11_number_14 (v := 0) (by decide) ?_
    refine x_iload_n C 2 dX11_number_15 rfl rfl ?_
    refine i_RX11_79 (rest := [.ref (ga G 46)]) C hn  rfl (by decide) rfl dX11_number_16 h (fun r16 μ16 h => ?_)
    refine x_if_ne C dX11_number_19 (tgt := 26) (by decide) h (fun h => ?_) (fun h => ?_)
    · refine x_iconst C dX11_number_26 (v := 0) (by decide) ?_
      exact qV_sub [1, 0] rfl (b_X11_number_27 C hQ hn h)
    · exact qV_sub [1, 0] rfl (b_X11_number_22 C hQ hn h)
theorem dX11_wordOf_0 : decode cX11_wordOf 0 = .ok (.iload_n 0, 1) := by decide +kernel
theorem dX11_wordOf_1 : decode cX11_wordOf 1 = .ok (.tableswitch 63 0 5 #[39, 43, 47, 51, 55, 59], 39) := by decide +kernel
theorem dX11_wordOf_40 : decode cX11_wordOf 40 = .ok (.ldc_w 261, 3) := by decide +kernel
theorem dX11_wordOf_43 : decode cX11_wordOf 43 = .ok (.areturn, 1) := by decide +kernel
theorem dX11_wordOf_44 : decode cX11_wordOf 44 = .ok (.ldc_w 263, 3) := by decide +kernel
theorem dX11_wordOf_47 : decode cX11_wordOf 47 = .ok (.areturn, 1) := by decide +kernel
theorem dX11_wordOf_48 : decode cX11_wordOf 48 = .ok (.ldc_w 265, 3) := by decide +kernel
theorem dX11_wordOf_51 : decode cX11_wordOf 51 = .ok (.areturn, 1) := by decide +kernel
theorem dX11_wordOf_52 : decode cX11_wordOf 52 = .ok (.ldc_w 267, 3) := by decide +kernel
theorem dX11_wordOf_55 : decode cX11_wordOf 55 = .ok (.areturn, 1) := by decide +kernel
theorem dX11_wordOf_56 : decode cX11_wordOf 56 = .ok (.ldc_w 269, 3) := by decide +kernel
theorem dX11_wordOf_59 : decode cX11_wordOf 59 = .ok (.areturn, 1) := by decide +kernel
theorem dX11_wordOf_60 : decode cX11_wordOf 60 = .ok (.ldc_w 271, 3) := by decide +kernel
theorem dX11_wordOf_63 : decode cX11_wordOf 63 = .ok (.areturn, 1) := by decide +kernel
theorem dX11_wordOf_64 : decode cX11_wordOf 64 = .ok (.ldc_w 273, 3) := by decide +kernel
theorem dX11_wordOf_67 : decode cX11_wordOf 67 = .ok (.areturn, 1) := by decide +kernel
theorem y_X11_wordOf : qY yX11_wordOf cX11_wordOf 1 (some (.object "java/lang/String")) 1 ({ frames := 0, cells := 0, slots := 0, locals := 0 } : Room) 0 0 := ⟨(qm_43 _ (List.mem_of_getElem? (i := 15) rfl)), (qm_1 _ (List.mem_of_getElem? (i := 5) rfl)), by decide +kernel, by decide +kernel, rfl, rfl⟩
theorem c_X11_wordOf (l : Launch) (G : qG) {v0 : Int32} {μ : qM} (hn : 66 ≤ gn G) : qCs l G yX11_wordOf cX11_wordOf 1 (some (.object "java/lang/String")) ({ frames := 0, cells := 0, slots := 0, locals := 0 } : Room) 0 0 [.int v0] μ (fun post => w_X11_wordOf v0 post μ) := by
  refine qCs_of (L := [(0, .int v0)]) (by decide) rfl rfl ?_
  intro Z post hl C hQ h
  have C : qX Z G RX11 cX11_wordOf 1 ({ frames := 0, cells := 0, slots := 0, locals := 0 } : Room) (some (.object "java/lang/String")) := C
  have h : w_X11_wordOf v0 post μ := h
  unfold w_X11_wordOf at h
  refine x_iload_n C 0 dX11_wordOf_0 rfl rfl ?_
  by_cases hv0 : v0 = (0 : Int32)
  · have h := h.1 hv0
    refine x_tin C (v := 0) dX11_wordOf_1 hv0 (by decide) (by decide) rfl (tgt := 40) (by decide) ?_
    refine x_ldcsw C (i := 261) (q := 0) (tx := "house") (by decide) dX11_wordOf_40 ?_
    exact x_sret C hQ dX11_wordOf_43 h
  have h := h.2 hv0
  by_cases hv1 : v0 = (1 : Int32)
  · have h := h.1 hv1
    refine x_tin C (v := 1) dX11_wordOf_1 hv1 (by decide) (by decide) rfl (tgt := 44) (by decide) ?_
    refine x_ldcsw C (i := 263) (q := 1) (tx := "hut") (by decide) dX11_wordOf_44 ?_
    exact x_sret C hQ dX11_wordOf_47 h
  have h := h.2 hv1
  by_cases hv2 : v0 = (2 : Int32)
  · have h := h.1 hv2
    refine x_tin C (v := 2) dX11_wordOf_1 hv2 (by decide) (by decide) rfl (tgt := 48) (by decide) ?_
    refine x_ldcsw C (i := 265) (q := 2) (tx := "inn") (by decide) dX11_wordOf_48 ?_
    exact x_sret C hQ dX11_wordOf_51 h
  have h := h.2 hv2
  by_cases hv3 : v0 = (3 : Int32)
  · have h := h.1 hv3
    refine x_tin C (v := 3) dX11_wordOf_1 hv3 (by decide) (by decide) rfl (tgt := 52) (by decide) ?_
    refine x_ldcsw C (i := 267) (q := 3) (tx := "ruin") (by decide) dX11_wordOf_52 ?_
    exact x_sret C hQ dX11_wordOf_55 h
  have h := h.2 hv3
  by_cases hv4 : v0 = (4 : Int32)
  · have h := h.1 hv4
    refine x_tin C (v := 4) dX11_wordOf_1 hv4 (by decide) (by decide) rfl (tgt := 56) (by decide) ?_
    refine x_ldcsw C (i := 269) (q := 4) (tx := "church") (by decide) dX11_wordOf_56 ?_
    exact x_sret C hQ dX11_wordOf_59 h
  have h := h.2 hv4
  by_cases hv5 : v0 = (5 : Int32)
  · have h := h.1 hv5
    refine x_tin C (v := 5) dX11_wordOf_1 hv5 (by decide) (by decide) rfl (tgt := 60) (by decide) ?_
    refine x_ldcsw C (i := 271) (q := 5) (tx := "streeted") (by decide) dX11_wordOf_60 ?_
    exact x_sret C hQ dX11_wordOf_63 h
  have h := h.2 hv5
  refine x_tout C [(0 : Int32), (1 : Int32), (2 : Int32), (3 : Int32), (4 : Int32), (5 : Int32)] (List.forall_mem_cons.mpr ⟨hv0, List.forall_mem_cons.mpr ⟨hv1, List.forall_mem_cons.mpr ⟨hv2, List.forall_mem_cons.mpr ⟨hv3, List.forall_mem_cons.mpr ⟨hv4, List.forall_mem_cons.mpr ⟨hv5, fun _ h => absurd h List.not_mem_nil⟩⟩⟩⟩⟩⟩) dX11_wordOf_1 (by decide) (tgt := 64) (by decide) ?_
  refine x_ldcsw C (i := 273) (q := 6) (tx := "tower") (by decide) dX11_wordOf_64 ?_
  exact x_sret C hQ dX11_wordOf_67 h
theorem dX11_kindHere_0 : decode cX11_kindHere 0 = .ok (.bipush 6, 2) := by decide +kernel
theorem dX11_kindHere_2 : decode cX11_kindHere 2 = .ok (.istore_n 1, 1) := by decide +kernel
theorem dX11_kindHere_3 : decode cX11_kindHere 3 = .ok (.iload_n 1, 1) := by decide +kernel
theorem dX11_kindHere_4 : decode cX11_kindHere 4 = .ok (.ifCond .lt 20, 3) := by decide +kernel
theorem dX11_kindHere_7 : decode cX11_kindHere 7 = .ok (.aload_n 0, 1) := by decide +kernel
theorem dX11_kindHere_8 : decode cX11_kindHere 8 = .ok (.iload_n 1, 1) := by decide +kernel
theorem dX11_kindHere_9 : decode cX11_kindHere 9 = .ok (.invokestatic 275, 3) := by decide +kernel
theorem dX11_kindHere_12 : decode cX11_kindHere 12 = .ok (.invokevirtual 251, 3) := by decide +kernel
theorem dX11_kindHere_15 : decode cX11_kindHere 15 = .ok (.ifCond .ne 9, 3) := by decide +kernel
theorem dX11_kindHere_18 : decode cX11_kindHere 18 = .ok (.iinc 1 (-1), 3) := by decide +kernel
theorem dX11_kindHere_21 : decode cX11_kindHere 21 = .ok (.goto (-18), 3) := by decide +kernel
theorem dX11_kindHere_24 : decode cX11_kindHere 24 = .ok (.iload_n 1, 1) := by decide +kernel
theorem dX11_kindHere_25 : decode cX11_kindHere 25 = .ok (.ireturn, 1) := by decide +kernel
theorem i_RX11_275 {Z : qZ} {G : qG} {cc : ByteArray} {nL k n : Nat} {rm : Room} {ret : Option FieldType} {μ : qM} {pc : Nat} {L : List (Nat × Value)} {rest : List Value} {K : Nat → qM → Prop} {v0 : Int32} (C : qX Z G RX11 cc nL rm ret) (hn : 66 ≤ gn G) (hR : (Nat.ble (0 + 1) rm.frames && Nat.ble (8 + (1 + 11) + 0) rm.locals) = true) (hf : k + 0 ≤ rm.cells ∧ n + 0 ≤ rm.slots) (hsz : Nat.ble (rest.map fun v => v.category).sum 8 = true) (hd : decode cc pc = .ok (.invokestatic 275, 3)) (h : w_X11_wordOf v0 K μ) (hk : ∀ (r : Nat) (μ1 : qM), K r μ1 → qV Z G nL k n μ1 (pc + 3) L (.ref (gK G r) :: rest)) : qV Z G nL k n μ pc L (.int v0 :: rest) := x_Ss [.int v0] rest C (wp := fun K => w_X11_wordOf v0 K μ) (y_X11_wordOf : qY yX11_wordOf cX11_wordOf 1 (some (.object "java/lang/String")) 1 ({ frames := 0, cells := 0, slots := 0, locals := 0 } : Room) 0 0) (qm_43 _ (List.mem_of_getElem? (i := 14) rfl)) (qm_43 _ (List.mem_of_getElem? (i := 13) rfl)) (c_X11_wordOf Z.2.1 G hn ) hR hf rfl rfl hsz hd h hk
theorem b_X11_kindHere_24 {Z : qZ} {G : qG} {v1 : Int32} {μ : qM} {post : Int32 → qM → Prop} (C : qX Z G RX11 cX11_kindHere 2 ({ frames := 7, cells := 0, slots := 0, locals := 184 } : Room) (some .int)) (hQ : qQi Z G 0 0 post) (hn : 66 ≤ gn G) (h : q_X11_kindHere_24 post v1 μ) : qV Z G 2 0 0 μ 24 [(1, .int v1)] [] := by
  unfold q_X11_kindHere_24 at h
  refine x_iload_n C 0 dX11_kindHere_24 rfl rfl ?_
  exact x_iret C hQ dX11_kindHere_25 h
theorem b_X11_kindHere_3 {Z : qZ} {G : qG} {v1 : Int32} {μ : qM} {post : Int32 → qM → Prop} (C : qX Z G RX11 cX11_kindHere 2 ({ frames := 7, cells := 0, slots := 0, locals := 184 } : Room) (some .int)) (hQ : qQi Z G 0 0 post) (hn : 66 ≤ gn G) (h : q_X11_kindHere_3 post v1 μ) : qV Z G 2 0 0 μ 3 [(0, .ref (ga G 46)), (1, .int v1)] [] := by
  refine h (fun v1 μ => qV Z G 2 0 0 μ 3 [(0, .ref (ga G 46)), (1, .int v1)] []) (fun v1 μ h => ?_)
  refine x_iload_n C 1 dX11_kindHere_3 rfl rfl ?_
  refine x_if_lt C dX11_kindHere_4 (tgt := 24) (by decide) h (fun h => ?_) (fun h => ?_)
  · exact qV_sub [1] rfl (b_X11_kindHere_24 C hQ hn h)
  · refine x_aload_n C 0 dX11_kindHere_7 rfl rfl ?_
    refine x_iload_n C 1 dX11_kindHere_8 rfl rfl ?_
    refine i_RX11_275 (rest := [.ref (ga G 46)]) C hn  rfl (by decide) rfl dX11_kindHere_9 h (fun r9 μ9 h => ?_)
    obtain ⟨ht_r9, h⟩ := h
    refine i_RX11_251 (rest := []) C hn ht_r9 rfl (by decide) rfl dX11_kindHere_12 h (fun r12 μ12 h => ?_)
    refine x_if_ne C dX11_kindHere_15 (tgt := 24) (by decide) h (fun h => ?_) (fun h => ?_)
    · exact qV_sub [1] rfl (b_X11_kindHere_24 C hQ hn h)
    · refine x_iinc C 1 (v := -1) (L' := [(1, .int ((v1 + -1))), (0, .ref (ga G 46))]) dX11_kindHere_18 rfl (by decide) (by decide) rfl ?_
      refine x_goto C dX11_kindHere_21 (tgt := 3) (by decide) ?_
      exact qV_sub [1, 0] rfl (h)
theorem y_X11_kindHere : qY yX11_kindHere cX11_kindHere 2 (some .int) 0 ({ frames := 7, cells := 0, slots := 0, locals := 184 } : Room) 0 0 := ⟨(qm_43 _ (List.mem_of_getElem? (i := 12) rfl)), (qm_1 _ (List.mem_of_getElem? (i := 5) rfl)), by decide +kernel, by decide +kernel, rfl, rfl⟩
theorem c_X11_kindHere (l : Launch) (G : qG) {μ : qM} (hn : 66 ≤ gn G) : qCi l G yX11_kindHere cX11_kindHere 2 (some .int) ({ frames := 7, cells := 0, slots := 0, locals := 184 } : Room) 0 0 [.ref (ga G 46)] μ (fun post => w_X11_kindHere  post μ) := by
  refine qCi_of (L := [(0, .ref (ga G 46))]) (by decide) rfl rfl ?_
  intro Z post hl C hQ h
  have C : qX Z G RX11 cX11_kindHere 2 ({ frames := 7, cells := 0, slots := 0, locals := 184 } : Room) (some .int) := C
  have h : w_X11_kindHere  post μ := h
  unfold w_X11_kindHere at h
  refine x_bipush C dX11_kindHere_0 (v := 6) (by decide) ?_
  refine x_istore_n C (L' := [(1, .int ((6 : Int32))), (0, .ref (ga G 46))]) dX11_kindHere_2 rfl (by decide) rfl ?_
  exact qV_sub [1, 0] rfl (b_X11_kindHere_3 C hQ hn h)
theorem dX11_houseTold_0 : decode cX11_houseTold 0 = .ok (.aload_n 0, 1) := by decide +kernel
theorem dX11_houseTold_1 : decode cX11_houseTold 1 = .ok (.aload_n 0, 1) := by decide +kernel
theorem dX11_houseTold_2 : decode cX11_houseTold 2 = .ok (.getfield 76, 3) := by decide +kernel
theorem dX11_houseTold_5 : decode cX11_houseTold 5 = .ok (.bipush 10, 2) := by decide +kernel
theorem dX11_houseTold_7 : decode cX11_houseTold 7 = .ok (.if_icmp .ne 7, 3) := by decide +kernel
theorem dX11_houseTold_10 : decode cX11_houseTold 10 = .ok (.iconst 1, 1) := by decide +kernel
theorem dX11_houseTold_11 : decode cX11_houseTold 11 = .ok (.goto 4, 3) := by decide +kernel
theorem dX11_houseTold_14 : decode cX11_houseTold 14 = .ok (.iconst 0, 1) := by decide +kernel
theorem dX11_houseTold_15 : decode cX11_houseTold 15 = .ok (.putfield 238, 3) := by decide +kernel
theorem dX11_houseTold_18 : decode cX11_houseTold 18 = .ok (.aload_n 0, 1) := by decide +kernel
theorem dX11_houseTold_19 : decode cX11_houseTold 19 = .ok (.getfield 238, 3) := by decide +kernel
theorem dX11_houseTold_22 : decode cX11_houseTold 22 = .ok (.ifCond .eq 4, 3) := by decide +kernel
theorem dX11_houseTold_25 : decode cX11_houseTold 25 = .ok (.return_, 1) := by decide +kernel
theorem dX11_houseTold_26 : decode cX11_houseTold 26 = .ok (.aload_n 0, 1) := by decide +kernel
theorem dX11_houseTold_27 : decode cX11_houseTold 27 = .ok (.invokevirtual 255, 3) := by decide +kernel
theorem dX11_houseTold_30 : decode cX11_houseTold 30 = .ok (.aload_n 0, 1) := by decide +kernel
theorem dX11_houseTold_31 : decode cX11_houseTold 31 = .ok (.ldc_w 279, 3) := by decide +kernel
theorem dX11_houseTold_34 : decode cX11_houseTold 34 = .ok (.invokevirtual 281, 3) := by decide +kernel
theorem dX11_houseTold_37 : decode cX11_houseTold 37 = .ok (.aload_n 0, 1) := by decide +kernel
theorem dX11_houseTold_38 : decode cX11_houseTold 38 = .ok (.bipush 11, 2) := by decide +kernel
theorem dX11_houseTold_40 : decode cX11_houseTold 40 = .ok (.invokevirtual 285, 3) := by decide +kernel
theorem dX11_houseTold_43 : decode cX11_houseTold 43 = .ok (.istore_n 2, 1) := by decide +kernel
theorem dX11_houseTold_44 : decode cX11_houseTold 44 = .ok (.aload_n 0, 1) := by decide +kernel
theorem dX11_houseTold_45 : decode cX11_houseTold 45 = .ok (.getfield 238, 3) := by decide +kernel
theorem dX11_houseTold_48 : decode cX11_houseTold 48 = .ok (.ifCond .eq 7, 3) := by decide +kernel
theorem dX11_houseTold_51 : decode cX11_houseTold 51 = .ok (.iconst (-1), 1) := by decide +kernel
theorem dX11_houseTold_52 : decode cX11_houseTold 52 = .ok (.goto 7, 3) := by decide +kernel
theorem dX11_houseTold_55 : decode cX11_houseTold 55 = .ok (.aload_n 0, 1) := by decide +kernel
theorem dX11_houseTold_56 : decode cX11_houseTold 56 = .ok (.invokevirtual 258, 3) := by decide +kernel
theorem dX11_houseTold_59 : decode cX11_houseTold 59 = .ok (.istore_n 3, 1) := by decide +kernel
theorem dX11_houseTold_60 : decode cX11_houseTold 60 = .ok (.aload_n 0, 1) := by decide +kernel
theorem dX11_houseTold_61 : decode cX11_houseTold 61 = .ok (.aload_n 0, 1) := by decide +kernel
theorem dX11_houseTold_62 : decode cX11_houseTold 62 = .ok (.getfield 238, 3) := by decide +kernel
theorem dX11_houseTold_65 : decode cX11_houseTold 65 = .ok (.ifCond .ne 26, 3) := by decide +kernel
theorem dX11_houseTold_68 : decode cX11_houseTold 68 = .ok (.iload_n 3, 1) := by decide +kernel
theorem dX11_houseTold_69 : decode cX11_houseTold 69 = .ok (.iconst 0, 1) := by decide +kernel
theorem dX11_houseTold_70 : decode cX11_houseTold 70 = .ok (.bipush 11, 2) := by decide +kernel
theorem dX11_houseTold_72 : decode cX11_houseTold 72 = .ok (.invokestatic 79, 3) := by decide +kernel
theorem dX11_houseTold_75 : decode cX11_houseTold 75 = .ok (.ifCond .eq 16, 3) := by decide +kernel
theorem dX11_houseTold_78 : decode cX11_houseTold 78 = .ok (.aload_n 0, 1) := by decide +kernel
theorem dX11_houseTold_79 : decode cX11_houseTold 79 = .ok (.bipush 12, 2) := by decide +kernel
theorem dX11_houseTold_81 : decode cX11_houseTold 81 = .ok (.iload_n 3, 1) := by decide +kernel
theorem dX11_houseTold_82 : decode cX11_houseTold 82 = .ok (.imul, 1) := by decide +kernel
theorem dX11_houseTold_83 : decode cX11_houseTold 83 = .ok (.iload_n 2, 1) := by decide +kernel
theorem dX11_houseTold_84 : decode cX11_houseTold 84 = .ok (.iadd, 1) := by decide +kernel
theorem dX11_houseTold_85 : decode cX11_houseTold 85 = .ok (.invokevirtual 103, 3) := by decide +kernel
theorem dX11_houseTold_88 : decode cX11_houseTold 88 = .ok (.ifCond .lt 7, 3) := by decide +kernel
theorem dX11_houseTold_91 : decode cX11_houseTold 91 = .ok (.iconst 1, 1) := by decide +kernel
theorem dX11_houseTold_92 : decode cX11_houseTold 92 = .ok (.goto 4, 3) := by decide +kernel
theorem dX11_houseTold_95 : decode cX11_houseTold 95 = .ok (.iconst 0, 1) := by decide +kernel
theorem dX11_houseTold_96 : decode cX11_houseTold 96 = .ok (.putfield 238, 3) := by decide +kernel
theorem dX11_houseTold_99 : decode cX11_houseTold 99 = .ok (.aload_n 0, 1) := by decide +kernel
theorem dX11_houseTold_100 : decode cX11_houseTold 100 = .ok (.getfield 238, 3) := by decide +kernel
theorem dX11_houseTold_103 : decode cX11_houseTold 103 = .ok (.ifCond .ne 18, 3) := by decide +kernel
theorem dX11_houseTold_106 : decode cX11_houseTold 106 = .ok (.aload_n 0, 1) := by decide +kernel
theorem dX11_houseTold_107 : decode cX11_houseTold 107 = .ok (.invokevirtual 255, 3) := by decide +kernel
theorem dX11_houseTold_110 : decode cX11_houseTold 110 = .ok (.aload_n 0, 1) := by decide +kernel
theorem dX11_houseTold_111 : decode cX11_houseTold 111 = .ok (.iload_n 1, 1) := by decide +kernel
theorem dX11_houseTold_112 : decode cX11_houseTold 112 = .ok (.bipush 12, 2) := by decide +kernel
theorem dX11_houseTold_114 : decode cX11_houseTold 114 = .ok (.iload_n 3, 1) := by decide +kernel
theorem dX11_houseTold_115 : decode cX11_houseTold 115 = .ok (.imul, 1) := by decide +kernel
theorem dX11_houseTold_116 : decode cX11_houseTold 116 = .ok (.iload_n 2, 1) := by decide +kernel
theorem dX11_houseTold_117 : decode cX11_houseTold 117 = .ok (.iadd, 1) := by decide +kernel
theorem dX11_houseTold_118 : decode cX11_houseTold 118 = .ok (.invokevirtual 122, 3) := by decide +kernel
theorem dX11_houseTold_121 : decode cX11_houseTold 121 = .ok (.return_, 1) := by decide +kernel
theorem i_RX11_281 {Z : qZ} {G : qG} {cc : ByteArray} {nL k n : Nat} {rm : Room} {ret : Option FieldType} {μ : qM} {pc : Nat} {L : List (Nat × Value)} {rest : List Value} {K : qM → Prop} {t1 : Nat} (C : qX Z G RX11 cc nL rm ret) (hn : 66 ≤ gn G) (ht_t1 : t1 < 12) (hR : (Nat.ble (7 + 1) rm.frames && Nat.ble (8 + (2 + 11) + 184) rm.locals) = true) (hf : k + 0 ≤ rm.cells ∧ n + 0 ≤ rm.slots) (hsz : Nat.ble (rest.map fun v => v.category).sum 8 = true) (hd : decode cc pc = .ok (.invokevirtual 281, 3)) (h : w_X11_wants t1 K μ) (hk : ∀ (μ1 : qM), K μ1 → qV Z G nL k n μ1 (pc + 3) L rest) : qV Z G nL k n μ pc L (.ref (gK G t1) :: .ref (ga G 46) :: rest) := x_Vv [.ref (gK G t1)] rest C 46 10 (wp := fun K => w_X11_wants t1 K μ) (y_X11_wants : qY yX11_wants cX11_wants 2 none 1 ({ frames := 7, cells := 0, slots := 0, locals := 184 } : Room) 0 0) (qm_44 _ (List.mem_of_getElem? (i := 3) rfl)) (qm_44 _ (List.mem_of_getElem? (i := 4) rfl)) (qm_44 _ (List.mem_of_getElem? (i := 2) rfl)) (c_X11_wants Z.2.1 G hn ht_t1) (Nat.lt_of_lt_of_le (by decide) hn) rfl (by decide) rfl rfl hR hf rfl rfl hsz hd h hk
theorem i_RX11_285 {Z : qZ} {G : qG} {cc : ByteArray} {nL k n : Nat} {rm : Room} {ret : Option FieldType} {μ : qM} {pc : Nat} {L : List (Nat × Value)} {rest : List Value} {K : Int32 → qM → Prop} {v1 : Int32} (C : qX Z G RX11 cc nL rm ret) (hn : 66 ≤ gn G) (hR : (Nat.ble (3 + 1) rm.frames && Nat.ble (8 + (3 + 11) + 67) rm.locals) = true) (hf : k + 0 ≤ rm.cells ∧ n + 0 ≤ rm.slots) (hsz : Nat.ble (rest.map fun v => v.category).sum 8 = true) (hd : decode cc pc = .ok (.invokevirtual 285, 3)) (h : w_X11_number v1 K μ) (hk : ∀ (r : Int32) (μ1 : qM), K r μ1 → qV Z G nL k n μ1 (pc + 3) L (.int r :: rest)) : qV Z G nL k n μ pc L (.int v1 :: .ref (ga G 46) :: rest) := x_Vi [.int v1] rest C 46 10 (wp := fun K => w_X11_number v1 K μ) (y_X11_number : qY yX11_number cX11_number 3 (some .int) 1 ({ frames := 3, cells := 0, slots := 0, locals := 67 } : Room) 0 0) (qm_44 _ (List.mem_of_getElem? (i := 7) rfl)) (qm_44 _ (List.mem_of_getElem? (i := 8) rfl)) (qm_44 _ (List.mem_of_getElem? (i := 6) rfl)) (c_X11_number Z.2.1 G hn ) (Nat.lt_of_lt_of_le (by decide) hn) rfl (by decide) rfl rfl hR hf rfl rfl hsz hd h hk
theorem b_X11_houseTold_96 {Z : qZ} {G : qG} {v1 : Int32} {v2 : Int32} {v3 : Int32} {s0 : Int32} {μ : qM} {post : qM → Prop} (C : qX Z G RX11 cX11_houseTold 4 ({ frames := 8, cells := 0, slots := 0, locals := 205 } : Room) none) (hQ : qQv Z G 0 0 post) (hn : 66 ≤ gn G) (h : q_X11_houseTold_96 post v1 v2 v3 s0 μ) : qV Z G 4 0 0 μ 96 [(0, .ref (ga G 46)), (1, .int v1), (2, .int v2), (3, .int v3)] [.int s0, .ref (ga G 46)] := by
  unfold q_X11_houseTold_96 at h
  refine p_RX11_238 C hn dX11_houseTold_96 h (fun h => ?_)
  refine x_aload_n C 0 dX11_houseTold_99 rfl rfl ?_
  refine g_RX11_238 C hn dX11_houseTold_100 ?_
  refine x_if_ne C dX11_houseTold_103 (tgt := 121) (by decide) h (fun h => ?_) (fun h => ?_)
  · exact x_vret C hQ dX11_houseTold_121 h
  · refine x_aload_n C 0 dX11_houseTold_106 rfl rfl ?_
    refine i_RX11_255 (rest := []) C hn  rfl (by decide) rfl dX11_houseTold_107 h (fun μ107 h => ?_)
    refine x_aload_n C 0 dX11_houseTold_110 rfl rfl ?_
    refine x_iload_n C 1 dX11_houseTold_111 rfl rfl ?_
    refine x_bipush C dX11_houseTold_112 (v := 12) (by decide) ?_
    refine x_iload_n C 3 dX11_houseTold_114 rfl rfl ?_
    refine x_imul C dX11_houseTold_115 ?_
    refine x_iload_n C 2 dX11_houseTold_116 rfl rfl ?_
    refine x_iadd C dX11_houseTold_117 ?_
    refine i_RX11_122 (rest := []) C hn  rfl (by decide) rfl dX11_houseTold_118 h (fun μ118 h => ?_)
    exact x_vret C hQ dX11_houseTold_121 h
theorem b_X11_houseTold_91 {Z : qZ} {G : qG} {v1 : Int32} {v2 : Int32} {v3 : Int32} {μ : qM} {post : qM → Prop} (C : qX Z G RX11 cX11_houseTold 4 ({ frames := 8, cells := 0, slots := 0, locals := 205 } : Room) none) (hQ : qQv Z G 0 0 post) (hn : 66 ≤ gn G) (h : q_X11_houseTold_91 post v1 v2 v3 μ) : qV Z G 4 0 0 μ 91 [(0, .ref (ga G 46)), (1, .int v1), (2, .int v2), (3, .int v3)] [.ref (ga G 46)] := by
  unfold q_X11_houseTold_91 at h
  refine x_iconst C dX11_houseTold_91 (v := 1) (by decide) ?_
  refine x_goto C dX11_houseTold_92 (tgt := 96) (by decide) ?_
  exact b_X11_houseTold_96 C hQ hn h
theorem b_X11_houseTold_59 {Z : qZ} {G : qG} {v1 : Int32} {v2 : Int32} {s0 : Int32} {μ : qM} {post : qM → Prop} (C : qX Z G RX11 cX11_houseTold 4 ({ frames := 8, cells := 0, slots := 0, locals := 205 } : Room) none) (hQ : qQv Z G 0 0 post) (hn : 66 ≤ gn G) (h : q_X11_houseTold_59 post v1 v2 s0 μ) : qV Z G 4 0 0 μ 59 [(0, .ref (ga G 46)), (1, .int v1), (2, .int v2)] [.int s0] := by
  unfold q_X11_houseTold_59 at h
  refine x_istore_n C (L' := [(3, .int s0), (0, .ref (ga G 46)), (1, .int v1), (2, .int v2)]) dX11_houseTold_59 rfl (by decide) rfl ?_
  refine x_aload_n C 1 dX11_houseTold_60 rfl rfl ?_
  refine x_aload_n C 1 dX11_houseTold_61 rfl rfl ?_
  refine g_RX11_238 C hn dX11_houseTold_62 ?_
  refine x_if_ne C dX11_houseTold_65 (tgt := 91) (by decide) h (fun h => ?_) (fun h => ?_)
  · exact qV_sub [1, 2, 3, 0] rfl (b_X11_houseTold_91 C hQ hn h)
  · refine x_iload_n C 0 dX11_houseTold_68 rfl rfl ?_
    refine x_iconst C dX11_houseTold_69 (v := 0) (by decide) ?_
    refine x_bipush C dX11_houseTold_70 (v := 11) (by decide) ?_
    refine i_RX11_79 (rest := [.ref (ga G 46)]) C hn  rfl (by decide) rfl dX11_houseTold_72 h (fun r72 μ72 h => ?_)
    refine x_if_eq C dX11_houseTold_75 (tgt := 91) (by decide) h (fun h => ?_) (fun h => ?_)
    · exact qV_sub [1, 2, 3, 0] rfl (b_X11_houseTold_91 C hQ hn h)
    · refine x_aload_n C 1 dX11_houseTold_78 rfl rfl ?_
      refine x_bipush C dX11_houseTold_79 (v := 12) (by decide) ?_
      refine x_iload_n C 0 dX11_houseTold_81 rfl rfl ?_
      refine x_imul C dX11_houseTold_82 ?_
      refine x_iload_n C 3 dX11_houseTold_83 rfl rfl ?_
      refine x_iadd C dX11_houseTold_84 ?_
      refine i_RX11_103 (rest := [.ref (ga G 46)]) C hn  rfl (by decide) rfl dX11_houseTold_85 h (fun r85 μ85 h => ?_)
      refine x_if_lt C dX11_houseTold_88 (tgt := 95) (by decide) h (fun h => ?_) (fun h => ?_)
      · refine x_iconst C dX11_houseTold_95 (v := 0) (by decide) ?_
        exact qV_sub [1, 2, 3, 0] rfl (b_X11_houseTold_96 C hQ hn h)
      · exact qV_sub [1, 2, 3, 0] rfl (b_X11_houseTold_91 C hQ hn h)
theorem b_X11_houseTold_15 {Z : qZ} {G : qG} {v1 : Int32} {s0 : Int32} {μ : qM} {post : qM → Prop} (C : qX Z G RX11 cX11_houseTold 4 ({ frames := 8, cells := 0, slots := 0, locals := 205 } : Room) none) (hQ : qQv Z G 0 0 post) (hn : 66 ≤ gn G) (h : q_X11_houseTold_15 post v1 s0 μ) : qV Z G 4 0 0 μ 15 [(0, .ref (ga G 46)), (1, .int v1)] [.int s0, .ref (ga G 46)] := by
  unfold q_X11_houseTold_15 at h
  refine p_RX11_238 C hn dX11_houseTold_15 h (fun h => ?_)
  refine x_aload_n C 0 dX11_houseTold_18 rfl rfl ?_
  refine g_RX11_238 C hn dX11_houseTold_19 ?_
  refine x_if_eq C dX11_houseTold_22 (tgt := 26) (by decide) h (fun h => ?_) (fun h => ?_)
  · refine x_aload_n C 0 dX11_houseTold_26 rfl rfl ?_
    refine i_RX11_255 (rest := []) C hn  rfl (by decide) rfl dX11_houseTold_27 h (fun μ27 h => ?_)
    refine x_aload_n C 0 dX11_houseTold_30 rfl rfl ?_
    refine x_ldcsw C (i := 279) (q := 9) (tx := "at") (by decide) dX11_houseTold_31 ?_
    refine i_RX11_281 (rest := []) C hn (by decide) rfl (by decide) rfl dX11_houseTold_34 h (fun μ34 h => ?_)
    refine x_aload_n C 0 dX11_houseTold_37 rfl rfl ?_
    refine x_bipush C dX11_houseTold_38 (v := 11) (by decide) ?_
    refine i_RX11_285 (rest := []) C hn  rfl (by decide) rfl dX11_houseTold_40 h (fun r40 μ40 h => ?_)
    refine x_istore_n C (L' := [(2, .int r40), (0, .ref (ga G 46)), (1, .int v1)]) dX11_houseTold_43 rfl (by decide) rfl ?_
    refine x_aload_n C 1 dX11_houseTold_44 rfl rfl ?_
    refine g_RX11_238 C hn dX11_houseTold_45 ?_
    refine x_if_eq C dX11_houseTold_48 (tgt := 55) (by decide) h (fun h => ?_) (fun h => ?_)
    · refine x_aload_n C 1 dX11_houseTold_55 rfl rfl ?_
      refine i_RX11_258 (rest := []) C hn  rfl (by decide) rfl dX11_houseTold_56 h (fun r56 μ56 h => ?_)
      exact qV_sub [1, 2, 0] rfl (b_X11_houseTold_59 C hQ hn h)
    · refine x_iconst C dX11_houseTold_51 (v := -1) (by decide) ?_
      refine x_goto C dX11_houseTold_52 (tgt := 59) (by decide) ?_
      exact qV_sub [1, 2, 0] rfl (b_X11_houseTold_59 C hQ hn h)
  · exact x_vret C hQ dX11_houseTold_25 h
theorem y_X11_houseTold : qY yX11_houseTold cX11_houseTold 4 none 1 ({ frames := 8, cells := 0, slots := 0, locals := 205 } : Room) 0 0 := ⟨(qm_44 _ (List.mem_of_getElem? (i := 1) rfl)), (qm_1 _ (List.mem_of_getElem? (i := 5) rfl)), by decide +kernel, by decide +kernel, rfl, rfl⟩
theorem c_X11_houseTold (l : Launch) (G : qG) {v1 : Int32} {μ : qM} (hn : 66 ≤ gn G) : qCv l G yX11_houseTold cX11_houseTold 4 none ({ frames := 8, cells := 0, slots := 0, locals := 205 } : Room) 0 0 [.ref (ga G 46), .int v1] μ (fun post => w_X11_houseTold v1 post μ) := by
  refine qCv_of (L := [(0, .ref (ga G 46)), (1, .int v1)]) (by decide) rfl rfl ?_
  intro Z post hl C hQ h
  have C : qX Z G RX11 cX11_houseTold 4 ({ frames := 8, cells := 0, slots := 0, locals := 205 } : Room) none := C
  have h : w_X11_houseTold v1 post μ := h
  unfold w_X11_houseTold at h
  refine x_aload_n C 0 dX11_houseTold_0 rfl rfl ?_
  refine x_aload_n C 0 dX11_houseTold_1 rfl rfl ?_
  refine g_RX11_76 C hn dX11_houseTold_2 ?_
  refine x_bipush C dX11_houseTold_5 (v := 10) (by decide) ?_
  refine x_icmp_ne C dX11_houseTold_7 (tgt := 14) (by decide) h (fun h => ?_) (fun h => ?_)
  · refine x_iconst C dX11_houseTold_14 (v := 0) (by decide) ?_
    exact b_X11_houseTold_15 C hQ hn h
  · refine x_iconst C dX11_houseTold_10 (v := 1) (by decide) ?_
    refine x_goto C dX11_houseTold_11 (tgt := 15) (by decide) ?_
    exact b_X11_houseTold_15 C hQ hn h
