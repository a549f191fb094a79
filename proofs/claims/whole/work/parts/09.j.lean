theorem qn_0_1 {o : Nat} (h : qk o = 0) : qk (o + 1) = 17 := qk_dec 0 1 17 (by decide +kernel) rfl h
theorem qn_0_2 {o : Nat} (h : qk o = 0) : qk (o + 2) = 18 := qk_dec 0 2 18 (by decide +kernel) rfl h
theorem qn_1_1 {o : Nat} (h : qk o = 1) : qk (o + 1) = 11 := qk_dec 1 1 11 (by decide +kernel) rfl h
theorem qn_1_2 {o : Nat} (h : qk o = 1) : qk (o + 2) = 11 := qk_dec 1 2 11 (by decide +kernel) rfl h
theorem qn_1_3 {o : Nat} (h : qk o = 1) : qk (o + 3) = 11 := qk_dec 1 3 11 (by decide +kernel) rfl h
theorem qn_2_1 {o : Nat} (h : qk o = 2) : qk (o + 1) = 13 := qk_dec 2 1 13 (by decide +kernel) rfl h
theorem qn_2_2 {o : Nat} (h : qk o = 2) : qk (o + 2) = 13 := qk_dec 2 2 13 (by decide +kernel) rfl h
theorem qn_3_1 {o : Nat} (h : qk o = 3) : qk (o + 1) = 13 := qk_dec 3 1 13 (by decide +kernel) rfl h
theorem qn_3_2 {o : Nat} (h : qk o = 3) : qk (o + 2) = 13 := qk_dec 3 2 13 (by decide +kernel) rfl h
theorem qn_5_1 {o : Nat} (h : qk o = 5) : qk (o + 1) = 15 := qk_dec 5 1 15 (by decide +kernel) rfl h
theorem qn_6_1 {o : Nat} (h : qk o = 6) : qk (o + 1) = 13 := qk_dec 6 1 13 (by decide +kernel) rfl h
theorem qn_6_2 {o : Nat} (h : qk o = 6) : qk (o + 2) = 12 := qk_dec 6 2 12 (by decide +kernel) rfl h
theorem qn_7_1 {o : Nat} (h : qk o = 7) : qk (o + 1) = 14 := qk_dec 7 1 14 (by decide +kernel) rfl h
theorem qn_8_1 {o : Nat} (h : qk o = 8) : qk (o + 1) = 1 := qk_dec 8 1 1 (by decide +kernel) rfl h
theorem qn_8_5 {o : Nat} (h : qk o = 8) : qk (o + 5) = 12 := qk_dec 8 5 12 (by decide +kernel) rfl h
theorem qn_8_6 {o : Nat} (h : qk o = 8) : qk (o + 6) = 11 := qk_dec 8 6 11 (by decide +kernel) rfl h
theorem dJ6_bitCount_0f7a4_0 : decode cJ6_bitCount_0f7a4 0 = .ok (.iload_n 0, 1) := by decide +kernel
theorem dJ6_bitCount_0f7a4_1 : decode cJ6_bitCount_0f7a4 1 = .ok (.iload_n 0, 1) := by decide +kernel
theorem dJ6_bitCount_0f7a4_2 : decode cJ6_bitCount_0f7a4 2 = .ok (.iconst 1, 1) := by decide +kernel
theorem dJ6_bitCount_0f7a4_3 : decode cJ6_bitCount_0f7a4 3 = .ok (.iushr, 1) := by decide +kernel
theorem dJ6_bitCount_0f7a4_4 : decode cJ6_bitCount_0f7a4 4 = .ok (.ldc_w 265, 3) := by decide +kernel
theorem dJ6_bitCount_0f7a4_7 : decode cJ6_bitCount_0f7a4 7 = .ok (.iand, 1) := by decide +kernel
theorem dJ6_bitCount_0f7a4_8 : decode cJ6_bitCount_0f7a4 8 = .ok (.isub, 1) := by decide +kernel
theorem dJ6_bitCount_0f7a4_9 : decode cJ6_bitCount_0f7a4 9 = .ok (.istore_n 0, 1) := by decide +kernel
theorem dJ6_bitCount_0f7a4_10 : decode cJ6_bitCount_0f7a4 10 = .ok (.iload_n 0, 1) := by decide +kernel
theorem dJ6_bitCount_0f7a4_11 : decode cJ6_bitCount_0f7a4 11 = .ok (.ldc_w 266, 3) := by decide +kernel
theorem dJ6_bitCount_0f7a4_14 : decode cJ6_bitCount_0f7a4 14 = .ok (.iand, 1) := by decide +kernel
theorem dJ6_bitCount_0f7a4_15 : decode cJ6_bitCount_0f7a4 15 = .ok (.iload_n 0, 1) := by decide +kernel
theorem dJ6_bitCount_0f7a4_16 : decode cJ6_bitCount_0f7a4 16 = .ok (.iconst 2, 1) := by decide +kernel
theorem dJ6_bitCount_0f7a4_17 : decode cJ6_bitCount_0f7a4 17 = .ok (.iushr, 1) := by decide +kernel
theorem dJ6_bitCount_0f7a4_18 : decode cJ6_bitCount_0f7a4 18 = .ok (.ldc_w 266, 3) := by decide +kernel
theorem dJ6_bitCount_0f7a4_21 : decode cJ6_bitCount_0f7a4 21 = .ok (.iand, 1) := by decide +kernel
theorem dJ6_bitCount_0f7a4_22 : decode cJ6_bitCount_0f7a4 22 = .ok (.iadd, 1) := by decide +kernel
theorem dJ6_bitCount_0f7a4_23 : decode cJ6_bitCount_0f7a4 23 = .ok (.istore_n 0, 1) := by decide +kernel
theorem dJ6_bitCount_0f7a4_24 : decode cJ6_bitCount_0f7a4 24 = .ok (.iload_n 0, 1) := by decide +kernel
theorem dJ6_bitCount_0f7a4_25 : decode cJ6_bitCount_0f7a4 25 = .ok (.iload_n 0, 1) := by decide +kernel
theorem dJ6_bitCount_0f7a4_26 : decode cJ6_bitCount_0f7a4 26 = .ok (.iconst 4, 1) := by decide +kernel
theorem dJ6_bitCount_0f7a4_27 : decode cJ6_bitCount_0f7a4 27 = .ok (.iushr, 1) := by decide +kernel
theorem dJ6_bitCount_0f7a4_28 : decode cJ6_bitCount_0f7a4 28 = .ok (.iadd, 1) := by decide +kernel
theorem dJ6_bitCount_0f7a4_29 : decode cJ6_bitCount_0f7a4 29 = .ok (.ldc_w 267, 3) := by decide +kernel
theorem dJ6_bitCount_0f7a4_32 : decode cJ6_bitCount_0f7a4 32 = .ok (.iand, 1) := by decide +kernel
theorem dJ6_bitCount_0f7a4_33 : decode cJ6_bitCount_0f7a4 33 = .ok (.istore_n 0, 1) := by decide +kernel
theorem dJ6_bitCount_0f7a4_34 : decode cJ6_bitCount_0f7a4 34 = .ok (.iload_n 0, 1) := by decide +kernel
theorem dJ6_bitCount_0f7a4_35 : decode cJ6_bitCount_0f7a4 35 = .ok (.iload_n 0, 1) := by decide +kernel
theorem dJ6_bitCount_0f7a4_36 : decode cJ6_bitCount_0f7a4 36 = .ok (.bipush 8, 2) := by decide +kernel
theorem dJ6_bitCount_0f7a4_38 : decode cJ6_bitCount_0f7a4 38 = .ok (.iushr, 1) := by decide +kernel
theorem dJ6_bitCount_0f7a4_39 : decode cJ6_bitCount_0f7a4 39 = .ok (.iadd, 1) := by decide +kernel
theorem dJ6_bitCount_0f7a4_40 : decode cJ6_bitCount_0f7a4 40 = .ok (.istore_n 0, 1) := by decide +kernel
theorem dJ6_bitCount_0f7a4_41 : decode cJ6_bitCount_0f7a4 41 = .ok (.iload_n 0, 1) := by decide +kernel
theorem dJ6_bitCount_0f7a4_42 : decode cJ6_bitCount_0f7a4 42 = .ok (.iload_n 0, 1) := by decide +kernel
theorem dJ6_bitCount_0f7a4_43 : decode cJ6_bitCount_0f7a4 43 = .ok (.bipush 16, 2) := by decide +kernel
theorem dJ6_bitCount_0f7a4_45 : decode cJ6_bitCount_0f7a4 45 = .ok (.iushr, 1) := by decide +kernel
theorem dJ6_bitCount_0f7a4_46 : decode cJ6_bitCount_0f7a4 46 = .ok (.iadd, 1) := by decide +kernel
theorem dJ6_bitCount_0f7a4_47 : decode cJ6_bitCount_0f7a4 47 = .ok (.istore_n 0, 1) := by decide +kernel
theorem dJ6_bitCount_0f7a4_48 : decode cJ6_bitCount_0f7a4 48 = .ok (.iload_n 0, 1) := by decide +kernel
theorem dJ6_bitCount_0f7a4_49 : decode cJ6_bitCount_0f7a4 49 = .ok (.bipush 63, 2) := by decide +kernel
theorem dJ6_bitCount_0f7a4_51 : decode cJ6_bitCount_0f7a4 51 = .ok (.iand, 1) := by decide +kernel
theorem dJ6_bitCount_0f7a4_52 : decode cJ6_bitCount_0f7a4 52 = .ok (.ireturn, 1) := by decide +kernel
theorem y_J6_bitCount_0f7a4 : qY yJ6_bitCount_0f7a4 cJ6_bitCount_0f7a4 1 (some .int) 1 ({ frames := 0, cells := 0, slots := 0, locals := 0 } : Room) 0 0 := ⟨(qm_30 _ (List.mem_of_getElem? (i := 2) rfl)), (qm_30 _ (List.mem_of_getElem? (i := 1) rfl)), by decide +kernel, by decide +kernel, rfl, rfl⟩
theorem c_J6_bitCount_0f7a4 (l : Launch) (G : qG) {v0 : Int32} {μ : qM} (hn : 66 ≤ gn G) : qCi l G yJ6_bitCount_0f7a4 cJ6_bitCount_0f7a4 1 (some .int) ({ frames := 0, cells := 0, slots := 0, locals := 0 } : Room) 0 0 [.int v0] μ (fun post => w_J6_bitCount_0f7a4 v0 post μ) := by
  refine qCi_of (L := [(0, .int v0)]) (by decide) rfl rfl ?_
  intro Z post hl C hQ h
  have C : qX Z G RJ6 cJ6_bitCount_0f7a4 1 ({ frames := 0, cells := 0, slots := 0, locals := 0 } : Room) (some .int) := C
  have h : w_J6_bitCount_0f7a4 v0 post μ := h
  unfold w_J6_bitCount_0f7a4 at h
  refine x_iload_n C 0 dJ6_bitCount_0f7a4_0 rfl rfl ?_
  refine x_iload_n C 0 dJ6_bitCount_0f7a4_1 rfl rfl ?_
  refine x_iconst C dJ6_bitCount_0f7a4_2 (v := 1) (by decide) ?_
  refine x_iushr C dJ6_bitCount_0f7a4_3 ?_
  refine x_ldcw C (v := 1431655765) (qm_30 _ (List.mem_of_getElem? (i := 3) rfl)) dJ6_bitCount_0f7a4_4 ?_
  refine x_iand C dJ6_bitCount_0f7a4_7 ?_
  refine x_isub C dJ6_bitCount_0f7a4_8 ?_
  refine x_name (fun x9 hx9 => ?_)
  have h := h x9 hx9
  refine x_istore_n C (L' := [(0, .int x9)]) dJ6_bitCount_0f7a4_9 rfl (by decide) rfl ?_
  refine x_iload_n C 0 dJ6_bitCount_0f7a4_10 rfl rfl ?_
  refine x_ldcw C (v := 858993459) (qm_30 _ (List.mem_of_getElem? (i := 4) rfl)) dJ6_bitCount_0f7a4_11 ?_
  refine x_iand C dJ6_bitCount_0f7a4_14 ?_
  refine x_iload_n C 0 dJ6_bitCount_0f7a4_15 rfl rfl ?_
  refine x_iconst C dJ6_bitCount_0f7a4_16 (v := 2) (by decide) ?_
  refine x_iushr C dJ6_bitCount_0f7a4_17 ?_
  refine x_ldcw C (v := 858993459) (qm_30 _ (List.mem_of_getElem? (i := 4) rfl)) dJ6_bitCount_0f7a4_18 ?_
  refine x_iand C dJ6_bitCount_0f7a4_21 ?_
  refine x_iadd C dJ6_bitCount_0f7a4_22 ?_
  refine x_name (fun x23 hx23 => ?_)
  have h := h x23 hx23
  refine x_istore_n C (L' := [(0, .int x23)]) dJ6_bitCount_0f7a4_23 rfl (by decide) rfl ?_
  refine x_iload_n C 0 dJ6_bitCount_0f7a4_24 rfl rfl ?_
  refine x_iload_n C 0 dJ6_bitCount_0f7a4_25 rfl rfl ?_
  refine x_iconst C dJ6_bitCount_0f7a4_26 (v := 4) (by decide) ?_
  refine x_iushr C dJ6_bitCount_0f7a4_27 ?_
  refine x_iadd C dJ6_bitCount_0f7a4_28 ?_
  refine x_ldcw C (v := 252645135) (qm_30 _ (List.mem_of_getElem? (i := 5) rfl)) dJ6_bitCount_0f7a4_29 ?_
  refine x_iand C dJ6_bitCount_0f7a4_32 ?_
  refine x_name (fun x33 hx33 => ?_)
  have h := h x33 hx33
  refine x_istore_n C (L' := [(0, .int x33)]) dJ6_bitCount_0f7a4_33 rfl (by decide) rfl ?_
  refine x_iload_n C 0 dJ6_bitCount_0f7a4_34 rfl rfl ?_
  refine x_iload_n C 0 dJ6_bitCount_0f7a4_35 rfl rfl ?_
  refine x_bipush C dJ6_bitCount_0f7a4_36 (v := 8) (by decide) ?_
  refine x_iushr C dJ6_bitCount_0f7a4_38 ?_
  refine x_iadd C dJ6_bitCount_0f7a4_39 ?_
  refine x_istore_n C (L' := [(0, .int ((x33 + (((x33).toUInt32 >>> (((8 : Int32)).toUInt32 &&& Int32.toUInt32 31)).toInt32))))]) dJ6_bitCount_0f7a4_40 rfl (by decide) rfl ?_
  refine x_iload_n C 0 dJ6_bitCount_0f7a4_41 rfl rfl ?_
  refine x_iload_n C 0 dJ6_bitCount_0f7a4_42 rfl rfl ?_
  refine x_bipush C dJ6_bitCount_0f7a4_43 (v := 16) (by decide) ?_
  refine x_iushr C dJ6_bitCount_0f7a4_45 ?_
  refine x_iadd C dJ6_bitCount_0f7a4_46 ?_
  refine x_name (fun x47 hx47 => ?_)
  have h := h x47 hx47
  refine x_istore_n C (L' := [(0, .int x47)]) dJ6_bitCount_0f7a4_47 rfl (by decide) rfl ?_
  refine x_iload_n C 0 dJ6_bitCount_0f7a4_48 rfl rfl ?_
  refine x_bipush C dJ6_bitCount_0f7a4_49 (v := 63) (by decide) ?_
  refine x_iand C dJ6_bitCount_0f7a4_51 ?_
  exact x_iret C hQ dJ6_bitCount_0f7a4_52 h
theorem dJ7_fill_53178_0 : decode cJ7_fill_53178 0 = .ok (.iconst 0, 1) := by decide +kernel
theorem dJ7_fill_53178_1 : decode cJ7_fill_53178 1 = .ok (.istore_n 2, 1) := by decide +kernel
theorem dJ7_fill_53178_2 : decode cJ7_fill_53178 2 = .ok (.aload_n 0, 1) := by decide +kernel
theorem dJ7_fill_53178_3 : decode cJ7_fill_53178 3 = .ok (.arraylength, 1) := by decide +kernel
theorem dJ7_fill_53178_4 : decode cJ7_fill_53178 4 = .ok (.istore_n 3, 1) := by decide +kernel
theorem dJ7_fill_53178_5 : decode cJ7_fill_53178 5 = .ok (.iload_n 2, 1) := by decide +kernel
theorem dJ7_fill_53178_6 : decode cJ7_fill_53178 6 = .ok (.iload_n 3, 1) := by decide +kernel
theorem dJ7_fill_53178_7 : decode cJ7_fill_53178 7 = .ok (.if_icmp .ge 13, 3) := by decide +kernel
theorem dJ7_fill_53178_10 : decode cJ7_fill_53178 10 = .ok (.aload_n 0, 1) := by decide +kernel
theorem dJ7_fill_53178_11 : decode cJ7_fill_53178 11 = .ok (.iload_n 2, 1) := by decide +kernel
theorem dJ7_fill_53178_12 : decode cJ7_fill_53178 12 = .ok (.iload_n 1, 1) := by decide +kernel
theorem dJ7_fill_53178_13 : decode cJ7_fill_53178 13 = .ok (.iastore, 1) := by decide +kernel
theorem dJ7_fill_53178_14 : decode cJ7_fill_53178 14 = .ok (.iinc 2 1, 3) := by decide +kernel
theorem dJ7_fill_53178_17 : decode cJ7_fill_53178 17 = .ok (.goto (-12), 3) := by decide +kernel
theorem dJ7_fill_53178_20 : decode cJ7_fill_53178 20 = .ok (.return_, 1) := by decide +kernel
theorem b_J7_fill_53178_5 {Z : qZ} {G : qG} {o0 : Nat} {κ0 : Nat} {v1 : Int32} {v2 : Int32} {v3 : Int32} {μ : qM} {post : qM → Prop} (C : qX Z G RJ7 cJ7_fill_53178 4 ({ frames := 0, cells := 0, slots := 0, locals := 0 } : Room) none) (hQ : qQv Z G 0 0 post) (hn : 66 ≤ gn G) (hk_o0 : qk o0 = κ0) (h11_κ0 : Nat.ble 11 κ0 = true) (h23_κ0 : (κ0 == 23) = false) (hT_κ0 : qaT κ0 = 0) (h9_κ0 : (κ0 == 99 || κ0 == 4) = false) (h : q_J7_fill_53178_5 o0 κ0 v1 v3 post v2 μ) : qV Z G 4 0 0 μ 5 [(0, .ref (ga G o0)), (1, .int v1), (2, .int v2), (3, .int v3)] [] := by
  refine h (fun v2 μ => qV Z G 4 0 0 μ 5 [(0, .ref (ga G o0)), (1, .int v1), (2, .int v2), (3, .int v3)] []) (fun v2 μ h => ?_)
  refine x_iload_n C 2 dJ7_fill_53178_5 rfl rfl ?_
  refine x_iload_n C 3 dJ7_fill_53178_6 rfl rfl ?_
  refine x_icmp_ge C dJ7_fill_53178_7 (tgt := 20) (by decide) h (fun h => ?_) (fun h => ?_)
  · exact x_vret C hQ dJ7_fill_53178_20 h
  · refine x_aload_n C 0 dJ7_fill_53178_10 rfl rfl ?_
    refine x_iload_n C 2 dJ7_fill_53178_11 rfl rfl ?_
    refine x_iload_n C 1 dJ7_fill_53178_12 rfl rfl ?_
    refine x_iast C o0 κ0 (qaN κ0) (q_lt hk_o0 h9_κ0 hn) hk_o0 h11_κ0 h23_κ0 hT_κ0 rfl dJ7_fill_53178_13 h (fun h => ?_)
    refine x_iinc C 2 (v := 1) (L' := [(2, .int ((v2 + 1))), (0, .ref (ga G o0)), (1, .int v1), (3, .int v3)]) dJ7_fill_53178_14 rfl (by decide) (by decide) rfl ?_
    refine x_goto C dJ7_fill_53178_17 (tgt := 5) (by decide) ?_
    exact qV_sub [1, 2, 0, 3] rfl (h)
theorem y_J7_fill_53178 : qY yJ7_fill_53178 cJ7_fill_53178 4 none 2 ({ frames := 0, cells := 0, slots := 0, locals := 0 } : Room) 0 0 := ⟨(qm_3 _ (List.mem_of_getElem? (i := 20) rfl)), (qm_3 _ (List.mem_of_getElem? (i := 19) rfl)), by decide +kernel, by decide +kernel, rfl, rfl⟩
theorem c_J7_fill_53178 (l : Launch) (G : qG) {o0 : Nat} {κ0 : Nat} {v1 : Int32} {μ : qM} (hn : 66 ≤ gn G) (hk_o0 : qk o0 = κ0) (h11_κ0 : Nat.ble 11 κ0 = true) (h23_κ0 : (κ0 == 23) = false) (hT_κ0 : qaT κ0 = 0) (h9_κ0 : (κ0 == 99 || κ0 == 4) = false) : qCv l G yJ7_fill_53178 cJ7_fill_53178 4 none ({ frames := 0, cells := 0, slots := 0, locals := 0 } : Room) 0 0 [.ref (ga G o0), .int v1] μ (fun post => w_J7_fill_53178 o0 κ0 v1 post μ) := by
  refine qCv_of (L := [(0, .ref (ga G o0)), (1, .int v1)]) (by decide) rfl rfl ?_
  intro Z post hl C hQ h
  have C : qX Z G RJ7 cJ7_fill_53178 4 ({ frames := 0, cells := 0, slots := 0, locals := 0 } : Room) none := C
  have h : w_J7_fill_53178 o0 κ0 v1 post μ := h
  unfold w_J7_fill_53178 at h
  refine x_iconst C dJ7_fill_53178_0 (v := 0) (by decide) ?_
  refine x_istore_n C (L' := [(2, .int ((0 : Int32))), (0, .ref (ga G o0)), (1, .int v1)]) dJ7_fill_53178_1 rfl (by decide) rfl ?_
  refine x_aload_n C 1 dJ7_fill_53178_2 rfl rfl ?_
  refine x_alen C o0 κ0 (qaN κ0) 0 (q_lt hk_o0 h9_κ0 hn) hk_o0 h11_κ0 h23_κ0 hT_κ0 rfl rfl rfl dJ7_fill_53178_3 ?_
  refine x_istore_n C (L' := [(3, .int ((Int32.ofNat (qaN κ0)))), (2, .int ((0 : Int32))), (0, .ref (ga G o0)), (1, .int v1)]) dJ7_fill_53178_4 rfl (by decide) rfl ?_
  exact qV_sub [2, 3, 1, 0] rfl (b_J7_fill_53178_5 C hQ hn hk_o0 h11_κ0 h23_κ0 hT_κ0 h9_κ0 h)
