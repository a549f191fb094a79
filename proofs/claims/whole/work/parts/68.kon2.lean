theorem dX6_init_0 : decode cX6_init 0 = .ok (.aload_n 0, 1) := by decide +kernel
theorem dX6_init_1 : decode cX6_init 1 = .ok (.invokespecial 3, 3) := by decide +kernel
theorem dX6_init_4 : decode cX6_init 4 = .ok (.aload_n 0, 1) := by decide +kernel
theorem dX6_init_5 : decode cX6_init 5 = .ok (.iconst 0, 1) := by decide +kernel
theorem dX6_init_6 : decode cX6_init 6 = .ok (.putfield 9, 3) := by decide +kernel
theorem dX6_init_9 : decode cX6_init 9 = .ok (.aload_n 0, 1) := by decide +kernel
theorem dX6_init_10 : decode cX6_init 10 = .ok (.iconst 0, 1) := by decide +kernel
theorem dX6_init_11 : decode cX6_init 11 = .ok (.putfield 15, 3) := by decide +kernel
theorem dX6_init_14 : decode cX6_init 14 = .ok (.aload_n 0, 1) := by decide +kernel
theorem dX6_init_15 : decode cX6_init 15 = .ok (.bipush 40, 2) := by decide +kernel
theorem dX6_init_17 : decode cX6_init 17 = .ok (.newarray .int, 2) := by decide +kernel
theorem dX6_init_19 : decode cX6_init 19 = .ok (.putfield 18, 3) := by decide +kernel
theorem dX6_init_22 : decode cX6_init 22 = .ok (.return_, 1) := by decide +kernel
set_option maxRecDepth 100000 in
set_option maxHeartbeats 4000000 in
theorem c_X6_init (l : Launch) (G : qG) {h0 : Nat} : kC true l G yX6_init cX6_init 1 ({ frames := 1, cells := 1, slots := 40, locals := 12 } : Room) 1 40 [.ref h0] [(h0, .inr (5, [.int 0, .int 0, .null]))] (fun w1 => ∃ (q1 : Nat), w1 = [(h0, .inr (5, [.int 0, .int 0, .ref q1])), (q1, .inl (gC G 0, 40, .inl (fun _ => 0)))]) := by
  refine kC_of (L := [(0, .ref h0)]) (by decide) rfl rfl ?_
  intro Z A hl C hQ
  have C : kX true Z G A RX6 cX6_init 1 ({ frames := 1, cells := 1, slots := 40, locals := 12 } : Room) "<init>" := C
  refine k_aload_n C 0 dX6_init_0 rfl rfl ?_
  refine k_obj C (qm_5 _ (List.mem_of_getElem? (i := 7) rfl)) dX6_init_1 rfl ?_
  refine k_aload_n C 0 dX6_init_4 rfl rfl ?_
  refine k_iconst C (v := 0) dX6_init_5 (by decide) ?_
  refine k_put C 0 5 0 (C0 := RX6) (fn := "bits") (fd := "I") (ty := .int) (ws' := [(h0, .inr (5, [.int 0, .int 0, .null]))]) rfl (by decide) rfl inlX6 tyX6_ok nmX6 (qm_5 _ (List.mem_of_getElem? (i := 8) rfl)) (by decide +kernel) rfl rfl rfl rfl rfl dX6_init_6 ?_
  refine k_aload_n C 0 dX6_init_9 rfl rfl ?_
  refine k_iconst C (v := 0) dX6_init_10 (by decide) ?_
  refine k_put C 0 5 1 (C0 := RX6) (fn := "size") (fd := "I") (ty := .int) (ws' := [(h0, .inr (5, [.int 0, .int 0, .null]))]) rfl (by decide) rfl inlX6 tyX6_ok nmX6 (qm_5 _ (List.mem_of_getElem? (i := 9) rfl)) (by decide +kernel) rfl rfl rfl rfl rfl dX6_init_11 ?_
  refine k_aload_n C 0 dX6_init_14 rfl rfl ?_
  refine k_bipush C (v := 40) dX6_init_15 (by decide) ?_
  refine k_newa C 0 40 (ty := .int) rfl (qm_2 _ (List.mem_of_getElem? (i := 1) rfl)) rfl (fun _ _ h => h) rfl rfl rfl rfl ⟨by decide, by decide⟩ dX6_init_17 (fun q1 => ?_)
  refine k_ws (ws' := [(h0, .inr (5, [.int 0, .int 0, .null])), (q1, .inl (gC G 0, 40, .inl (fun _ => 0)))]) rfl ?_
  refine k_putF C 0 5 2 (C0 := RX6) (fn := "numbers") (fd := "[I") (ty := .array .int) rfl rfl (ws' := [(h0, .inr (5, [.int 0, .int 0, .ref q1])), (q1, .inl (gC G 0, 40, .inl (fun _ => 0)))]) rfl (by decide) rfl inlX6 tyX6_ok nmX6 (qm_5 _ (List.mem_of_getElem? (i := 10) rfl)) (by decide +kernel) rfl rfl rfl rfl rfl dX6_init_19 ?_
  exact k_vret C hQ dX6_init_22 ⟨_, rfl⟩
theorem y_X6_init : qY yX6_init cX6_init 1 none 0 ({ frames := 1, cells := 1, slots := 40, locals := 12 } : Room) 1 40 := ⟨(qm_5 _ (List.mem_of_getElem? (i := 6) rfl)), (qm_2 _ (List.mem_of_getElem? (i := 20) rfl)), by decide +kernel, by decide +kernel, rfl, rfl⟩
theorem dX8_init_0 : decode cX8_init 0 = .ok (.aload_n 0, 1) := by decide +kernel
theorem dX8_init_1 : decode cX8_init 1 = .ok (.invokespecial 3, 3) := by decide +kernel
theorem dX8_init_4 : decode cX8_init 4 = .ok (.aload_n 0, 1) := by decide +kernel
theorem dX8_init_5 : decode cX8_init 5 = .ok (.bipush 120, 2) := by decide +kernel
theorem dX8_init_7 : decode cX8_init 7 = .ok (.newarray .byte, 2) := by decide +kernel
theorem dX8_init_9 : decode cX8_init 9 = .ok (.putfield 9, 3) := by decide +kernel
theorem dX8_init_12 : decode cX8_init 12 = .ok (.aload_n 0, 1) := by decide +kernel
theorem dX8_init_13 : decode cX8_init 13 = .ok (.iconst 0, 1) := by decide +kernel
theorem dX8_init_14 : decode cX8_init 14 = .ok (.putfield 15, 3) := by decide +kernel
theorem dX8_init_17 : decode cX8_init 17 = .ok (.return_, 1) := by decide +kernel
set_option maxRecDepth 100000 in
set_option maxHeartbeats 4000000 in
theorem c_X8_init (l : Launch) (G : qG) {h0 : Nat} : kC true l G yX8_init cX8_init 1 ({ frames := 1, cells := 1, slots := 120, locals := 12 } : Room) 1 120 [.ref h0] [(h0, .inr (7, [.null, .int 0]))] (fun w1 => ∃ (q1 : Nat), w1 = [(h0, .inr (7, [.ref q1, .int 0])), (q1, .inl (gC G 1, 120, .inl (fun _ => 0)))]) := by
  refine kC_of (L := [(0, .ref h0)]) (by decide) rfl rfl ?_
  intro Z A hl C hQ
  have C : kX true Z G A RX8 cX8_init 1 ({ frames := 1, cells := 1, slots := 120, locals := 12 } : Room) "<init>" := C
  refine k_aload_n C 0 dX8_init_0 rfl rfl ?_
  refine k_obj C (qm_3 _ (List.mem_of_getElem? (i := 23) rfl)) dX8_init_1 rfl ?_
  refine k_aload_n C 0 dX8_init_4 rfl rfl ?_
  refine k_bipush C (v := 120) dX8_init_5 (by decide) ?_
  refine k_newa C 1 120 (ty := .byte) rfl (qm_4 _ (List.mem_of_getElem? (i := 0) rfl)) rfl (fun _ _ h => h) rfl rfl rfl rfl ⟨by decide, by decide⟩ dX8_init_7 (fun q1 => ?_)
  refine k_ws (ws' := [(h0, .inr (7, [.null, .int 0])), (q1, .inl (gC G 1, 120, .inl (fun _ => 0)))]) rfl ?_
  refine k_putF C 0 7 0 (C0 := RX8) (fn := "bytes") (fd := "[B") (ty := .array .byte) rfl rfl (ws' := [(h0, .inr (7, [.ref q1, .int 0])), (q1, .inl (gC G 1, 120, .inl (fun _ => 0)))]) rfl (by decide) rfl inlX8 tyX8_ok nmX8 (qm_4 _ (List.mem_of_getElem? (i := 1) rfl)) (by decide +kernel) rfl rfl rfl rfl rfl dX8_init_9 ?_
  refine k_aload_n C 0 dX8_init_12 rfl rfl ?_
  refine k_iconst C (v := 0) dX8_init_13 (by decide) ?_
  refine k_put C 0 7 1 (C0 := RX8) (fn := "size") (fd := "I") (ty := .int) (ws' := [(h0, .inr (7, [.ref q1, .int 0])), (q1, .inl (gC G 1, 120, .inl (fun _ => 0)))]) rfl (by decide) rfl inlX8 tyX8_ok nmX8 (qm_4 _ (List.mem_of_getElem? (i := 2) rfl)) (by decide +kernel) rfl rfl rfl rfl rfl dX8_init_14 ?_
  exact k_vret C hQ dX8_init_17 ⟨_, rfl⟩
theorem y_X8_init : qY yX8_init cX8_init 1 none 0 ({ frames := 1, cells := 1, slots := 120, locals := 12 } : Room) 1 120 := ⟨(qm_3 _ (List.mem_of_getElem? (i := 22) rfl)), (qm_1 _ (List.mem_of_getElem? (i := 21) rfl)), by decide +kernel, by decide +kernel, rfl, rfl⟩
theorem dX7_init_0 : decode cX7_init 0 = .ok (.aload_n 0, 1) := by decide +kernel
theorem dX7_init_1 : decode cX7_init 1 = .ok (.invokespecial 3, 3) := by decide +kernel
theorem dX7_init_4 : decode cX7_init 4 = .ok (.aload_n 0, 1) := by decide +kernel
theorem dX7_init_5 : decode cX7_init 5 = .ok (.sipush 144, 3) := by decide +kernel
theorem dX7_init_8 : decode cX7_init 8 = .ok (.newarray .boolean, 2) := by decide +kernel
theorem dX7_init_10 : decode cX7_init 10 = .ok (.putfield 9, 3) := by decide +kernel
theorem dX7_init_13 : decode cX7_init 13 = .ok (.aload_n 0, 1) := by decide +kernel
theorem dX7_init_14 : decode cX7_init 14 = .ok (.sipush 144, 3) := by decide +kernel
theorem dX7_init_17 : decode cX7_init 17 = .ok (.newarray .int, 2) := by decide +kernel
theorem dX7_init_19 : decode cX7_init 19 = .ok (.putfield 15, 3) := by decide +kernel
theorem dX7_init_22 : decode cX7_init 22 = .ok (.aload_n 0, 1) := by decide +kernel
theorem dX7_init_23 : decode cX7_init 23 = .ok (.iconst 0, 1) := by decide +kernel
theorem dX7_init_24 : decode cX7_init 24 = .ok (.putfield 19, 3) := by decide +kernel
theorem dX7_init_27 : decode cX7_init 27 = .ok (.return_, 1) := by decide +kernel
set_option maxRecDepth 100000 in
set_option maxHeartbeats 4000000 in
theorem c_X7_init (l : Launch) (G : qG) {h0 : Nat} : kC true l G yX7_init cX7_init 1 ({ frames := 1, cells := 2, slots := 288, locals := 12 } : Room) 2 288 [.ref h0] [(h0, .inr (6, [.null, .null, .int 0]))] (fun w1 => ∃ (q1 : Nat) (q2 : Nat), w1 = [(h0, .inr (6, [.ref q1, .ref q2, .int 0])), (q1, .inl (gC G 2, 144, .inl (fun _ => 0))), (q2, .inl (gC G 0, 144, .inl (fun _ => 0)))]) := by
  refine kC_of (L := [(0, .ref h0)]) (by decide) rfl rfl ?_
  intro Z A hl C hQ
  have C : kX true Z G A RX7 cX7_init 1 ({ frames := 1, cells := 2, slots := 288, locals := 12 } : Room) "<init>" := C
  refine k_aload_n C 0 dX7_init_0 rfl rfl ?_
  refine k_obj C (qm_4 _ (List.mem_of_getElem? (i := 5) rfl)) dX7_init_1 rfl ?_
  refine k_aload_n C 0 dX7_init_4 rfl rfl ?_
  refine k_sipush C (v := 144) dX7_init_5 (by decide) ?_
  refine k_newa C 2 144 (ty := .boolean) rfl (qm_4 _ (List.mem_of_getElem? (i := 6) rfl)) rfl (fun _ _ h => h) rfl rfl rfl rfl ⟨by decide, by decide⟩ dX7_init_8 (fun q1 => ?_)
  refine k_ws (ws' := [(h0, .inr (6, [.null, .null, .int 0])), (q1, .inl (gC G 2, 144, .inl (fun _ => 0)))]) rfl ?_
  refine k_putF C 0 6 0 (C0 := RX7) (fn := "had") (fd := "[Z") (ty := .array .boolean) rfl rfl (ws' := [(h0, .inr (6, [.ref q1, .null, .int 0])), (q1, .inl (gC G 2, 144, .inl (fun _ => 0)))]) rfl (by decide) rfl inlX7 tyX7_ok nmX7 (qm_4 _ (List.mem_of_getElem? (i := 7) rfl)) (by decide +kernel) rfl rfl rfl rfl rfl dX7_init_10 ?_
  refine k_aload_n C 0 dX7_init_13 rfl rfl ?_
  refine k_sipush C (v := 144) dX7_init_14 (by decide) ?_
  refine k_newa C 0 144 (ty := .int) rfl (qm_2 _ (List.mem_of_getElem? (i := 1) rfl)) rfl (fun _ _ h => h) rfl rfl rfl rfl ⟨by decide, by decide⟩ dX7_init_17 (fun q2 => ?_)
  refine k_ws (ws' := [(h0, .inr (6, [.ref q1, .null, .int 0])), (q1, .inl (gC G 2, 144, .inl (fun _ => 0))), (q2, .inl (gC G 0, 144, .inl (fun _ => 0)))]) rfl ?_
  refine k_putF C 0 6 1 (C0 := RX7) (fn := "putUp") (fd := "[I") (ty := .array .int) rfl rfl (ws' := [(h0, .inr (6, [.ref q1, .ref q2, .int 0])), (q1, .inl (gC G 2, 144, .inl (fun _ => 0))), (q2, .inl (gC G 0, 144, .inl (fun _ => 0)))]) rfl (by decide) rfl inlX7 tyX7_ok nmX7 (qm_4 _ (List.mem_of_getElem? (i := 8) rfl)) (by decide +kernel) rfl rfl rfl rfl rfl dX7_init_19 ?_
  refine k_aload_n C 0 dX7_init_22 rfl rfl ?_
  refine k_iconst C (v := 0) dX7_init_23 (by decide) ?_
  refine k_put C 0 6 2 (C0 := RX7) (fn := "size") (fd := "I") (ty := .int) (ws' := [(h0, .inr (6, [.ref q1, .ref q2, .int 0])), (q1, .inl (gC G 2, 144, .inl (fun _ => 0))), (q2, .inl (gC G 0, 144, .inl (fun _ => 0)))]) rfl (by decide) rfl inlX7 tyX7_ok nmX7 (qm_4 _ (List.mem_of_getElem? (i := 9) rfl)) (by decide +kernel) rfl rfl rfl rfl rfl dX7_init_24 ?_
  exact k_vret C hQ dX7_init_27 ⟨_, _, rfl⟩
theorem y_X7_init : qY yX7_init cX7_init 1 none 0 ({ frames := 1, cells := 2, slots := 288, locals := 12 } : Room) 2 288 := ⟨(qm_4 _ (List.mem_of_getElem? (i := 4) rfl)), (qm_2 _ (List.mem_of_getElem? (i := 5) rfl)), by decide +kernel, by decide +kernel, rfl, rfl⟩
theorem dX3_init_0 : decode cX3_init 0 = .ok (.aload_n 0, 1) := by decide +kernel
theorem dX3_init_1 : decode cX3_init 1 = .ok (.invokespecial 3, 3) := by decide +kernel
theorem dX3_init_4 : decode cX3_init 4 = .ok (.aload_n 0, 1) := by decide +kernel
theorem dX3_init_5 : decode cX3_init 5 = .ok (.sipush 144, 3) := by decide +kernel
theorem dX3_init_8 : decode cX3_init 8 = .ok (.newarray .boolean, 2) := by decide +kernel
theorem dX3_init_10 : decode cX3_init 10 = .ok (.putfield 9, 3) := by decide +kernel
theorem dX3_init_13 : decode cX3_init 13 = .ok (.aload_n 0, 1) := by decide +kernel
theorem dX3_init_14 : decode cX3_init 14 = .ok (.sipush 144, 3) := by decide +kernel
theorem dX3_init_17 : decode cX3_init 17 = .ok (.newarray .boolean, 2) := by decide +kernel
theorem dX3_init_19 : decode cX3_init 19 = .ok (.putfield 15, 3) := by decide +kernel
theorem dX3_init_22 : decode cX3_init 22 = .ok (.aload_n 0, 1) := by decide +kernel
theorem dX3_init_23 : decode cX3_init 23 = .ok (.iconst (-1), 1) := by decide +kernel
theorem dX3_init_24 : decode cX3_init 24 = .ok (.putfield 18, 3) := by decide +kernel
theorem dX3_init_27 : decode cX3_init 27 = .ok (.aload_n 0, 1) := by decide +kernel
theorem dX3_init_28 : decode cX3_init 28 = .ok (.iconst (-1), 1) := by decide +kernel
theorem dX3_init_29 : decode cX3_init 29 = .ok (.putfield 22, 3) := by decide +kernel
theorem dX3_init_32 : decode cX3_init 32 = .ok (.return_, 1) := by decide +kernel
set_option maxRecDepth 100000 in
set_option maxHeartbeats 4000000 in
theorem c_X3_init (l : Launch) (G : qG) {h0 : Nat} : kC true l G yX3_init cX3_init 1 ({ frames := 1, cells := 2, slots := 288, locals := 12 } : Room) 2 288 [.ref h0] [(h0, .inr (2, [.null, .null, .int 0, .int 0]))] (fun w1 => ∃ (q1 : Nat) (q2 : Nat), w1 = [(h0, .inr (2, [.ref q1, .ref q2, .int (-1), .int (-1)])), (q1, .inl (gC G 2, 144, .inl (fun _ => 0))), (q2, .inl (gC G 2, 144, .inl (fun _ => 0)))]) := by
  refine kC_of (L := [(0, .ref h0)]) (by decide) rfl rfl ?_
  intro Z A hl C hQ
  have C : kX true Z G A RX3 cX3_init 1 ({ frames := 1, cells := 2, slots := 288, locals := 12 } : Room) "<init>" := C
  refine k_aload_n C 0 dX3_init_0 rfl rfl ?_
  refine k_obj C (qm_4 _ (List.mem_of_getElem? (i := 12) rfl)) dX3_init_1 rfl ?_
  refine k_aload_n C 0 dX3_init_4 rfl rfl ?_
  refine k_sipush C (v := 144) dX3_init_5 (by decide) ?_
  refine k_newa C 2 144 (ty := .boolean) rfl (qm_4 _ (List.mem_of_getElem? (i := 6) rfl)) rfl (fun _ _ h => h) rfl rfl rfl rfl ⟨by decide, by decide⟩ dX3_init_8 (fun q1 => ?_)
  refine k_ws (ws' := [(h0, .inr (2, [.null, .null, .int 0, .int 0])), (q1, .inl (gC G 2, 144, .inl (fun _ => 0)))]) rfl ?_
  refine k_putF C 0 2 0 (C0 := RX3) (fn := "free") (fd := "[Z") (ty := .array .boolean) rfl rfl (ws' := [(h0, .inr (2, [.ref q1, .null, .int 0, .int 0])), (q1, .inl (gC G 2, 144, .inl (fun _ => 0)))]) rfl (by decide) rfl inlX3 tyX3_ok nmX3 (qm_4 _ (List.mem_of_getElem? (i := 13) rfl)) (by decide +kernel) rfl rfl rfl rfl rfl dX3_init_10 ?_
  refine k_aload_n C 0 dX3_init_13 rfl rfl ?_
  refine k_sipush C (v := 144) dX3_init_14 (by decide) ?_
  refine k_newa C 2 144 (ty := .boolean) rfl (qm_4 _ (List.mem_of_getElem? (i := 6) rfl)) rfl (fun _ _ h => h) rfl rfl rfl rfl ⟨by decide, by decide⟩ dX3_init_17 (fun q2 => ?_)
  refine k_ws (ws' := [(h0, .inr (2, [.ref q1, .null, .int 0, .int 0])), (q1, .inl (gC G 2, 144, .inl (fun _ => 0))), (q2, .inl (gC G 2, 144, .inl (fun _ => 0)))]) rfl ?_
  refine k_putF C 0 2 1 (C0 := RX3) (fn := "near") (fd := "[Z") (ty := .array .boolean) rfl rfl (ws' := [(h0, .inr (2, [.ref q1, .ref q2, .int 0, .int 0])), (q1, .inl (gC G 2, 144, .inl (fun _ => 0))), (q2, .inl (gC G 2, 144, .inl (fun _ => 0)))]) rfl (by decide) rfl inlX3 tyX3_ok nmX3 (qm_4 _ (List.mem_of_getElem? (i := 14) rfl)) (by decide +kernel) rfl rfl rfl rfl rfl dX3_init_19 ?_
  refine k_aload_n C 0 dX3_init_22 rfl rfl ?_
  refine k_iconst C (v := -1) dX3_init_23 (by decide) ?_
  refine k_put C 0 2 2 (C0 := RX3) (fn := "first") (fd := "I") (ty := .int) (ws' := [(h0, .inr (2, [.ref q1, .ref q2, .int (-1), .int 0])), (q1, .inl (gC G 2, 144, .inl (fun _ => 0))), (q2, .inl (gC G 2, 144, .inl (fun _ => 0)))]) rfl (by decide) rfl inlX3 tyX3_ok nmX3 (qm_4 _ (List.mem_of_getElem? (i := 15) rfl)) (by decide +kernel) rfl rfl rfl rfl rfl dX3_init_24 ?_
  refine k_aload_n C 0 dX3_init_27 rfl rfl ?_
  refine k_iconst C (v := -1) dX3_init_28 (by decide) ?_
  refine k_put C 0 2 3 (C0 := RX3) (fn := "second") (fd := "I") (ty := .int) (ws' := [(h0, .inr (2, [.ref q1, .ref q2, .int (-1), .int (-1)])), (q1, .inl (gC G 2, 144, .inl (fun _ => 0))), (q2, .inl (gC G 2, 144, .inl (fun _ => 0)))]) rfl (by decide) rfl inlX3 tyX3_ok nmX3 (qm_4 _ (List.mem_of_getElem? (i := 16) rfl)) (by decide +kernel) rfl rfl rfl rfl rfl dX3_init_29 ?_
  exact k_vret C hQ dX3_init_32 ⟨_, _, rfl⟩
theorem y_X3_init : qY yX3_init cX3_init 1 none 0 ({ frames := 1, cells := 2, slots := 288, locals := 12 } : Room) 2 288 := ⟨(qm_4 _ (List.mem_of_getElem? (i := 11) rfl)), (qm_2 _ (List.mem_of_getElem? (i := 9) rfl)), by decide +kernel, by decide +kernel, rfl, rfl⟩
theorem dX4_init_0 : decode cX4_init 0 = .ok (.aload_n 0, 1) := by decide +kernel
theorem dX4_init_1 : decode cX4_init 1 = .ok (.invokespecial 3, 3) := by decide +kernel
theorem dX4_init_4 : decode cX4_init 4 = .ok (.aload_n 0, 1) := by decide +kernel
theorem dX4_init_5 : decode cX4_init 5 = .ok (.sipush 144, 3) := by decide +kernel
theorem dX4_init_8 : decode cX4_init 8 = .ok (.newarray .boolean, 2) := by decide +kernel
theorem dX4_init_10 : decode cX4_init 10 = .ok (.putfield 9, 3) := by decide +kernel
theorem dX4_init_13 : decode cX4_init 13 = .ok (.aload_n 0, 1) := by decide +kernel
theorem dX4_init_14 : decode cX4_init 14 = .ok (.sipush 144, 3) := by decide +kernel
theorem dX4_init_17 : decode cX4_init 17 = .ok (.newarray .boolean, 2) := by decide +kernel
theorem dX4_init_19 : decode cX4_init 19 = .ok (.putfield 15, 3) := by decide +kernel
theorem dX4_init_22 : decode cX4_init 22 = .ok (.aload_n 0, 1) := by decide +kernel
theorem dX4_init_23 : decode cX4_init 23 = .ok (.iconst (-1), 1) := by decide +kernel
theorem dX4_init_24 : decode cX4_init 24 = .ok (.putfield 18, 3) := by decide +kernel
theorem dX4_init_27 : decode cX4_init 27 = .ok (.return_, 1) := by decide +kernel
set_option maxRecDepth 100000 in
set_option maxHeartbeats 4000000 in
theorem c_X4_init (l : Launch) (G : qG) {h0 : Nat} : kC true l G yX4_init cX4_init 1 ({ frames := 1, cells := 2, slots := 288, locals := 12 } : Room) 2 288 [.ref h0] [(h0, .inr (3, [.null, .null, .int 0]))] (fun w1 => ∃ (q1 : Nat) (q2 : Nat), w1 = [(h0, .inr (3, [.ref q1, .ref q2, .int (-1)])), (q1, .inl (gC G 2, 144, .inl (fun _ => 0))), (q2, .inl (gC G 2, 144, .inl (fun _ => 0)))]) := by
  refine kC_of (L := [(0, .ref h0)]) (by decide) rfl rfl ?_
  intro Z A hl C hQ
  have C : kX true Z G A RX4 cX4_init 1 ({ frames := 1, cells := 2, slots := 288, locals := 12 } : Room) "<init>" := C
  refine k_aload_n C 0 dX4_init_0 rfl rfl ?_
  refine k_obj C (qm_4 _ (List.mem_of_getElem? (i := 19) rfl)) dX4_init_1 rfl ?_
  refine k_aload_n C 0 dX4_init_4 rfl rfl ?_
  refine k_sipush C (v := 144) dX4_init_5 (by decide) ?_
  refine k_newa C 2 144 (ty := .boolean) rfl (qm_4 _ (List.mem_of_getElem? (i := 6) rfl)) rfl (fun _ _ h => h) rfl rfl rfl rfl ⟨by decide, by decide⟩ dX4_init_8 (fun q1 => ?_)
  refine k_ws (ws' := [(h0, .inr (3, [.null, .null, .int 0])), (q1, .inl (gC G 2, 144, .inl (fun _ => 0)))]) rfl ?_
  refine k_putF C 0 3 0 (C0 := RX4) (fn := "free") (fd := "[Z") (ty := .array .boolean) rfl rfl (ws' := [(h0, .inr (3, [.ref q1, .null, .int 0])), (q1, .inl (gC G 2, 144, .inl (fun _ => 0)))]) rfl (by decide) rfl inlX4 tyX4_ok nmX4 (qm_4 _ (List.mem_of_getElem? (i := 20) rfl)) (by decide +kernel) rfl rfl rfl rfl rfl dX4_init_10 ?_
  refine k_aload_n C 0 dX4_init_13 rfl rfl ?_
  refine k_sipush C (v := 144) dX4_init_14 (by decide) ?_
  refine k_newa C 2 144 (ty := .boolean) rfl (qm_4 _ (List.mem_of_getElem? (i := 6) rfl)) rfl (fun _ _ h => h) rfl rfl rfl rfl ⟨by decide, by decide⟩ dX4_init_17 (fun q2 => ?_)
  refine k_ws (ws' := [(h0, .inr (3, [.ref q1, .null, .int 0])), (q1, .inl (gC G 2, 144, .inl (fun _ => 0))), (q2, .inl (gC G 2, 144, .inl (fun _ => 0)))]) rfl ?_
  refine k_putF C 0 3 1 (C0 := RX4) (fn := "stood") (fd := "[Z") (ty := .array .boolean) rfl rfl (ws' := [(h0, .inr (3, [.ref q1, .ref q2, .int 0])), (q1, .inl (gC G 2, 144, .inl (fun _ => 0))), (q2, .inl (gC G 2, 144, .inl (fun _ => 0)))]) rfl (by decide) rfl inlX4 tyX4_ok nmX4 (qm_4 _ (List.mem_of_getElem? (i := 21) rfl)) (by decide +kernel) rfl rfl rfl rfl rfl dX4_init_19 ?_
  refine k_aload_n C 0 dX4_init_22 rfl rfl ?_
  refine k_iconst C (v := -1) dX4_init_23 (by decide) ?_
  refine k_put C 0 3 2 (C0 := RX4) (fn := "most") (fd := "I") (ty := .int) (ws' := [(h0, .inr (3, [.ref q1, .ref q2, .int (-1)])), (q1, .inl (gC G 2, 144, .inl (fun _ => 0))), (q2, .inl (gC G 2, 144, .inl (fun _ => 0)))]) rfl (by decide) rfl inlX4 tyX4_ok nmX4 (qm_4 _ (List.mem_of_getElem? (i := 22) rfl)) (by decide +kernel) rfl rfl rfl rfl rfl dX4_init_24 ?_
  exact k_vret C hQ dX4_init_27 ⟨_, _, rfl⟩
theorem y_X4_init : qY yX4_init cX4_init 1 none 0 ({ frames := 1, cells := 2, slots := 288, locals := 12 } : Room) 2 288 := ⟨(qm_4 _ (List.mem_of_getElem? (i := 18) rfl)), (qm_2 _ (List.mem_of_getElem? (i := 13) rfl)), by decide +kernel, by decide +kernel, rfl, rfl⟩
theorem dX0_init_0 : decode cX0_init 0 = .ok (.aload_n 0, 1) := by decide +kernel
theorem dX0_init_1 : decode cX0_init 1 = .ok (.invokespecial 3, 3) := by decide +kernel
theorem dX0_init_4 : decode cX0_init 4 = .ok (.aload_n 0, 1) := by decide +kernel
theorem dX0_init_5 : decode cX0_init 5 = .ok (.sipush 1024, 3) := by decide +kernel
theorem dX0_init_8 : decode cX0_init 8 = .ok (.newarray .int, 2) := by decide +kernel
theorem dX0_init_10 : decode cX0_init 10 = .ok (.putfield 9, 3) := by decide +kernel
theorem dX0_init_13 : decode cX0_init 13 = .ok (.aload_n 0, 1) := by decide +kernel
theorem dX0_init_14 : decode cX0_init 14 = .ok (.bipush 100, 2) := by decide +kernel
theorem dX0_init_16 : decode cX0_init 16 = .ok (.newarray .int, 2) := by decide +kernel
theorem dX0_init_18 : decode cX0_init 18 = .ok (.putfield 15, 3) := by decide +kernel
theorem dX0_init_21 : decode cX0_init 21 = .ok (.aload_n 0, 1) := by decide +kernel
theorem dX0_init_22 : decode cX0_init 22 = .ok (.iconst 0, 1) := by decide +kernel
theorem dX0_init_23 : decode cX0_init 23 = .ok (.putfield 18, 3) := by decide +kernel
theorem dX0_init_26 : decode cX0_init 26 = .ok (.return_, 1) := by decide +kernel
set_option maxRecDepth 100000 in
set_option maxHeartbeats 4000000 in
theorem c_X0_init (l : Launch) (G : qG) {h0 : Nat} : kC true l G yX0_init cX0_init 1 ({ frames := 1, cells := 2, slots := 1124, locals := 12 } : Room) 2 1124 [.ref h0] [(h0, .inr (0, [.null, .null, .int 0]))] (fun w1 => ∃ (q1 : Nat) (q2 : Nat), w1 = [(h0, .inr (0, [.ref q1, .ref q2, .int 0])), (q1, .inl (gC G 0, 1024, .inl (fun _ => 0))), (q2, .inl (gC G 0, 100, .inl (fun _ => 0)))]) := by
  refine kC_of (L := [(0, .ref h0)]) (by decide) rfl rfl ?_
  intro Z A hl C hQ
  have C : kX true Z G A RX0 cX0_init 1 ({ frames := 1, cells := 2, slots := 1124, locals := 12 } : Room) "<init>" := C
  refine k_aload_n C 0 dX0_init_0 rfl rfl ?_
  refine k_obj C (qm_5 _ (List.mem_of_getElem? (i := 1) rfl)) dX0_init_1 rfl ?_
  refine k_aload_n C 0 dX0_init_4 rfl rfl ?_
  refine k_sipush C (v := 1024) dX0_init_5 (by decide) ?_
  refine k_newa C 0 1024 (ty := .int) rfl (qm_2 _ (List.mem_of_getElem? (i := 1) rfl)) rfl (fun _ _ h => h) rfl rfl rfl rfl ⟨by decide, by decide⟩ dX0_init_8 (fun q1 => ?_)
  refine k_ws (ws' := [(h0, .inr (0, [.null, .null, .int 0])), (q1, .inl (gC G 0, 1024, .inl (fun _ => 0)))]) rfl ?_
  refine k_putF C 0 0 0 (C0 := RX0) (fn := "ways") (fd := "[I") (ty := .array .int) rfl rfl (ws' := [(h0, .inr (0, [.ref q1, .null, .int 0])), (q1, .inl (gC G 0, 1024, .inl (fun _ => 0)))]) rfl (by decide) rfl inlX0 tyX0_ok nmX0 (qm_5 _ (List.mem_of_getElem? (i := 2) rfl)) (by decide +kernel) rfl rfl rfl rfl rfl dX0_init_10 ?_
  refine k_aload_n C 0 dX0_init_13 rfl rfl ?_
  refine k_bipush C (v := 100) dX0_init_14 (by decide) ?_
  refine k_newa C 0 100 (ty := .int) rfl (qm_2 _ (List.mem_of_getElem? (i := 1) rfl)) rfl (fun _ _ h => h) rfl rfl rfl rfl ⟨by decide, by decide⟩ dX0_init_16 (fun q2 => ?_)
  refine k_ws (ws' := [(h0, .inr (0, [.ref q1, .null, .int 0])), (q1, .inl (gC G 0, 1024, .inl (fun _ => 0))), (q2, .inl (gC G 0, 100, .inl (fun _ => 0)))]) rfl ?_
  refine k_putF C 0 0 1 (C0 := RX0) (fn := "even") (fd := "[I") (ty := .array .int) rfl rfl (ws' := [(h0, .inr (0, [.ref q1, .ref q2, .int 0])), (q1, .inl (gC G 0, 1024, .inl (fun _ => 0))), (q2, .inl (gC G 0, 100, .inl (fun _ => 0)))]) rfl (by decide) rfl inlX0 tyX0_ok nmX0 (qm_5 _ (List.mem_of_getElem? (i := 3) rfl)) (by decide +kernel) rfl rfl rfl rfl rfl dX0_init_18 ?_
  refine k_aload_n C 0 dX0_init_21 rfl rfl ?_
  refine k_iconst C (v := 0) dX0_init_22 (by decide) ?_
  refine k_put C 0 0 2 (C0 := RX0) (fn := "size") (fd := "I") (ty := .int) (ws' := [(h0, .inr (0, [.ref q1, .ref q2, .int 0])), (q1, .inl (gC G 0, 1024, .inl (fun _ => 0))), (q2, .inl (gC G 0, 100, .inl (fun _ => 0)))]) rfl (by decide) rfl inlX0 tyX0_ok nmX0 (qm_5 _ (List.mem_of_getElem? (i := 4) rfl)) (by decide +kernel) rfl rfl rfl rfl rfl dX0_init_23 ?_
  exact k_vret C hQ dX0_init_26 ⟨_, _, rfl⟩
theorem y_X0_init : qY yX0_init cX0_init 1 none 0 ({ frames := 1, cells := 2, slots := 1124, locals := 12 } : Room) 2 1124 := ⟨(qm_5 _ (List.mem_of_getElem? (i := 0) rfl)), (qm_2 _ (List.mem_of_getElem? (i := 17) rfl)), by decide +kernel, by decide +kernel, rfl, rfl⟩
theorem dX1_init_0 : decode cX1_init 0 = .ok (.aload_n 0, 1) := by decide +kernel
theorem dX1_init_1 : decode cX1_init 1 = .ok (.invokespecial 3, 3) := by decide +kernel
theorem dX1_init_4 : decode cX1_init 4 = .ok (.aload_n 0, 1) := by decide +kernel
theorem dX1_init_5 : decode cX1_init 5 = .ok (.iconst 0, 1) := by decide +kernel
theorem dX1_init_6 : decode cX1_init 6 = .ok (.putfield 9, 3) := by decide +kernel
theorem dX1_init_9 : decode cX1_init 9 = .ok (.aload_n 0, 1) := by decide +kernel
theorem dX1_init_10 : decode cX1_init 10 = .ok (.bipush 10, 2) := by decide +kernel
theorem dX1_init_12 : decode cX1_init 12 = .ok (.newarray .int, 2) := by decide +kernel
theorem dX1_init_14 : decode cX1_init 14 = .ok (.putfield 15, 3) := by decide +kernel
theorem dX1_init_17 : decode cX1_init 17 = .ok (.aload_n 0, 1) := by decide +kernel
theorem dX1_init_18 : decode cX1_init 18 = .ok (.bipush 10, 2) := by decide +kernel
theorem dX1_init_20 : decode cX1_init 20 = .ok (.newarray .int, 2) := by decide +kernel
theorem dX1_init_22 : decode cX1_init 22 = .ok (.putfield 19, 3) := by decide +kernel
theorem dX1_init_25 : decode cX1_init 25 = .ok (.aload_n 0, 1) := by decide +kernel
theorem dX1_init_26 : decode cX1_init 26 = .ok (.bipush 10, 2) := by decide +kernel
theorem dX1_init_28 : decode cX1_init 28 = .ok (.newarray .int, 2) := by decide +kernel
theorem dX1_init_30 : decode cX1_init 30 = .ok (.putfield 22, 3) := by decide +kernel
theorem dX1_init_33 : decode cX1_init 33 = .ok (.return_, 1) := by decide +kernel
set_option maxRecDepth 100000 in
set_option maxHeartbeats 4000000 in
theorem c_X1_init (l : Launch) (G : qG) {h0 : Nat} : kC true l G yX1_init cX1_init 1 ({ frames := 1, cells := 3, slots := 30, locals := 12 } : Room) 3 30 [.ref h0] [(h0, .inr (1, [.int 0, .null, .null, .null]))] (fun w1 => ∃ (q1 : Nat) (q2 : Nat) (q3 : Nat), w1 = [(h0, .inr (1, [.int 0, .ref q1, .ref q2, .ref q3])), (q1, .inl (gC G 0, 10, .inl (fun _ => 0))), (q2, .inl (gC G 0, 10, .inl (fun _ => 0))), (q3, .inl (gC G 0, 10, .inl (fun _ => 0)))]) := by
  refine kC_of (L := [(0, .ref h0)]) (by decide) rfl rfl ?_
  intro Z A hl C hQ
  have C : kX true Z G A RX1 cX1_init 1 ({ frames := 1, cells := 3, slots := 30, locals := 12 } : Room) "<init>" := C
  refine k_aload_n C 0 dX1_init_0 rfl rfl ?_
  refine k_obj C (qm_3 _ (List.mem_of_getElem? (i := 12) rfl)) dX1_init_1 rfl ?_
  refine k_aload_n C 0 dX1_init_4 rfl rfl ?_
  refine k_iconst C (v := 0) dX1_init_5 (by decide) ?_
  refine k_put C 0 1 0 (C0 := RX1) (fn := "size") (fd := "I") (ty := .int) (ws' := [(h0, .inr (1, [.int 0, .null, .null, .null]))]) rfl (by decide) rfl inlX1 tyX1_ok nmX1 (qm_3 _ (List.mem_of_getElem? (i := 13) rfl)) (by decide +kernel) rfl rfl rfl rfl rfl dX1_init_6 ?_
  refine k_aload_n C 0 dX1_init_9 rfl rfl ?_
  refine k_bipush C (v := 10) dX1_init_10 (by decide) ?_
  refine k_newa C 0 10 (ty := .int) rfl (qm_2 _ (List.mem_of_getElem? (i := 1) rfl)) rfl (fun _ _ h => h) rfl rfl rfl rfl ⟨by decide, by decide⟩ dX1_init_12 (fun q1 => ?_)
  refine k_ws (ws' := [(h0, .inr (1, [.int 0, .null, .null, .null])), (q1, .inl (gC G 0, 10, .inl (fun _ => 0)))]) rfl ?_
  refine k_putF C 0 1 1 (C0 := RX1) (fn := "kinds") (fd := "[I") (ty := .array .int) rfl rfl (ws' := [(h0, .inr (1, [.int 0, .ref q1, .null, .null])), (q1, .inl (gC G 0, 10, .inl (fun _ => 0)))]) rfl (by decide) rfl inlX1 tyX1_ok nmX1 (qm_3 _ (List.mem_of_getElem? (i := 14) rfl)) (by decide +kernel) rfl rfl rfl rfl rfl dX1_init_14 ?_
  refine k_aload_n C 0 dX1_init_17 rfl rfl ?_
  refine k_bipush C (v := 10) dX1_init_18 (by decide) ?_
  refine k_newa C 0 10 (ty := .int) rfl (qm_2 _ (List.mem_of_getElem? (i := 1) rfl)) rfl (fun _ _ h => h) rfl rfl rfl rfl ⟨by decide, by decide⟩ dX1_init_20 (fun q2 => ?_)
  refine k_ws (ws' := [(h0, .inr (1, [.int 0, .ref q1, .null, .null])), (q1, .inl (gC G 0, 10, .inl (fun _ => 0))), (q2, .inl (gC G 0, 10, .inl (fun _ => 0)))]) rfl ?_
  refine k_putF C 0 1 2 (C0 := RX1) (fn := "homes") (fd := "[I") (ty := .array .int) rfl rfl (ws' := [(h0, .inr (1, [.int 0, .ref q1, .ref q2, .null])), (q1, .inl (gC G 0, 10, .inl (fun _ => 0))), (q2, .inl (gC G 0, 10, .inl (fun _ => 0)))]) rfl (by decide) rfl inlX1 tyX1_ok nmX1 (qm_3 _ (List.mem_of_getElem? (i := 15) rfl)) (by decide +kernel) rfl rfl rfl rfl rfl dX1_init_22 ?_
  refine k_aload_n C 0 dX1_init_25 rfl rfl ?_
  refine k_bipush C (v := 10) dX1_init_26 (by decide) ?_
  refine k_newa C 0 10 (ty := .int) rfl (qm_2 _ (List.mem_of_getElem? (i := 1) rfl)) rfl (fun _ _ h => h) rfl rfl rfl rfl ⟨by decide, by decide⟩ dX1_init_28 (fun q3 => ?_)
  refine k_ws (ws' := [(h0, .inr (1, [.int 0, .ref q1, .ref q2, .null])), (q1, .inl (gC G 0, 10, .inl (fun _ => 0))), (q2, .inl (gC G 0, 10, .inl (fun _ => 0))), (q3, .inl (gC G 0, 10, .inl (fun _ => 0)))]) rfl ?_
  refine k_putF C 0 1 3 (C0 := RX1) (fn := "fars") (fd := "[I") (ty := .array .int) rfl rfl (ws' := [(h0, .inr (1, [.int 0, .ref q1, .ref q2, .ref q3])), (q1, .inl (gC G 0, 10, .inl (fun _ => 0))), (q2, .inl (gC G 0, 10, .inl (fun _ => 0))), (q3, .inl (gC G 0, 10, .inl (fun _ => 0)))]) rfl (by decide) rfl inlX1 tyX1_ok nmX1 (qm_3 _ (List.mem_of_getElem? (i := 16) rfl)) (by decide +kernel) rfl rfl rfl rfl rfl dX1_init_30 ?_
  exact k_vret C hQ dX1_init_33 ⟨_, _, _, rfl⟩
theorem y_X1_init : qY yX1_init cX1_init 1 none 0 ({ frames := 1, cells := 3, slots := 30, locals := 12 } : Room) 3 30 := ⟨(qm_3 _ (List.mem_of_getElem? (i := 11) rfl)), (qm_3 _ (List.mem_of_getElem? (i := 3) rfl)), by decide +kernel, by decide +kernel, rfl, rfl⟩
set_option maxRecDepth 100000 in
set_option maxHeartbeats 4000000 in
theorem k_J7_fill_53178 (l : Launch) (G : qG) {h0 : Nat} : kC true l G yJ7_fill_53178 cJ7_fill_53178 4 ({ frames := 0, cells := 0, slots := 0, locals := 0 } : Room) 0 0 [.ref h0, .int (-1)] [(h0, .inl (gC G 0, 10, .inl (fun _ => 0)))] (fun w1 => ∃ (f1 : Nat → Int32), (∀ j, j < 10 → f1 j = -1) ∧ w1 = [(h0, .inl (gC G 0, 10, .inl f1))]) := by
  refine kC_of (L := [(0, .ref h0), (1, .int (-1))]) (by decide) rfl rfl ?_
  intro Z A hl C hQ
  have C : kX true Z G A RJ7 cJ7_fill_53178 4 ({ frames := 0, cells := 0, slots := 0, locals := 0 } : Room) "fill" := C
  refine k_iconst C (v := 0) dJ7_fill_53178_0 (by decide) ?_
  refine k_istore_n C (L' := [(2, .int 0), (0, .ref h0), (1, .int (-1))]) dJ7_fill_53178_1 rfl (by decide) rfl ?_
  refine k_aload_n C 1 dJ7_fill_53178_2 rfl rfl ?_
  refine k_alen C 0 10 (v := 10) rfl rfl dJ7_fill_53178_3 ?_
  refine k_istore_n C (L' := [(3, .int 10), (2, .int 0), (0, .ref h0), (1, .int (-1))]) dJ7_fill_53178_4 rfl (by decide) rfl ?_
  refine k_iload_n C 1 dJ7_fill_53178_5 rfl rfl ?_
  refine k_iload_n C 0 dJ7_fill_53178_6 rfl rfl ?_
  refine k_geF C dJ7_fill_53178_7 (tgt := 20) (by decide) (by decide) ?_
  refine k_aload_n C 2 dJ7_fill_53178_10 rfl rfl ?_
  refine k_iload_n C 1 dJ7_fill_53178_11 rfl rfl ?_
  refine k_iload_n C 3 dJ7_fill_53178_12 rfl rfl ?_
  refine k_iast C 0 0 10 (ws' := [(h0, .inl (gC G 0, 10, .inl (upd (fun _ => 0) 0 (-1))))]) rfl rfl rfl rfl dJ7_fill_53178_13 ?_
  refine k_iinc C 1 (v := 1) (L' := [(2, .int 1), (3, .int 10), (0, .ref h0), (1, .int (-1))]) dJ7_fill_53178_14 rfl (by decide) (by decide) rfl ?_
  refine k_goto C dJ7_fill_53178_17 (tgt := 5) (by decide) ?_
  refine k_iload_n C 0 dJ7_fill_53178_5 rfl rfl ?_
  refine k_iload_n C 1 dJ7_fill_53178_6 rfl rfl ?_
  refine k_geF C dJ7_fill_53178_7 (tgt := 20) (by decide) (by decide) ?_
  refine k_aload_n C 2 dJ7_fill_53178_10 rfl rfl ?_
  refine k_iload_n C 0 dJ7_fill_53178_11 rfl rfl ?_
  refine k_iload_n C 3 dJ7_fill_53178_12 rfl rfl ?_
  refine k_iast C 0 1 10 (ws' := [(h0, .inl (gC G 0, 10, .inl (upd (upd (fun _ => 0) 0 (-1)) 1 (-1))))]) rfl rfl rfl rfl dJ7_fill_53178_13 ?_
  refine k_iinc C 0 (v := 2) (L' := [(2, .int 2), (3, .int 10), (0, .ref h0), (1, .int (-1))]) dJ7_fill_53178_14 rfl (by decide) (by decide) rfl ?_
  refine k_goto C dJ7_fill_53178_17 (tgt := 5) (by decide) ?_
  refine k_iload_n C 0 dJ7_fill_53178_5 rfl rfl ?_
  refine k_iload_n C 1 dJ7_fill_53178_6 rfl rfl ?_
  refine k_geF C dJ7_fill_53178_7 (tgt := 20) (by decide) (by decide) ?_
  refine k_aload_n C 2 dJ7_fill_53178_10 rfl rfl ?_
  refine k_iload_n C 0 dJ7_fill_53178_11 rfl rfl ?_
  refine k_iload_n C 3 dJ7_fill_53178_12 rfl rfl ?_
  refine k_iast C 0 2 10 (ws' := [(h0, .inl (gC G 0, 10, .inl (upd (upd (upd (fun _ => 0) 0 (-1)) 1 (-1)) 2 (-1))))]) rfl rfl rfl rfl dJ7_fill_53178_13 ?_
  refine k_iinc C 0 (v := 3) (L' := [(2, .int 3), (3, .int 10), (0, .ref h0), (1, .int (-1))]) dJ7_fill_53178_14 rfl (by decide) (by decide) rfl ?_
  refine k_goto C dJ7_fill_53178_17 (tgt := 5) (by decide) ?_
  refine k_iload_n C 0 dJ7_fill_53178_5 rfl rfl ?_
  refine k_iload_n C 1 dJ7_fill_53178_6 rfl rfl ?_
  refine k_geF C dJ7_fill_53178_7 (tgt := 20) (by decide) (by decide) ?_
  refine k_aload_n C 2 dJ7_fill_53178_10 rfl rfl ?_
  refine k_iload_n C 0 dJ7_fill_53178_11 rfl rfl ?_
  refine k_iload_n C 3 dJ7_fill_53178_12 rfl rfl ?_
  refine k_iast C 0 3 10 (ws' := [(h0, .inl (gC G 0, 10, .inl (upd (upd (upd (upd (fun _ => 0) 0 (-1)) 1 (-1)) 2 (-1)) 3 (-1))))]) rfl rfl rfl rfl dJ7_fill_53178_13 ?_
  refine k_iinc C 0 (v := 4) (L' := [(2, .int 4), (3, .int 10), (0, .ref h0), (1, .int (-1))]) dJ7_fill_53178_14 rfl (by decide) (by decide) rfl ?_
  refine k_goto C dJ7_fill_53178_17 (tgt := 5) (by decide) ?_
  refine k_iload_n C 0 dJ7_fill_53178_5 rfl rfl ?_
  refine k_iload_n C 1 dJ7_fill_53178_6 rfl rfl ?_
  refine k_geF C dJ7_fill_53178_7 (tgt := 20) (by decide) (by decide) ?_
  refine k_aload_n C 2 dJ7_fill_53178_10 rfl rfl ?_
  refine k_iload_n C 0 dJ7_fill_53178_11 rfl rfl ?_
  refine k_iload_n C 3 dJ7_fill_53178_12 rfl rfl ?_
  refine k_iast C 0 4 10 (ws' := [(h0, .inl (gC G 0, 10, .inl (upd (upd (upd (upd (upd (fun _ => 0) 0 (-1)) 1 (-1)) 2 (-1)) 3 (-1)) 4 (-1))))]) rfl rfl rfl rfl dJ7_fill_53178_13 ?_
  refine k_iinc C 0 (v := 5) (L' := [(2, .int 5), (3, .int 10), (0, .ref h0), (1, .int (-1))]) dJ7_fill_53178_14 rfl (by decide) (by decide) rfl ?_
  refine k_goto C dJ7_fill_53178_17 (tgt := 5) (by decide) ?_
  refine k_iload_n C 0 dJ7_fill_53178_5 rfl rfl ?_
  refine k_iload_n C 1 dJ7_fill_53178_6 rfl rfl ?_
  refine k_geF C dJ7_fill_53178_7 (tgt := 20) (by decide) (by decide) ?_
  refine k_aload_n C 2 dJ7_fill_53178_10 rfl rfl ?_
  refine k_iload_n C 0 dJ7_fill_53178_11 rfl rfl ?_
  refine k_iload_n C 3 dJ7_fill_53178_12 rfl rfl ?_
  refine k_iast C 0 5 10 (ws' := [(h0, .inl (gC G 0, 10, .inl (upd (upd (upd (upd (upd (upd (fun _ => 0) 0 (-1)) 1 (-1)) 2 (-1)) 3 (-1)) 4 (-1)) 5 (-1))))]) rfl rfl rfl rfl dJ7_fill_53178_13 ?_
  refine k_iinc C 0 (v := 6) (L' := [(2, .int 6), (3, .int 10), (0, .ref h0), (1, .int (-1))]) dJ7_fill_53178_14 rfl (by decide) (by decide) rfl ?_
  refine k_goto C dJ7_fill_53178_17 (tgt := 5) (by decide) ?_
  refine k_iload_n C 0 dJ7_fill_53178_5 rfl rfl ?_
  refine k_iload_n C 1 dJ7_fill_53178_6 rfl rfl ?_
  refine k_geF C dJ7_fill_53178_7 (tgt := 20) (by decide) (by decide) ?_
  refine k_aload_n C 2 dJ7_fill_53178_10 rfl rfl ?_
  refine k_iload_n C 0 dJ7_fill_53178_11 rfl rfl ?_
  refine k_iload_n C 3 dJ7_fill_53178_12 rfl rfl ?_
  refine k_iast C 0 6 10 (ws' := [(h0, .inl (gC G 0, 10, .inl (upd (upd (upd (upd (upd (upd (upd (fun _ => 0) 0 (-1)) 1 (-1)) 2 (-1)) 3 (-1)) 4 (-1)) 5 (-1)) 6 (-1))))]) rfl rfl rfl rfl dJ7_fill_53178_13 ?_
  refine k_iinc C 0 (v := 7) (L' := [(2, .int 7), (3, .int 10), (0, .ref h0), (1, .int (-1))]) dJ7_fill_53178_14 rfl (by decide) (by decide) rfl ?_
  refine k_goto C dJ7_fill_53178_17 (tgt := 5) (by decide) ?_
  refine k_iload_n C 0 dJ7_fill_53178_5 rfl rfl ?_
  refine k_iload_n C 1 dJ7_fill_53178_6 rfl rfl ?_
  refine k_geF C dJ7_fill_53178_7 (tgt := 20) (by decide) (by decide) ?_
  refine k_aload_n C 2 dJ7_fill_53178_10 rfl rfl ?_
  refine k_iload_n C 0 dJ7_fill_53178_11 rfl rfl ?_
  refine k_iload_n C 3 dJ7_fill_53178_12 rfl rfl ?_
  refine k_iast C 0 7 10 (ws' := [(h0, .inl (gC G 0, 10, .inl (upd (upd (upd (upd (upd (upd (upd (upd (fun _ => 0) 0 (-1)) 1 (-1)) 2 (-1)) 3 (-1)) 4 (-1)) 5 (-1)) 6 (-1)) 7 (-1))))]) rfl rfl rfl rfl dJ7_fill_53178_13 ?_
  refine k_iinc C 0 (v := 8) (L' := [(2, .int 8), (3, .int 10), (0, .ref h0), (1, .int (-1))]) dJ7_fill_53178_14 rfl (by decide) (by decide) rfl ?_
  refine k_goto C dJ7_fill_53178_17 (tgt := 5) (by decide) ?_
  refine k_iload_n C 0 dJ7_fill_53178_5 rfl rfl ?_
  refine k_iload_n C 1 dJ7_fill_53178_6 rfl rfl ?_
  refine k_geF C dJ7_fill_53178_7 (tgt := 20) (by decide) (by decide) ?_
  refine k_aload_n C 2 dJ7_fill_53178_10 rfl rfl ?_
  refine k_iload_n C 0 dJ7_fill_53178_11 rfl rfl ?_
  refine k_iload_n C 3 dJ7_fill_53178_12 rfl rfl ?_
  refine k_iast C 0 8 10 (ws' := [(h0, .inl (gC G 0, 10, .inl (upd (upd (upd (upd (upd (upd (upd (upd (upd (fun _ => 0) 0 (-1)) 1 (-1)) 2 (-1)) 3 (-1)) 4 (-1)) 5 (-1)) 6 (-1)) 7 (-1)) 8 (-1))))]) rfl rfl rfl rfl dJ7_fill_53178_13 ?_
  refine k_iinc C 0 (v := 9) (L' := [(2, .int 9), (3, .int 10), (0, .ref h0), (1, .int (-1))]) dJ7_fill_53178_14 rfl (by decide) (by decide) rfl ?_
  refine k_goto C dJ7_fill_53178_17 (tgt := 5) (by decide) ?_
  refine k_iload_n C 0 dJ7_fill_53178_5 rfl rfl ?_
  refine k_iload_n C 1 dJ7_fill_53178_6 rfl rfl ?_
  refine k_geF C dJ7_fill_53178_7 (tgt := 20) (by decide) (by decide) ?_
  refine k_aload_n C 2 dJ7_fill_53178_10 rfl rfl ?_
  refine k_iload_n C 0 dJ7_fill_53178_11 rfl rfl ?_
  refine k_iload_n C 3 dJ7_fill_53178_12 rfl rfl ?_
  refine k_iast C 0 9 10 (ws' := [(h0, .inl (gC G 0, 10, .inl (upd (upd (upd (upd (upd (upd (upd (upd (upd (upd (fun _ => 0) 0 (-1)) 1 (-1)) 2 (-1)) 3 (-1)) 4 (-1)) 5 (-1)) 6 (-1)) 7 (-1)) 8 (-1)) 9 (-1))))]) rfl rfl rfl rfl dJ7_fill_53178_13 ?_
  refine k_iinc C 0 (v := 10) (L' := [(2, .int 10), (3, .int 10), (0, .ref h0), (1, .int (-1))]) dJ7_fill_53178_14 rfl (by decide) (by decide) rfl ?_
  refine k_goto C dJ7_fill_53178_17 (tgt := 5) (by decide) ?_
  refine k_iload_n C 0 dJ7_fill_53178_5 rfl rfl ?_
  refine k_iload_n C 1 dJ7_fill_53178_6 rfl rfl ?_
  refine k_geT C dJ7_fill_53178_7 (tgt := 20) (by decide) (by decide) ?_
  refine k_vret C hQ dJ7_fill_53178_20 ⟨_, fun j hj => ?_, rfl⟩
  rcases (show j = 0 ∨ j = 1 ∨ j = 2 ∨ j = 3 ∨ j = 4 ∨ j = 5 ∨ j = 6 ∨ j = 7 ∨ j = 8 ∨ j = 9 by omega) with rfl | rfl | rfl | rfl | rfl | rfl | rfl | rfl | rfl | rfl <;> rfl
theorem dX9_init_0 : decode cX9_init 0 = .ok (.aload_n 0, 1) := by decide +kernel
theorem dX9_init_1 : decode cX9_init 1 = .ok (.invokespecial 3, 3) := by decide +kernel
theorem dX9_init_4 : decode cX9_init 4 = .ok (.aload_n 0, 1) := by decide +kernel
theorem dX9_init_5 : decode cX9_init 5 = .ok (.new 9, 3) := by decide +kernel
theorem dX9_init_8 : decode cX9_init 8 = .ok (.dup, 1) := by decide +kernel
theorem dX9_init_9 : decode cX9_init 9 = .ok (.invokespecial 11, 3) := by decide +kernel
theorem dX9_init_12 : decode cX9_init 12 = .ok (.putfield 12, 3) := by decide +kernel
theorem dX9_init_15 : decode cX9_init 15 = .ok (.aload_n 0, 1) := by decide +kernel
theorem dX9_init_16 : decode cX9_init 16 = .ok (.sipush 144, 3) := by decide +kernel
theorem dX9_init_19 : decode cX9_init 19 = .ok (.newarray .int, 2) := by decide +kernel
theorem dX9_init_21 : decode cX9_init 21 = .ok (.putfield 18, 3) := by decide +kernel
theorem dX9_init_24 : decode cX9_init 24 = .ok (.aload_n 0, 1) := by decide +kernel
theorem dX9_init_25 : decode cX9_init 25 = .ok (.bipush 10, 2) := by decide +kernel
theorem dX9_init_27 : decode cX9_init 27 = .ok (.newarray .int, 2) := by decide +kernel
theorem dX9_init_29 : decode cX9_init 29 = .ok (.putfield 22, 3) := by decide +kernel
theorem dX9_init_32 : decode cX9_init 32 = .ok (.aload_n 0, 1) := by decide +kernel
theorem dX9_init_33 : decode cX9_init 33 = .ok (.bipush 100, 2) := by decide +kernel
theorem dX9_init_35 : decode cX9_init 35 = .ok (.putfield 25, 3) := by decide +kernel
theorem dX9_init_38 : decode cX9_init 38 = .ok (.aload_n 0, 1) := by decide +kernel
theorem dX9_init_39 : decode cX9_init 39 = .ok (.iconst 0, 1) := by decide +kernel
theorem dX9_init_40 : decode cX9_init 40 = .ok (.putfield 29, 3) := by decide +kernel
theorem dX9_init_43 : decode cX9_init 43 = .ok (.aload_n 0, 1) := by decide +kernel
theorem dX9_init_44 : decode cX9_init 44 = .ok (.iconst 1, 1) := by decide +kernel
theorem dX9_init_45 : decode cX9_init 45 = .ok (.putfield 32, 3) := by decide +kernel
theorem dX9_init_48 : decode cX9_init 48 = .ok (.aload_n 0, 1) := by decide +kernel
theorem dX9_init_49 : decode cX9_init 49 = .ok (.getfield 22, 3) := by decide +kernel
theorem dX9_init_52 : decode cX9_init 52 = .ok (.iconst (-1), 1) := by decide +kernel
theorem dX9_init_53 : decode cX9_init 53 = .ok (.invokestatic 35, 3) := by decide +kernel
theorem dX9_init_56 : decode cX9_init 56 = .ok (.return_, 1) := by decide +kernel
set_option maxRecDepth 100000 in
set_option maxHeartbeats 4000000 in
theorem c_X9_init (l : Launch) (G : qG) {h0 : Nat} : kC true l G yX9_init cX9_init 1 ({ frames := 2, cells := 6, slots := 188, locals := 32 } : Room) 6 188 [.ref h0] [(h0, .inr (8, [.null, .null, .null, .int 0, .int 0, .int 0]))] (fun w1 => ∃ (q1 : Nat) (q2 : Nat) (q3 : Nat) (q4 : Nat) (q5 : Nat) (q6 : Nat) (f7 : Nat → Int32), (∀ j, j < 10 → f7 j = -1) ∧ w1 = [(h0, .inr (8, [.ref q1, .ref q5, .ref q6, .int 100, .int 0, .int 1])), (q1, .inr (1, [.int 0, .ref q2, .ref q3, .ref q4])), (q2, .inl (gC G 0, 10, .inl (fun _ => 0))), (q3, .inl (gC G 0, 10, .inl (fun _ => 0))), (q4, .inl (gC G 0, 10, .inl (fun _ => 0))), (q5, .inl (gC G 0, 144, .inl (fun _ => 0))), (q6, .inl (gC G 0, 10, .inl f7))]) := by
  refine kC_of (L := [(0, .ref h0)]) (by decide) rfl rfl ?_
  intro Z A hl C hQ
  have C : kX true Z G A RX9 cX9_init 1 ({ frames := 2, cells := 6, slots := 188, locals := 32 } : Room) "<init>" := C
  refine k_aload_n C 0 dX9_init_0 rfl rfl ?_
  refine k_obj C (qm_3 _ (List.mem_of_getElem? (i := 0) rfl)) dX9_init_1 rfl ?_
  refine k_aload_n C 0 dX9_init_4 rfl rfl ?_
  refine k_new C 1 4 (C0 := RX1) (T := TX1) (ty := tyX1) (fs := [.int 0, .null, .null, .null]) rfl inlX1 tyX1_ok (qm_3 _ (List.mem_of_getElem? (i := 1) rfl)) (qm_3 _ (List.mem_of_getElem? (i := 2) rfl)) (qm_3 _ (List.mem_of_getElem? (i := 3) rfl)) (fun j hj => by rcases (show j = 0 ∨ j = 1 ∨ j = 2 ∨ j = 3 by omega) with rfl | rfl | rfl | rfl <;> rfl) ⟨by decide, by decide⟩ dX9_init_5 (fun q1 => ?_)
  refine k_ws (ws' := [(h0, .inr (8, [.null, .null, .null, .int 0, .int 0, .int 0])), (q1, .inr (1, [.int 0, .null, .null, .null]))]) rfl ?_
  refine k_dup C dX9_init_8 rfl ?_
  refine k_callN C (As := []) (rest := [.ref q1, .ref h0]) (wc := [(q1, .inr (1, [.int 0, .null, .null, .null]))]) (wr := [(h0, .inr (8, [.null, .null, .null, .int 0, .int 0, .int 0]))]) [1] [0] y_X1_init (qm_3 _ (List.mem_of_getElem? (i := 10) rfl)) (List.mem_of_getElem? (i := 0) rfl) rfl (c_X1_init _ G) rfl rfl rfl (by decide) rfl ⟨by decide, by decide⟩ rfl rfl rfl dX9_init_9 (fun w4 ek => ?_)
  obtain ⟨q2, q3, q4, rfl⟩ := ek
  refine k_ws (ws' := [(h0, .inr (8, [.null, .null, .null, .int 0, .int 0, .int 0])), (q1, .inr (1, [.int 0, .ref q2, .ref q3, .ref q4])), (q2, .inl (gC G 0, 10, .inl (fun _ => 0))), (q3, .inl (gC G 0, 10, .inl (fun _ => 0))), (q4, .inl (gC G 0, 10, .inl (fun _ => 0)))]) rfl ?_
  refine k_putF C 0 8 0 (C0 := RX9) (fn := "houses") (fd := "LEqualPlain$Houses;") (ty := .object "EqualPlain$Houses") rfl rfl (ws' := [(h0, .inr (8, [.ref q1, .null, .null, .int 0, .int 0, .int 0])), (q1, .inr (1, [.int 0, .ref q2, .ref q3, .ref q4])), (q2, .inl (gC G 0, 10, .inl (fun _ => 0))), (q3, .inl (gC G 0, 10, .inl (fun _ => 0))), (q4, .inl (gC G 0, 10, .inl (fun _ => 0)))]) rfl (by decide) rfl inlX9 tyX9_ok nmX9 (qm_3 _ (List.mem_of_getElem? (i := 4) rfl)) (by decide +kernel) rfl rfl rfl rfl rfl dX9_init_12 ?_
  refine k_aload_n C 0 dX9_init_15 rfl rfl ?_
  refine k_sipush C (v := 144) dX9_init_16 (by decide) ?_
  refine k_newa C 0 144 (ty := .int) rfl (qm_2 _ (List.mem_of_getElem? (i := 1) rfl)) rfl (fun _ _ h => h) rfl rfl rfl rfl ⟨by decide, by decide⟩ dX9_init_19 (fun q5 => ?_)
  refine k_ws (ws' := [(h0, .inr (8, [.ref q1, .null, .null, .int 0, .int 0, .int 0])), (q1, .inr (1, [.int 0, .ref q2, .ref q3, .ref q4])), (q2, .inl (gC G 0, 10, .inl (fun _ => 0))), (q3, .inl (gC G 0, 10, .inl (fun _ => 0))), (q4, .inl (gC G 0, 10, .inl (fun _ => 0))), (q5, .inl (gC G 0, 144, .inl (fun _ => 0)))]) rfl ?_
  refine k_putF C 0 8 1 (C0 := RX9) (fn := "worth") (fd := "[I") (ty := .array .int) rfl rfl (ws' := [(h0, .inr (8, [.ref q1, .ref q5, .null, .int 0, .int 0, .int 0])), (q1, .inr (1, [.int 0, .ref q2, .ref q3, .ref q4])), (q2, .inl (gC G 0, 10, .inl (fun _ => 0))), (q3, .inl (gC G 0, 10, .inl (fun _ => 0))), (q4, .inl (gC G 0, 10, .inl (fun _ => 0))), (q5, .inl (gC G 0, 144, .inl (fun _ => 0)))]) rfl (by decide) rfl inlX9 tyX9_ok nmX9 (qm_3 _ (List.mem_of_getElem? (i := 5) rfl)) (by decide +kernel) rfl rfl rfl rfl rfl dX9_init_21 ?_
  refine k_aload_n C 0 dX9_init_24 rfl rfl ?_
  refine k_bipush C (v := 10) dX9_init_25 (by decide) ?_
  refine k_newa C 0 10 (ty := .int) rfl (qm_2 _ (List.mem_of_getElem? (i := 1) rfl)) rfl (fun _ _ h => h) rfl rfl rfl rfl ⟨by decide, by decide⟩ dX9_init_27 (fun q6 => ?_)
  refine k_ws (ws' := [(h0, .inr (8, [.ref q1, .ref q5, .null, .int 0, .int 0, .int 0])), (q1, .inr (1, [.int 0, .ref q2, .ref q3, .ref q4])), (q2, .inl (gC G 0, 10, .inl (fun _ => 0))), (q3, .inl (gC G 0, 10, .inl (fun _ => 0))), (q4, .inl (gC G 0, 10, .inl (fun _ => 0))), (q5, .inl (gC G 0, 144, .inl (fun _ => 0))), (q6, .inl (gC G 0, 10, .inl (fun _ => 0)))]) rfl ?_
  refine k_putF C 0 8 2 (C0 := RX9) (fn := "spots") (fd := "[I") (ty := .array .int) rfl rfl (ws' := [(h0, .inr (8, [.ref q1, .ref q5, .ref q6, .int 0, .int 0, .int 0])), (q1, .inr (1, [.int 0, .ref q2, .ref q3, .ref q4])), (q2, .inl (gC G 0, 10, .inl (fun _ => 0))), (q3, .inl (gC G 0, 10, .inl (fun _ => 0))), (q4, .inl (gC G 0, 10, .inl (fun _ => 0))), (q5, .inl (gC G 0, 144, .inl (fun _ => 0))), (q6, .inl (gC G 0, 10, .inl (fun _ => 0)))]) rfl (by decide) rfl inlX9 tyX9_ok nmX9 (qm_3 _ (List.mem_of_getElem? (i := 6) rfl)) (by decide +kernel) rfl rfl rfl rfl rfl dX9_init_29 ?_
  refine k_aload_n C 0 dX9_init_32 rfl rfl ?_
  refine k_bipush C (v := 100) dX9_init_33 (by decide) ?_
  refine k_put C 0 8 3 (C0 := RX9) (fn := "purse") (fd := "I") (ty := .int) (ws' := [(h0, .inr (8, [.ref q1, .ref q5, .ref q6, .int 100, .int 0, .int 0])), (q1, .inr (1, [.int 0, .ref q2, .ref q3, .ref q4])), (q2, .inl (gC G 0, 10, .inl (fun _ => 0))), (q3, .inl (gC G 0, 10, .inl (fun _ => 0))), (q4, .inl (gC G 0, 10, .inl (fun _ => 0))), (q5, .inl (gC G 0, 144, .inl (fun _ => 0))), (q6, .inl (gC G 0, 10, .inl (fun _ => 0)))]) rfl (by decide) rfl inlX9 tyX9_ok nmX9 (qm_3 _ (List.mem_of_getElem? (i := 7) rfl)) (by decide +kernel) rfl rfl rfl rfl rfl dX9_init_35 ?_
  refine k_aload_n C 0 dX9_init_38 rfl rfl ?_
  refine k_iconst C (v := 0) dX9_init_39 (by decide) ?_
  refine k_put C 0 8 4 (C0 := RX9) (fn := "age") (fd := "I") (ty := .int) (ws' := [(h0, .inr (8, [.ref q1, .ref q5, .ref q6, .int 100, .int 0, .int 0])), (q1, .inr (1, [.int 0, .ref q2, .ref q3, .ref q4])), (q2, .inl (gC G 0, 10, .inl (fun _ => 0))), (q3, .inl (gC G 0, 10, .inl (fun _ => 0))), (q4, .inl (gC G 0, 10, .inl (fun _ => 0))), (q5, .inl (gC G 0, 144, .inl (fun _ => 0))), (q6, .inl (gC G 0, 10, .inl (fun _ => 0)))]) rfl (by decide) rfl inlX9 tyX9_ok nmX9 (qm_3 _ (List.mem_of_getElem? (i := 8) rfl)) (by decide +kernel) rfl rfl rfl rfl rfl dX9_init_40 ?_
  refine k_aload_n C 0 dX9_init_43 rfl rfl ?_
  refine k_iconst C (v := 1) dX9_init_44 (by decide) ?_
  refine k_put C 0 8 5 (C0 := RX9) (fn := "luck") (fd := "I") (ty := .int) (ws' := [(h0, .inr (8, [.ref q1, .ref q5, .ref q6, .int 100, .int 0, .int 1])), (q1, .inr (1, [.int 0, .ref q2, .ref q3, .ref q4])), (q2, .inl (gC G 0, 10, .inl (fun _ => 0))), (q3, .inl (gC G 0, 10, .inl (fun _ => 0))), (q4, .inl (gC G 0, 10, .inl (fun _ => 0))), (q5, .inl (gC G 0, 144, .inl (fun _ => 0))), (q6, .inl (gC G 0, 10, .inl (fun _ => 0)))]) rfl (by decide) rfl inlX9 tyX9_ok nmX9 (qm_3 _ (List.mem_of_getElem? (i := 9) rfl)) (by decide +kernel) rfl rfl rfl rfl rfl dX9_init_45 ?_
  refine k_aload_n C 0 dX9_init_48 rfl rfl ?_
  refine k_get C 0 8 2 (C0 := RX9) (fn := "spots") (fd := "[I") rfl (by decide) rfl inlX9 (qm_3 _ (List.mem_of_getElem? (i := 6) rfl)) rfl rfl dX9_init_49 ?_
  refine k_iconst C (v := -1) dX9_init_52 (by decide) ?_
  refine k_callS C (As := [.ref q6, .int (-1)]) (rest := []) (wc := [(q6, .inl (gC G 0, 10, .inl (fun _ => 0)))]) (wr := [(h0, .inr (8, [.ref q1, .ref q5, .ref q6, .int 100, .int 0, .int 1])), (q1, .inr (1, [.int 0, .ref q2, .ref q3, .ref q4])), (q2, .inl (gC G 0, 10, .inl (fun _ => 0))), (q3, .inl (gC G 0, 10, .inl (fun _ => 0))), (q4, .inl (gC G 0, 10, .inl (fun _ => 0))), (q5, .inl (gC G 0, 144, .inl (fun _ => 0)))]) [6] [0, 1, 2, 3, 4, 5] y_J7_fill_53178 (qm_3 _ (List.mem_of_getElem? (i := 18) rfl)) (qm_3 _ (List.mem_of_getElem? (i := 17) rfl)) (k_J7_fill_53178 _ G) rfl rfl rfl (by decide) rfl ⟨by decide, by decide⟩ rfl rfl rfl dX9_init_53 (fun w8 ek => ?_)
  obtain ⟨f7, h8, rfl⟩ := ek
  refine k_ws (ws' := [(h0, .inr (8, [.ref q1, .ref q5, .ref q6, .int 100, .int 0, .int 1])), (q1, .inr (1, [.int 0, .ref q2, .ref q3, .ref q4])), (q2, .inl (gC G 0, 10, .inl (fun _ => 0))), (q3, .inl (gC G 0, 10, .inl (fun _ => 0))), (q4, .inl (gC G 0, 10, .inl (fun _ => 0))), (q5, .inl (gC G 0, 144, .inl (fun _ => 0))), (q6, .inl (gC G 0, 10, .inl f7))]) rfl ?_
  exact k_vret C hQ dX9_init_56 ⟨_, _, _, _, _, _, _, h8, rfl⟩
theorem y_X9_init : qY yX9_init cX9_init 1 none 0 ({ frames := 2, cells := 6, slots := 188, locals := 32 } : Room) 6 188 := ⟨(qm_2 _ (List.mem_of_getElem? (i := 23) rfl)), (qm_1 _ (List.mem_of_getElem? (i := 14) rfl)), by decide +kernel, by decide +kernel, rfl, rfl⟩
theorem dX5_init_0 : decode cX5_init 0 = .ok (.aload_n 0, 1) := by decide +kernel
theorem dX5_init_1 : decode cX5_init 1 = .ok (.invokespecial 3, 3) := by decide +kernel
theorem dX5_init_4 : decode cX5_init 4 = .ok (.aload_n 0, 1) := by decide +kernel
theorem dX5_init_5 : decode cX5_init 5 = .ok (.iconst 0, 1) := by decide +kernel
theorem dX5_init_6 : decode cX5_init 6 = .ok (.putfield 9, 3) := by decide +kernel
theorem dX5_init_9 : decode cX5_init 9 = .ok (.aload_n 0, 1) := by decide +kernel
theorem dX5_init_10 : decode cX5_init 10 = .ok (.iconst 0, 1) := by decide +kernel
theorem dX5_init_11 : decode cX5_init 11 = .ok (.putfield 15, 3) := by decide +kernel
theorem dX5_init_14 : decode cX5_init 14 = .ok (.aload_n 0, 1) := by decide +kernel
theorem dX5_init_15 : decode cX5_init 15 = .ok (.iconst 0, 1) := by decide +kernel
theorem dX5_init_16 : decode cX5_init 16 = .ok (.putfield 18, 3) := by decide +kernel
theorem dX5_init_19 : decode cX5_init 19 = .ok (.aload_n 0, 1) := by decide +kernel
theorem dX5_init_20 : decode cX5_init 20 = .ok (.iconst 0, 1) := by decide +kernel
theorem dX5_init_21 : decode cX5_init 21 = .ok (.putfield 21, 3) := by decide +kernel
theorem dX5_init_24 : decode cX5_init 24 = .ok (.aload_n 0, 1) := by decide +kernel
theorem dX5_init_25 : decode cX5_init 25 = .ok (.aload_n 1, 1) := by decide +kernel
theorem dX5_init_26 : decode cX5_init 26 = .ok (.putfield 24, 3) := by decide +kernel
theorem dX5_init_29 : decode cX5_init 29 = .ok (.aload_n 0, 1) := by decide +kernel
theorem dX5_init_30 : decode cX5_init 30 = .ok (.aload_n 2, 1) := by decide +kernel
theorem dX5_init_31 : decode cX5_init 31 = .ok (.putfield 28, 3) := by decide +kernel
theorem dX5_init_34 : decode cX5_init 34 = .ok (.return_, 1) := by decide +kernel
set_option maxRecDepth 100000 in
set_option maxHeartbeats 4000000 in
theorem c_X5_init (l : Launch) (G : qG) {h0 h1 h2 : Nat} : kC false l G yX5_init cX5_init 3 ({ frames := 1, cells := 0, slots := 0, locals := 12 } : Room) 0 0 [.ref h0, .ref h1, .ref h2] [(h0, .inr (4, [.null, .null, .int 0, .int 0, .int 0, .int 0]))] (fun w1 => w1 = [(h0, .inr (4, [.ref h1, .ref h2, .int 0, .int 0, .int 0, .int 0]))]) := by
  refine kC_of (L := [(0, .ref h0), (1, .ref h1), (2, .ref h2)]) (by decide) rfl rfl ?_
  intro Z A hl C hQ
  have C : kX false Z G A RX5 cX5_init 3 ({ frames := 1, cells := 0, slots := 0, locals := 12 } : Room) "<init>" := C
  refine k_aload_n C 0 dX5_init_0 rfl rfl ?_
  refine k_obj C (qm_37 _ (List.mem_of_getElem? (i := 21) rfl)) dX5_init_1 rfl ?_
  refine k_aload_n C 0 dX5_init_4 rfl rfl ?_
  refine k_iconst C (v := 0) dX5_init_5 (by decide) ?_
  refine k_put C 0 4 2 (C0 := RX5) (fn := "start") (fd := "I") (ty := .int) (ws' := [(h0, .inr (4, [.null, .null, .int 0, .int 0, .int 0, .int 0]))]) rfl (by decide) rfl inlX5 tyX5_ok nmX5 (qm_37 _ (List.mem_of_getElem? (i := 22) rfl)) (by decide +kernel) rfl rfl rfl rfl rfl dX5_init_6 ?_
  refine k_aload_n C 0 dX5_init_9 rfl rfl ?_
  refine k_iconst C (v := 0) dX5_init_10 (by decide) ?_
  refine k_put C 0 4 3 (C0 := RX5) (fn := "end") (fd := "I") (ty := .int) (ws' := [(h0, .inr (4, [.null, .null, .int 0, .int 0, .int 0, .int 0]))]) rfl (by decide) rfl inlX5 tyX5_ok nmX5 (qm_37 _ (List.mem_of_getElem? (i := 23) rfl)) (by decide +kernel) rfl rfl rfl rfl rfl dX5_init_11 ?_
  refine k_aload_n C 0 dX5_init_14 rfl rfl ?_
  refine k_iconst C (v := 0) dX5_init_15 (by decide) ?_
  refine k_put C 0 4 4 (C0 := RX5) (fn := "type") (fd := "I") (ty := .int) (ws' := [(h0, .inr (4, [.null, .null, .int 0, .int 0, .int 0, .int 0]))]) rfl (by decide) rfl inlX5 tyX5_ok nmX5 (qm_38 _ (List.mem_of_getElem? (i := 0) rfl)) (by decide +kernel) rfl rfl rfl rfl rfl dX5_init_16 ?_
  refine k_aload_n C 0 dX5_init_19 rfl rfl ?_
  refine k_iconst C (v := 0) dX5_init_20 (by decide) ?_
  refine k_put C 0 4 5 (C0 := RX5) (fn := "value") (fd := "I") (ty := .int) (ws' := [(h0, .inr (4, [.null, .null, .int 0, .int 0, .int 0, .int 0]))]) rfl (by decide) rfl inlX5 tyX5_ok nmX5 (qm_38 _ (List.mem_of_getElem? (i := 1) rfl)) (by decide +kernel) rfl rfl rfl rfl rfl dX5_init_21 ?_
  refine k_aload_n C 0 dX5_init_24 rfl rfl ?_
  refine k_aload_n C 1 dX5_init_25 rfl rfl ?_
  refine k_putF C 0 4 0 (C0 := RX5) (fn := "tape") (fd := "LEqualPlain$Tape;") (ty := .object "EqualPlain$Tape") rfl rfl (ws' := [(h0, .inr (4, [.ref h1, .null, .int 0, .int 0, .int 0, .int 0]))]) rfl (by decide) rfl inlX5 tyX5_ok nmX5 (qm_38 _ (List.mem_of_getElem? (i := 2) rfl)) (by decide +kernel) rfl rfl rfl rfl rfl dX5_init_26 ?_
  refine k_aload_n C 0 dX5_init_29 rfl rfl ?_
  refine k_aload_n C 2 dX5_init_30 rfl rfl ?_
  refine k_putF C 0 4 1 (C0 := RX5) (fn := "into") (fd := "LEqualPlain$Town;") (ty := .object "EqualPlain$Town") rfl rfl (ws' := [(h0, .inr (4, [.ref h1, .ref h2, .int 0, .int 0, .int 0, .int 0]))]) rfl (by decide) rfl inlX5 tyX5_ok nmX5 (qm_38 _ (List.mem_of_getElem? (i := 3) rfl)) (by decide +kernel) rfl rfl rfl rfl rfl dX5_init_31 ?_
  exact k_vret C hQ dX5_init_34 rfl
theorem y_X5_init : qY yX5_init cX5_init 3 none 2 ({ frames := 1, cells := 0, slots := 0, locals := 12 } : Room) 0 0 := ⟨(qm_37 _ (List.mem_of_getElem? (i := 20) rfl)), (qm_37 _ (List.mem_of_getElem? (i := 17) rfl)), by decide +kernel, by decide +kernel, rfl, rfl⟩
