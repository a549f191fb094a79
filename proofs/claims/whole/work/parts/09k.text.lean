theorem dJ0_length_8abf5_0 : decode cJ0_length_8abf5 0 = .ok (.aload_n 0, 1) := by decide +kernel
theorem dJ0_length_8abf5_1 : decode cJ0_length_8abf5 1 = .ok (.getfield 9, 3) := by decide +kernel
theorem dJ0_length_8abf5_4 : decode cJ0_length_8abf5 4 = .ok (.arraylength, 1) := by decide +kernel
theorem dJ0_length_8abf5_5 : decode cJ0_length_8abf5 5 = .ok (.aload_n 0, 1) := by decide +kernel
theorem dJ0_length_8abf5_6 : decode cJ0_length_8abf5 6 = .ok (.invokevirtual 335, 3) := by decide +kernel
theorem dJ0_length_8abf5_9 : decode cJ0_length_8abf5 9 = .ok (.ishr, 1) := by decide +kernel
theorem dJ0_length_8abf5_10 : decode cJ0_length_8abf5 10 = .ok (.ireturn, 1) := by decide +kernel
theorem y_J0_length_8abf5 : qY yJ0_length_8abf5 cJ0_length_8abf5 1 (some .int) 0 ({ frames := 2, cells := 0, slots := 0, locals := 60 } : Room) 0 0 := ⟨(qm_39 _ (List.mem_of_getElem? (i := 15) rfl)), (qm_39 _ (List.mem_of_getElem? (i := 14) rfl)), by decide +kernel, by decide +kernel, rfl, rfl⟩
theorem dJ0_coder_7d493_0 : decode cJ0_coder_7d493 0 = .ok (.getstatic 38, 3) := by decide +kernel
theorem dJ0_coder_7d493_3 : decode cJ0_coder_7d493 3 = .ok (.ifCond .eq 10, 3) := by decide +kernel
theorem dJ0_coder_7d493_6 : decode cJ0_coder_7d493 6 = .ok (.aload_n 0, 1) := by decide +kernel
theorem dJ0_coder_7d493_7 : decode cJ0_coder_7d493 7 = .ok (.getfield 15, 3) := by decide +kernel
theorem dJ0_coder_7d493_10 : decode cJ0_coder_7d493 10 = .ok (.goto 4, 3) := by decide +kernel
theorem dJ0_coder_7d493_13 : decode cJ0_coder_7d493 13 = .ok (.iconst 1, 1) := by decide +kernel
theorem dJ0_coder_7d493_14 : decode cJ0_coder_7d493 14 = .ok (.ireturn, 1) := by decide +kernel
theorem dJ0_isLatin1_aae02_0 : decode cJ0_isLatin1_aae02 0 = .ok (.getstatic 38, 3) := by decide +kernel
theorem dJ0_isLatin1_aae02_3 : decode cJ0_isLatin1_aae02 3 = .ok (.ifCond .eq 14, 3) := by decide +kernel
theorem dJ0_isLatin1_aae02_6 : decode cJ0_isLatin1_aae02 6 = .ok (.aload_n 0, 1) := by decide +kernel
theorem dJ0_isLatin1_aae02_7 : decode cJ0_isLatin1_aae02 7 = .ok (.getfield 15, 3) := by decide +kernel
theorem dJ0_isLatin1_aae02_10 : decode cJ0_isLatin1_aae02 10 = .ok (.ifCond .ne 7, 3) := by decide +kernel
theorem dJ0_isLatin1_aae02_13 : decode cJ0_isLatin1_aae02 13 = .ok (.iconst 1, 1) := by decide +kernel
theorem dJ0_isLatin1_aae02_14 : decode cJ0_isLatin1_aae02 14 = .ok (.goto 4, 3) := by decide +kernel
theorem dJ0_isLatin1_aae02_17 : decode cJ0_isLatin1_aae02 17 = .ok (.iconst 0, 1) := by decide +kernel
theorem dJ0_isLatin1_aae02_18 : decode cJ0_isLatin1_aae02 18 = .ok (.ireturn, 1) := by decide +kernel
theorem dJ0_checkIndex_df160_0 : decode cJ0_checkIndex_df160 0 = .ok (.iload_n 0, 1) := by decide +kernel
theorem dJ0_checkIndex_df160_1 : decode cJ0_checkIndex_df160 1 = .ok (.iload_n 1, 1) := by decide +kernel
theorem dJ0_checkIndex_df160_2 : decode cJ0_checkIndex_df160 2 = .ok (.getstatic 1053, 3) := by decide +kernel
theorem dJ0_checkIndex_df160_5 : decode cJ0_checkIndex_df160 5 = .ok (.invokestatic 1059, 3) := by decide +kernel
theorem dJ0_checkIndex_df160_8 : decode cJ0_checkIndex_df160 8 = .ok (.pop, 1) := by decide +kernel
theorem dJ0_checkIndex_df160_9 : decode cJ0_checkIndex_df160 9 = .ok (.return_, 1) := by decide +kernel
theorem dJ1_charAt_3b067_0 : decode cJ1_charAt_3b067 0 = .ok (.iload_n 1, 1) := by decide +kernel
theorem dJ1_charAt_3b067_1 : decode cJ1_charAt_3b067 1 = .ok (.aload_n 0, 1) := by decide +kernel
theorem dJ1_charAt_3b067_2 : decode cJ1_charAt_3b067 2 = .ok (.arraylength, 1) := by decide +kernel
theorem dJ1_charAt_3b067_3 : decode cJ1_charAt_3b067 3 = .ok (.invokestatic 9, 3) := by decide +kernel
theorem dJ1_charAt_3b067_6 : decode cJ1_charAt_3b067 6 = .ok (.aload_n 0, 1) := by decide +kernel
theorem dJ1_charAt_3b067_7 : decode cJ1_charAt_3b067 7 = .ok (.iload_n 1, 1) := by decide +kernel
theorem dJ1_charAt_3b067_8 : decode cJ1_charAt_3b067 8 = .ok (.baload, 1) := by decide +kernel
theorem dJ1_charAt_3b067_9 : decode cJ1_charAt_3b067 9 = .ok (.sipush 255, 3) := by decide +kernel
theorem dJ1_charAt_3b067_12 : decode cJ1_charAt_3b067 12 = .ok (.iand, 1) := by decide +kernel
theorem dJ1_charAt_3b067_13 : decode cJ1_charAt_3b067 13 = .ok (.i2c, 1) := by decide +kernel
theorem dJ1_charAt_3b067_14 : decode cJ1_charAt_3b067 14 = .ok (.ireturn, 1) := by decide +kernel
theorem dJ3_checkIndex_8e157_0 : decode cJ3_checkIndex_8e157 0 = .ok (.iload_n 0, 1) := by decide +kernel
theorem dJ3_checkIndex_8e157_1 : decode cJ3_checkIndex_8e157 1 = .ok (.ifCond .lt 8, 3) := by decide +kernel
theorem dJ3_checkIndex_8e157_4 : decode cJ3_checkIndex_8e157 4 = .ok (.iload_n 0, 1) := by decide +kernel
theorem dJ3_checkIndex_8e157_5 : decode cJ3_checkIndex_8e157 5 = .ok (.iload_n 1, 1) := by decide +kernel
theorem dJ3_checkIndex_8e157_6 : decode cJ3_checkIndex_8e157 6 = .ok (.if_icmp .lt 10, 3) := by decide +kernel
theorem dJ3_checkIndex_8e157_9 : decode cJ3_checkIndex_8e157 9 = .ok (.aload_n 2, 1) := by decide +kernel
theorem dJ3_checkIndex_8e157_10 : decode cJ3_checkIndex_8e157 10 = .ok (.iload_n 0, 1) := by decide +kernel
theorem dJ3_checkIndex_8e157_11 : decode cJ3_checkIndex_8e157 11 = .ok (.iload_n 1, 1) := by decide +kernel
theorem dJ3_checkIndex_8e157_12 : decode cJ3_checkIndex_8e157 12 = .ok (.invokestatic 95, 3) := by decide +kernel
theorem dJ3_checkIndex_8e157_15 : decode cJ3_checkIndex_8e157 15 = .ok (.athrow, 1) := by decide +kernel
theorem dJ3_checkIndex_8e157_16 : decode cJ3_checkIndex_8e157 16 = .ok (.iload_n 0, 1) := by decide +kernel
theorem dJ3_checkIndex_8e157_17 : decode cJ3_checkIndex_8e157 17 = .ok (.ireturn, 1) := by decide +kernel
theorem x_gets {Z : qZ} {G : qG} {own : String} {cc : ByteArray} {nL k n : Nat} {rm : Room} {ret : Option FieldType} {μ : qM} {pc : Nat} {L : List (Nat × Value)} {st : List Value} {idx : Nat} (C : qX Z G own cc nL rm ret) (hlk : Cond.fieldLink own idx "java/lang/String" "COMPACT_STRINGS" "Z" ∈ wsL_law) (hd : decode cc pc = .ok (.getstatic idx, 3)) (h : qV Z G nL k n μ (pc + 3) L (.int 1 :: st)) : qV Z G nL k n μ pc L st := fun H locs ls hP hS hL => va_gets C.1 C.2.1 C.2.2.2.2.2.2.2.2.2.2.2.2.1 hS C.2.2.2.1 (C.2.2.2.2.1 _ hlk) (fun _ h9 => h9) hd (h H locs ls hP hS hL)
theorem x_getsq {Z : qZ} {G : qG} {own : String} {cc : ByteArray} {nL k n : Nat} {rm : Room} {ret : Option FieldType} {μ : qM} {pc : Nat} {L : List (Nat × Value)} {st : List Value} {idx : Nat} (C : qX Z G own cc nL rm ret) (hlk : Cond.fieldLink own idx "jdk/internal/util/Preconditions" "SIOOBE_FORMATTER" "Ljava/util/function/BiFunction;" ∈ wsL_law) (hd : decode cc pc = .ok (.getstatic idx, 3)) (h : ∀ v : Value, (v = .null ∨ ∃ t, v = .ref t) → qV Z G nL k n μ (pc + 3) L (v :: st)) : qV Z G nL k n μ pc L st := fun H locs ls hP hS hL => by
  rcases C.2.2.2.2.2.2.2.2.2.2.2.2.2.1 with hz | ⟨t, hz⟩
  · exact va_gets C.1 C.2.1 hz hS C.2.2.2.1 (C.2.2.2.2.1 _ hlk) (fun _ h9 => h9) hd (h _ (Or.inl rfl) H locs ls hP hS hL)
  · exact va_gets C.1 C.2.1 hz hS C.2.2.2.1 (C.2.2.2.2.1 _ hlk) (fun _ h9 => h9) hd (h _ (Or.inr ⟨t, rfl⟩) H locs ls hP hS hL)
theorem x_strv {Z : qZ} {G : qG} {own : String} {cc : ByteArray} {nL k n : Nat} {rm : Room} {ret : Option FieldType} {μ : qM} {pc : Nat} {L : List (Nat × Value)} {st : List Value} {idx t0 : Nat} (C : qX Z G own cc nL rm ret) (ht : t0 < 12) (hlk : Cond.fieldLink own idx "java/lang/String" "value" "[B" ∈ wsL_law) (hd : decode cc pc = .ok (.getfield idx, 3)) (h : qV Z G nL k n μ (pc + 3) L (.ref (gV G t0) :: st)) : qV Z G nL k n μ pc L (.ref (gK G t0) :: st) := fun H locs ls hP hS hL => vk_getf C.1 C.2.1 (C.2.2.2.2.2.2.2.2.2.2.2.1.1 t0 ht).2.2.1 hS C.2.2.2.1 (C.2.2.2.2.1 _ hlk) (fun _ h9 => h9) hd (h H locs ls hP hS hL)
theorem x_strc {Z : qZ} {G : qG} {own : String} {cc : ByteArray} {nL k n : Nat} {rm : Room} {ret : Option FieldType} {μ : qM} {pc : Nat} {L : List (Nat × Value)} {st : List Value} {idx t0 : Nat} (C : qX Z G own cc nL rm ret) (ht : t0 < 12) (hlk : Cond.fieldLink own idx "java/lang/String" "coder" "B" ∈ wsL_law) (hd : decode cc pc = .ok (.getfield idx, 3)) (h : qV Z G nL k n μ (pc + 3) L (.int 0 :: st)) : qV Z G nL k n μ pc L (.ref (gK G t0) :: st) := fun H locs ls hP hS hL => vk_getf C.1 C.2.1 (C.2.2.2.2.2.2.2.2.2.2.2.1.1 t0 ht).2.1 hS C.2.2.2.1 (C.2.2.2.2.1 _ hlk) (fun _ h9 => h9) hd (h H locs ls hP hS hL)
theorem x_strl {Z : qZ} {G : qG} {own : String} {cc : ByteArray} {nL k n : Nat} {rm : Room} {ret : Option FieldType} {μ : qM} {pc : Nat} {L : List (Nat × Value)} {st : List Value} {t0 : Nat} (C : qX Z G own cc nL rm ret) (ht : t0 < 12) (hd : decode cc pc = .ok (.arraylength, 1)) (h : qV Z G nL k n μ (pc + 1) L (.int (nI (qLn.getD t0 0)) :: st)) : qV Z G nL k n μ pc L (.ref (gV G t0) :: st) := fun H locs ls hP hS hL => va_tlen C.1 C.2.1 (C.2.2.2.2.2.2.2.2.2.2.2.1.1 t0 ht).2.2.2 hS rfl hd (h H locs ls hP hS hL)
theorem x_strb {Z : qZ} {G : qG} {own : String} {cc : ByteArray} {nL k n : Nat} {rm : Room} {ret : Option FieldType} {μ : qM} {pc : Nat} {L : List (Nat × Value)} {st : List Value} {t0 : Nat} {i : Int32} (C : qX Z G own cc nL rm ret) (ht : t0 < 12) (hi : vp_in i (qLn.getD t0 0)) (hd : decode cc pc = .ok (.baload, 1)) (h : qV Z G nL k n μ (pc + 1) L (.int ((qBy.getD t0 []).getD i.toNatClampNeg 0) :: st)) : qV Z G nL k n μ pc L (.int i :: .ref (gV G t0) :: st) := fun H locs ls hP hS hL => va_tb C.1 C.2.1 (C.2.2.2.2.2.2.2.2.2.2.2.1.1 t0 ht).2.2.2 hS hi rfl hd (h H locs ls hP hS hL)
theorem x_i2c {Z : qZ} {G : qG} {own : String} {cc : ByteArray} {nL k n : Nat} {rm : Room} {ret : Option FieldType} {μ : qM} {pc : Nat} {L : List (Nat × Value)} {st : List Value} {x v : Int32} (C : qX Z G own cc nL rm ret) (hd : decode cc pc = .ok (.i2c, 1)) (hv : (x.toUInt32 % 65536).toInt32 = v) (h : qV Z G nL k n μ (pc + 1) L (.int v :: st)) : qV Z G nL k n μ pc L (.int x :: st) := fun H locs ls hP hS hL => lv_i2c C.1 C.2.1 hd hv (h H locs ls hP hS hL)
theorem x_nret {Z : qZ} {G : qG} {own : String} {cc : ByteArray} {nL k n : Nat} {rm : Room} {μ : qM} {pc : Nat} {L : List (Nat × Value)} {post : Int32 → qM → Prop} {v : Int32} {ty : FieldType} (C : qX Z G own cc nL rm (some ty)) (hQ : qQi Z G k n post) (hd : decode cc pc = .ok (.ireturn, 1)) (hn : narrow ty (.int v) = .int v) (hw : post v μ) : qV Z G nL k n μ pc L [.int v] := fun H locs ls hP hS hL => by
  rw [hQ]
  exact W.zret C.1 C.2.1 C.2.2.2.2.2.2.1 hn (fun t ht hW => ⟨⟨v, μ, rfl, hw, by subst ht; exact hP⟩, hS.F ht⟩) hS.2.2 hd C.2.2.2.2.2.2.2.1
theorem x_strV {Z : qZ} {G : qG} {own : String} {cc : ByteArray} {nL k n : Nat} {rm : Room} {ret : Option FieldType} {μ : qM} {pc : Nat} {L : List (Nat × Value)} {st : List Value} {t0 : Nat} (As rest : List Value) (C : qX Z G own cc nL rm ret) {y : MethodName} {bytes : ByteArray} {maxL na idx mc ms : Nat} {ret' : Option FieldType} {rmc : Room} {wp : (Int32 → qM → Prop) → Prop} {K : Int32 → qM → Prop} (ht : t0 < 12) (Y : qY y bytes maxL ret' na rmc mc ms) (hin : Cond.instanceMethod y ∈ wsL_law) (hsel : Cond.selects y.cls y y ∈ wsL_law) (hlk : Cond.methodLink own idx y ∈ wsL_law) (hM : qCi Z.2.1 G y bytes maxL ret' rmc mc ms (.ref (gK G t0) :: As) μ wp) (hcl : y.cls = "java/lang/String") (hR : (Nat.ble (rmc.frames + 1) rm.frames && Nat.ble (8 + (maxL + 11) + rmc.locals) rm.locals) = true) (hf : k + mc ≤ rm.cells ∧ n + ms ≤ rm.slots) (hn : As.length = na) (hst : st = As.reverse ++ .ref (gK G t0) :: rest) (hsz : Nat.ble (rest.map fun v => v.category).sum 8 = true) (hd : decode cc pc = .ok (.invokevirtual idx, 3)) (h : wp K) (hk : ∀ (r : Int32) (μ1 : qM), K r μ1 → qV Z G nL (k + mc) (n + ms) μ1 (pc + 3) L (.int r :: rest)) : qV Z G nL k n μ pc L st := fun H locs ls hP hS hL => va_calli (run_V C Y hin hsel hlk (hM K) hR hf hn hst hsz hd h (by rw [hcl]; exact vk_recv C.2.2.2.2.2.2.2.2.2.2.2.1 ht hS) hP hS hL) hS (fun q _ h => h) (fun q h => h) (fun r u t H1 locs1 ht _ hw hB _ _ hS1 => hk r u hw H1 locs1 ls (by rw [← ht]; exact hB) hS1 hL)
theorem y_J0_coder_7d493 : qY yJ0_coder_7d493 cJ0_coder_7d493 1 (some .byte) 0 ({ frames := 0, cells := 0, slots := 0, locals := 0 } : Room) 0 0 := ⟨(qm_39 _ (List.mem_of_getElem? (i := 20) rfl)), (qm_39 _ (List.mem_of_getElem? (i := 14) rfl)), by decide +kernel, by decide +kernel, rfl, rfl⟩
theorem c_J0_coder_7d493 (l : Launch) (G : qG) {t0 : Nat} (ht : t0 < 12) {μ : qM} : qCi l G yJ0_coder_7d493 cJ0_coder_7d493 1 (some .byte) ({ frames := 0, cells := 0, slots := 0, locals := 0 } : Room) 0 0 [.ref (gK G t0)] μ (fun post => post 0 μ) := by
  refine qCi_of (L := [(0, .ref (gK G t0))]) (by decide) rfl rfl ?_
  intro Z post hl C hQ h
  have C : qX Z G RJ0 cJ0_coder_7d493 1 ({ frames := 0, cells := 0, slots := 0, locals := 0 } : Room) (some .byte) := C
  have h : post 0 μ := h
  refine x_gets C (qm_39 _ (List.mem_of_getElem? (i := 21) rfl)) dJ0_coder_7d493_0 ?_
  refine x_if_eq C dJ0_coder_7d493_3 (tgt := 13) (A := False) (B := True) (by decide) ⟨fun q => absurd q (by decide), fun _ => trivial⟩ (fun q => q.elim) (fun _ => ?_)
  refine x_aload_n C 0 dJ0_coder_7d493_6 rfl rfl ?_
  refine x_strc C ht (qm_39 _ (List.mem_of_getElem? (i := 22) rfl)) dJ0_coder_7d493_7 ?_
  refine x_goto C dJ0_coder_7d493_10 (tgt := 14) (by decide) ?_
  exact x_nret C hQ dJ0_coder_7d493_14 (by decide) h
theorem y_J0_isLatin1_aae02 : qY yJ0_isLatin1_aae02 cJ0_isLatin1_aae02 1 (some .boolean) 0 ({ frames := 0, cells := 0, slots := 0, locals := 0 } : Room) 0 0 := ⟨(qm_40 _ (List.mem_of_getElem? (i := 6) rfl)), (qm_39 _ (List.mem_of_getElem? (i := 14) rfl)), by decide +kernel, by decide +kernel, rfl, rfl⟩
theorem c_J0_isLatin1_aae02 (l : Launch) (G : qG) {t0 : Nat} (ht : t0 < 12) {μ : qM} : qCi l G yJ0_isLatin1_aae02 cJ0_isLatin1_aae02 1 (some .boolean) ({ frames := 0, cells := 0, slots := 0, locals := 0 } : Room) 0 0 [.ref (gK G t0)] μ (fun post => post 1 μ) := by
  refine qCi_of (L := [(0, .ref (gK G t0))]) (by decide) rfl rfl ?_
  intro Z post hl C hQ h
  have C : qX Z G RJ0 cJ0_isLatin1_aae02 1 ({ frames := 0, cells := 0, slots := 0, locals := 0 } : Room) (some .boolean) := C
  have h : post 1 μ := h
  refine x_gets C (qm_39 _ (List.mem_of_getElem? (i := 21) rfl)) dJ0_isLatin1_aae02_0 ?_
  refine x_if_eq C dJ0_isLatin1_aae02_3 (tgt := 17) (A := False) (B := True) (by decide) ⟨fun q => absurd q (by decide), fun _ => trivial⟩ (fun q => q.elim) (fun _ => ?_)
  refine x_aload_n C 0 dJ0_isLatin1_aae02_6 rfl rfl ?_
  refine x_strc C ht (qm_39 _ (List.mem_of_getElem? (i := 22) rfl)) dJ0_isLatin1_aae02_7 ?_
  refine x_if_ne C dJ0_isLatin1_aae02_10 (tgt := 17) (A := False) (B := True) (by decide) ⟨fun q => absurd rfl q, fun _ => trivial⟩ (fun q => q.elim) (fun _ => ?_)
  refine x_iconst C dJ0_isLatin1_aae02_13 (v := 1) (by decide) ?_
  refine x_goto C dJ0_isLatin1_aae02_14 (tgt := 18) (by decide) ?_
  exact x_nret C hQ dJ0_isLatin1_aae02_18 (by decide) h
theorem y_J3_checkIndex_8e157 : qY yJ3_checkIndex_8e157 cJ3_checkIndex_8e157 3 (some .int) 3 ({ frames := 0, cells := 0, slots := 0, locals := 0 } : Room) 0 0 := ⟨(qm_40 _ (List.mem_of_getElem? (i := 18) rfl)), (qm_40 _ (List.mem_of_getElem? (i := 17) rfl)), by decide +kernel, by decide +kernel, rfl, rfl⟩
theorem c_J3_checkIndex_8e157_n (l : Launch) (G : qG) {i m : Int32}  {μ : qM} : qCi l G yJ3_checkIndex_8e157 cJ3_checkIndex_8e157 3 (some .int) ({ frames := 0, cells := 0, slots := 0, locals := 0 } : Room) 0 0 [.int i, .int m, .null] μ (fun post => (¬ i < 0 ∧ i < m) ∧ post i μ) := by
  refine qCi_of (L := [(0, .int i), (1, .int m), (2, .null)]) (by decide) rfl rfl ?_
  intro Z post hl C hQ h
  have C : qX Z G RJ3 cJ3_checkIndex_8e157 3 ({ frames := 0, cells := 0, slots := 0, locals := 0 } : Room) (some .int) := C
  have h : (¬ i < 0 ∧ i < m) ∧ post i μ := h
  refine x_iload_n C 0 dJ3_checkIndex_8e157_0 rfl rfl ?_
  refine x_if_lt C dJ3_checkIndex_8e157_1 (tgt := 9) (A := False) (B := True) (by decide) ⟨fun q => h.1.1 q, fun _ => trivial⟩ (fun q => q.elim) (fun _ => ?_)
  refine x_iload_n C 0 dJ3_checkIndex_8e157_4 rfl rfl ?_
  refine x_iload_n C 1 dJ3_checkIndex_8e157_5 rfl rfl ?_
  refine x_icmp_lt C dJ3_checkIndex_8e157_6 (tgt := 16) (A := True) (B := False) (by decide) ⟨fun _ => trivial, fun q => q h.1.2⟩ (fun _ => ?_) (fun q => q.elim)
  refine x_iload_n C 0 dJ3_checkIndex_8e157_16 rfl rfl ?_
  exact x_iret C hQ dJ3_checkIndex_8e157_17 h.2
theorem c_J3_checkIndex_8e157_r (l : Launch) (G : qG) {i m : Int32} {t : Nat} {μ : qM} : qCi l G yJ3_checkIndex_8e157 cJ3_checkIndex_8e157 3 (some .int) ({ frames := 0, cells := 0, slots := 0, locals := 0 } : Room) 0 0 [.int i, .int m, .ref t] μ (fun post => (¬ i < 0 ∧ i < m) ∧ post i μ) := by
  refine qCi_of (L := [(0, .int i), (1, .int m), (2, .ref t)]) (by decide) rfl rfl ?_
  intro Z post hl C hQ h
  have C : qX Z G RJ3 cJ3_checkIndex_8e157 3 ({ frames := 0, cells := 0, slots := 0, locals := 0 } : Room) (some .int) := C
  have h : (¬ i < 0 ∧ i < m) ∧ post i μ := h
  refine x_iload_n C 0 dJ3_checkIndex_8e157_0 rfl rfl ?_
  refine x_if_lt C dJ3_checkIndex_8e157_1 (tgt := 9) (A := False) (B := True) (by decide) ⟨fun q => h.1.1 q, fun _ => trivial⟩ (fun q => q.elim) (fun _ => ?_)
  refine x_iload_n C 0 dJ3_checkIndex_8e157_4 rfl rfl ?_
  refine x_iload_n C 1 dJ3_checkIndex_8e157_5 rfl rfl ?_
  refine x_icmp_lt C dJ3_checkIndex_8e157_6 (tgt := 16) (A := True) (B := False) (by decide) ⟨fun _ => trivial, fun q => q h.1.2⟩ (fun _ => ?_) (fun q => q.elim)
  refine x_iload_n C 0 dJ3_checkIndex_8e157_16 rfl rfl ?_
  exact x_iret C hQ dJ3_checkIndex_8e157_17 h.2
theorem y_J0_checkIndex_df160 : qY yJ0_checkIndex_df160 cJ0_checkIndex_df160 2 none 2 ({ frames := 1, cells := 0, slots := 0, locals := 22 } : Room) 0 0 := ⟨(qm_40 _ (List.mem_of_getElem? (i := 13) rfl)), (qm_39 _ (List.mem_of_getElem? (i := 14) rfl)), by decide +kernel, by decide +kernel, rfl, rfl⟩
theorem c_J0_checkIndex_df160 (l : Launch) (G : qG) {i m : Int32} {μ : qM} : qCv l G yJ0_checkIndex_df160 cJ0_checkIndex_df160 2 none ({ frames := 1, cells := 0, slots := 0, locals := 22 } : Room) 0 0 [.int i, .int m] μ (fun post => (¬ i < 0 ∧ i < m) ∧ post μ) := by
  refine qCv_of (L := [(0, .int i), (1, .int m)]) (by decide) rfl rfl ?_
  intro Z post hl C hQ h
  have C : qX Z G RJ0 cJ0_checkIndex_df160 2 ({ frames := 1, cells := 0, slots := 0, locals := 22 } : Room) none := C
  have h : (¬ i < 0 ∧ i < m) ∧ post μ := h
  refine x_iload_n C 0 dJ0_checkIndex_df160_0 rfl rfl ?_
  refine x_iload_n C 1 dJ0_checkIndex_df160_1 rfl rfl ?_
  refine x_getsq C (qm_40 _ (List.mem_of_getElem? (i := 14) rfl)) dJ0_checkIndex_df160_2 (fun v hv => ?_)
  rcases hv with rfl | ⟨t, rfl⟩
  · refine x_Si [.int i, .int m, .null] [] C y_J3_checkIndex_8e157 (qm_40 _ (List.mem_of_getElem? (i := 16) rfl)) (qm_40 _ (List.mem_of_getElem? (i := 15) rfl)) (c_J3_checkIndex_8e157_n _ G) rfl ⟨Nat.le_refl _, Nat.le_refl _⟩ rfl rfl rfl dJ0_checkIndex_df160_5 (K := fun _ μ1 => post μ1) h (fun r μ1 h => ?_)
    refine x_pop C dJ0_checkIndex_df160_8 rfl ?_
    exact x_vret C hQ dJ0_checkIndex_df160_9 h
  · refine x_Si [.int i, .int m, .ref t] [] C y_J3_checkIndex_8e157 (qm_40 _ (List.mem_of_getElem? (i := 16) rfl)) (qm_40 _ (List.mem_of_getElem? (i := 15) rfl)) (c_J3_checkIndex_8e157_r _ G) rfl ⟨Nat.le_refl _, Nat.le_refl _⟩ rfl rfl rfl dJ0_checkIndex_df160_5 (K := fun _ μ1 => post μ1) h (fun r μ1 h => ?_)
    refine x_pop C dJ0_checkIndex_df160_8 rfl ?_
    exact x_vret C hQ dJ0_checkIndex_df160_9 h
theorem q_by : ∀ t, t < 12 → qLn.getD t 0 < 100 ∧ ∀ j, j < qLn.getD t 0 → ((((qBy.getD t []).getD j 0) &&& 255).toUInt32 % 65536).toInt32 = (qBy.getD t []).getD j 0 ∧ narrow .char (.int ((qBy.getD t []).getD j 0)) = .int ((qBy.getD t []).getD j 0) := by decide +kernel
theorem q_inl {v : Int32} {n : Nat} (hn : n < 2 ^ 31) (h : vp_in v n) : ¬ v < 0 ∧ v < nI n := by
  have h1 : v.toNatClampNeg < n := Nat.not_le.mp fun q => h (Or.inr q)
  have h0 : ¬ v < 0 := fun q => h (Or.inl q)
  refine ⟨h0, ?_⟩
  rw [Int32.lt_iff_toInt_lt, nI_toInt hn]
  have h2 : (0 : Int) ≤ v.toInt := by
    have := Int32.not_lt.mp h0
    simpa using Int32.le_iff_toInt_le.mp this
  have h3 : v.toNatClampNeg = v.toInt.toNat := rfl
  omega
theorem y_J1_charAt_3b067 : qY yJ1_charAt_3b067 cJ1_charAt_3b067 2 (some .char) 2 ({ frames := 2, cells := 0, slots := 0, locals := 43 } : Room) 0 0 := ⟨(qm_40 _ (List.mem_of_getElem? (i := 10) rfl)), (qm_40 _ (List.mem_of_getElem? (i := 9) rfl)), by decide +kernel, by decide +kernel, rfl, rfl⟩
theorem c_J1_charAt_3b067 (l : Launch) (G : qG) {t0 : Nat} {i : Int32} (ht : t0 < 12) {μ : qM} : qCi l G yJ1_charAt_3b067 cJ1_charAt_3b067 2 (some .char) ({ frames := 2, cells := 0, slots := 0, locals := 43 } : Room) 0 0 [.ref (gV G t0), .int i] μ (fun post => vp_in i (qLn.getD t0 0) ∧ post ((qBy.getD t0 []).getD i.toNatClampNeg 0) μ) := by
  refine qCi_of (L := [(0, .ref (gV G t0)), (1, .int i)]) (by decide) rfl rfl ?_
  intro Z post hl C hQ h
  have C : qX Z G RJ1 cJ1_charAt_3b067 2 ({ frames := 2, cells := 0, slots := 0, locals := 43 } : Room) (some .char) := C
  have h : vp_in i (qLn.getD t0 0) ∧ post ((qBy.getD t0 []).getD i.toNatClampNeg 0) μ := h
  obtain ⟨b1, b2⟩ := q_by t0 ht
  have b3 : i.toNatClampNeg < qLn.getD t0 0 := Nat.not_le.mp fun q => h.1 (Or.inr q)
  refine x_iload_n C 1 dJ1_charAt_3b067_0 rfl rfl ?_
  refine x_aload_n C 0 dJ1_charAt_3b067_1 rfl rfl ?_
  refine x_strl C ht dJ1_charAt_3b067_2 ?_
  refine x_Sv [.int i, .int (nI (qLn.getD t0 0))] [] C y_J0_checkIndex_df160 (qm_40 _ (List.mem_of_getElem? (i := 12) rfl)) (qm_40 _ (List.mem_of_getElem? (i := 11) rfl)) (c_J0_checkIndex_df160 _ G) rfl ⟨Nat.le_refl _, Nat.le_refl _⟩ rfl rfl rfl dJ1_charAt_3b067_3 (K := fun μ1 => post ((qBy.getD t0 []).getD i.toNatClampNeg 0) μ1) ⟨q_inl (by omega) h.1, h.2⟩ (fun μ1 h2 => ?_)
  refine x_aload_n C 0 dJ1_charAt_3b067_6 rfl rfl ?_
  refine x_iload_n C 1 dJ1_charAt_3b067_7 rfl rfl ?_
  refine x_strb C ht h.1 dJ1_charAt_3b067_8 ?_
  refine x_sipush C dJ1_charAt_3b067_9 (v := 255) (by decide) ?_
  refine x_iand C dJ1_charAt_3b067_12 ?_
  refine x_i2c C dJ1_charAt_3b067_13 (b2 _ b3).1 ?_
  exact x_nret C hQ dJ1_charAt_3b067_14 (b2 _ b3).2 h2
theorem c_J0_length_8abf5 (l : Launch) (G : qG) {t0 : Nat} {μ : qM} (hn : 66 ≤ gn G) (ht_t0 : t0 < 12) : qCi l G yJ0_length_8abf5 cJ0_length_8abf5 1 (some .int) ({ frames := 2, cells := 0, slots := 0, locals := 60 } : Room) 0 0 [.ref (gK G t0)] μ (fun post => w_J0_length_8abf5 t0 post μ) := by
  refine qCi_of (L := [(0, .ref (gK G t0))]) (by decide) rfl rfl ?_
  intro Z post hl C hQ h
  have C : qX Z G RJ0 cJ0_length_8abf5 1 ({ frames := 2, cells := 0, slots := 0, locals := 60 } : Room) (some .int) := C
  have h : post (nI (qLn.getD t0 0)) μ := h
  refine x_aload_n C 0 dJ0_length_8abf5_0 rfl rfl ?_
  refine x_strv C ht_t0 (qm_39 _ (List.mem_of_getElem? (i := 16) rfl)) dJ0_length_8abf5_1 ?_
  refine x_strl C ht_t0 dJ0_length_8abf5_4 ?_
  refine x_aload_n C 0 dJ0_length_8abf5_5 rfl rfl ?_
  refine x_strV [] [.int (nI (qLn.getD t0 0))] C ht_t0 y_J0_coder_7d493 (qm_39 _ (List.mem_of_getElem? (i := 18) rfl)) (qm_39 _ (List.mem_of_getElem? (i := 19) rfl)) (qm_39 _ (List.mem_of_getElem? (i := 17) rfl)) (c_J0_coder_7d493 _ G ht_t0) rfl rfl ⟨Nat.le_refl _, Nat.le_refl _⟩ rfl rfl rfl dJ0_length_8abf5_6 (K := fun r μ1 => r = 0 ∧ post (nI (qLn.getD t0 0)) μ1) ⟨rfl, h⟩ (fun r μ1 hr => ?_)
  obtain ⟨rfl, h⟩ := hr
  refine x_ishr C dJ0_length_8abf5_9 ?_
  refine x_iret C hQ dJ0_length_8abf5_10 ?_
  rw [show nI (qLn.getD t0 0) >>> ((0 : Int32) &&& 31) = nI (qLn.getD t0 0) from (show ∀ t, t < 12 → nI (qLn.getD t 0) >>> ((0 : Int32) &&& 31) = nI (qLn.getD t 0) by decide +kernel) t0 ht_t0]
  exact h
theorem dJ0_charAt_5068e_0 : decode cJ0_charAt_5068e 0 = .ok (.aload_n 0, 1) := by decide +kernel
theorem dJ0_charAt_5068e_1 : decode cJ0_charAt_5068e 1 = .ok (.invokevirtual 492, 3) := by decide +kernel
theorem dJ0_charAt_5068e_4 : decode cJ0_charAt_5068e 4 = .ok (.ifCond .eq 12, 3) := by decide +kernel
theorem dJ0_charAt_5068e_7 : decode cJ0_charAt_5068e 7 = .ok (.aload_n 0, 1) := by decide +kernel
theorem dJ0_charAt_5068e_8 : decode cJ0_charAt_5068e 8 = .ok (.getfield 9, 3) := by decide +kernel
theorem dJ0_charAt_5068e_11 : decode cJ0_charAt_5068e 11 = .ok (.iload_n 1, 1) := by decide +kernel
theorem dJ0_charAt_5068e_12 : decode cJ0_charAt_5068e 12 = .ok (.invokestatic 495, 3) := by decide +kernel
theorem dJ0_charAt_5068e_15 : decode cJ0_charAt_5068e 15 = .ok (.ireturn, 1) := by decide +kernel
theorem dJ0_charAt_5068e_16 : decode cJ0_charAt_5068e 16 = .ok (.aload_n 0, 1) := by decide +kernel
theorem dJ0_charAt_5068e_17 : decode cJ0_charAt_5068e 17 = .ok (.getfield 9, 3) := by decide +kernel
theorem dJ0_charAt_5068e_20 : decode cJ0_charAt_5068e 20 = .ok (.iload_n 1, 1) := by decide +kernel
theorem dJ0_charAt_5068e_21 : decode cJ0_charAt_5068e 21 = .ok (.invokestatic 498, 3) := by decide +kernel
theorem dJ0_charAt_5068e_24 : decode cJ0_charAt_5068e 24 = .ok (.ireturn, 1) := by decide +kernel
theorem y_J0_charAt_5068e : qY yJ0_charAt_5068e cJ0_charAt_5068e 2 (some .char) 1 ({ frames := 5, cells := 0, slots := 0, locals := 140 } : Room) 0 0 := ⟨(qm_40 _ (List.mem_of_getElem? (i := 2) rfl)), (qm_39 _ (List.mem_of_getElem? (i := 14) rfl)), by decide +kernel, by decide +kernel, rfl, rfl⟩
theorem c_J0_charAt_5068e (l : Launch) (G : qG) {t0 : Nat} {v1 : Int32} {μ : qM} (hn : 66 ≤ gn G) (ht_t0 : t0 < 12) : qCi l G yJ0_charAt_5068e cJ0_charAt_5068e 2 (some .char) ({ frames := 5, cells := 0, slots := 0, locals := 140 } : Room) 0 0 [.ref (gK G t0), .int v1] μ (fun post => w_J0_charAt_5068e t0 v1 post μ) := by
  refine qCi_of (L := [(0, .ref (gK G t0)), (1, .int v1)]) (by decide) rfl rfl ?_
  intro Z post hl C hQ h
  have C : qX Z G RJ0 cJ0_charAt_5068e 2 ({ frames := 5, cells := 0, slots := 0, locals := 140 } : Room) (some .char) := C
  have h : vp_in v1 (qLn.getD t0 0) ∧ post ((qBy.getD t0 []).getD v1.toNatClampNeg 0) μ := h
  have b3 : v1.toNatClampNeg < qLn.getD t0 0 := Nat.not_le.mp fun q => h.1 (Or.inr q)
  refine x_aload_n C 0 dJ0_charAt_5068e_0 rfl rfl ?_
  refine x_strV [] [] C ht_t0 y_J0_isLatin1_aae02 (qm_40 _ (List.mem_of_getElem? (i := 4) rfl)) (qm_40 _ (List.mem_of_getElem? (i := 5) rfl)) (qm_40 _ (List.mem_of_getElem? (i := 3) rfl)) (c_J0_isLatin1_aae02 _ G ht_t0) rfl rfl ⟨Nat.le_refl _, Nat.le_refl _⟩ rfl rfl rfl dJ0_charAt_5068e_1 (K := fun r μ1 => r = 1 ∧ vp_in v1 (qLn.getD t0 0) ∧ post ((qBy.getD t0 []).getD v1.toNatClampNeg 0) μ1) ⟨rfl, h⟩ (fun r μ1 hr => ?_)
  obtain ⟨rfl, h⟩ := hr
  refine x_if_eq C dJ0_charAt_5068e_4 (tgt := 16) (A := False) (B := True) (by decide) ⟨fun q => absurd q (by decide), fun _ => trivial⟩ (fun q => q.elim) (fun _ => ?_)
  refine x_aload_n C 0 dJ0_charAt_5068e_7 rfl rfl ?_
  refine x_strv C ht_t0 (qm_39 _ (List.mem_of_getElem? (i := 16) rfl)) dJ0_charAt_5068e_8 ?_
  refine x_iload_n C 1 dJ0_charAt_5068e_11 rfl rfl ?_
  refine x_Si [.ref (gV G t0), .int v1] [] C y_J1_charAt_3b067 (qm_40 _ (List.mem_of_getElem? (i := 8) rfl)) (qm_40 _ (List.mem_of_getElem? (i := 7) rfl)) (c_J1_charAt_3b067 _ G ht_t0) rfl ⟨Nat.le_refl _, Nat.le_refl _⟩ rfl rfl rfl dJ0_charAt_5068e_12 (K := fun r μ1 => r = (qBy.getD t0 []).getD v1.toNatClampNeg 0 ∧ post r μ1) ⟨h.1, rfl, h.2⟩ (fun r μ1 hr => ?_)
  exact x_nret C hQ dJ0_charAt_5068e_15 (by rw [hr.1]; exact ((q_by t0 ht_t0).2 _ b3).2) hr.2
theorem i_RX5_103 {Z : qZ} {G : qG} {cc : ByteArray} {nL k n : Nat} {rm : Room} {ret : Option FieldType} {μ : qM} {pc : Nat} {L : List (Nat × Value)} {rest : List Value} {K : Int32 → qM → Prop} {t0 : Nat} (C : qX Z G RX5 cc nL rm ret) (hn : 66 ≤ gn G) (ht : t0 < 12) (hR : (Nat.ble (2 + 1) rm.frames && Nat.ble (8 + (1 + 11) + 60) rm.locals) = true) (hf : k + 0 ≤ rm.cells ∧ n + 0 ≤ rm.slots) (hsz : Nat.ble (rest.map fun v => v.category).sum 8 = true) (hd : decode cc pc = .ok (.invokevirtual 103, 3)) (h : w_J0_length_8abf5 t0 K μ) (hk : ∀ (r : Int32) (μ1 : qM), K r μ1 → qV Z G nL k n μ1 (pc + 3) L (.int r :: rest)) : qV Z G nL k n μ pc L (.ref (gK G t0) :: rest) := fun H locs ls hP hS hL => va_calli (run_V (As := []) C y_J0_length_8abf5 (qm_39 _ (List.mem_of_getElem? (i := 12) rfl)) (qm_39 _ (List.mem_of_getElem? (i := 13) rfl)) (qm_39 _ (List.mem_of_getElem? (i := 11) rfl)) (c_J0_length_8abf5 Z.2.1 G hn ht K) hR hf rfl rfl hsz hd h (vk_recv C.2.2.2.2.2.2.2.2.2.2.2.1 ht hS) hP hS hL) hS (fun q _ h => h) (fun q h => h) (fun r u t H1 locs1 ht _ hw hB _ _ hS1 => hk r u hw H1 locs1 ls (by rw [← ht]; exact hB) hS1 hL)
theorem i_RX5_114 {Z : qZ} {G : qG} {cc : ByteArray} {nL k n : Nat} {rm : Room} {ret : Option FieldType} {μ : qM} {pc : Nat} {L : List (Nat × Value)} {rest : List Value} {K : Int32 → qM → Prop} {t0 : Nat} {v1 : Int32} (C : qX Z G RX5 cc nL rm ret) (hn : 66 ≤ gn G) (ht : t0 < 12) (hR : (Nat.ble (5 + 1) rm.frames && Nat.ble (8 + (2 + 11) + 140) rm.locals) = true) (hf : k + 0 ≤ rm.cells ∧ n + 0 ≤ rm.slots) (hsz : Nat.ble (rest.map fun v => v.category).sum 8 = true) (hd : decode cc pc = .ok (.invokevirtual 114, 3)) (h : w_J0_charAt_5068e t0 v1 K μ) (hk : ∀ (r : Int32) (μ1 : qM), K r μ1 → qV Z G nL k n μ1 (pc + 3) L (.int r :: rest)) : qV Z G nL k n μ pc L (.int v1 :: .ref (gK G t0) :: rest) := fun H locs ls hP hS hL => va_calli (run_V (As := [.int v1]) C y_J0_charAt_5068e (qm_40 _ (List.mem_of_getElem? (i := 0) rfl)) (qm_40 _ (List.mem_of_getElem? (i := 1) rfl)) (qm_39 _ (List.mem_of_getElem? (i := 23) rfl)) (c_J0_charAt_5068e Z.2.1 G hn ht K) hR hf rfl rfl hsz hd h (vk_recv C.2.2.2.2.2.2.2.2.2.2.2.1 ht hS) hP hS hL) hS (fun q _ h => h) (fun q h => h) (fun r u t H1 locs1 ht _ hw hB _ _ hS1 => hk r u hw H1 locs1 ls (by rw [← ht]; exact hB) hS1 hL)
theorem i_RX11_242 {Z : qZ} {G : qG} {cc : ByteArray} {nL k n : Nat} {rm : Room} {ret : Option FieldType} {μ : qM} {pc : Nat} {L : List (Nat × Value)} {rest : List Value} {K : Int32 → qM → Prop} {t0 : Nat} (C : qX Z G RX11 cc nL rm ret) (hn : 66 ≤ gn G) (ht : t0 < 12) (hR : (Nat.ble (2 + 1) rm.frames && Nat.ble (8 + (1 + 11) + 60) rm.locals) = true) (hf : k + 0 ≤ rm.cells ∧ n + 0 ≤ rm.slots) (hsz : Nat.ble (rest.map fun v => v.category).sum 8 = true) (hd : decode cc pc = .ok (.invokevirtual 242, 3)) (h : w_J0_length_8abf5 t0 K μ) (hk : ∀ (r : Int32) (μ1 : qM), K r μ1 → qV Z G nL k n μ1 (pc + 3) L (.int r :: rest)) : qV Z G nL k n μ pc L (.ref (gK G t0) :: rest) := fun H locs ls hP hS hL => va_calli (run_V (As := []) C y_J0_length_8abf5 (qm_39 _ (List.mem_of_getElem? (i := 12) rfl)) (qm_39 _ (List.mem_of_getElem? (i := 13) rfl)) (qm_43 _ (List.mem_of_getElem? (i := 20) rfl)) (c_J0_length_8abf5 Z.2.1 G hn ht K) hR hf rfl rfl hsz hd h (vk_recv C.2.2.2.2.2.2.2.2.2.2.2.1 ht hS) hP hS hL) hS (fun q _ h => h) (fun q h => h) (fun r u t H1 locs1 ht _ hw hB _ _ hS1 => hk r u hw H1 locs1 ls (by rw [← ht]; exact hB) hS1 hL)
theorem i_RX11_247 {Z : qZ} {G : qG} {cc : ByteArray} {nL k n : Nat} {rm : Room} {ret : Option FieldType} {μ : qM} {pc : Nat} {L : List (Nat × Value)} {rest : List Value} {K : Int32 → qM → Prop} {t0 : Nat} {v1 : Int32} (C : qX Z G RX11 cc nL rm ret) (hn : 66 ≤ gn G) (ht : t0 < 12) (hR : (Nat.ble (5 + 1) rm.frames && Nat.ble (8 + (2 + 11) + 140) rm.locals) = true) (hf : k + 0 ≤ rm.cells ∧ n + 0 ≤ rm.slots) (hsz : Nat.ble (rest.map fun v => v.category).sum 8 = true) (hd : decode cc pc = .ok (.invokevirtual 247, 3)) (h : w_J0_charAt_5068e t0 v1 K μ) (hk : ∀ (r : Int32) (μ1 : qM), K r μ1 → qV Z G nL k n μ1 (pc + 3) L (.int r :: rest)) : qV Z G nL k n μ pc L (.int v1 :: .ref (gK G t0) :: rest) := fun H locs ls hP hS hL => va_calli (run_V (As := [.int v1]) C y_J0_charAt_5068e (qm_40 _ (List.mem_of_getElem? (i := 0) rfl)) (qm_40 _ (List.mem_of_getElem? (i := 1) rfl)) (qm_43 _ (List.mem_of_getElem? (i := 21) rfl)) (c_J0_charAt_5068e Z.2.1 G hn ht K) hR hf rfl rfl hsz hd h (vk_recv C.2.2.2.2.2.2.2.2.2.2.2.1 ht hS) hP hS hL) hS (fun q _ h => h) (fun q h => h) (fun r u t H1 locs1 ht _ hw hB _ _ hS1 => hk r u hw H1 locs1 ls (by rw [← ht]; exact hB) hS1 hL)
