/-! more instructions, library members, numbers of ids -/
theorem qk_dec (κ j κ' : Nat) (h : (List.range 67).all (fun o => !(qk o == κ) || (qk (o + j) == κ')) = true) (h9 : (κ == 99) = false) {o : Nat} (hk : qk o = κ) : qk (o + j) = κ' := by
  by_cases ho : o < 67
  · have := List.all_eq_true.mp h o (List.mem_range.mpr ho)
    simp only [Bool.or_eq_true, Bool.not_eq_true', beq_iff_eq, beq_eq_false_iff_ne] at this
    rcases this with h1 | h1
    · exact absurd hk h1
    · exact h1
  · exfalso
    have : qk o = 99 := by
      unfold qk
      rw [List.getD_eq_getElem?_getD, List.getElem?_eq_none (by show 67 ≤ o; omega)]
      rfl
    rw [this] at hk
    subst hk
    simp at h9
theorem q_lt {G : qG} {o κ : Nat} (hk : qk o = κ) (h9 : (κ == 99 || κ == 4) = false) (hn : 66 ≤ gn G) : o < gn G := by
  have h66 : ∀ j, j < 67 → (qk j == 4 || Nat.blt j 66) = true := by decide
  by_cases ho : o < 67
  · have := h66 o ho
    rw [hk] at this
    simp only [Bool.or_eq_false_iff] at h9
    rw [h9.2] at this
    have h2 : o < 66 := by simpa using this
    omega
  · exfalso
    have : qk o = 99 := by
      unfold qk
      rw [List.getD_eq_getElem?_getD, List.getElem?_eq_none (by show 67 ≤ o; omega)]
      rfl
    rw [this] at hk
    subst hk
    simp at h9
section CORE2
variable {Z : qZ} {G : qG} {own : String} {cc : ByteArray} {nL k n : Nat} {rm : Room} {ret : Option FieldType} {μ : qM} {pc : Nat} {L L' : List (Nat × Value)} {st : List Value}
theorem x_name {x : Int32} (h : ∀ y : Int32, y = x → qV Z G nL k n μ pc L (.int y :: st)) : qV Z G nL k n μ pc L (.int x :: st) := h x rfl
theorem x_tin (C : qX Z G own cc nL rm ret) {dflt lo hi : Int} {offs : Array Int} {len : Nat} {x v : Int32} {off : Int} {tgt : Nat} (hd : decode cc pc = .ok (.tableswitch dflt lo hi offs, len)) (hx : x = v) (h1 : ¬ v.toInt < lo) (h2 : ¬ hi < v.toInt) (ho : offs[(v.toInt - lo).toNat]? = some off) (ht : (pc : Int) + off = (tgt : Int)) (h : qV Z G nL k n μ tgt L st) : qV Z G nL k n μ pc L (.int x :: st) := fun H locs ls hP hS hL => lv_tableIn C.1 C.2.1 hd (by rw [hx]; exact h1) (by rw [hx]; exact h2) (by rw [hx]; exact ho) ht (h H locs ls hP hS hL)
theorem x_tout (C : qX Z G own cc nL rm ret) {dflt lo hi : Int} {offs : Array Int} {len : Nat} {x : Int32} {tgt : Nat} (vs : List Int32) (hne : ∀ v ∈ vs, ¬ x = v) (hd : decode cc pc = .ok (.tableswitch dflt lo hi offs, len)) (hvs : (List.range (hi - lo + 1).toNat).all (fun j => vs.any (fun v => v.toInt == lo + (j : Int))) = true) (ht : (pc : Int) + dflt = (tgt : Int)) (h : qV Z G nL k n μ tgt L st) : qV Z G nL k n μ pc L (.int x :: st) := fun H locs ls hP hS hL => lv_tableOut C.1 C.2.1 hd (by
  by_cases h1 : x.toInt < lo
  · exact Or.inl h1
  · by_cases h2 : hi < x.toInt
    · exact Or.inr h2
    · exfalso
      have hj := List.all_eq_true.mp hvs (x.toInt - lo).toNat (List.mem_range.mpr (by omega))
      obtain ⟨v, hv, he⟩ := List.any_eq_true.mp hj
      have he' : v.toInt = lo + ((x.toInt - lo).toNat : Int) := by simpa using he
      exact hne v hv (Int32.toInt_inj.mp (by omega))) ht (h H locs ls hP hS hL)
theorem x_abs (C : qX Z G own cc nL rm ret) {idx : Nat} {x : Int32} (hlk : Cond.methodLink own idx Lib.Math.abs.name ∈ wsL_law) (hf : Nat.ble 1 rm.frames = true) (hl : Nat.ble ((st.map fun v => v.category).sum + 13) rm.locals = true) (hd : decode cc pc = .ok (.invokestatic idx, 3)) (hk : k ≤ rm.cells ∧ n ≤ rm.slots) (h : qV Z G nL k n μ (pc + 3) L (.int (if 0 ≤ x then x else 0 - x) :: st)) : qV Z G nL k n μ pc L (.int x :: st) := fun H locs ls hP hS hL => by
  have hts := C.2.2.2.2.1
  have hRR := C.2.2.2.2.2.1
  exact va_mabs C.1 C.2.1 (by rw [C.2.2.1]; exact hL.1.symm) C.2.2.2.1 (hts _ hlk) (hts _ (qm_12 _ (List.mem_of_getElem? (i := 3) rfl))) (hts _ (qm_12 _ (List.mem_of_getElem? (i := 4) rfl))) (hts _ (qm_12 _ (List.mem_of_getElem? (i := 5) rfl))) (by rw [hRR]; exact Nat.le_of_ble_eq_true hf) (by rw [hRR]; exact Nat.le_of_ble_eq_true hl) (by rw [hRR]; exact hk.1) (by rw [hRR]; exact hk.2) hd (h H locs ls hP hS hL)
theorem x_min (C : qX Z G own cc nL rm ret) {idx : Nat} {x y : Int32} (hlk : Cond.methodLink own idx Lib.Math.min.name ∈ wsL_law) (hf : Nat.ble 1 rm.frames = true) (hl : Nat.ble ((st.map fun v => v.category).sum + 13) rm.locals = true) (hd : decode cc pc = .ok (.invokestatic idx, 3)) (hk : k ≤ rm.cells ∧ n ≤ rm.slots) (h : qV Z G nL k n μ (pc + 3) L (.int (if y < x then y else x) :: st)) : qV Z G nL k n μ pc L (.int y :: .int x :: st) := fun H locs ls hP hS hL => by
  have hts := C.2.2.2.2.1
  have hRR := C.2.2.2.2.2.1
  exact va_mmin C.1 C.2.1 (by rw [C.2.2.1]; exact hL.1.symm) C.2.2.2.1 (hts _ hlk) (hts _ (qm_29 _ (List.mem_of_getElem? (i := 13) rfl))) (hts _ (qm_12 _ (List.mem_of_getElem? (i := 4) rfl))) (hts _ (qm_29 _ (List.mem_of_getElem? (i := 14) rfl))) (by rw [hRR]; exact Nat.le_of_ble_eq_true hf) (by rw [hRR]; exact Nat.le_of_ble_eq_true hl) (by rw [hRR]; exact hk.1) (by rw [hRR]; exact hk.2) hd (h H locs ls hP hS hL)
theorem x_copy (C : qX Z G own cc nL rm ret) (o0 o1 κ0 κ1 N0 N1 : Nat) {idx : Nat} {sp dp j : Int32} {A : Prop} (ho0 : o0 < gn G) (ho1 : o1 < gn G) (hk0 : qk o0 = κ0) (hk1 : qk o1 = κ1) (h110 : Nat.ble 11 κ0 = true) (h111 : Nat.ble 11 κ1 = true) (h230 : (κ0 == 23) = false) (h231 : (κ1 == 23) = false) (hT0 : qaT κ0 = 0) (hT1 : qaT κ1 = 0) (hN0 : qaN κ0 = N0) (hN1 : qaN κ1 = N1) (hlk : Cond.methodLink own idx arraycopyName ∈ wsL_law) (hf : Nat.ble 1 rm.frames = true) (hl : Nat.ble ((st.map fun v => v.category).sum + (nativeFrameWords "java/lang/System" "arraycopy" 5 + 11)) rm.locals = true) (hd : decode cc pc = .ok (.invokestatic idx, 3)) (hh : ¬ sp < 0 ∧ ¬ dp < 0 ∧ ¬ j < 0 ∧ sp.toNatClampNeg + j.toNatClampNeg ≤ N0 ∧ dp.toNatClampNeg + j.toNatClampNeg ≤ N1 ∧ A) (h : A → qV Z G nL k n (qr μ o1 (va_cpy (μ o0) (μ o1) sp.toNatClampNeg dp.toNatClampNeg j.toNatClampNeg)) (pc + 3) L st) : qV Z G nL k n μ pc L (.int j :: .int dp :: .ref (ga G o1) :: .int sp :: .ref (ga G o0) :: st) := fun H locs ls hP hS hL => by
  have hts := C.2.2.2.2.1
  have hRR := C.2.2.2.2.2.1
  obtain ⟨c1, c2, c3, c4, c5, hA⟩ := hh
  have w0 := qW_arr (μ := μ) ho0 hk0 (Nat.le_of_ble_eq_true h110) h230
  have w1 := qW_arr (μ := μ) ho1 hk1 (Nat.le_of_ble_eq_true h111) h231
  rw [hT0, hN0] at w0
  rw [hT1, hN1] at w1
  refine va_copyi C.1 C.2.1 (by rw [C.2.2.1]; exact hL.1.symm) C.2.2.2.1 (hts _ hlk) (hts _ (qm_33 _ (List.mem_of_getElem? (i := 16) rfl))) (hts _ (qm_33 _ (List.mem_of_getElem? (i := 17) rfl))) (hts _ (qm_33 _ (List.mem_of_getElem? (i := 18) rfl))) C.2.2.2.2.2.2.2.2.1 hP (qD_any C.2.2.2.2.2.2.2.2.2.1) hS o0 o1 0 0 w0 w1 rfl rfl rfl c1 c2 c3 c4 c5 (fun _ _ => rfl) (by rw [hRR]; exact Nat.le_of_ble_eq_true hf) (by rw [hRR]; exact Nat.le_of_ble_eq_true hl) hd (fun H1 locs1 hP1 _ hS1 => ?_)
  have e := qW_arrS (G := G) (μ := μ) (f := va_cpy (μ o0) (μ o1) sp.toNatClampNeg dp.toNatClampNeg j.toNatClampNeg) hk1 (Nat.le_of_ble_eq_true h111) h231
  rw [hT1, hN1] at e
  rw [e] at hP1
  exact h hA H1 locs1 ls hP1 hS1 hL
theorem x_ldcsw (C : qX Z G own cc nL rm ret) {i q : Nat} {tx : String} (hq : (own, i, tx, q) ∈ qTx) (hd : decode cc pc = .ok (.ldc_w i, 3)) (h : qV Z G nL k n μ (pc + 3) L (.ref (gK G q) :: st)) : qV Z G nL k n μ pc L st := fun H locs ls hP hS hL => by
  have hZ := C.2.2.2.2.2.2.2.2.2.2.2.2.2.2.1 _ hq
  intro T hT X
  obtain ⟨t, a1, b1⟩ := h H locs ls hP hS hL T hT X
  exact ⟨t, X.ldcStringW C.1 C.2.2.2.1 hZ.1 hZ.2 (g := F0 _ pc ls st) rfl (by rw [C.2.1]; exact hd) t a1, b1⟩
end CORE2
