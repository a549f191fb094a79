theorem op_image : OP w_X10_image w_X11_image := by
  intro μ h
  obtain ⟨⟨r1, r2, r3, r4, r5, r6, r7⟩, r8⟩ := id h
  obtain ⟨n, kd, lt, hX, hM, hW⟩ := r1
  have h10 := hX.2.1
  unfold w_X10_image w_X11_image
  refine copyT_8_1 hX _ (fun f g w s' hfg hw hs => ⟨Or.inr rfl, ?_⟩)
  generalize hν : (qu (qu (qu (qu (qr (qr (qr (qr (qu μ 9 0 (nI n)) 10 f) 11 g) 13 w) 14 s') 8 3 (μ 1 3)) 8 4 (μ 1 4)) 8 5 (μ 1 5)) 0 2 1) = ν
  have a46 : ν 46 = μ 46 := by rw [← hν]; rfl
  have a47 : ν 47 = μ 47 := by rw [← hν]; rfl
  have a48 : ν 48 = μ 48 := by rw [← hν]; rfl
  have a49 : ν 49 = μ 49 := by rw [← hν]; rfl
  have a50 : ν 50 = μ 50 := by rw [← hν]; rfl
  have e1 : (qu ν 46 9 (ν 46 0)) 46 0 = nI n := by show ν 46 0 = nI n; rw [a46]; exact hM.1
  rw [e1]
  refine rows_sp (by decide) (by show n ≤ 154; omega) (by show n ≤ 10; omega) (by omega) _ (fun f1 hf1 => ?_)
  have e2 : (qr (qu ν 46 9 (ν 46 0)) 51 f1) 46 0 = nI n := e1
  rw [e2]
  refine rows_sp (by decide) (by show n ≤ 154; omega) (by show n ≤ 10; omega) (by omega) _ (fun f2 hf2 => ?_)
  refine rows_sp (n := 144) (by decide) (by show 144 ≤ 144; omega) (by show 144 ≤ 144; omega) (by omega) _ (fun f3 hf3 => ?_)
  refine rows_sp (n := 10) (by decide) (by show 10 ≤ 10; omega) (by show 10 ≤ 10; omega) (by omega) _ (fun f4 hf4 => ?_)
  refine ⟨Or.inr rfl, rfl, ?_⟩
  have A : ∀ i, i < 46 → (qu (qu (qu (qu (qr (qr (qr (qr (qu ν 46 9 (ν 46 0)) 51 f1) 52 f2) 53 f3) 54 f4) 46 14 (ν 46 5)) 46 15 (ν 46 6)) 46 16 (ν 46 7)) 46 8 1) i = ν i := fun i hi => by
    rw [qu_n (by omega), qu_n (by omega), qu_n (by omega), qu_n (by omega), qr_n (by omega), qr_n (by omega), qr_n (by omega), qr_n (by omega), qu_n (by omega)]
  show RI (qu (qu (qu (qu (qr (qr (qr (qr (qu ν 46 9 (ν 46 0)) 51 f1) 52 f2) 53 f3) 54 f4) 46 14 (ν 46 5)) 46 15 (ν 46 6)) 46 16 (ν 46 7)) 46 8 1)
  have B : ∀ i, i < 46 → i ≠ 9 → i ≠ 10 → i ≠ 11 → i ≠ 13 → i ≠ 14 → i ≠ 8 → i ≠ 0 → ν i = μ i := fun i hi b1 b2 b3 b4 b5 b6 b7 => by
    rw [← hν, qu_n b7, qu_n b6, qu_n b6, qu_n b6, qr_n b5, qr_n b4, qr_n b3, qr_n b2, qu_n b1]
  have c : ∀ i, i < 46 → i ≠ 9 → i ≠ 10 → i ≠ 11 → i ≠ 13 → i ≠ 14 → i ≠ 8 → i ≠ 0 → (qu (qu (qu (qu (qr (qr (qr (qr (qu ν 46 9 (ν 46 0)) 51 f1) 52 f2) 53 f3) 54 f4) 46 14 (ν 46 5)) 46 15 (ν 46 6)) 46 16 (ν 46 7)) 46 8 1) i = μ i := fun i hi b1 b2 b3 b4 b5 b6 b7 => (A i hi).trans (B i hi b1 b2 b3 b4 b5 b6 b7)
  have C : ∀ i, (Nat.blt i 46 && !(i == 9 || (i == 10 || (i == 11 || (i == 13 || (i == 14 || (i == 8 || i == 0))))))) = true → (qu (qu (qu (qu (qr (qr (qr (qr (qu ν 46 9 (ν 46 0)) 51 f1) 52 f2) 53 f3) 54 f4) 46 14 (ν 46 5)) 46 15 (ν 46 6)) 46 16 (ν 46 7)) 46 8 1) i = μ i := fun i hi => by
    simp only [Bool.and_eq_true, Bool.not_eq_true', Bool.or_eq_false_iff, beq_eq_false_iff_ne] at hi
    exact c i (by have := hi.1; simpa using this) hi.2.1 hi.2.2.1 hi.2.2.2.1 hi.2.2.2.2.1 hi.2.2.2.2.2.1 hi.2.2.2.2.2.2.1 hi.2.2.2.2.2.2.2
  have m5 : ν 46 5 = μ 46 5 := by rw [a46]
  have m6 : ν 46 6 = μ 46 6 := by rw [a46]
  have m7 : ν 46 7 = μ 46 7 := by rw [a46]
  have m18 : ν 46 18 = μ 46 18 := by rw [a46]
  have b46 : ∀ k, k ≠ 9 → k ≠ 14 → k ≠ 15 → k ≠ 16 → k ≠ 8 → (qu (qu (qu (qu (qr (qr (qr (qr (qu ν 46 9 (ν 46 0)) 51 f1) 52 f2) 53 f3) 54 f4) 46 14 (ν 46 5)) 46 15 (ν 46 6)) 46 16 (ν 46 7)) 46 8 1) 46 k = μ 46 k := fun k k9 k14 k15 k16 k8 => by
    rw [qu_s, pk_un k8, qu_s, pk_un k16, qu_s, pk_un k15, qu_s, pk_un k14, qr_n (by omega), qr_n (by omega), qr_n (by omega), qr_n (by omega), qu_s, pk_un k9, a46]
  have D : ∀ i, 46 < i → i ≠ 51 → i ≠ 52 → i ≠ 53 → i ≠ 54 → (qu (qu (qu (qu (qr (qr (qr (qr (qu ν 46 9 (ν 46 0)) 51 f1) 52 f2) 53 f3) 54 f4) 46 14 (ν 46 5)) 46 15 (ν 46 6)) 46 16 (ν 46 7)) 46 8 1) i = μ i := fun i hi i1 i2 i3 i4 => by
    rw [qu_n (by omega), qu_n (by omega), qu_n (by omega), qu_n (by omega), qr_n i4, qr_n i3, qr_n i2, qr_n i1, qu_n (by omega), ← hν, qu_n (by omega), qu_n (by omega), qu_n (by omega), qu_n (by omega), qr_n (by omega), qr_n (by omega), qr_n (by omega), qr_n (by omega), qu_n (by omega)]
  refine ⟨⟨?_, r2.keep (C 6 rfl) (D 49 (by omega) (by omega) (by omega) (by omega) (by omega)), r3.keep (C 7 rfl) (D 50 (by omega) (by omega) (by omega) (by omega) (by omega)), r4.keep (C 1 rfl) (b46 5 (by decide) (by decide) (by decide) (by decide) (by decide)) (b46 6 (by decide) (by decide) (by decide) (by decide) (by decide)) (b46 7 (by decide) (by decide) (by decide) (by decide) (by decide)), ?_, r6.keep (C 22 rfl) (C 23 rfl) (b46 18 (by decide) (by decide) (by decide) (by decide) (by decide)) (D 55 (by omega) (by omega) (by omega) (by omega) (by omega)), r7.keep (s8 ⟨C 25 rfl, C 26 rfl, C 27 rfl, C 28 rfl, C 29 rfl, C 30 rfl, C 31 rfl, C 32 rfl⟩) (D 62 (by omega) (by omega) (by omega) (by omega) (by omega)) (D 63 (by omega) (by omega) (by omega) (by omega) (by omega)) (D 64 (by omega) (by omega) (by omega) (by omega) (by omega))⟩, r8.keep (C 33 rfl) (D 56 (by omega) (by omega) (by omega) (by omega) (by omega))⟩
  · have r1' : R1 μ := ⟨n, kd, lt, hX, hM, hW⟩
    exact r1'.keep (by rw [C 2 rfl]) (C 3 rfl) (C 4 rfl) (b46 0 (by decide) (by decide) (by decide) (by decide) (by decide)) (fun j _ => ⟨by rw [D 47 (by omega) (by omega) (by omega) (by omega) (by omega)], by rw [D 48 (by omega) (by omega) (by omega) (by omega) (by omega)]⟩)
  · refine ⟨?_, Or.inr ?_, fun _ => ⟨n, kd, lt, ⟨?_, h10, fun j hj => ⟨?_, ?_⟩⟩, ⟨?_, fun j hj => ⟨?_, ?_⟩⟩, hW, fun j hj => ?_, fun j hj => ?_, ?_, ?_, ?_⟩⟩
    · rw [A 0 (by omega), ← hν]; rfl
    · rw [A 0 (by omega), ← hν]; rfl
    · rw [A 9 (by omega), ← hν]; rfl
    · rw [A 10 (by omega), ← hν]; show f j = kd j; rw [(hfg j (by omega)).1]; exact (hX.2.2 j hj).1
    · rw [A 11 (by omega), ← hν]; show g j = lt j; rw [(hfg j (by omega)).2]; exact (hX.2.2 j hj).2
    · show ν 46 0 = nI n
      rw [a46]; exact hM.1
    · show f1 j = kd j
      rw [hf1 j hj]; show ν 47 j = kd j; rw [a47]; exact (hM.arr hj).1
    · show f2 j = lt j
      rw [hf2 j hj]; show ν 48 j = lt j; rw [a48]; exact (hM.arr hj).2
    · rw [A 13 (by omega), ← hν]
      show w j = f3 j ∧ ∃ k, k < 100 ∧ w j = nI k
      rw [hw j hj, hf3 j hj]
      show μ 6 j = ν 49 j ∧ _
      rw [a49]; exact r2 j hj
    · rw [A 14 (by omega), ← hν]
      show s' j = f4 j ∧ (s' j = -1 ∨ 0 ≤ s' j)
      rw [hs j hj, hf4 j hj]
      show μ 7 j = ν 50 j ∧ _
      rw [a50]; exact r3 j hj
    · rw [A 8 (by omega), ← hν]
      show μ 1 3 = _
      rw [hν]
      show μ 1 3 = ν 46 5
      rw [a46]; exact r4.1
    · rw [A 8 (by omega), ← hν]
      obtain ⟨y, hy, y1, y2⟩ := r4.2.1
      refine ⟨y, hy, y1, ?_⟩
      rw [hν]
      show ν 46 6 = nI y
      rw [a46]; exact y2
    · rw [A 8 (by omega), ← hν]
      show μ 1 5 = _
      rw [hν]
      show μ 1 5 = ν 46 7
      rw [a46]; exact r4.2.2
