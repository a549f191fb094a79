def kSp : Nat → Int32 := (upd (upd (upd (upd (upd (upd (upd (upd (upd (upd (fun _ => 0) 0 (-1)) 1 (-1)) 2 (-1)) 3 (-1)) 4 (-1)) 5 (-1)) 6 (-1)) 7 (-1)) 8 (-1)) 9 (-1))
theorem kSp_ok : ∀ j, j < 10 → kSp j = -1 := by
  intro j hj
  rcases (show j = 0 ∨ j = 1 ∨ j = 2 ∨ j = 3 ∨ j = 4 ∨ j = 5 ∨ j = 6 ∨ j = 7 ∨ j = 8 ∨ j = 9 by omega) with rfl | rfl | rfl | rfl | rfl | rfl | rfl | rfl | rfl | rfl <;> rfl
def q0M (fA fB fC : Nat → Int32) : qM := fun i => if i = 7 then fA else if i = 14 then fB else if i = 21 then fC else if i = 50 then kSp else if i = 1 then (fun k => if k = 3 then 100 else if k = 5 then 1 else 0) else if i = 8 then (fun k => if k = 3 then 100 else if k = 5 then 1 else 0) else if i = 15 then (fun k => if k = 3 then 100 else if k = 5 then 1 else 0) else if i = 37 then (fun k => if k = 2 then -1 else if k = 3 then -1 else 0) else if i = 40 then (fun k => if k = 2 then -1 else 0) else if i = 46 then (fun k => if k = 5 then 100 else if k = 7 then 1 else 0) else (fun _ => 0)
theorem RI_start {fA fB fC : Nat → Int32} (hA : ∀ j, j < 10 → fA j = -1) : RI (q0M fA fB fC) := by
  refine ⟨⟨⟨0, fun _ => 0, fun _ => 0, ⟨rfl, Nat.zero_le _, fun j hj => absurd hj (Nat.not_lt_zero _)⟩, ⟨rfl, Nat.zero_le _, fun j hj => absurd hj (Nat.not_lt_zero _)⟩, ?_⟩, fun j hj => ⟨rfl, 0, by omega, rfl⟩, fun j hj => ⟨(hA j hj).trans (kSp_ok j hj).symm, Or.inl (hA j hj)⟩, ⟨rfl, ⟨0, by omega, rfl, rfl⟩, rfl⟩, ⟨rfl, Or.inl rfl, fun e => absurd (show (0 : Int32) = 1 from e) (by decide)⟩, ⟨0, by omega, rfl, rfl, fun j hj => absurd hj (Nat.not_lt_zero _)⟩, fun t ht => ?_⟩, fun j hj => rfl⟩
  · exact fun j hj => absurd hj (Nat.not_lt_zero _)
  · rcases (show t = 0 ∨ t = 1 ∨ t = 2 ∨ t = 3 by omega) with rfl | rfl | rfl | rfl
    · exact ⟨rfl, Or.inl rfl, ⟨0, by omega, rfl, rfl⟩, fun j hj => rfl⟩
    · exact ⟨rfl, Or.inl rfl, ⟨0, by omega, rfl, rfl⟩, fun j hj => rfl⟩
    · exact ⟨rfl, Or.inl rfl, ⟨0, by omega, rfl, rfl⟩, fun j hj => rfl⟩
    · exact ⟨rfl, Or.inl rfl, ⟨0, by omega, rfl, rfl⟩, fun j hj => rfl⟩
def kPl (o : Nat) : Nat := if o < 25 then o else if o < 33 then o + 13 else if o < 46 then o - 8 else o
theorem kPl_inj {i j : Nat} (hi : i < 66) (hj : j < 66) (h : kPl i = kPl j) : i = j := by
  unfold kPl at h
  split at h <;> (try split at h) <;> (try split at h) <;> (try split at h) <;> (try split at h) <;> (try split at h) <;> omega
/-- a world given by places -/
theorem kW_P {G : qG} {μ : qM} {ws : va_W} {H : Heap} (hn : gn G = 66) (he : ∀ o, o < 66 → ws[kPl o]? = some (ga G o, qcK G μ (qk o) o)) (hP : va_P (gD G) vwCl ws H) : qH G μ H := by
  intro k q hk
  have hl : k < 66 := by
    have := (List.getElem?_eq_some_iff.mp hk).1
    rw [qW_len, hn] at this
    exact this
  rw [qW_at (by omega) rfl] at hk
  cases hk
  exact hP _ _ (he k hl)
theorem kW_D {G : qG} {μ : qM} {ws : va_W} (hn : gn G = 66) (he : ∀ o, o < 66 → ws[kPl o]? = some (ga G o, qcK G μ (qk o) o)) (hD : va_D (qA G) ws) : va_D (qA G) (qW G μ) := by
  have lt : ∀ (k : Nat) (q : Nat × va_E), (qW G μ)[k]? = some q → k < 66 ∧ ws[kPl k]? = some q := by
    intro k q hk
    have hl : k < 66 := by
      have := (List.getElem?_eq_some_iff.mp hk).1
      rw [qW_len, hn] at this
      exact this
    rw [qW_at (by omega) rfl] at hk
    cases hk
    exact ⟨hl, he k hl⟩
  refine ⟨fun i j x y hi hj hxy => ?_, fun k q hk => hD.2 _ q (lt k q hk).2⟩
  obtain ⟨a1, a2⟩ := lt i x hi
  obtain ⟨b1, b2⟩ := lt j y hj
  exact kPl_inj a1 b1 (hD.1 _ _ x y a2 b2 hxy)
