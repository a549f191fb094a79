def txt (b : Nat → Nat) (T : Nat) : Nat → Nat → Nat → (Nat × (Nat → Int32) × (Nat → Int32) × Int32 × (Nat → Int32)) → Bool × Nat × (Nat × (Nat → Int32) × (Nat → Int32) × Int32 × (Nat → Int32))
  | 0, _, s, st => (false, s, st)
  | k + 1, m, s, st =>
    if (itm b T s st).1 = false then (false, (itm b T s st).2.1, st)
    else if T ≤ nxS b T (itm b T s st).2.1 then (true, m, (itm b T s st).2.2)
    else if wB b T 11 (nxS b T (itm b T s st).2.1) = false then (false, nxS b T (itm b T s st).2.1, st)
    else txt b T k (m + 1) (nxS b T (nxS b T (itm b T s st).2.1)) (itm b T s st).2.2
theorem ty0 {b : Nat → Nat} {T s : Nat} (hs : s ≤ T) : (tyB b T s = 0) = (T ≤ s) := by
  rw [eq_iff_iff]
  unfold tyB
  by_cases q : s < T
  · have : ¬ T ≤ s := by omega
    simp only [this, iff_false]
    split
    · decide
    · split
      · decide
      · first
          | (rw [if_pos q]; split <;> decide)
          | (split <;> decide)
  · have hl : leB b T s = false := by
      cases e : leB b T s
      · rfl
      · exact absurd (inB_lt (by decide) e) q
    have hd : diB b T s = false := by
      cases e : diB b T s
      · rfl
      · exact absurd (inB_lt (by decide) e) q
    rw [hl, hd, if_neg q]
    simp only [Bool.false_eq_true, if_false, true_iff]
    omega
theorem ty3 {b : Nat → Nat} {T s : Nat} (hb : ∀ j, b j < 256) (hs : s < T) : (tyB b T s = 3) = (wB b T 11 s = true) := by
  rw [eq_iff_iff, wB_iff]
  have ea : atB b T s = nI (b s) := if_pos hs
  have b256 := hb s
  have w1 : wl 11 = 1 := rfl
  have c0 : wc 11 0 = 59 := rfl
  by_cases e59 : b s = 59
  · have hl : leB b T s = false := by unfold leB; rw [ea, e59]; decide
    have hd : diB b T s = false := by unfold diB; rw [ea, e59]; decide
    have et : tke b T s = s + 1 := by rw [tke, hl, hd]; simp [hs]
    refine ⟨fun _ => ⟨by rw [et, w1]; omega, fun i hi => ?_⟩, fun _ => ?_⟩
    · have : i = 0 := by omega
      subst this
      rw [Nat.add_zero, ea, e59, c0]; rfl
    · rw [tyB, hl, hd, if_pos hs, if_pos e59]; rfl
  · refine ⟨fun q => ?_, fun q => ?_⟩
    · exfalso
      revert q
      unfold tyB
      rw [if_pos hs, if_neg e59]
      split
      · decide
      · split <;> decide
    · have := q.2 0 (by omega)
      rw [Nat.add_zero, ea, c0] at this
      exact absurd (pn_eq (b := 59) (by omega) (by omega) this) e59
theorem xread_sp {μ : qM} {T : Nat} {b : Nat → Nat} {st : (Nat × (Nat → Int32) × (Nat → Int32) × Int32 × (Nat → Int32))} (h : TX μ T b) (h3 : μ 66 3 = nI 0) (hb : ∀ j, b j < 256) (hS : XS μ st) (post : Int32 → qM → Prop) (h1 : ∀ μ' m st', txt b T 200 1 (tks b T 0) st = (true, m, st') → m ≤ 200 → KT μ μ' → XS μ' st' → post (nI m) μ') (h0 : ∀ μ' s st', txt b T 200 1 (tks b T 0) st = (false, s, st') → s ≤ 200 → KT μ μ' → post (-1 - nI s) μ') : w_X5_read post μ := by
  have hT := h.1
  unfold w_X5_read q_X5_read_2
  generalize hR : txt b T 200 1 (tks b T 0) st = R at h0 h1
  refine for1 121 (fun m μ' => ∃ k e st', 1 ≤ m ∧ KT μ μ' ∧ TX μ' T b ∧ μ' 66 3 = nI e ∧ e ≤ T ∧ XS μ' st' ∧ 2 * (m - 1) ≤ e ∧ T < k + e ∧ R = txt b T k m (tks b T e) st') ?_ 1 (by omega) ⟨200, 0, st, Nat.le_refl _, KT.refl _, h, h3, Nat.zero_le _, hS, by omega, by omega, hR.symm⟩
  rintro P m μ' hm ⟨k, e, st', m1, hK, hX, e3, he, hS', h2m, hk, htx⟩ hP
  refine ⟨fun hx => ?_, fun hx => ?_⟩
  · have := pn_lt (a := 120) (b := m) (by omega) (by omega) hx
    omega
  · refine adv_sp hX e3 he _ (fun μ1 g1 a1 a2 a3 a4 => ?_)
    have hs := tks_le (b := b) he
    have X1 : XT μ1 T b (tks b T e) := ⟨g1.tx hX, hs.2, a1, a2, a3, a4⟩
    have S1 := g1.xs hS'
    generalize tks b T e = s at hs X1 htx
    obtain ⟨k, rfl⟩ : ∃ k', k = k' + 1 := ⟨k - 1, by omega⟩
    rw [txt] at htx
    have il := itm_le (b := b) (st := st') hs.2
    refine xitem_sp X1 hb S1 _ (fun μ2 g2 X2 S2 => pb_if' (fun hi => ?_) (fun hi => ?_))
    · rw [if_neg (by rw [hi]; decide)] at htx
      have il2 := il.2 hi
      generalize (itm b T s st').2.1 = t at htx il il2 X2
      generalize (itm b T s st').2.2 = st2 at htx S2
      have gt := nxS_ge (b := b) il.1
      have lt' := nxS_le (b := b) il.1
      refine X2.next _ (fun μ3 g3 X3 => ?_)
      have K3 := ((hK.trans g1.kt).trans g2).trans g3.kt
      have S3 := g3.xs S2
      rw [X3.2.2.2.2.1, ty0 lt']
      refine ⟨fun q => ?_, fun q => ?_⟩
      · rw [if_neg q] at htx
        have hlt : nxS b T t < T := by omega
        rw [ty3 hb hlt]
        refine ⟨fun q2 => ?_, fun q2 => ?_⟩
        · rw [if_neg (by rw [q2]; decide)] at htx
          have te := tke_le (b := b) lt'
          have := te.2.2 hlt
          refine hP _ (by omega) ⟨k, tke b T (nxS b T t), st2, by omega, K3, X3.1, X3.2.2.2.1, te.2.1, S3, by omega, by omega, htx⟩
        · rw [if_pos (by simpa using q2)] at htx
          rw [X3.2.2.1]
          exact h0 μ3 _ _ htx (by omega) K3
      · rw [if_pos q] at htx
        exact h1 μ3 _ _ htx (by omega) K3 S3
    · rw [if_pos hi] at htx
      rw [X2.2.2.1]
      exact h0 μ2 _ _ htx (by omega) ((hK.trans g1.kt).trans g2)
