def MT (μ : qM) (T : Nat) (b : Nat → Nat) : Prop := T ≤ 120 ∧ μ 46 18 = nI T ∧ ∀ j, j < T → μ 55 j = nI (b j) ∧ b j < 256
theorem isByte_eq {μ : qM} {T : Nat} {b : Nat → Nat} (h : MT μ T b) {j : Nat} (hj : j < 2 ^ 30) {lo hi : Int32} (hlo : (-1 : Int32) < lo) (post : Int32 → qM → Prop) : w_X11_isByte (nI j) lo hi post μ = post (tb (inB (atB b T j) lo hi)) μ := by
  obtain ⟨hT, h1, h2⟩ := h
  unfold w_X11_isByte q_X11_isByte_26
  simp only [within_eq]
  rw [h1, clp (by omega)]
  by_cases q : j < T
  · have n1 : ¬ nI T ≤ nI j := fun p => by have := pn_le (by omega) (by omega) p; omega
    have v : vp_in (nI j) 120 := vp_in_nI (by omega) (by omega)
    rw [(h2 j q).1, show atB b T j = nI (b j) from if_pos q]
    cases e : inB (nI (b j)) lo hi
    · simp [n1, v, tb]
    · simp [n1, v, tb]
  · have n1 : nI T ≤ nI j := nI_le (by omega) (by omega)
    have e : inB (atB b T j) lo hi = false := by
      cases e : inB (atB b T j) lo hi
      · rfl
      · exact absurd (inB_lt hlo e) q
    rw [e]
    simp [n1, tb]
def UM (μ μ' : qM) : Prop := (∀ i, i ≠ 46 → μ' i = μ i) ∧ ∀ k, k ≠ 31 → k ≠ 32 → μ' 46 k = μ 46 k
theorem UM.refl (μ : qM) : UM μ μ := ⟨fun _ _ => rfl, fun _ _ _ => rfl⟩
theorem UM.trans {μ μ1 μ2 : qM} (h : UM μ μ1) (g : UM μ1 μ2) : UM μ μ2 := ⟨fun i a => (g.1 i a).trans (h.1 i a), fun k a c => (g.2 k a c).trans (h.2 k a c)⟩
theorem UM.u {μ : qM} {k : Nat} {x : Int32} (h : k = 31 ∨ k = 32) : UM μ (qu μ 46 k x) := ⟨fun i a => qu_n a, fun q a c => by
  rw [qu_s]; exact pk_un (by omega)⟩
theorem UM.mt {μ μ' : qM} {T : Nat} {b : Nat → Nat} (g : UM μ μ') (h : MT μ T b) : MT μ' T b := by
  unfold MT
  rw [g.2 18 (by omega) (by omega), g.1 55 (by omega)]; exact h
theorem next_sp {μ : qM} {T e : Nat} {b : Nat → Nat} (h : MT μ T b) (h3 : μ 46 32 = nI e) (he : e ≤ T) (post : qM → Prop) (hp' : ∀ μ', UM μ μ' → μ' 46 31 = nI (tks b T e) → μ' 46 32 = nI (tke b T (tks b T e)) → post μ') : w_X11_next post μ := by
  have hT := h.1
  have l32 : (-1 : Int32) < 32 := by decide
  have l97 : (-1 : Int32) < 97 := by decide
  have l48 : (-1 : Int32) < 48 := by decide
  unfold w_X11_next q_X11_next_8
  refine for0 (fun i ν => ∃ j, i + (e + j) = T ∧ UM μ ν ∧ ν 46 31 = nI (e + j) ∧ nx (spB b T) T (e + j) = tks b T e) ?_ (T - e) _ ⟨0, by omega, UM.u (Or.inl rfl), by rw [qu_ss]; exact h3, rfl⟩
  rintro P i ν ⟨j, hi, g, f1, hn⟩ hP
  have hν := g.mt h
  rw [f1, isByte_eq hν (by omega) l32]
  refine pb_if (fun hb => ?_) (fun hb => ?_)
  · have et : tks b T e = e + j := by rw [← hn, nx_f hb]
    rw [← et] at f1
    have hs := tks_le (b := b) he
    generalize tks b T e = s at hp' f1 hs et
    have e1 : (qu ν 46 32 (ν 46 31)) 46 31 = nI s := f1
    have e2 : (qu ν 46 32 (ν 46 31)) 46 32 = nI s := by rw [qu_ss]; exact f1
    have g0 : UM μ (qu ν 46 32 (ν 46 31)) := g.trans (UM.u (Or.inr rfl))
    rw [e1]
    generalize (qu ν 46 32 (ν 46 31)) = ν0 at e1 e2 g0
    have h0 := g0.mt h
    rw [isByte_eq h0 (by omega) l97, e1, isByte_eq h0 (by omega) l48]
    have fin : ∀ (ρ : qM) (x : Int32), UM μ ρ → ρ 46 31 = nI s → ρ 46 32 + x = nI (tke b T s) → post (qu ρ 46 32 (ρ 46 32 + x)) := fun ρ x gρ r1 r2 => hp' _ (gρ.trans (UM.u (Or.inr rfl))) r1 (by rw [qu_ss]; exact r2)
    have z0 : ∀ x : Int32, x + 0 = x := Int32.add_zero
    unfold q_X11_next_70 q_X11_next_89 q_X11_next_121 q_X11_next_149 q_X11_next_150 q_X11_next_108
    cases hl : inB (atB b T s) 97 122
    · cases hd : inB (atB b T s) 48 57
      · have e4 : tke b T s = if s < T then s + 1 else s := by
          rw [tke, show leB b T s = false from hl, show diB b T s = false from hd]; rfl
        refine for0 (fun i ρ => ρ = ν0) ?_ 0 ν0 rfl
        rintro P' i ρ rfl hP'
        refine ⟨fun _ => ⟨fun _ => ⟨fun q => absurd rfl q, fun _ => ⟨fun q => absurd rfl q, fun _ => ?_⟩⟩, fun q => absurd rfl q⟩, fun q => absurd rfl q⟩
        rw [h0.2.1, e1]
        refine ⟨fun q => fin _ _ g0 e1 ?_, fun q => fin _ _ g0 e1 ?_⟩
        · have : T ≤ s := pn_le (by omega) (by omega) q
          rw [z0, e2, e4, if_neg (by omega)]
        · have : s < T := pn_nle (by omega) (by omega) q
          rw [e2, e4, if_pos this, nI_1]
      · have e4 : tke b T s = nx (diB b T) T s := by
          rw [tke, show leB b T s = false from hl, show diB b T s = true from hd]; rfl
        have hsT : s < T := inB_lt l48 hd
        refine for0 (fun i ρ => ∃ j, i + j + s = T ∧ UM μ ρ ∧ ρ 46 31 = nI s ∧ ρ 46 32 = nI (s + j) ∧ nx (diB b T) T (s + j) = tke b T s) ?_ (T - s) ν0 ⟨0, by omega, g0, e1, e2, e4.symm⟩
        rintro P' i ρ ⟨j, hi, gρ, r1, r2, hn⟩ hP'
        have hρ := gρ.mt h
        refine ⟨fun _ => ⟨fun q => absurd q (by decide), fun _ => ?_⟩, fun q => absurd rfl q⟩
        rw [r2, isByte_eq hρ (by omega) l48]
        refine pb_if (fun hb' => ⟨fun q => absurd rfl q, fun _ => ⟨fun _ => ?_, fun q => absurd q (by decide)⟩⟩) (fun hb' => ?_)
        · have := fin ρ 0 gρ r1 (by rw [z0, r2, ← hn, nx_f hb'])
          exact this
        · have hjT : s + j < T := inB_lt l48 hb'
          have := hP' (i - 1) (qu ρ 46 32 (ρ 46 32 + 1)) (by omega) ⟨j + 1, by omega, gρ.trans (UM.u (Or.inr rfl)), r1, by rw [qu_ss, r2, nI_1]; rfl, by rw [← hn, nx_t hjT hb']; rfl⟩
          exact this
    · have nd : inB (atB b T s) 48 57 = false := by
        cases q : inB (atB b T s) 48 57
        · rfl
        · have a := (of_decide_eq_true hl).1
          have c := (of_decide_eq_true q).2
          exact absurd (Int32.lt_of_lt_of_le (show (57 : Int32) < 97 by decide) (Int32.not_lt.mp a)) c
      have e4 : tke b T s = nx (leB b T) T s := by
        rw [tke, show leB b T s = true from hl]; rfl
      have hsT : s < T := inB_lt l97 hl
      rw [nd]
      refine for0 (fun i ρ => ∃ j, i + j + s = T ∧ UM μ ρ ∧ ρ 46 31 = nI s ∧ ρ 46 32 = nI (s + j) ∧ nx (leB b T) T (s + j) = tke b T s) ?_ (T - s) ν0 ⟨0, by omega, g0, e1, e2, e4.symm⟩
      rintro P' i ρ ⟨j, hi, gρ, r1, r2, hn⟩ hP'
      have hρ := gρ.mt h
      refine ⟨fun q => absurd q (by decide), fun _ => ?_⟩
      rw [r2, isByte_eq hρ (by omega) l97]
      refine pb_if' (fun hb' => ?_) (fun hb' => ⟨fun _ => ⟨fun _ => ?_, fun q => absurd q (by decide)⟩, fun q => absurd rfl q⟩)
      · have hjT : s + j < T := inB_lt l97 hb'
        have := hP' (i - 1) (qu ρ 46 32 (ρ 46 32 + 1)) (by omega) ⟨j + 1, by omega, gρ.trans (UM.u (Or.inr rfl)), r1, by rw [qu_ss, r2, nI_1]; rfl, by rw [← hn, nx_t hjT hb']; rfl⟩
        exact this
      · have := fin ρ 0 gρ r1 (by rw [z0, r2, ← hn, nx_f hb'])
        exact this
  · have hjT : e + j < T := inB_lt l32 hb
    have := hP (i - 1) (qu ν 46 31 (ν 46 31 + 1)) (by omega) ⟨j + 1, by omega, g.trans (UM.u (Or.inl rfl)), by rw [qu_ss, f1, nI_1]; rfl, by rw [← hn, nx_t hjT hb]; rfl⟩
    exact this
