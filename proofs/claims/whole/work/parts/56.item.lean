/-! an item: what a text asks, from where its first token starts -/
def rdB (b : Nat → Nat) (T m s : Nat) : Bool := diB b T s && decide (vn b s (tke b T s - s) ≤ m)
def vlB (b : Nat → Nat) (T s : Nat) : Nat := vn b s (tke b T s - s)
def nxS (b : Nat → Nat) (T s : Nat) : Nat := tks b T (tke b T s)
theorem nxS_le {b : Nat → Nat} {T s : Nat} (h : s ≤ T) : nxS b T s ≤ T := (tks_le (tke_le h).2.1).2
theorem rdB_iff {b : Nat → Nat} {T m s : Nat} : rdB b T m s = true ↔ diB b T s = true ∧ vlB b T s ≤ m := by
  unfold rdB vlB
  rw [Bool.and_eq_true, decide_eq_true_eq]
/-- the class's scribe has read the token that starts at s -/
def XT (μ : qM) (T : Nat) (b : Nat → Nat) (s : Nat) : Prop := TX μ T b ∧ s ≤ T ∧ μ 66 2 = nI s ∧ μ 66 3 = nI (tke b T s) ∧ μ 66 4 = tyB b T s ∧ (diB b T s = true → μ 66 5 = nI (vlB b T s))
theorem XT.next {μ : qM} {T s : Nat} {b : Nat → Nat} (h : XT μ T b s) (post : qM → Prop) (hp' : ∀ μ', UK μ μ' → XT μ' T b (nxS b T s) → post μ') : w_X5_advance post μ := by
  obtain ⟨h1, hs, h2, h3, h4, h5⟩ := h
  have ht := tke_le (b := b) hs
  refine adv_sp h1 h3 ht.2.1 _ (fun μ' g a1 a2 a3 a4 => hp' μ' g ⟨g.tx h1, nxS_le hs, a1, a2, a3, a4⟩)
theorem XT.word {μ : qM} {T s w : Nat} {b : Nat → Nat} (h : XT μ T b s) (hw : w < 11) (post : Int32 → qM → Prop) (hp' : post (tb (wB b T w s)) μ) : w_X5_isWord w post μ := xWord_sp hw h.1 h.2.1 h.2.2.1 h.2.2.2.1 h.2.2.2.2.1 post hp'
theorem XT.nword {μ : qM} {T s w : Nat} {b : Nat → Nat} (h : XT μ T b s) (hw : w < 11) (post : Int32 → qM → Prop) (hp' : ∀ μ', UK μ μ' → XT μ' T b (nxS b T s) → post (tb (wB b T w (nxS b T s))) μ') : w_X5_isNextWord w post μ := by
  unfold w_X5_isNextWord
  exact h.next _ (fun μ' g h' => h'.word hw _ ⟨tb_01 _, hp' μ' g h'⟩)
theorem ty2 {b : Nat → Nat} {T s : Nat} : (tyB b T s = 2) = (diB b T s = true) := by
  rw [eq_iff_iff]
  have d : leB b T s = true → diB b T s = false := fun hl => by
    cases q : diB b T s
    · rfl
    · have a := (of_decide_eq_true hl).1
      have c := (of_decide_eq_true q).2
      exact absurd (Int32.lt_of_lt_of_le (show (57 : Int32) < 97 by decide) (Int32.not_lt.mp a)) c
  unfold tyB
  cases hl : leB b T s
  · cases hd : diB b T s
    · simp only [Bool.false_eq_true, if_false, iff_false]
      split
      · split <;> decide
      · decide
    · simp
  · rw [d hl]
    simp only [if_true]
    decide
theorem TX.vl {μ : qM} {T s : Nat} {b : Nat → Nat} (h : TX μ T b) (hb : ∀ j, b j < 256) : vlB b T s < 2000000 := vn_lt (fun j => hb _) _
theorem XT.nnum {μ : qM} {T s m : Nat} {b : Nat → Nat} (h : XT μ T b s) (hb : ∀ j, b j < 256) (hm : m < 2000000) (post : Int32 → qM → Prop) (hp' : ∀ μ', UK μ μ' → XT μ' T b (nxS b T s) → post (tb (rdB b T m (nxS b T s))) μ') : w_X5_isNextNumber (nI m) post μ := by
  unfold w_X5_isNextNumber q_X5_isNextNumber_24
  refine h.next _ (fun μ' g h' => ?_)
  have hp2 := hp' μ' g h'
  have hv := h'.1.vl (s := nxS b T s) hb
  rw [h'.2.2.2.2.1, ty2]
  refine ⟨fun q => ⟨Or.inl rfl, ?_⟩, fun q => ?_⟩
  · have : rdB b T m (nxS b T s) = false := by
      cases e : rdB b T m (nxS b T s)
      · rfl
      · exact absurd (rdB_iff.mp e).1 q
    rw [this] at hp2; exact hp2
  · rw [h'.2.2.2.2.2 q]
    refine ⟨fun q2 => ⟨Or.inl rfl, ?_⟩, fun q2 => ⟨Or.inr rfl, ?_⟩⟩
    · have q3 : m < vlB b T (nxS b T s) := pn_lt (by omega) (by omega) q2
      have : rdB b T m (nxS b T s) = false := by
        cases e : rdB b T m (nxS b T s)
        · rfl
        · have := (rdB_iff.mp e).2; omega
      rw [this] at hp2; exact hp2
    · have q3 : vlB b T (nxS b T s) ≤ m := pn_nlt (by omega) (by omega) q2
      rw [rdB_iff.mpr ⟨q, q3⟩] at hp2; exact hp2
