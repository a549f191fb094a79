/-! the reference's reader: the token ahead -/
def MTK (μ : qM) (T : Nat) (b : Nat → Nat) (s : Nat) : Prop := MT μ T b ∧ s ≤ T ∧ μ 46 31 = nI s ∧ μ 46 32 = nI (tke b T s)
/-- only the reader's own fields change -/
def UF (μ μ' : qM) : Prop := (∀ i, i ≠ 46 → μ' i = μ i) ∧ ∀ k, k ≠ 31 → k ≠ 32 → k ≠ 33 → μ' 46 k = μ 46 k
theorem UF.refl (μ : qM) : UF μ μ := ⟨fun _ _ => rfl, fun _ _ _ _ => rfl⟩
theorem UF.trans {μ μ1 μ2 : qM} (h : UF μ μ1) (g : UF μ1 μ2) : UF μ μ2 := ⟨fun i a => (g.1 i a).trans (h.1 i a), fun k a c d => (g.2 k a c d).trans (h.2 k a c d)⟩
theorem UM.uf {μ μ' : qM} (g : UM μ μ') : UF μ μ' := ⟨g.1, fun k a c _ => g.2 k a c⟩
theorem UF.f {μ : qM} {x : Int32} : UF μ (qu μ 46 33 x) := ⟨fun i a => qu_n a, fun q _ _ d => by rw [qu_s]; exact pk_un d⟩
theorem MTK.f {μ : qM} {T s : Nat} {b : Nat → Nat} (h : MTK μ T b s) {x : Int32} : MTK (qu μ 46 33 x) T b s := h
theorem MTK.next {μ : qM} {T s : Nat} {b : Nat → Nat} (h : MTK μ T b s) (post : qM → Prop) (hp' : ∀ μ', UF μ μ' → μ' 46 33 = μ 46 33 → MTK μ' T b (nxS b T s) → post μ') : w_X11_next post μ := by
  obtain ⟨h1, hs, h2, h3⟩ := h
  have ht := tke_le (b := b) hs
  refine next_sp h1 h3 ht.2.1 _ (fun μ' g a1 a2 => hp' μ' g.uf (g.2 33 (by omega) (by omega)) ⟨g.mt h1, nxS_le hs, a1, a2⟩)
theorem wants_sp {μ : qM} {T s w : Nat} {b : Nat → Nat} (hw : w < 12) (h : MTK μ T b s) (h0 : μ 46 33 = 0) (post : qM → Prop) (h1 : wB b T w s = true → ∀ μ', UF μ μ' → μ' 46 33 = 0 → MTK μ' T b (nxS b T s) → post μ') (h2 : wB b T w s = false → ∀ μ', UF μ μ' → μ' 46 33 = 1 → MTK μ' T b s → post μ') : w_X11_wants w post μ := by
  unfold w_X11_wants q_X11_wants_16 q_X11_wants_21
  refine ⟨fun q => absurd h0 q, fun _ => ?_⟩
  refine mWord_sp hw h.1 h.2.1 h0 h.2.2.1 h.2.2.2 _ (pb_if' (fun hb => ⟨Or.inl rfl, fun q => absurd qu_ss q, fun _ => ?_⟩) (fun hb => ⟨Or.inr rfl, fun _ => ?_, fun q => ?_⟩))
  · exact h.f.next _ (fun μ' g e X => h1 hb μ' (UF.f.trans g) (e.trans qu_ss) X)
  · exact h2 hb _ UF.f qu_ss h.f
  · rw [qu_ss] at q; exact absurd q (by decide)
theorem wants_f {μ : qM} {T s w : Nat} {b : Nat → Nat} (h : MTK μ T b s) (h0 : μ 46 33 = 1) (post : qM → Prop) (hp' : ∀ μ', UF μ μ' → μ' 46 33 = 1 → MTK μ' T b s → post μ') : w_X11_wants w post μ := by
  unfold w_X11_wants q_X11_wants_16 q_X11_wants_21
  refine ⟨fun _ => ⟨Or.inr rfl, fun _ => hp' _ UF.f qu_ss h.f, fun q => ?_⟩, fun q => ?_⟩
  · rw [qu_ss] at q; exact absurd q (by decide)
  · rw [h0] at q; exact absurd q (by decide)
theorem nmB_in {b : Nat → Nat} {T s m : Nat} (hb : ∀ j, b j < 256) (hm : m < 2000000) : inB (nmB b T s) 0 (nI m) = rdB b T m s := by
  have hv : vn b s (tke b T s - s) < 2000000 := vn_lt (fun j => hb _) _
  unfold nmB rdB
  cases hd : diB b T s
  · rw [Bool.false_and]; simp only [Bool.false_eq_true, if_false]
    exact decide_eq_false (fun q => q.1 (by decide))
  · simp only [if_true, Bool.true_and]
    unfold inB
    apply decide_eq_decide.mpr
    constructor
    · rintro ⟨_, h2⟩
      exact Nat.not_lt.mp (fun q => h2 (nI_lt q (by omega)))
    · intro q
      exact ⟨nI_pos (by omega), fun p => by have := pn_lt (by omega) (by omega) p; omega⟩
theorem number_sp {μ : qM} {T s m : Nat} {b : Nat → Nat} (hb : ∀ j, b j < 256) (hm : m < 2000000) (h : MTK μ T b s) (h0 : μ 46 33 = 0) (post : Int32 → qM → Prop) (h1 : rdB b T m s = true → ∀ μ', UF μ μ' → μ' 46 33 = 0 → MTK μ' T b (nxS b T s) → post (nI (vlB b T s)) μ') (h2 : rdB b T m s = false → ∀ μ', UF μ μ' → μ' 46 33 = 1 → MTK μ' T b s → post (nmB b T s) μ') : w_X11_number (nI m) post μ := by
  unfold w_X11_number q_X11_number_22 q_X11_number_27 q_X11_number_41
  refine numberHere_sp h.1 h.2.1 h.2.2.1 h.2.2.2 _ ⟨fun q => absurd h0 q, fun _ => ?_⟩
  rw [within_eq, nmB_in hb hm]
  refine pb_if' (fun hr => ⟨Or.inl rfl, fun q => absurd qu_ss q, fun _ => ?_⟩) (fun hr => ⟨Or.inr rfl, fun _ => ?_, fun q => ?_⟩)
  · have e : nmB b T s = nI (vlB b T s) := by rw [nmB, (rdB_iff.mp hr).1]; rfl
    rw [e]
    exact h.f.next _ (fun μ' g e X => h1 hr μ' (UF.f.trans g) (e.trans qu_ss) X)
  · exact h2 hr _ UF.f qu_ss h.f
  · rw [qu_ss] at q; exact absurd q (by decide)
theorem number_f {μ : qM} {T s m : Nat} {b : Nat → Nat} (h : MTK μ T b s) (h0 : μ 46 33 = 1) (post : Int32 → qM → Prop) (hp' : ∀ r μ', UF μ μ' → μ' 46 33 = 1 → MTK μ' T b s → post r μ') : w_X11_number (nI m) post μ := by
  unfold w_X11_number q_X11_number_22 q_X11_number_27 q_X11_number_41
  refine numberHere_sp h.1 h.2.1 h.2.2.1 h.2.2.2 _ ⟨fun _ => ⟨Or.inr rfl, fun _ => hp' _ _ UF.f qu_ss h.f, fun q => ?_⟩, fun q => ?_⟩
  · rw [qu_ss] at q; exact absurd q (by decide)
  · rw [h0] at q; exact absurd q (by decide)
theorem w_tab : ∀ k, k < 7 → ∀ k', k' < 7 → (wl k = wl k' ∧ ∀ i, i < wl k → wc k i = wc k' i) → k = k' := by decide
theorem wB_inj {b : Nat → Nat} {T s k k' : Nat} (hk : k < 7) (hk' : k' < 7) (h : wB b T k s = true) (h' : wB b T k' s = true) : k = k' := by
  have a := wB_iff.mp h
  have c := wB_iff.mp h'
  have e : wl k = wl k' := a.1.symm.trans c.1
  exact w_tab k hk k' hk' ⟨e, fun i hi => (a.2 i hi).symm.trans (c.2 i (by omega))⟩
theorem mword_sp {μ : qM} {k : Nat} (hk : k < 7) (post : Nat → qM → Prop) (hp' : post k μ) : w_X11_wordOf (nI k) post μ := word_sp hk post hp'
theorem kindHere_sp {μ : qM} {T s : Nat} {b : Nat → Nat} (h : MTK μ T b s) (h0 : μ 46 33 = 0) (post : Int32 → qM → Prop) (h1 : ∀ k, k < 7 → (List.range 7).find? (fun k => wB b T k s) = some k → post (nI k) μ) (h2 : (List.range 7).find? (fun k => wB b T k s) = none → post (-1) μ) : w_X11_kindHere post μ := by
  unfold w_X11_kindHere q_X11_kindHere_3 q_X11_kindHere_24
  have e7 : (6 : Int32) = nI 7 - 1 := by decide
  rw [e7]
  refine for1d (fun i => nI i - 1) (fun i μ' => μ' = μ ∧ i ≤ 7 ∧ ∀ x, i ≤ x → x < 7 → wB b T x s = false) ?_ 7 μ ⟨rfl, Nat.le_refl _, fun x a c => by omega⟩
  rintro P i μ' ⟨rfl, hi, hno⟩ hP
  cases i with
  | zero => exact ⟨fun _ => h2 (find_n (fun x hx => hno x (Nat.zero_le _) hx)), fun q => absurd (by decide) q⟩
  | succ i =>
    show ((nI (i + 1) - 1) < 0 → _) ∧ (¬ (nI (i + 1) - 1) < 0 → _)
    rw [nI_pred]
    refine ⟨fun q => absurd q (nI_pos (by omega)), fun _ => ?_⟩
    have em : nI i + -1 = nI i - 1 := by grind
    rw [em]
    refine mword_sp (by omega) _ ⟨by omega, mWord_sp (by omega) h.1 h.2.1 h0 h.2.2.1 h.2.2.2 _ (pb_if' (fun hb => ?_) (fun hb => ?_))⟩
    · refine h1 i (by omega) (find_s (by omega) hb (fun x hx => ?_))
      cases e : wB b T x s
      · rfl
      · have := wB_inj (by omega) (by omega) hb e; omega
    · exact hP i μ' rfl ⟨rfl, by omega, fun x a c => by
        by_cases e : x = i
        · subst e; exact hb
        · exact hno x (by omega) c⟩
