/-! what can ever be had: the least set that is closed -/
def EE (n : Nat) (kd lt : Nat → Int32) (u : Nat) (C : Nat → Prop) : Prop := hp (ev kd lt (nI u)) n = true ∨ (∃ s, s < 144 ∧ C s ∧ evW n kd lt 0 (nI s) (nI u) = true) ∨ (∃ s s', s < 144 ∧ s' < 144 ∧ s ≠ s' ∧ C s ∧ C s' ∧ fr 0 (nI s) (nI u) = fr 0 (nI s') (nI u))
theorem EE.mono {n : Nat} {kd lt : Nat → Int32} {u : Nat} {C D : Nat → Prop} (h : EE n kd lt u C) (g : ∀ s, s < 144 → C s → D s) : EE n kd lt u D := by
  rcases h with h | ⟨s, hs, hc, he⟩ | ⟨s, s', hs, hs', hn, hc, hc', he⟩
  · exact Or.inl h
  · exact Or.inr (Or.inl ⟨s, hs, g s hs hc, he⟩)
  · exact Or.inr (Or.inr ⟨s, s', hs, hs', hn, g s hs hc, g s' hs' hc', he⟩)
def EV (n : Nat) (kd lt : Nat → Int32) (v : Nat) : Prop := ∀ C : Nat → Prop, (∀ u, u < 144 → stn lt (nI u) n = false → EE n kd lt u C → C u) → C v
theorem EV.step {n : Nat} {kd lt : Nat → Int32} {u : Nat} (hu : u < 144) (hs : stn lt (nI u) n = false) (h : EE n kd lt u (EV n kd lt)) : EV n kd lt u := fun C hC => hC u hu hs (h.mono (fun s _ hs => hs C hC))
theorem EV.lt {n : Nat} {kd lt : Nat → Int32} {v : Nat} (h : EV n kd lt v) : v < 144 ∧ stn lt (nI v) n = false := h (fun v => v < 144 ∧ stn lt (nI v) n = false) (fun _ hu hs _ => ⟨hu, hs⟩)
def addB (f : Nat → Bool) (v : Nat) : Nat → Bool := fun x => f x || x == v
theorem cntB_add {f : Nat → Bool} {v : Nat} (hv : f v = false) : ∀ N, cntB (addB f v) N = cntB f N + (if v < N then 1 else 0) := by
  intro N
  induction N with
  | zero => rfl
  | succ N ih =>
    rw [cntB, cntB, ih]
    by_cases e : N = v
    · subst e
      have h1 : addB f N N = true := by simp [addB]
      rw [h1, hv, if_neg (Nat.lt_irrefl N), if_pos (Nat.lt_succ_self N)]
      rfl
    · have h1 : addB f v N = f N := by simp [addB, e]
      rw [h1]
      by_cases q : v < N
      · rw [if_pos q, if_pos (show v < N + 1 by omega)]; omega
      · rw [if_neg q, if_neg (show ¬ v < N + 1 by omega), Nat.add_zero, Nat.add_zero]
def updN (p : Nat → Nat) (k v : Nat) : Nat → Nat := fun i => if i = k then v else p i
def PI (n : Nat) (kd lt : Nat → Int32) (k : Nat) (p : Nat → Nat) (f : Nat → Bool) : Prop := cntB f 144 = k ∧ (∀ i, i < k → p i < 144 ∧ f (p i) = true ∧ EV n kd lt (p i)) ∧ (∀ v, v < 144 → f v = true → ∃ i, i < k ∧ p i = v) ∧ ∀ i j, i < k → j < k → p i = p j → i = j
theorem PI.le {n : Nat} {kd lt : Nat → Int32} {k : Nat} {p : Nat → Nat} {f : Nat → Bool} (h : PI n kd lt k p f) : k ≤ 144 := by rw [← h.1]; exact cntB_le
theorem PI.lt {n : Nat} {kd lt : Nat → Int32} {k : Nat} {p : Nat → Nat} {f : Nat → Bool} (h : PI n kd lt k p f) {v : Nat} (hv : v < 144) (hf : f v = false) : k < 144 := by
  have h1 := cntB_add hf 144
  rw [if_pos hv, h.1] at h1
  have h2 : cntB (addB f v) 144 ≤ 144 := cntB_le
  omega
theorem PI.add {n : Nat} {kd lt : Nat → Int32} {k : Nat} {p : Nat → Nat} {f : Nat → Bool} (h : PI n kd lt k p f) {v : Nat} (hv : v < 144) (hf : f v = false) (hE : EV n kd lt v) : PI n kd lt (k + 1) (updN p k v) (addB f v) := by
  obtain ⟨h1, h2, h3, h4⟩ := h
  have ne : ∀ i, i < k → p i ≠ v := fun i hi e => by
    have := (h2 i hi).2.1
    rw [e, hf] at this; cases this
  refine ⟨?_, fun i hi => ?_, fun x hx he => ?_, fun i j hi hj he => ?_⟩
  · rw [cntB_add hf, if_pos hv, h1]
  · unfold updN addB
    by_cases e : i = k
    · rw [if_pos e]; exact ⟨hv, by simp, hE⟩
    · rw [if_neg e]
      have := h2 i (by omega)
      exact ⟨this.1, by simp [this.2.1], this.2.2⟩
  · unfold addB at he
    unfold updN
    by_cases e : x = v
    · exact ⟨k, by omega, by rw [if_pos rfl, e]⟩
    · have : f x = true := by simpa [e] using he
      obtain ⟨i, hi, hp⟩ := h3 x hx this
      exact ⟨i, by omega, by rw [if_neg (by omega)]; exact hp⟩
  · unfold updN at he
    by_cases e : i = k
    · by_cases e' : j = k
      · omega
      · rw [if_pos e, if_neg e'] at he
        exact absurd he.symm (ne j (by omega))
    · by_cases e' : j = k
      · rw [if_neg e, if_pos e'] at he
        exact absurd he (ne i (by omega))
      · rw [if_neg e, if_neg e'] at he
        exact h4 i j (by omega) (by omega) he
theorem PI.nil {n : Nat} {kd lt : Nat → Int32} (p : Nat → Nat) : PI n kd lt 0 p (fun _ => false) := ⟨by
  have : ∀ N, cntB (fun _ => false) N = 0 := fun N => by
    induction N with
    | zero => rfl
    | succ N ih => rw [cntB, ih]; rfl
  exact this 144, fun i hi => absurd hi (Nat.not_lt_zero _), fun v _ h => (by cases h), fun i j hi => absurd hi (Nat.not_lt_zero _)⟩
def CL (n : Nat) (kd lt : Nat → Int32) (f : Nat → Bool) : Prop := ∀ u, u < 144 → stn lt (nI u) n = false → EE n kd lt u (fun s => f s = true) → f u = true
theorem PI.done {n : Nat} {kd lt : Nat → Int32} {k : Nat} {p : Nat → Nat} {f : Nat → Bool} (h : PI n kd lt k p f) (hC : CL n kd lt f) : ∀ v, v < 144 → (f v = true ↔ EV n kd lt v) := fun v hv => ⟨fun hf => by
  obtain ⟨i, hi, e⟩ := h.2.2.1 v hv hf
  rw [← e]; exact (h.2.1 i hi).2.2, fun hE => hE (fun s => f s = true) hC⟩
/-! the class's way -/
def opn (n : Nat) (kd lt : Nat → Int32) (p : Nat → Nat) (i u : Nat) : Prop := (∃ j, j < i ∧ fr 0 (nI (p j)) (nI u) = fr 0 (nI (p i)) (nI u)) ∨ evW n kd lt 0 (nI (p i)) (nI u) = true
theorem opn_congr {n : Nat} {kd lt : Nat → Int32} {p p' : Nat → Nat} {i u : Nat} (h : ∀ j, j ≤ i → p j = p' j) : opn n kd lt p i u → opn n kd lt p' i u := by
  rintro (⟨j, hj, e⟩ | e)
  · exact Or.inl ⟨j, hj, by rw [← h j (by omega), ← h i (by omega)]; exact e⟩
  · exact Or.inr (by rw [← h i (by omega)]; exact e)
theorem PI_opn {n : Nat} {kd lt : Nat → Int32} {k : Nat} {p : Nat → Nat} {f : Nat → Bool} (h : PI n kd lt k p f) {i u : Nat} (hi : i < k) (hu : u < 144) (hs : stn lt (nI u) n = false) (ho : opn n kd lt p i u) : EV n kd lt u := by
  refine EV.step hu hs ?_
  have hpi := h.2.1 i hi
  rcases ho with ⟨j, hj, e⟩ | e
  · have hpj := h.2.1 j (by omega)
    exact Or.inr (Or.inr ⟨p j, p i, hpj.1, hpi.1, fun q => by have := h.2.2.2 j i (by omega) hi q; omega, hpj.2.2, hpi.2.2, e⟩)
  · exact Or.inr (Or.inl ⟨p i, hpi.1, hpi.2.2, e⟩)
theorem PI_cl {n : Nat} {kd lt : Nat → Int32} {k : Nat} {p : Nat → Nat} {f : Nat → Bool} (h : PI n kd lt k p f) (c1 : ∀ u, u < 144 → fb n kd lt (nI u) = true → f u = true) (c2 : ∀ i, i < k → ∀ u, u < 144 → stn lt (nI u) n = false → opn n kd lt p i u → f u = true) : CL n kd lt f := by
  intro u hu hs hE
  rcases hE with hE | ⟨s, hs1, hc, he⟩ | ⟨s, s', hs1, hs2, hn, hc, hc', he⟩
  · exact c1 u hu (by rw [fb, hs, hE]; rfl)
  · obtain ⟨i, hi, e⟩ := h.2.2.1 s hs1 hc
    exact c2 i hi u hu hs (Or.inr (by rw [e]; exact he))
  · obtain ⟨i, hi, e⟩ := h.2.2.1 s hs1 hc
    obtain ⟨j, hj, e'⟩ := h.2.2.1 s' hs2 hc'
    rcases Nat.lt_trichotomy i j with q | q | q
    · exact c2 j hj u hu hs (Or.inl ⟨i, q, by rw [e, e']; exact he⟩)
    · subst q; exact absurd (e.symm.trans e') hn
    · exact c2 i hi u hu hs (Or.inl ⟨j, q, by rw [e, e']; exact he.symm⟩)
def XM (μ : qM) (k : Nat) (p : Nat → Nat) (f : Nat → Bool) (V : Nat) : Prop := μ 34 2 = nI k ∧ (∀ i, i < k → μ 36 i = nI (p i)) ∧ ∀ x, x < V → μ 35 x = tb (f x)
def XK (μ μ' : qM) : Prop := ∀ i, i ≠ 5 → i ≠ 34 → i ≠ 35 → i ≠ 36 → μ' i = μ i
theorem XK.refl (μ : qM) : XK μ μ := fun _ _ _ _ _ => rfl
theorem XK.trans {μ μ1 μ2 : qM} (h : XK μ μ1) (g : XK μ1 μ2) : XK μ μ2 := fun i a b c d => (g i a b c d).trans (h i a b c d)
theorem XK.sa {μ μ' : qM} (g : XK μ μ') : SA μ μ' := by
  refine ⟨fun i a _ _ _ => g i ?_ ?_ ?_ ?_, fun k _ => by rw [g 46 (by omega) (by omega) (by omega) (by omega)], fun j _ => ⟨by rw [g 47 (by omega) (by omega) (by omega) (by omega)], by rw [g 48 (by omega) (by omega) (by omega) (by omega)]⟩⟩
  all_goals
    intro e
    subst e
    exact absurd a (by decide)
theorem XK.hx {μ μ' : qM} {n : Nat} {kd lt : Nat → Int32} (g : XK μ μ') (h : HX μ 2 n kd lt) : HX μ' 2 n kd lt := by
  refine ⟨by rw [g 2 (by omega) (by omega) (by omega) (by omega)]; exact h.1, h.2.1, fun j hj => ?_⟩
  rw [g (2 + 1) (by omega) (by omega) (by omega) (by omega), g (2 + 2) (by omega) (by omega) (by omega) (by omega)]; exact h.2.2 j hj
theorem xadd_sp {μ : qM} {k : Nat} {p : Nat → Nat} {f : Nat → Bool} {V v : Nat} (h : XM μ k p f V) (hk : k < 144) (hv : v < 144) (post : qM → Prop) (hp' : ∀ μ', XK μ μ' → XM μ' (k + 1) (updN p k v) (addB f v) V → (∀ x, x ≠ v → μ' 35 x = μ 35 x) → μ' 35 v = 1 → post μ') : w_X7_add 34 (nI v) post μ := by
  obtain ⟨h1, h2, h3⟩ := h
  unfold w_X7_add
  have e1 : (qu μ (34 + 1) (nI v).toNatClampNeg 1) 34 2 = nI k := h1
  rw [e1, h1, clp (show v < 2 ^ 31 by omega), clp (show k < 2 ^ 31 by omega)]
  refine ⟨fun q => absurd (pn_le (a := 144) (by omega) (by omega) q) (by omega), fun _ => ⟨vp_in_nI hv (by omega), Or.inr rfl, vp_in_nI hk (by omega), ?_⟩⟩
  have e2 : (qu (qu μ (34 + 1) v 1) (34 + 2) k (nI v)) 34 2 = nI k := h1
  rw [e2]
  refine hp' _ (fun i a b c d => ?_) ⟨?_, fun i hi => ?_, fun x hx => ?_⟩ (fun x hx => ?_) ?_
  · rw [qu_n b, qu_n d, qu_n c]
  · show nI k + 1 = nI (k + 1)
    exact nI_1 k
  · show upd (μ 36) k (nI v) i = nI (updN p k v i)
    unfold updN
    by_cases e : i = k
    · rw [if_pos e]; subst e; exact pk_us
    · rw [if_neg e, pk_un e]; exact h2 i (by omega)
  · show upd (μ 35) v 1 x = tb (addB f v x)
    unfold addB
    by_cases e : x = v
    · subst e; rw [pk_us]; simp [tb]
    · have e' : (x == v) = false := by simpa using e
      rw [pk_un e, h3 x hx, e', Bool.or_false]
  · show upd (μ 35) v 1 x = μ 35 x
    exact pk_un hx
  · exact pk_us
theorem isOpenedBy_sp {μ : qM} {n : Nat} {kd lt : Nat → Int32} {k : Nat} {p : Nat → Nat} {i u : Nat} (hX : HX μ 2 n kd lt) (hk : k ≤ 144) (hp2 : ∀ i, i < k → μ 36 i = nI (p i)) (hi : i < k) (post : Int32 → qM → Prop) (h1 : opn n kd lt p i u → post 1 μ) (h0 : ¬ opn n kd lt p i u → post 0 μ) : w_X7_isOpenedBy 34 2 (nI i) (nI u) post μ := by
  unfold w_X7_isOpenedBy q_X7_isOpenedBy_16
  have vi : vp_in (nI i) 144 := vp_in_nI (by omega) (by omega)
  rw [clp (by omega)]
  have ei : μ (34 + 2) i = nI (p i) := hp2 i hi
  rw [ei, measure_eq]
  refine ⟨vi, ?_⟩
  refine for1 i (fun j μ' => μ' = μ ∧ ∀ x, x < j → ¬ fr 0 (nI (p x)) (nI u) = fr 0 (nI (p i)) (nI u)) ?_ 0 (Nat.zero_le _) ⟨rfl, fun _ q => absurd q (Nat.not_lt_zero _)⟩
  rintro P j μ' hj ⟨rfl, hno⟩ hP
  refine ⟨fun hx => ⟨vi, ?_⟩, fun hx => ?_⟩
  · have : i ≤ j := pn_le (by omega) (by omega) hx
    rw [ei]
    refine isEvenWith_sp hX _ _ _ _ ⟨tb_01 _, ?_⟩
    cases he : evW n kd lt 0 (nI (p i)) (nI u)
    · refine h0 ?_
      rintro (⟨x, hx, e⟩ | e)
      · exact hno x (by omega) e
      · rw [he] at e; cases e
    · exact h1 (Or.inr he)
  · have hlt : j < i := pn_nle (by omega) (by omega) hx
    rw [clp (show j < 2 ^ 31 by omega)]
    have ej : μ' (34 + 2) j = nI (p j) := hp2 j (by omega)
    rw [ej, measure_eq]
    refine ⟨vp_in_nI (by omega) (by omega), fun q => hP _ hlt ⟨rfl, fun x hx => ?_⟩, fun q => ⟨Or.inr rfl, h1 (Or.inl ⟨j, hlt, q⟩)⟩⟩
    by_cases e : x = j
    · subst e; exact q
    · exact hno x (by omega)
