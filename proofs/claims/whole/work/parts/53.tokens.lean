/-! texts: tokens -/
theorem for0 {F : (qM → Prop) → qM → Prop} (I : Nat → qM → Prop) (h : ∀ (P : qM → Prop) (i : Nat) (μ : qM), I i μ → (∀ i' μ', i' < i → I i' μ' → P μ') → F P μ) : ∀ (i : Nat) (μ : qM), I i μ → qL0 F μ := by
  intro i μ hI P hP
  have key : ∀ (m i : Nat) (μ : qM), i < m → I i μ → P μ := by
    intro m
    induction m with
    | zero => intro i μ hm; omega
    | succ m ih =>
      intro i μ hm hI
      exact hP _ (h P i μ hI (fun i' μ' hlt hI' => ih i' μ' (by omega) hI'))
  exact key _ i μ (Nat.lt_succ_self _) hI
def atB (b : Nat → Nat) (T j : Nat) : Int32 := if j < T then nI (b j) else -1
def spB (b : Nat → Nat) (T j : Nat) : Bool := inB (atB b T j) 32 32
def leB (b : Nat → Nat) (T j : Nat) : Bool := inB (atB b T j) 97 122
def diB (b : Nat → Nat) (T j : Nat) : Bool := inB (atB b T j) 48 57
theorem inB_lt {b : Nat → Nat} {T j : Nat} {lo hi : Int32} (hlo : (-1 : Int32) < lo) (h : inB (atB b T j) lo hi = true) : j < T := by
  by_cases q : j < T
  · exact q
  · rw [atB, if_neg q] at h
    exact absurd hlo (of_decide_eq_true h).1
def fw (p : Nat → Bool) : Nat → Nat → Nat
  | 0, s => s
  | k + 1, s => if p s then fw p k (s + 1) else s
def nx (p : Nat → Bool) (T s : Nat) : Nat := fw p (T - s) s
theorem nx_t {p : Nat → Bool} {T s : Nat} (hs : s < T) (h : p s = true) : nx p T s = nx p T (s + 1) := by
  unfold nx
  obtain ⟨k, hk⟩ : ∃ k, T - s = k + 1 := ⟨T - s - 1, by omega⟩
  rw [hk, fw, h, show T - (s + 1) = k by omega]; rfl
theorem nx_f {p : Nat → Bool} {T s : Nat} (h : p s = false) : nx p T s = s := by
  unfold nx
  cases T - s with
  | zero => rfl
  | succ k => rw [fw, h]; rfl
theorem nx_le {p : Nat → Bool} {T s : Nat} (hs : s ≤ T) : s ≤ nx p T s ∧ nx p T s ≤ T := by
  unfold nx
  generalize hk : T - s = k
  induction k generalizing s with
  | zero => exact ⟨Nat.le_refl _, hs⟩
  | succ k ih =>
    rw [fw]
    split
    · have := ih (s := s + 1) (by omega) (by omega)
      omega
    · omega
/-- where a token starts and ends -/
def tks (b : Nat → Nat) (T e : Nat) : Nat := nx (spB b T) T e
def tke (b : Nat → Nat) (T s : Nat) : Nat := if leB b T s then nx (leB b T) T s else if diB b T s then nx (diB b T) T s else if s < T then s + 1 else s
theorem tks_le {b : Nat → Nat} {T e : Nat} (h : e ≤ T) : e ≤ tks b T e ∧ tks b T e ≤ T := nx_le h
theorem tke_le {b : Nat → Nat} {T s : Nat} (h : s ≤ T) : s ≤ tke b T s ∧ tke b T s ≤ T ∧ (s < T → s < tke b T s) := by
  unfold tke
  have key : ∀ p : Nat → Bool, p s = true → s ≤ nx p T s ∧ nx p T s ≤ T ∧ (s < T → s < nx p T s) := fun p hp => by
    refine ⟨(nx_le h).1, (nx_le h).2, fun q => ?_⟩
    rw [nx_t q hp]
    have := (nx_le (p := p) (T := T) (s := s + 1) (by omega)).1
    omega
  split
  · rename_i hp; exact key _ hp
  · split
    · rename_i hp; exact key _ hp
    · split <;> omega
/-- the value of digits -/
def vn (b : Nat → Nat) (s : Nat) : Nat → Nat
  | 0 => 0
  | j + 1 => if vn b s j ≤ 99999 then 10 * vn b s j + b (s + j) - 48 else vn b s j
def tyB (b : Nat → Nat) (T s : Nat) : Int32 := if leB b T s then 1 else if diB b T s then 2 else if s < T then (if b s = 59 then 3 else 4) else 0
def TX (μ : qM) (T : Nat) (b : Nat → Nat) : Prop := T ≤ 120 ∧ μ 22 1 = nI T ∧ ∀ j, j < T → μ 23 j &&& 255 = nI (b j) ∧ b j < 256
theorem at_eq {μ : qM} {T : Nat} {b : Nat → Nat} (h : TX μ T b) {j : Nat} (hj : j < 2 ^ 30) (post : Int32 → qM → Prop) : w_X8_at 22 (nI j) post μ = post (atB b T j) μ := by
  obtain ⟨hT, h1, h2⟩ := h
  unfold w_X8_at q_X8_at_25 atB
  have n0 : ¬ nI j < 0 := nI_pos (by omega)
  rw [h1, clp (by omega)]
  by_cases q : j < T
  · have n1 : ¬ nI T ≤ nI j := fun p => by have := pn_le (by omega) (by omega) p; omega
    have v : vp_in (nI j) 120 := vp_in_nI (by omega) (by omega)
    rw [if_pos q, show μ (22 + 1) j &&& 255 = nI (b j) from (h2 j q).1]
    simp [n0, n1, v]
  · have n1 : nI T ≤ nI j := nI_le (by omega) (by omega)
    rw [if_neg q]
    simp [n0, n1]
theorem isLetter_eq (v : Int32) (post : Int32 → qM → Prop) (μ : qM) : w_X5_isLetter v post μ = post (tb (inB v 97 122)) μ := by
  unfold w_X5_isLetter q_X5_isLetter_16 inB
  simp only [q01, q11, true_or, or_true, true_and, pc_if]
  by_cases h1 : v < 97
  · simp [h1, tb]
  · by_cases h2 : 122 < v
    · simp [h1, h2, tb]
    · simp [h1, h2, tb]
theorem isDigit_eq (v : Int32) (post : Int32 → qM → Prop) (μ : qM) : w_X5_isDigit v post μ = post (tb (inB v 48 57)) μ := by
  unfold w_X5_isDigit q_X5_isDigit_16 inB
  simp only [q01, q11, true_or, or_true, true_and, pc_if]
  by_cases h1 : v < 48
  · simp [h1, tb]
  · by_cases h2 : 57 < v
    · simp [h1, h2, tb]
    · simp [h1, h2, tb]
theorem TX.q {μ : qM} {T : Nat} {b : Nat → Nat} (h : TX μ T b) {k : Nat} {x : Int32} : TX (qu μ 66 k x) T b := h
theorem sp32 {b : Nat → Nat} {T j : Nat} : (atB b T j = 32) = (spB b T j = true) := by
  unfold spB inB
  rw [decide_eq_true_eq, eq_iff_iff]
  constructor
  · intro h; rw [h]; exact ⟨Int32.lt_irrefl, Int32.lt_irrefl⟩
  · rintro ⟨h1, h2⟩
    exact Int32.le_antisymm (Int32.not_lt.mp h2) (Int32.not_lt.mp h1)
/-- all but the scribe stays -/
def UK (μ μ' : qM) : Prop := ∀ i, i ≠ 66 → μ' i = μ i
theorem UK.trans {μ μ1 μ2 : qM} (h : UK μ μ1) (g : UK μ1 μ2) : UK μ μ2 := fun i a => (g i a).trans (h i a)
theorem UK.u {μ : qM} {k : Nat} {x : Int32} : UK μ (qu μ 66 k x) := fun i a => qu_n a
theorem UK.tx {μ μ' : qM} {T : Nat} {b : Nat → Nat} (g : UK μ μ') (h : TX μ T b) : TX μ' T b := by
  unfold TX
  rw [g 22 (by omega), g 23 (by omega)]; exact h
theorem adv43_sp {μ : qM} {T s : Nat} {b : Nat → Nat} (h : TX μ T b) (h3 : μ 66 3 = nI s) (hs : s ≤ T) (post : qM → Prop) (hp' : ∀ μ', UK μ μ' → μ' 66 2 = nI s → μ' 66 3 = nI (tke b T s) → μ' 66 4 = tyB b T s → (diB b T s = true → μ' 66 5 = nI (vn b s (tke b T s - s))) → post μ') : q_X5_advance_43 post μ := by
  have hT := h.1
  unfold q_X5_advance_43
  have e2 : (qu μ 66 2 (μ 66 3)) 66 2 = nI s := by rw [qu_ss]; exact h3
  rw [e2, at_eq h.q (by omega), isLetter_eq]
  have g0 : UK μ (qu μ 66 2 (μ 66 3)) := UK.u
  have b3 : (qu μ 66 2 (μ 66 3)) 66 3 = nI s := h3
  generalize (qu μ 66 2 (μ 66 3)) = μ0 at g0 e2 b3
  have h0 := g0.tx h
  refine pb_if (fun hl => ?_) (fun hl => ?_)
  · rw [isDigit_eq]
    refine pb_if (fun hd => ?_) (fun hd => ?_)
    · have e4 : tke b T s = if s < T then s + 1 else s := by
        rw [tke, show leB b T s = false from hl, show diB b T s = false from hd]; rfl
      have ety : tyB b T s = if s < T then (if b s = 59 then 3 else 4) else 0 := by
        rw [tyB, show leB b T s = false from hl, show diB b T s = false from hd]; rfl
      have nd : ∀ {X : Prop}, diB b T s = true → X := fun q => by rw [show diB b T s = false from hd] at q; cases q
      unfold q_X5_advance_247
      by_cases q : s < T
      · have ea : atB b T s = nI (b s) := if_pos q
        have hb := (h.2.2 s q).2
        rw [ea, if_pos q] at *
        refine ⟨fun _ => ⟨fun q59 => ?_, fun q59 => ?_⟩, fun q1 => absurd q1 (nI_m1 (by omega))⟩
        · refine hp' _ (g0.trans (UK.u.trans UK.u)) e2 ?_ ?_ nd
          · rw [e4, qu_ss, ← nI_1, ← b3]; rfl
          · rw [ety, if_neg (fun p => q59 (by rw [p]; rfl))]; rfl
        · refine hp' _ (g0.trans (UK.u.trans UK.u)) e2 ?_ ?_ nd
          · rw [e4, qu_ss, ← nI_1, ← b3]; rfl
          · have : b s = 59 := pn_eq (b := 59) (by omega) (by omega) q59
            rw [ety, if_pos this]; rfl
      · have ea : atB b T s = -1 := if_neg q
        rw [ea]
        refine ⟨fun q1 => absurd rfl q1, fun _ => ?_⟩
        refine hp' _ (g0.trans UK.u) e2 ?_ ?_ nd
        · rw [e4, if_neg q]; exact b3
        · rw [ety, if_neg q]; exact qu_ss
    · have e4 : tke b T s = nx (diB b T) T s := by
        rw [tke, show leB b T s = false from hl, show diB b T s = true from hd]; rfl
      have ety : tyB b T s = 2 := by
        rw [tyB, show leB b T s = false from hl, show diB b T s = true from hd]; rfl
      unfold q_X5_advance_136
      have hsT : s < T := inB_lt (by decide) hd
      refine for0 (fun i ν => ∃ j, i + j + s = T ∧ UK μ ν ∧ ν 66 2 = nI s ∧ ν 66 3 = nI (s + j) ∧ ν 66 4 = 2 ∧ ν 66 5 = nI (vn b s j) ∧ vn b s j < 2000000 ∧ nx (diB b T) T (s + j) = tke b T s) ?_ (T - s) _ ⟨0, by omega, g0.trans (UK.u.trans UK.u), e2, b3, rfl, qu_ss, (show (0 : Nat) < 2000000 by decide), e4.symm⟩
      rintro P i ν ⟨j, hi, g, f2, f3, f4, f5, hv, hn⟩ hP
      have hν := g.tx h
      unfold w_X8_size
      dsimp only
      have fin : diB b T (s + j) = false → post ν := fun hb => by
        have et : tke b T s = s + j := by rw [← hn, nx_f hb]
        exact hp' ν g f2 (by rw [et]; exact f3) (by rw [ety]; exact f4) (fun _ => by rw [et, f5, show s + j - s = j by omega])
      rw [f3, hν.2.1, at_eq hν (by omega), isDigit_eq]
      refine ⟨fun hx => fin ?_, fun hx => pb_if (fun hb => fin hb) (fun hb => ?_)⟩
      · have : T ≤ s + j := pn_le (by omega) (by omega) hx
        cases e : diB b T (s + j)
        · rfl
        · have := inB_lt (by decide) e; omega
      · have hb' : diB b T (s + j) = true := hb
        have hjT : s + j < T := inB_lt (by decide) hb
        have ea : atB b T (s + j) = nI (b (s + j)) := if_pos hjT
        have b256 := (h.2.2 (s + j) hjT).2
        have b48 : 48 ≤ b (s + j) := by
          have := (of_decide_eq_true hb).1
          rw [ea] at this
          exact pn_nlt (b := 48) (by omega) (by omega) this
        rw [f5]
        have go : ∀ x, vn b s (j + 1) = x → x < 2000000 → q_X5_advance_206 P post (nI x) ν := fun x hx hx2 => by
          unfold q_X5_advance_206
          refine hP (i - 1) _ (by omega) ⟨j + 1, by omega, g.trans (UK.u.trans UK.u), f2, ?_, f4, ?_, by rw [hx]; exact hx2, ?_⟩
          · have : (qu ν 66 5 (nI x)) 66 3 = nI (s + j) := f3
            rw [qu_ss, this, nI_1]; rfl
          · rw [hx]; show (qu ν 66 5 (nI x)) 66 5 = nI x
            exact qu_ss
          · rw [← hn, nx_t hjT hb']; rfl
        have vstep : vn b s (j + 1) = if vn b s j ≤ 99999 then 10 * vn b s j + b (s + j) - 48 else vn b s j := rfl
        refine ⟨fun q => ?_, fun q => ?_⟩
        · have q' : vn b s j ≤ 99999 := pn_le (b := 99999) (by omega) (by omega) q
          rw [f3, at_eq hν (by omega), ea]
          have e : ((10 : Int32) * nI (vn b s j) + nI (b (s + j))) - 48 = nI (10 * vn b s j + b (s + j) - 48) := by
            rw [show (10 : Int32) * nI (vn b s j) = nI (10 * vn b s j) from by rw [show (10 : Int32) = nI 10 from rfl, pk_mul], nI_add]
            exact pk_sub (b := 48) (by omega)
          rw [e]
          exact go _ (by rw [vstep, if_pos q']) (by omega)
        · have q' : ¬ vn b s j ≤ 99999 := fun p => q (nI_le (b := 99999) p (by omega))
          exact go _ (by rw [vstep, if_neg q']) hv
  · have e4 : tke b T s = nx (leB b T) T s := by
      rw [tke, show leB b T s = true from hl]; rfl
    have ety : tyB b T s = 1 := by
      rw [tyB, show leB b T s = true from hl]; rfl
    have hsT : s < T := inB_lt (by decide) hl
    have nd : diB b T s = false := by
      cases e : diB b T s
      · rfl
      · have a := (of_decide_eq_true hl).1
        have c := (of_decide_eq_true e).2
        exact absurd (Int32.lt_of_lt_of_le (show (57 : Int32) < 97 by decide) (Int32.not_lt.mp a)) c
    unfold q_X5_advance_75
    refine for0 (fun i ν => ∃ j, i + j + s = T ∧ UK μ ν ∧ ν 66 2 = nI s ∧ ν 66 3 = nI (s + j) ∧ ν 66 4 = 1 ∧ nx (leB b T) T (s + j) = tke b T s) ?_ (T - s) _ ⟨0, by omega, g0.trans UK.u, e2, b3, qu_ss, e4.symm⟩
    rintro P i ν ⟨j, hi, g, f2, f3, f4, hn⟩ hP
    have hν := g.tx h
    unfold w_X8_size
    dsimp only
    have fin : leB b T (s + j) = false → post ν := fun hb => by
      have et : tke b T s = s + j := by rw [← hn, nx_f hb]
      exact hp' ν g f2 (by rw [et]; exact f3) (by rw [ety]; exact f4) (fun q => by rw [nd] at q; cases q)
    rw [f3, hν.2.1, at_eq hν (by omega), isLetter_eq]
    refine ⟨fun hx => fin ?_, fun hx => pb_if (fun hb => fin hb) (fun hb => ?_)⟩
    · have : T ≤ s + j := pn_le (by omega) (by omega) hx
      cases e : leB b T (s + j)
      · rfl
      · have := inB_lt (by decide) e; omega
    · have hjT : s + j < T := inB_lt (by decide) hb
      refine hP (i - 1) _ (by omega) ⟨j + 1, by omega, g.trans UK.u, f2, ?_, f4, ?_⟩
      · rw [qu_ss, f3, nI_1]; rfl
      · rw [← hn, nx_t hjT hb]; rfl
theorem adv_sp {μ : qM} {T e : Nat} {b : Nat → Nat} (h : TX μ T b) (h3 : μ 66 3 = nI e) (he : e ≤ T) (post : qM → Prop) (hp' : ∀ μ', UK μ μ' → μ' 66 2 = nI (tks b T e) → μ' 66 3 = nI (tke b T (tks b T e)) → μ' 66 4 = tyB b T (tks b T e) → (diB b T (tks b T e) = true → μ' 66 5 = nI (vn b (tks b T e) (tke b T (tks b T e) - tks b T e))) → post μ') : w_X5_advance post μ := by
  have hT := h.1
  have body : ∀ (P : qM → Prop) (j : Nat) (ν : qM), e + j ≤ T → UK μ ν → ν 66 3 = nI (e + j) → nx (spB b T) T (e + j) = tks b T e → (∀ ν', e + j < T → UK μ ν' → ν' 66 3 = nI (e + (j + 1)) → nx (spB b T) T (e + (j + 1)) = tks b T e → P ν') → w_X8_size 22 (fun r8 μ8 => ((r8 ≤ (ν 66 3) → q_X5_advance_43 post μ8) ∧ (¬ r8 ≤ (ν 66 3) → w_X8_at 22 (μ8 66 3) (fun r22 μ22 => ((¬ r22 = (32 : Int32) → q_X5_advance_43 post μ22) ∧ (r22 = (32 : Int32) → P (qu μ22 66 3 ((μ22 66 3) + (1 : Int32)))))) μ8))) ν := fun P j ν hj g f3 hn hP => by
    have hν := g.tx h
    unfold w_X8_size
    dsimp only
    have fin : spB b T (e + j) = false → q_X5_advance_43 post ν := fun hb => by
      have et : tks b T e = e + j := by rw [← hn, nx_f hb]
      refine adv43_sp hν f3 hj _ (fun μ' g' a1 a2 a3 a4 => ?_)
      rw [← et] at a1 a2 a3 a4
      exact hp' μ' (g.trans g') a1 a2 a3 a4
    rw [f3, hν.2.1, at_eq hν (by omega), sp32]
    refine ⟨fun hx => fin ?_, fun hx => ⟨fun hb => fin (by simpa using hb), fun hb => ?_⟩⟩
    · have : T ≤ e + j := pn_le (by omega) (by omega) hx
      cases q : spB b T (e + j)
      · rfl
      · have := inB_lt (by decide) q; omega
    · have hjT : e + j < T := inB_lt (by decide) hb
      exact hP _ hjT (g.trans UK.u) (by rw [qu_ss, f3, nI_1]; rfl) (by rw [← hn, nx_t hjT hb]; rfl)
  unfold w_X5_advance
  refine body _ 0 μ (by omega) (fun _ _ => rfl) h3 rfl (fun ν' hlt g f3 hn => ?_)
  unfold q_X5_advance_0
  refine for0 (fun i ν => ∃ j, i + (e + j) = T ∧ UK μ ν ∧ ν 66 3 = nI (e + j) ∧ nx (spB b T) T (e + j) = tks b T e) ?_ (T - (e + 1)) _ ⟨1, by omega, g, f3, hn⟩
  rintro P i ν ⟨j, hi, g, f3, hn⟩ hP
  exact body P j ν (by omega) g f3 hn (fun ν' hlt g' f3' hn' => hP (i - 1) ν' (by omega) ⟨j + 1, by omega, g', f3', hn'⟩)
