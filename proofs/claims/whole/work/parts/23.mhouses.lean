/-! the reference's houses -/
def HM (μ : qM) (n : Nat) (kd lt : Nat → Int32) : Prop := μ 46 0 = nI n ∧ n ≤ 154 ∧ ∀ j, j < n → μ 47 j = kd j ∧ μ 48 j = lt j
theorem HM.away {μ : qM} {n : Nat} {kd lt : Nat → Int32} (h : HM μ n kd lt) (f : Nat → Int32) : HM (qr μ 57 f) n kd lt := by
  unfold HM
  rw [qr_n (show 46 ≠ 57 by omega), qr_n (show 47 ≠ 57 by omega), qr_n (show 48 ≠ 57 by omega)]
  exact h
theorem HM.arr {μ : qM} {n : Nat} {kd lt : Nat → Int32} (h : HM μ n kd lt) {j : Nat} (hj : j < n) : μ 47 j = kd j ∧ μ 48 j = lt j := h.2.2 j hj
def inB (v lo hi : Int32) : Bool := decide (¬ v < lo ∧ ¬ hi < v)
theorem within_eq (v lo hi : Int32) (post : Int32 → qM → Prop) (μ : qM) : w_X11_within v lo hi post μ = post (tb (inB v lo hi)) μ := by
  unfold w_X11_within q_X11_within_14 inB
  simp only [q01, q11, true_or, or_true, true_and, pc_if]
  by_cases h1 : v < lo
  · simp [h1, tb]
  · by_cases h2 : hi < v
    · simp [h2, tb]
    · simp [h1, h2, tb]
theorem counts_eq {i j : Nat} (hi : i < 154) (hj : j < 154) (post : Int32 → qM → Prop) (μ : qM) : w_X11_counts (nI i) (nI j) post μ = post (tb (cn (μ 47 i) (μ 48 i) (μ 47 j) (μ 48 j))) μ := by
  have vi : vp_in (nI i) 154 := vp_in_nI hi (by omega)
  have vj : vp_in (nI j) 154 := vp_in_nI hj (by omega)
  unfold w_X11_counts q_X11_counts_60 q_X11_counts_64 cn
  simp only [farOf_eq, q01, q11, true_or, or_true, true_and, pc_if, vi, vj, clp (show i < 2 ^ 31 by omega), clp (show j < 2 ^ 31 by omega)]
  generalize μ 47 i = k
  generalize μ 47 j = k'
  by_cases h1 : k = 1
  · subst h1
    by_cases ha : k' = 1
    · simp [ha, tb]
    · by_cases hb : k' = 3
      · simp [hb, tb]
      · simp [ha, hb, tb]
  · by_cases h2 : k = 2
    · subst h2
      by_cases hc : 64 < fr k' (μ 48 j) (μ 48 i)
      · simp [hc, tb]
      · simp [hc, tb]
    · by_cases h3 : k = 3
      · subst h3; simp [tb]
      · by_cases h4 : k = 4
        · subst h4
          by_cases hc : 64 < fr k' (μ 48 j) (μ 48 i)
          · simp [hc, tb]
          · simp [hc, tb]
        · simp [h1, h2, h3, h4, tb]
section MH
variable {μ : qM} {n : Nat} {kd lt : Nat → Int32}
theorem marePair_eq (h : HM μ n kd lt) {a b : Nat} (ha : a < n) (hb : b < n) (post : Int32 → qM → Prop) : w_X11_arePair (nI a) (nI b) post μ = post (tb (!(a == b) && prB kd lt a b)) μ := by
  have h154 := h.2.1
  unfold w_X11_arePair q_X11_arePair_27
  simp only [counts_eq (show a < 154 by omega) (show b < 154 by omega), counts_eq (show b < 154 by omega) (show a < 154 by omega), q01, q11, true_or, or_true, true_and, (h.arr ha).1, (h.arr ha).2, (h.arr hb).1, (h.arr hb).2, pc_if]
  by_cases e : a = b
  · subst e; simp [tb]
  · have ne : ¬ nI a = nI b := fun q => e (pn_eq (by omega) (by omega) q)
    have e' : (a == b) = false := by simpa using e
    simp only [ne, if_false, e', Bool.not_false, Bool.true_and, prB]
    cases cn (kd a) (lt a) (kd b) (lt b) <;> cases cn (kd b) (lt b) (kd a) (lt a) <;> simp [tb]
theorem houseOn_sp (h : HM μ n kd lt) (v : Int32) (post : Int32 → qM → Prop) (h0 : stn lt v n = false → post (-1) μ) (h1 : ∀ j, j < n → lt j = v → (∀ i, j < i → i < n → lt i ≠ v) → post (nI j) μ) : w_X11_houseOn v post μ := by
  have h154 := h.2.1
  unfold w_X11_houseOn q_X11_houseOn_7 q_X11_houseOn_27
  rw [h.1]
  refine qL1_rule (fun x μ' => μ' = μ ∧ ∃ m, m ≤ n ∧ x = nI m - 1 ∧ ∀ i, m ≤ i → i < n → lt i ≠ v) (fun x _ => (x + 1).toNatClampNeg) ?_ _ _ ⟨rfl, n, Nat.le_refl _, rfl, fun i h1 h2 => by omega⟩
  rintro P x μ' ⟨rfl, m, hm, rfl, hno⟩ hP
  cases m with
  | zero =>
    have e : nI 0 - 1 = -1 := by decide
    rw [e]
    refine ⟨fun _ => h0 ?_, fun hx => absurd (by decide) hx⟩
    exact stn_false.mpr (fun j hj => hno j (Nat.zero_le _) hj)
  | succ m =>
    rw [nI_pred]
    refine ⟨fun hx => absurd hx (nI_pos (by omega)), fun _ => ⟨vp_in_nI (by omega) (by omega), fun he => ?_, fun hne => ?_⟩⟩
    · rw [clp (by omega), (h.arr (by omega)).2] at he
      exact h1 m (by omega) he (fun i hi hin => hno i (by omega) hin)
    · rw [clp (by omega), (h.arr (by omega)).2] at hne
      have e2 : nI m + -1 = nI m - 1 := by grind
      rw [e2]
      refine hP _ _ ⟨rfl, m, by omega, rfl, fun i hi hin => ?_⟩ ?_
      · by_cases him : i = m
        · subst him; exact hne
        · exact hno i (by omega) hin
      · have e3 : nI m - 1 + 1 = nI m := by grind
        have e4 : nI (m + 1) - 1 + 1 = nI (m + 1) := by grind
        show (nI m - 1 + 1).toNatClampNeg < (nI (m + 1) - 1 + 1).toNatClampNeg
        rw [e3, e4, clp (by omega), clp (by omega)]
        omega
/-- so many pairs further: the pair, as the reference tells it -/
def pick (L : List (Nat × Nat)) (w : Nat) : Int32 := match L[w]? with
  | some p => 154 * nI p.1 + nI p.2
  | none => -1
/-- how far each is, but for one -/
def aw (kd lt : Nat → Int32) (at' but : Int32) (j : Nat) : Int32 := if nI j = but then -1 - nI j else fr (kd j) (lt j) at'
def ea (kd lt : Nat → Int32) (at' but : Int32) (a b : Nat) : Bool := (aw kd lt at' but a == aw kd lt at' but b) && prB kd lt a b
theorem pairBy_sp (h : HM μ n kd lt) (v but : Int32) (w : Nat) (hw : w < 2 ^ 30) (post : Int32 → qM → Prop) (hp' : ∀ f : Nat → Int32, post (pick (prs (ea kd lt v but) n) w) (qr μ 57 f)) : w_X11_pairBy v (nI w) but post μ := by
  unfold w_X11_pairBy q_X11_pairBy_3
  refine for1 n (fun j μ' => ∃ f, μ' = qr μ 57 f ∧ ∀ i, i < j → f i = aw kd lt v but i) ?_ 0 (Nat.zero_le _) ⟨μ 57, qr_id.symm, fun _ h => absurd h (Nat.not_lt_zero _)⟩
  rintro P j μ' hjn ⟨f, rfl, hf⟩ hP
  have hX := h.away f
  have h154 := h.2.1
  simp only [hX.1]
  refine ⟨fun hx => ?_, fun hx => ?_⟩
  · have hnj : n ≤ j := pn_le (by omega) (by omega) hx
    have hpf := hp' f
    have hfa : ∀ i, i < n → (qr μ 57 f) 57 i = aw kd lt v but i := fun i hi => by rw [qr_s]; exact hf i (by omega)
    clear hP hf
    generalize qr μ 57 f = μ2 at hX hfa hpf
    unfold q_X11_pairBy_62
    refine for2 n (fun j a μ' => μ' = μ2 ∧ ∃ c, a = nI c ∧ c ≤ w ∧ pick (rr (ea kd lt v but) n j) c = pick (prs (ea kd lt v but) n) w) ?_ 0 (Nat.zero_le _) ⟨rfl, w, rfl, Nat.le_refl _, rfl⟩
    rintro P2 j a μ' hjn ⟨rfl, c, rfl, hc, hm⟩ hP2
    simp only [hX.1]
    refine ⟨fun hx => ?_, fun hx => ?_⟩
    · have : n ≤ j := pn_le (by omega) (by omega) hx
      rw [rr_end this] at hm
      rw [← hm] at hpf
      exact hpf
    · have hlt : j < n := pn_nle (by omega) (by omega) hx
      rw [rr_step hlt] at hm
      rw [nI_1]
      unfold q_X11_pairBy_77 q_X11_pairBy_132
      refine for2 n (fun i a ν => ν = μ' ∧ j < i ∧ ∃ c, a = nI c ∧ c ≤ w ∧ pick (rl (ea kd lt v but) n j i ++ rr (ea kd lt v but) n (j + 1)) c = pick (prs (ea kd lt v but) n) w) ?_ (j + 1) (by omega) ⟨rfl, by omega, c, rfl, hc, hm⟩
      rintro P3 i a' μ'' hin ⟨rfl, hjlt, c', rfl, hc', hm'⟩ hP3
      simp only [hX.1]
      refine ⟨fun hx' => ?_, fun hx' => ?_⟩
      · have hni : n ≤ i := pn_le (by omega) (by omega) hx'
        rw [rl_end hni, List.nil_append] at hm'
        rw [nI_1]
        have := hP2 (nI c') μ'' hlt ⟨rfl, c', rfl, hc', hm'⟩
        rw [nI_1] at this
        exact this
      · have hil : i < n := pn_nle (by omega) (by omega) hx'
        rw [rl_step hil] at hm'
        rw [clp (show j < 2 ^ 31 by omega), clp (show i < 2 ^ 31 by omega), hfa j hlt, hfa i hil, marePair_eq hX hlt hil]
        have vj : vp_in (nI j) 154 := vp_in_nI (by omega) (by omega)
        have vi : vp_in (nI i) 154 := vp_in_nI (by omega) (by omega)
        have no : i ≠ j → ea kd lt v but j i = false → P3 (nI c') (nI i + 1) μ'' := fun _ he => hP3 _ _ hil ⟨rfl, by omega, c', rfl, hc', by
          rw [he] at hm'; simpa using hm'⟩
        have hji : ¬ j = i := by omega
        · have e' : (j == i) = false := by simpa using hji
          refine ⟨vj, vi, fun hne => no (fun q => hji q.symm) ?_, fun he => ?_⟩
          · simp [ea, hne]
          · rw [e']
            refine pb_if (fun hb => no (fun q => hji q.symm) ?_) (fun hb => ?_)
            · simp only [ea, show prB kd lt j i = false from by simpa using hb, Bool.and_false]
            · have hpr : prB kd lt j i = true := by simpa using hb
              have hee : ea kd lt v but j i = true := by simp [ea, he, hpr]
              rw [hee] at hm'
              refine ⟨fun hc0 => ?_, fun hc0 => ?_⟩
              · have hcp : 0 < c' := by
                  rcases Nat.eq_zero_or_pos c' with q | q
                  · subst q; exact absurd rfl hc0
                  · exact q
                rw [sb_m1 hcp]
                refine hP3 _ _ hil ⟨rfl, by omega, c' - 1, rfl, by omega, ?_⟩
                obtain ⟨c2, rfl⟩ : ∃ c2, c' = c2 + 1 := ⟨c' - 1, by omega⟩
                rw [← hm']
                simp [pick]
              · have : c' = 0 := pn_eq (a := c') (b := 0) (by omega) (by omega) hc0
                subst this
                have hpk : pick (prs (ea kd lt v but) n) w = 154 * nI j + nI i := by
                  rw [← hm']
                  simp [pick]
                rw [hpk] at hpf
                exact hpf
  · have hlt : j < n := pn_nle (by omega) (by omega) hx
    have vj : vp_in (nI j) 154 := vp_in_nI (by omega) (by omega)
    unfold q_X11_pairBy_49
    rw [clp (by omega), (hX.arr hlt).1, (hX.arr hlt).2, farOf_eq]
    refine ⟨fun hne => ⟨vj, vj, vj, hP _ hlt ⟨upd f j (fr (kd j) (lt j) v), qu_qr, fun i hi => ?_⟩⟩, fun he => ⟨vj, hP _ hlt ⟨upd f j (-1 - nI j), qu_qr, fun i hi => ?_⟩⟩⟩
    · by_cases hij : i = j
      · subst hij; rw [pk_us, aw, if_neg hne]
      · rw [pk_un hij]; exact hf i (by omega)
    · by_cases hij : i = j
      · subst hij; rw [pk_us, aw, if_pos he]
      · rw [pk_un hij]; exact hf i (by omega)
end MH
