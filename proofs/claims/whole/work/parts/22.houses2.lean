def cntB (f : Nat → Bool) : Nat → Nat
  | 0 => 0
  | n + 1 => cntB f n + (if f n then 1 else 0)
theorem cntB_le {f : Nat → Bool} {n : Nat} : cntB f n ≤ n := by
  induction n with
  | zero => exact Nat.le_refl _
  | succ n ih => rw [cntB]; split <;> omega
def sumI (f : Nat → Int32) : Nat → Int32
  | 0 => 0
  | n + 1 => sumI f n + f n
def setI (f : Nat → Bool) : Nat → Int32
  | 0 => 0
  | n + 1 => if f n then setI f n ||| (1 <<< (nI n &&& 31)) else setI f n
theorem nI_m1 {j : Nat} (h : j < 2 ^ 31) : ¬ nI j = -1 := fun e => nI_pos h (by rw [e]; decide)
theorem ew_m1 {kd lt : Nat → Int32} {at' : Int32} {n : Nat} (hn : n < 2 ^ 31) : prs (ew kd lt at' (-1)) n = prs (ev kd lt at') n := prs_congr (fun a b ha hb => by
  have h1 : (nI a == (-1 : Int32)) = false := by simpa using nI_m1 (by omega)
  have h2 : (nI b == (-1 : Int32)) = false := by simpa using nI_m1 (by omega)
  simp [ew, h1, h2])
theorem prs_le {e : Nat → Nat → Bool} {n : Nat} (hn : n ≤ 10) : (prs e n).length ≤ 100 := by
  have h1 : ∀ a m b, (rowl e a m b).length ≤ m := by
    intro a m
    induction m with
    | zero => intro b; exact Nat.le_refl _
    | succ m ih => intro b; rw [rowl, List.length_append]; have := ih (b + 1); split <;> simp <;> omega
  have h2 : ∀ m a, (rws e n m a).length ≤ m * n := by
    intro m
    induction m with
    | zero => intro a; simp [rws]
    | succ m ih =>
      intro a
      rw [rws, List.length_append, Nat.succ_mul]
      have := ih (a + 1)
      have h3 : (rl e n a (a + 1)).length ≤ n := Nat.le_trans (h1 a _ _) (by omega)
      omega
  have := h2 (n - 0) 0
  have h4 : (n - 0) * n ≤ 10 * 10 := Nat.mul_le_mul (by omega) hn
  show (rws e n (n - 0) 0).length ≤ 100
  omega
section XH
variable {μ : qM} {o n : Nat} {kd lt : Nat → Int32}
theorem freeings_sp (h : HX μ o n kd lt) (v : Int32) (post : Int32 → qM → Prop) (hp' : ∀ f : Nat → Int32, post (if stn lt v n then 0 else nI (prs (ev kd lt v) n).length) (qr μ (o + 3) f)) : w_X1_freeings o v post μ := by
  unfold w_X1_freeings
  refine stands_sp h v _ (pb_if (fun hs => ?_) (fun hs => ?_))
  · have := evenPairs_sp h v (-1) 100 (by omega) (fun r17 μ17 => post r17 μ17) (fun f => by
      have h1 := hp' f
      rw [hs] at h1
      rw [ew_m1 (by have := h.2.1; omega), Nat.min_eq_right (prs_le h.2.1)]
      exact h1)
    exact this
  · have h1 := hp' (μ (o + 3))
    rw [hs, qr_id] at h1
    exact h1
theorem min1_le {L : Nat} : (nI (min 1 L) ≤ 0) = (L = 0) := by
  by_cases h : L = 0
  · subst h; simp [nI]
  · have h1 : min 1 L = 1 := by omega
    rw [h1]
    simp only [h, eq_iff_iff, iff_false]
    exact nI_nle (by omega) (by omega)
theorem isFree_sp (h : HX μ o n kd lt) (v : Int32) (post : Int32 → qM → Prop) (hp' : ∀ f : Nat → Int32, post (tb (fb n kd lt v)) (qr μ (o + 3) f)) : w_X1_isFree o v post μ := by
  unfold w_X1_isFree q_X1_isFree_22
  simp only [q01, q11, true_or, or_true, true_and]
  refine stands_sp h v _ (pb_if' (fun hs => ?_) (fun hs => ?_))
  · have h1 := hp' (μ (o + 3))
    rw [qr_id] at h1
    simpa [fb, hs, tb] using h1
  · refine evenPairs_sp h v (-1) 1 (by omega) _ (fun f => ?_)
    rw [ew_m1 (by have := h.2.1; omega), min1_le]
    have h1 := hp' f
    unfold fb at h1
    rw [hs, hp_len] at h1
    refine ⟨fun e => ?_, fun e => ?_⟩
    · rw [e] at h1; exact h1
    · have : 0 < (prs (ev kd lt v) n).length := by omega
      simpa [this, tb] using h1
theorem isFreeWithout_sp (h : HX μ o n kd lt) (v w : Int32) (post : Int32 → qM → Prop) (hp' : ∀ f : Nat → Int32, post (tb (hp (ew kd lt v w) n)) (qr μ (o + 3) f)) : w_X1_isFreeWithout o v w post μ := by
  unfold w_X1_isFreeWithout
  simp only [q01, q11, true_or, or_true, true_and]
  refine evenPairs_sp h v w 1 (by omega) _ (fun f => ?_)
  rw [min1_le]
  have h1 := hp' f
  rw [hp_len] at h1
  refine ⟨fun e => ?_, fun e => ?_⟩
  · rw [e] at h1; exact h1
  · have : 0 < (prs (ew kd lt v w) n).length := by omega
    simpa [this, tb] using h1
theorem HX.arr (h : HX μ o n kd lt) {j : Nat} (hj : j < n) : μ (o + 1) j = kd j ∧ μ (o + 2) j = lt j := h.2.2 j hj
theorem arePair_eq (h : HX μ o n kd lt) {a b : Nat} (ha : a < n) (hb : b < n) (post : Int32 → qM → Prop) : w_X1_arePair o (nI a) (nI b) post μ = post (tb (!(a == b) && prB kd lt a b)) μ := by
  have h10 := h.2.1
  unfold w_X1_arePair q_X1_arePair_55
  simp only [has_eq h, isPair_eq, q01, q11, true_or, or_true, true_and, hasB_nI (show n < 2 ^ 31 by omega) ha, hasB_nI (show n < 2 ^ 31 by omega) hb, clp (show a < 2 ^ 31 by omega), clp (show b < 2 ^ 31 by omega), (h.arr ha).1, (h.arr ha).2, (h.arr hb).1, (h.arr hb).2, pc_if, tb_t]
  by_cases e : a = b
  · subst e; simp [tb]
  · have ne : ¬ nI a = nI b := fun q => e (pn_eq (by omega) (by omega) q)
    have va : vp_in (nI a) 10 := vp_in_nI (by omega) (by omega)
    have vb : vp_in (nI b) 10 := vp_in_nI (by omega) (by omega)
    simp only [ne, if_false, va, vb, true_and, prB]
    have e' : (a == b) = false := by simpa using e
    rw [e']
    cases cn (kd a) (lt a) (kd b) (lt b) && cn (kd b) (lt b) (kd a) (lt a) <;> simp [tb]
/-- with whom a house is a pair -/
def ptn (n : Nat) (kd lt : Nat → Int32) (a : Nat) : Int32 := setI (fun b => !(a == b) && prB kd lt a b) n
theorem partners_sp (h : HX μ o n kd lt) {a : Nat} (ha : a < n) (post : Int32 → qM → Prop) (hp' : post (ptn n kd lt a) μ) : w_X1_partners o (nI a) post μ := by
  have h10 := h.2.1
  unfold w_X1_partners q_X1_partners_4 q_X1_partners_27
  refine for2 n (fun j x μ' => μ' = μ ∧ x = setI (fun b => !(a == b) && prB kd lt a b) j) ?_ 0 (Nat.zero_le _) ⟨rfl, rfl⟩
  rintro P j x μ' hjn ⟨rfl, rfl⟩ hP
  simp only [h.1]
  refine ⟨fun hx => ?_, fun hx => ?_⟩
  · have : n ≤ j := pn_le (by omega) (by omega) hx
    rw [show j = n by omega]; exact hp'
  · have hlt : j < n := pn_nle (by omega) (by omega) hx
    rw [arePair_eq h ha hlt]
    refine pb_if (fun hb => ?_) (fun hb => ?_)
    · refine hP _ _ hlt ⟨rfl, ?_⟩
      simp only [setI, hb, Bool.false_eq_true, if_false]
    · refine hP _ _ hlt ⟨rfl, ?_⟩
      simp only [setI, hb, if_true]
theorem firstPair_sp (h : HX μ o n kd lt) (v : Int32) (post : Int32 → qM → Prop) (hp' : ∀ f : Nat → Int32, post (match (prs (ev kd lt v) n) with | [] => -1 | p :: _ => 10 * nI p.1 + nI p.2) (qr μ (o + 3) f)) : w_X1_firstPair o v post μ := by
  unfold w_X1_firstPair
  refine measureAll_sp h v _ (fun f hf => ?_)
  have hpf := hp' f
  have hX := h.fars f
  have hfa : ∀ j, j < n → (qr μ (o + 3) f) (o + 3) j = fr (kd j) (lt j) v := fun j hj => by rw [qr_s]; exact hf j hj
  generalize qr μ (o + 3) f = μ2 at hX hfa hpf
  have h10 := hX.2.1
  have key : ∀ (L : List (Nat × Nat)), L = prs (ev kd lt v) n → post (match L with | [] => -1 | p :: _ => 10 * nI p.1 + nI p.2) μ2 := fun L hL => by rw [hL]; exact hpf
  unfold q_X1_firstPair_7
  refine for1 n (fun j μ' => μ' = μ2 ∧ rr (ev kd lt v) n j = prs (ev kd lt v) n) ?_ 0 (Nat.zero_le _) ⟨rfl, rfl⟩
  rintro P j μ' hjn ⟨rfl, hm⟩ hP
  simp only [hX.1]
  refine ⟨fun hx => ?_, fun hx => ?_⟩
  · have : n ≤ j := pn_le (by omega) (by omega) hx
    rw [rr_end this] at hm
    exact key [] hm
  · have hlt : j < n := pn_nle (by omega) (by omega) hx
    rw [rr_step hlt] at hm
    rw [nI_1]
    unfold q_X1_firstPair_19 q_X1_firstPair_58
    refine for1 n (fun i ν => ν = μ' ∧ j < i ∧ rl (ev kd lt v) n j i ++ rr (ev kd lt v) n (j + 1) = prs (ev kd lt v) n) ?_ (j + 1) (by omega) ⟨rfl, by omega, hm⟩
    rintro P' i μ'' hin ⟨rfl, hjlt, hm'⟩ hP'
    simp only [hX.1]
    refine ⟨fun hx' => ?_, fun hx' => ?_⟩
    · have hni : n ≤ i := pn_le (by omega) (by omega) hx'
      rw [rl_end hni, List.nil_append] at hm'
      exact hP _ hlt ⟨rfl, hm'⟩
    · have hil : i < n := pn_nle (by omega) (by omega) hx'
      rw [rl_step hil] at hm'
      rw [clp (show j < 2 ^ 31 by omega), clp (show i < 2 ^ 31 by omega), hfa j hlt, hfa i hil, arePair_eq hX hlt hil]
      have vj : vp_in (nI j) 10 := vp_in_nI (by omega) (by omega)
      have vi : vp_in (nI i) 10 := vp_in_nI (by omega) (by omega)
      have no : ev kd lt v j i = false → P' (nI i + 1) μ'' := fun he => hP' _ hil ⟨rfl, by omega, by rw [he] at hm'; simpa using hm'⟩
      refine ⟨vj, vi, fun hne => no (by simp [ev, hne]), fun he => pb_if (fun hb => ?_) (fun hb => ?_)⟩
      · have hji : ¬ j = i := by omega
        · have e' : (j == i) = false := by simpa using hji
          rw [e'] at hb
          exact no (by simp only [ev, show prB kd lt j i = false from by simpa using hb, Bool.and_false])
      · have hpr : prB kd lt j i = true := by
          simp only [Bool.and_eq_true] at hb
          exact hb.2
        have hee : ev kd lt v j i = true := by simp [ev, he, hpr]
        rw [hee] at hm'
        exact key _ hm'
theorem countFree_sp (h : HX μ o n kd lt) (post : Int32 → qM → Prop) (hp' : ∀ f : Nat → Int32, post (nI (cntB (fun j => fb n kd lt (nI j)) 144)) (qr μ (o + 3) f)) : w_X1_countFree o post μ := by
  unfold w_X1_countFree q_X1_countFree_4 q_X1_countFree_22
  refine for2 144 (fun j x μ' => (∃ f, μ' = qr μ (o + 3) f) ∧ x = nI (cntB (fun j => fb n kd lt (nI j)) j)) ?_ 0 (Nat.zero_le _) ⟨⟨_, qr_id.symm⟩, rfl⟩
  rintro P j x μ' hjn ⟨⟨f, rfl⟩, rfl⟩ hP
  refine ⟨fun hx => ?_, fun hx => ?_⟩
  · have : 144 ≤ j := pn_le (by omega) (by omega) hx
    rw [show j = 144 by omega]; exact hp' f
  · have hlt : j < 144 := pn_nle (by omega) (by omega) hx
    refine isFree_sp (h.fars f) _ _ (fun g => pb_if (fun hb => ?_) (fun hb => ?_))
    · refine hP _ _ hlt ⟨⟨g, qr_qr⟩, ?_⟩
      simp [cntB, hb]
    · refine hP _ _ hlt ⟨⟨g, qr_qr⟩, ?_⟩
      simp [cntB, hb, nI_1]
theorem countFreeByOne_sp (h : HX μ o n kd lt) (post : Int32 → qM → Prop) (hp' : ∀ f : Nat → Int32, post (nI (cntB (fun j => !stn lt (nI j) n && (prs (ev kd lt (nI j)) n).length == 1) 144)) (qr μ (o + 3) f)) : w_X1_countFreeByOne o post μ := by
  unfold w_X1_countFreeByOne q_X1_countFreeByOne_4 q_X1_countFreeByOne_23
  have h10 := h.2.1
  refine for2 144 (fun j x μ' => (∃ f, μ' = qr μ (o + 3) f) ∧ x = nI (cntB (fun j => !stn lt (nI j) n && (prs (ev kd lt (nI j)) n).length == 1) j)) ?_ 0 (Nat.zero_le _) ⟨⟨_, qr_id.symm⟩, rfl⟩
  rintro P j x μ' hjn ⟨⟨f, rfl⟩, rfl⟩ hP
  refine ⟨fun hx => ?_, fun hx => ?_⟩
  · have : 144 ≤ j := pn_le (by omega) (by omega) hx
    rw [show j = 144 by omega]; exact hp' f
  · have hlt : j < 144 := pn_nle (by omega) (by omega) hx
    refine freeings_sp (h.fars f) _ _ (fun g => ?_)
    have hle := prs_le (e := ev kd lt (nI j)) h10
    refine ⟨fun hb => ?_, fun hb => ?_⟩
    · refine hP _ _ hlt ⟨⟨g, qr_qr⟩, ?_⟩
      have : (!stn lt (nI j) n && (prs (ev kd lt (nI j)) n).length == 1) = false := by
        cases hs : stn lt (nI j) n
        · rw [hs] at hb
          simp only [Bool.not_false, Bool.true_and, beq_eq_false_iff_ne]
          intro q
          rw [q] at hb
          exact hb rfl
        · rfl
      simp [cntB, this]
    · refine hP _ _ hlt ⟨⟨g, qr_qr⟩, ?_⟩
      have : (!stn lt (nI j) n && (prs (ev kd lt (nI j)) n).length == 1) = true := by
        cases hs : stn lt (nI j) n
        · rw [hs] at hb
          simp only [Bool.not_false, Bool.true_and, beq_iff_eq]
          exact pn_eq (a := (prs (ev kd lt (nI j)) n).length) (b := 1) (by omega) (by omega) hb
        · rw [hs] at hb
          exact absurd hb (by rw [if_pos rfl]; decide)
      simp [cntB, this, nI_1]
/-- some house is just as far from a lot as one put up would be, and a pair with it -/
def evW (n : Nat) (kd lt : Nat → Int32) (k home at' : Int32) : Bool := stn (fun j => if (fr (kd j) (lt j) at' == fr k home at') && (cn (kd j) (lt j) k home && cn k home (kd j) (lt j)) then 1 else 0) 1 n
theorem evW_iff {k home at' : Int32} : evW n kd lt k home at' = true ↔ ∃ j, j < n ∧ fr (kd j) (lt j) at' = fr k home at' ∧ cn (kd j) (lt j) k home = true ∧ cn k home (kd j) (lt j) = true := by
  unfold evW
  rw [stn_iff]
  constructor
  · rintro ⟨j, hj, e⟩
    by_cases hc : ((fr (kd j) (lt j) at' == fr k home at') && (cn (kd j) (lt j) k home && cn k home (kd j) (lt j))) = true
    · simp only [Bool.and_eq_true, beq_iff_eq] at hc
      exact ⟨j, hj, hc.1, hc.2.1, hc.2.2⟩
    · simp only [hc] at e
      exact absurd e (by decide)
  · rintro ⟨j, hj, h1, h2, h3⟩
    exact ⟨j, hj, by simp [h1, h2, h3]⟩
theorem isEvenWith_sp (h : HX μ o n kd lt) (k home v : Int32) (post : Int32 → qM → Prop) (hp' : post (tb (evW n kd lt k home v)) μ) : w_X1_isEvenWith o k home v post μ := by
  have h10 := h.2.1
  unfold w_X1_isEvenWith
  rw [measure_eq]
  unfold q_X1_isEvenWith_11 q_X1_isEvenWith_67
  refine for1 n (fun j μ' => μ' = μ ∧ evW j kd lt k home v = false) ?_ 0 (Nat.zero_le _) ⟨rfl, rfl⟩
  rintro P j μ' hjn ⟨rfl, hs⟩ hP
  simp only [h.1, q01, q11, true_or, or_true, true_and]
  refine ⟨fun hx => ?_, fun hx => ?_⟩
  · have : n ≤ j := pn_le (by omega) (by omega) hx
    rw [show j = n by omega] at hs
    rw [hs] at hp'
    exact hp'
  · have hlt : j < n := pn_nle (by omega) (by omega) hx
    rw [clp (by omega), (h.arr hlt).1, (h.arr hlt).2, measure_eq]
    have vj : vp_in (nI j) 10 := vp_in_nI (by omega) (by omega)
    have no : ¬ (fr (kd j) (lt j) v = fr k home v ∧ cn (kd j) (lt j) k home = true ∧ cn k home (kd j) (lt j) = true) → P (nI j + 1) μ' := fun hne => hP _ hlt ⟨rfl, by
      rw [← Bool.not_eq_true, evW_iff]
      rintro ⟨i, hi, h1⟩
      by_cases hij : i = j
      · subst hij; exact hne h1
      · have : evW j kd lt k home v = true := evW_iff.mpr ⟨i, by omega, h1⟩
        rw [hs] at this
        cases this⟩
    refine ⟨vj, vj, fun hne => no (fun q => hne q.1), fun he => ⟨vj, vj, ?_⟩⟩
    rw [(h.arr hlt).1, (h.arr hlt).2, isPair_eq]
    refine pb_if (fun hb => no (fun q => ?_)) (fun hb => ?_)
    · rw [q.2.1, q.2.2] at hb; cases hb
    · simp only [Bool.and_eq_true] at hb
      have : evW n kd lt k home v = true := evW_iff.mpr ⟨j, hlt, he, hb.1, hb.2⟩
      rw [this] at hp'
      exact hp'
end XH
