/-! houses: rows of kinds and lots, the pairs that are even from a lot, in order -/
def prB (kd lt : Nat → Int32) (a b : Nat) : Bool := cn (kd a) (lt a) (kd b) (lt b) && cn (kd b) (lt b) (kd a) (lt a)
def ev (kd lt : Nat → Int32) (at' : Int32) (a b : Nat) : Bool := (fr (kd a) (lt a) at' == fr (kd b) (lt b) at') && prB kd lt a b
def rowl (e : Nat → Nat → Bool) (a : Nat) : Nat → Nat → List (Nat × Nat)
  | 0, _ => []
  | m + 1, b => (if e a b then [(a, b)] else []) ++ rowl e a m (b + 1)
def rl (e : Nat → Nat → Bool) (n a b : Nat) : List (Nat × Nat) := rowl e a (n - b) b
theorem rl_end {e : Nat → Nat → Bool} {n a b : Nat} (h : n ≤ b) : rl e n a b = [] := by
  unfold rl; rw [Nat.sub_eq_zero_of_le h]; rfl
theorem rl_step {e : Nat → Nat → Bool} {n a b : Nat} (h : b < n) : rl e n a b = (if e a b then [(a, b)] else []) ++ rl e n a (b + 1) := by
  unfold rl
  obtain ⟨m, hm⟩ : ∃ m, n - b = m + 1 := ⟨n - b - 1, by omega⟩
  rw [hm, show n - (b + 1) = m by omega]
  rfl
def rws (e : Nat → Nat → Bool) (n : Nat) : Nat → Nat → List (Nat × Nat)
  | 0, _ => []
  | m + 1, a => rl e n a (a + 1) ++ rws e n m (a + 1)
def rr (e : Nat → Nat → Bool) (n a : Nat) : List (Nat × Nat) := rws e n (n - a) a
theorem rr_end {e : Nat → Nat → Bool} {n a : Nat} (h : n ≤ a) : rr e n a = [] := by
  unfold rr; rw [Nat.sub_eq_zero_of_le h]; rfl
theorem rr_step {e : Nat → Nat → Bool} {n a : Nat} (h : a < n) : rr e n a = rl e n a (a + 1) ++ rr e n (a + 1) := by
  unfold rr
  obtain ⟨m, hm⟩ : ∃ m, n - a = m + 1 := ⟨n - a - 1, by omega⟩
  rw [hm, show n - (a + 1) = m by omega]
  rfl
def prs (e : Nat → Nat → Bool) (n : Nat) : List (Nat × Nat) := rr e n 0
theorem rl_congr {e e' : Nat → Nat → Bool} {n a b0 : Nat} (h : ∀ b, b0 ≤ b → b < n → e a b = e' a b) : rl e n a b0 = rl e' n a b0 := by
  have key : ∀ m b, b0 ≤ b → n - b = m → rowl e a m b = rowl e' a m b := by
    intro m
    induction m with
    | zero => intro b _ _; rfl
    | succ m ih => intro b hb hm; rw [rowl, rowl, h b hb (by omega), ih (b + 1) (by omega) (by omega)]
  exact key _ b0 (Nat.le_refl _) rfl
theorem rr_congr {e e' : Nat → Nat → Bool} {n : Nat} (h : ∀ a b, a < b → b < n → e a b = e' a b) : ∀ a, rr e n a = rr e' n a := by
  intro a
  unfold rr
  generalize hm : n - a = m
  induction m generalizing a with
  | zero => rfl
  | succ m ih => rw [rws, rws, rl_congr (fun b hb hbn => h a b (by omega) hbn), ih (a + 1) (by omega)]
theorem prs_congr {e e' : Nat → Nat → Bool} {n : Nat} (h : ∀ a b, a < b → b < n → e a b = e' a b) : prs e n = prs e' n := rr_congr h 0
theorem rl_mem {e : Nat → Nat → Bool} {n a : Nat} {p : Nat × Nat} : ∀ b, p ∈ rl e n a b ↔ p.1 = a ∧ b ≤ p.2 ∧ p.2 < n ∧ e a p.2 = true := by
  intro b
  unfold rl
  generalize hm : n - b = m
  induction m generalizing b with
  | zero =>
    simp only [rowl, List.not_mem_nil, false_iff]
    intro h
    omega
  | succ m ih =>
    rw [rowl, List.mem_append, ih (b + 1) (by omega)]
    obtain ⟨p1, p2⟩ := p
    by_cases he : e a b = true
    · simp only [he, if_true, List.mem_singleton, Prod.mk.injEq]
      constructor
      · rintro (⟨rfl, rfl⟩ | h)
        · exact ⟨rfl, Nat.le_refl _, by omega, he⟩
        · exact ⟨h.1, by omega, h.2.2⟩
      · intro h
        by_cases hb : p2 = b
        · exact Or.inl ⟨h.1, hb⟩
        · exact Or.inr ⟨h.1, by omega, h.2.2⟩
    · simp only [he, Bool.false_eq_true, if_false, List.not_mem_nil, false_or]
      constructor
      · intro h; exact ⟨h.1, by omega, h.2.2⟩
      · intro h
        refine ⟨h.1, ?_, h.2.2⟩
        by_cases hb : p2 = b
        · subst hb; exact absurd h.2.2.2 he
        · omega
theorem rr_mem {e : Nat → Nat → Bool} {n : Nat} {p : Nat × Nat} : ∀ a, p ∈ rr e n a ↔ a ≤ p.1 ∧ p.1 < p.2 ∧ p.2 < n ∧ e p.1 p.2 = true := by
  intro a
  unfold rr
  generalize hm : n - a = m
  induction m generalizing a with
  | zero =>
    simp only [rws, List.not_mem_nil, false_iff]
    intro h
    omega
  | succ m ih =>
    rw [rws, List.mem_append, ih (a + 1) (by omega), rl_mem]
    obtain ⟨p1, p2⟩ := p
    constructor
    · rintro (⟨h1, h2, h3, h4⟩ | h)
      · simp only at h1; subst h1; exact ⟨Nat.le_refl _, by simp only; omega, h3, h4⟩
      · exact ⟨by simp only; omega, h.2⟩
    · intro h
      by_cases hp : p1 = a
      · subst hp; exact Or.inl ⟨rfl, by simp only; omega, h.2.2.1, h.2.2.2⟩
      · exact Or.inr ⟨by simp only; omega, h.2⟩
/-- some pair is there -/
def hp (e : Nat → Nat → Bool) (n : Nat) : Bool := !(prs e n).isEmpty
theorem hp_iff {e : Nat → Nat → Bool} {n : Nat} : hp e n = true ↔ ∃ a b, a < b ∧ b < n ∧ e a b = true := by
  unfold hp prs
  constructor
  · intro h
    cases hl : rr e n 0 with
    | nil => rw [hl] at h; exact absurd h (by decide)
    | cons p l =>
      have hm : p ∈ rr e n 0 := by rw [hl]; exact List.mem_cons_self
      have := (rr_mem 0).mp hm
      exact ⟨p.1, p.2, this.2.1, this.2.2.1, this.2.2.2⟩
  · rintro ⟨a, b, h1, h2, h3⟩
    have hm : (a, b) ∈ rr e n 0 := (rr_mem 0).mpr ⟨Nat.zero_le _, h1, h2, h3⟩
    cases hl : rr e n 0 with
    | nil => rw [hl] at hm; exact absurd hm List.not_mem_nil
    | cons p l => rfl
theorem hp_len {e : Nat → Nat → Bool} {n : Nat} : hp e n = decide (0 < (prs e n).length) := by
  unfold hp
  cases prs e n <;> simp
/-- who stands on a lot -/
def stn (lt : Nat → Int32) (at' : Int32) : Nat → Bool
  | 0 => false
  | n + 1 => stn lt at' n || (lt n == at')
theorem stn_iff {lt : Nat → Int32} {at' : Int32} {n : Nat} : stn lt at' n = true ↔ ∃ h, h < n ∧ lt h = at' := by
  induction n with
  | zero => simp [stn]
  | succ n ih =>
    rw [stn, Bool.or_eq_true, ih, beq_iff_eq]
    constructor
    · rintro (⟨h, h1, h2⟩ | h)
      · exact ⟨h, by omega, h2⟩
      · exact ⟨n, by omega, h⟩
    · rintro ⟨h, h1, h2⟩
      by_cases hh : h = n
      · subst hh; exact Or.inr h2
      · exact Or.inl ⟨h, by omega, h2⟩
theorem stn_false {lt : Nat → Int32} {at' : Int32} {n : Nat} : stn lt at' n = false ↔ ∀ h, h < n → lt h ≠ at' := by
  rw [← Bool.not_eq_true, stn_iff]
  constructor
  · intro h j hj e; exact h ⟨j, hj, e⟩
  · rintro h ⟨j, hj, e⟩; exact h j hj e
def fb (n : Nat) (kd lt : Nat → Int32) (at' : Int32) : Bool := !stn lt at' n && hp (ev kd lt at') n
/-! the class's houses -/
def HX (μ : qM) (o n : Nat) (kd lt : Nat → Int32) : Prop := μ o 0 = nI n ∧ n ≤ 10 ∧ ∀ j, j < n → μ (o + 1) j = kd j ∧ μ (o + 2) j = lt j
theorem HX.fars {μ : qM} {o n : Nat} {kd lt : Nat → Int32} (h : HX μ o n kd lt) (f : Nat → Int32) : HX (qr μ (o + 3) f) o n kd lt := by
  unfold HX
  rw [qr_n (show o ≠ o + 3 by omega), qr_n (show o + 1 ≠ o + 3 by omega), qr_n (show o + 2 ≠ o + 3 by omega)]
  exact h
theorem qr_qr {μ : qM} {i : Nat} {f g : Nat → Int32} : qr (qr μ i f) i g = qr μ i g := by
  funext a
  by_cases h : a = i
  · subst h; rw [qr_s, qr_s]
  · rw [qr_n h, qr_n h, qr_n h]
theorem qu_qr {μ : qM} {i k : Nat} {f : Nat → Int32} {x : Int32} : qu (qr μ i f) i k x = qr μ i (upd f k x) := by
  unfold qu
  rw [qr_s, qr_qr]
theorem qr_id {μ : qM} {i : Nat} : qr μ i (μ i) = μ := by
  funext a
  by_cases h : a = i
  · subst h; rw [qr_s]
  · rw [qr_n h]
def hasB (n : Nat) (v : Int32) : Bool := decide (¬ v < 0 ∧ ¬ nI n ≤ v)
theorem hasB_t {n : Nat} {v : Int32} (hn : n < 2 ^ 31) (h : hasB n v = true) : ∃ j, j < n ∧ v = nI j := by
  have h' := of_decide_eq_true h
  rcases pk_ix v hn with h1 | h1 | h1
  · exact absurd h1 h'.1
  · exact absurd h1 h'.2
  · exact h1
theorem hasB_nI {n j : Nat} (hn : n < 2 ^ 31) (h : j < n) : hasB n (nI j) = true := decide_eq_true ⟨nI_pos (by omega), nI_ge h hn⟩
theorem has_eq {μ : qM} {o n : Nat} {kd lt : Nat → Int32} (h : HX μ o n kd lt) (v : Int32) (post : Int32 → qM → Prop) : w_X1_has o v post μ = post (tb (hasB n v)) μ := by
  unfold w_X1_has q_X1_has_16 hasB
  simp only [q01, q11, true_or, or_true, true_and, pc_if, h.1]
  by_cases h1 : v < 0
  · simp [h1, tb]
  · by_cases h2 : nI n ≤ v
    · simp [h2, tb]
    · simp [h1, h2, tb]
theorem clp {j : Nat} (h : j < 2 ^ 31) : (nI j).toNatClampNeg = j := nI_clamp h
theorem stands_sp {μ : qM} {o n : Nat} {kd lt : Nat → Int32} (h : HX μ o n kd lt) (v : Int32) (post : Int32 → qM → Prop) (hp : post (tb (stn lt v n)) μ) : w_X1_stands o v post μ := by
  unfold w_X1_stands q_X1_stands_2
  obtain ⟨h0, h10, hj⟩ := h
  refine for1 n (fun j μ' => μ' = μ ∧ stn lt v j = false) ?_ 0 (Nat.zero_le _) ⟨rfl, rfl⟩
  rintro P j μ' hjn ⟨rfl, hs⟩ hP
  simp only [h0, q01, q11, true_or, or_true, true_and]
  refine ⟨fun hx => ?_, fun hx => ?_⟩
  · have : n ≤ j := pn_le (by omega) (by omega) hx
    rw [show j = n by omega] at hs
    rw [hs] at hp
    exact hp
  · have hlt : j < n := pn_nle (by omega) (by omega) hx
    rw [clp (by omega), (hj j hlt).2]
    refine ⟨vp_in_nI (by omega) (by omega), fun hne => hP _ hlt ⟨rfl, ?_⟩, fun he => ?_⟩
    · rw [stn, hs]; simpa using hne
    · have : stn lt v n = true := stn_iff.mpr ⟨j, hlt, he⟩
      rw [this] at hp
      exact hp
theorem measureAll_sp {μ : qM} {o n : Nat} {kd lt : Nat → Int32} (h : HX μ o n kd lt) (v : Int32) (post : qM → Prop) (hp : ∀ f : Nat → Int32, (∀ j, j < n → f j = fr (kd j) (lt j) v) → post (qr μ (o + 3) f)) : w_X1_measureAll o v post μ := by
  unfold w_X1_measureAll q_X1_measureAll_2
  refine for1 n (fun j μ' => ∃ f, μ' = qr μ (o + 3) f ∧ ∀ i, i < j → f i = fr (kd i) (lt i) v) ?_ 0 (Nat.zero_le _) ⟨μ (o + 3), qr_id.symm, fun _ h => absurd h (Nat.not_lt_zero _)⟩
  rintro P j μ' hjn ⟨f, rfl, hf⟩ hP
  obtain ⟨g0, h10, hj⟩ := h.fars f
  simp only [g0]
  refine ⟨fun hx => ?_, fun hx => ?_⟩
  · have : n ≤ j := pn_le (by omega) (by omega) hx
    exact hp f (fun i hi => hf i (by omega))
  · have hlt : j < n := pn_nle (by omega) (by omega) hx
    rw [clp (by omega), (hj j hlt).1, (hj j hlt).2, measure_eq]
    refine ⟨vp_in_nI (by omega) (by omega), vp_in_nI (by omega) (by omega), vp_in_nI (by omega) (by omega), hP _ hlt ⟨upd f j (fr (kd j) (lt j) v), qu_qr, fun i hi => ?_⟩⟩
    by_cases hij : i = j
    · subst hij; exact pk_us
    · rw [pk_un hij]; exact hf i (by omega)
/-- the pairs even from a lot, a house left out -/
def ew (kd lt : Nat → Int32) (at' w : Int32) (a b : Nat) : Bool := ev kd lt at' a b && (!(nI a == w) && !(nI b == w))
theorem evenPairs_sp {μ : qM} {o n : Nat} {kd lt : Nat → Int32} (h : HX μ o n kd lt) (v w : Int32) (lim : Nat) (hlim : lim ≤ 1000) (post : Int32 → qM → Prop) (hp : ∀ f : Nat → Int32, post (nI (min lim (prs (ew kd lt v w) n).length)) (qr μ (o + 3) f)) : w_X1_evenPairs o v w (nI lim) post μ := by
  unfold w_X1_evenPairs
  refine measureAll_sp h v _ (fun f hf => ?_)
  have hpf := hp f
  generalize hT : min lim (prs (ew kd lt v w) n).length = T at hpf
  have hX := h.fars f
  have hfa : ∀ j, j < n → (qr μ (o + 3) f) (o + 3) j = fr (kd j) (lt j) v := fun j hj => by rw [qr_s]; exact hf j hj
  generalize qr μ (o + 3) f = μ2 at hX hfa hpf
  obtain ⟨g0, h10, hj⟩ := hX
  unfold q_X1_evenPairs_11
  refine for2 n (fun j a μ' => μ' = μ2 ∧ ∃ c, a = nI c ∧ c ≤ lim ∧ min lim (c + (rr (ew kd lt v w) n j).length) = T) ?_ 0 (Nat.zero_le _) ⟨rfl, 0, rfl, Nat.zero_le _, by rw [Nat.zero_add]; exact hT⟩
  rintro P j a μ' hjn ⟨rfl, c, rfl, hc, hm⟩ hP
  unfold q_X1_evenPairs_125
  simp only [g0]
  refine ⟨fun hx => ?_, fun hx => ⟨fun hl => ?_, fun hl => ?_⟩⟩
  · have : n ≤ j := pn_le (by omega) (by omega) hx
    rw [rr_end this] at hm
    simp only [List.length_nil, Nat.add_zero] at hm
    rw [show c = T by omega]
    exact hpf
  · have : lim ≤ c := pn_le (by omega) (by omega) hl
    rw [show c = T by omega]
    exact hpf
  · have hlt : j < n := pn_nle (by omega) (by omega) hx
    have hcl : c < lim := pn_nle (by omega) (by omega) hl
    rw [rr_step hlt] at hm
    rw [nI_1]
    unfold q_X1_evenPairs_32
    refine for2 n (fun i a ν => ν = μ' ∧ ∃ c, a = nI c ∧ c ≤ lim ∧ min lim (c + (rl (ew kd lt v w) n j i ++ rr (ew kd lt v w) n (j + 1)).length) = T) ?_ (j + 1) (by omega) ⟨rfl, c, rfl, hc, hm⟩
    rintro P' i a' μ'' hin ⟨rfl, c', rfl, hc', hm'⟩ hP'
    unfold q_X1_evenPairs_119 q_X1_evenPairs_113
    simp only [g0]
    refine ⟨fun hx' => ?_, fun hx' => ⟨fun hl' => ?_, fun hl' => ?_⟩⟩
    · have hni : n ≤ i := pn_le (by omega) (by omega) hx'
      rw [rl_end hni, List.nil_append] at hm'
      exact hP _ _ hlt ⟨rfl, c', rfl, hc', hm'⟩
    · have hcc : lim ≤ c' := pn_le (by omega) (by omega) hl'
      refine hP _ _ hlt ⟨rfl, c', rfl, hc', ?_⟩
      omega
    · have hil : i < n := pn_nle (by omega) (by omega) hx'
      have hcl' : c' < lim := pn_nle (by omega) (by omega) hl'
      rw [rl_step hil] at hm'
      rw [clp (show j < 2 ^ 31 by omega), clp (show i < 2 ^ 31 by omega), hfa j hlt, hfa i hil, (hj j hlt).1, (hj j hlt).2, (hj i hil).1, (hj i hil).2, isPair_eq]
      have vj : vp_in (nI j) 10 := vp_in_nI (by omega) (by omega)
      have vi : vp_in (nI i) 10 := vp_in_nI (by omega) (by omega)
      have no : ew kd lt v w j i = false → P' (nI c') (nI i + 1) μ'' := fun he => hP' _ _ hil ⟨rfl, c', rfl, hc', by
        rw [he] at hm'; simpa using hm'⟩
      refine ⟨vj, vi, fun hne => no ?_, fun he => ⟨fun hw => no ?_, fun hw => ⟨fun hw2 => no ?_, fun hw2 => ⟨vj, vj, vi, vi, pb_if (fun hb => no ?_) (fun hb => ?_)⟩⟩⟩⟩
      · simp [ew, ev, hne]
      · simp [ew, hw]
      · simp [ew, hw2]
      · simp only [ew, ev, prB, hb, Bool.and_false, Bool.false_and]
      · have hee : ew kd lt v w j i = true := by
          simp only [ew, ev, prB, hb, he, Bool.and_true, Bool.and_eq_true, beq_self_eq_true, Bool.not_eq_true', beq_eq_false_iff_ne, ne_eq, true_and]
          exact ⟨hw, hw2⟩
        rw [hee] at hm'
        rw [nI_1]
        refine hP' _ _ hil ⟨rfl, c' + 1, rfl, by omega, ?_⟩
        simp only [if_true, List.length_append, List.length_cons, List.length_nil] at hm' ⊢
        rw [← hm']
        congr 1
        omega
