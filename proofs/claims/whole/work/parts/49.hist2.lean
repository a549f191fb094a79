theorem setN_bit (f : Nat → Bool) (n b : Nat) : (setN f n).testBit b = (decide (b < n) && f b) := by
  induction n with
  | zero => simp [setN]
  | succ n ih =>
    rw [setN]
    by_cases hf : f n = true
    · rw [if_pos hf, Nat.testBit_or, ih, Nat.testBit_two_pow]
      by_cases e : n = b
      · subst e; simp [hf]
      · have : (b < n + 1) = (b < n) := propext ⟨fun q => by omega, fun q => by omega⟩
        simp [e, this]
    · rw [if_neg hf, ih]
      by_cases e : n = b
      · subst e; simp [hf]
      · have : (b < n + 1) = (b < n) := propext ⟨fun q => by omega, fun q => by omega⟩
        simp [this]
theorem and_ne0 {E s : Nat} : E &&& s ≠ 0 ↔ ∃ b, E.testBit b = true ∧ s.testBit b = true := by
  constructor
  · intro h
    obtain ⟨b, hb⟩ := Nat.exists_testBit_of_ne_zero h
    rw [Nat.testBit_and, Bool.and_eq_true] at hb
    exact ⟨b, hb⟩
  · rintro ⟨b, h1, h2⟩ e
    have : (E &&& s).testBit b = true := by rw [Nat.testBit_and, h1, h2]; rfl
    rw [e, Nat.zero_testBit] at this
    cases this
def evB (kd lt : Nat → Int32) (h a b : Nat) : Bool := (fr (kd a) (lt a) (lt h) == fr (kd b) (lt b) (lt h)) && (!(a == b) && prB kd lt a b)
def ftB (n : Nat) (kd lt : Nat → Int32) (h s : Nat) : Bool := (List.range n).any (fun a => (List.range n).any (fun b => s.testBit a && (s.testBit b && evB kd lt h a b)))
theorem ftB_iff {n : Nat} {kd lt : Nat → Int32} {h s : Nat} : ftB n kd lt h s = true ↔ ∃ a b, a < n ∧ b < n ∧ s.testBit a = true ∧ s.testBit b = true ∧ evB kd lt h a b = true := by
  unfold ftB
  rw [List.any_eq_true]
  constructor
  · rintro ⟨a, ha, h1⟩
    rw [List.any_eq_true] at h1
    obtain ⟨b, hb, h2⟩ := h1
    rw [Bool.and_eq_true, Bool.and_eq_true] at h2
    exact ⟨a, b, List.mem_range.mp ha, List.mem_range.mp hb, h2.1, h2.2.1, h2.2.2⟩
  · rintro ⟨a, b, ha, hb, h1, h2, h3⟩
    refine ⟨a, List.mem_range.mpr ha, ?_⟩
    rw [List.any_eq_true]
    exact ⟨b, List.mem_range.mpr hb, by rw [h1, h2, h3]; rfl⟩
theorem prB_sym {kd lt : Nat → Int32} {a b : Nat} : prB kd lt a b = prB kd lt b a := by
  unfold prB; rw [Bool.and_comm]
theorem evB_sym {kd lt : Nat → Int32} {h a b : Nat} : evB kd lt h a b = evB kd lt h b a := by
  unfold evB
  rw [prB_sym, show (fr (kd a) (lt a) (lt h) == fr (kd b) (lt b) (lt h)) = (fr (kd b) (lt b) (lt h) == fr (kd a) (lt a) (lt h)) from Bool.beq_comm, show (a == b) = (b == a) from Bool.beq_comm]
def sumN (f : Nat → Nat) : Nat → Nat
  | 0 => 0
  | n + 1 => sumN f n + f n
def sq (n : Nat) (kd lt : Nat → Int32) (w : Nat → Nat) (s : Nat) (h : Nat) : Nat := if s.testBit h && ftB n kd lt h (s - 2 ^ h) then w (s - 2 ^ h) else 0
def fct : Nat → Nat
  | 0 => 1
  | n + 1 => (n + 1) * fct n
theorem fct_le : ∀ n, n ≤ 10 → fct n ≤ 3628800 := by decide
/-- the numbers of orders of sets, up to one -/
def WX (n : Nat) (kd lt : Nat → Int32) (ok : Nat → Bool) (N : Nat) (w : Nat → Nat) : Prop := (0 < N → w 0 = 1) ∧ ∀ s, s < N → 0 < s → (pcn 10 s ≤ 2 → w s = if ok s then pcn 10 s else 0) ∧ (2 < pcn 10 s → w s = sumN (sq n kd lt w s) n)
theorem sumN_cong {f g : Nat → Nat} {n : Nat} (h : ∀ j, j < n → f j = g j) : sumN f n = sumN g n := by
  induction n with
  | zero => rfl
  | succ n ih => rw [sumN, sumN, ih (fun j hj => h j (by omega)), h n (by omega)]
theorem cntB_mono {f : Nat → Bool} {n m : Nat} (h : n ≤ m) : cntB f n ≤ cntB f m := by
  induction m with
  | zero => have : n = 0 := by omega
            subst this; exact Nat.le_refl _
  | succ m ih =>
    by_cases e : n = m + 1
    · subst e; exact Nat.le_refl _
    · rw [cntB]; have := ih (by omega); omega
theorem WX_le {n : Nat} {kd lt : Nat → Int32} {ok : Nat → Bool} {N : Nat} {w : Nat → Nat} (hn : n ≤ 10) (hN : N ≤ 1024) (h : WX n kd lt ok N w) : ∀ s, s < N → w s ≤ fct (pcn 10 s) := by
  intro s
  induction s using Nat.strongRecOn with
  | _ s ih =>
    intro hs
    by_cases e : s = 0
    · subst e; rw [h.1 (by omega)]; decide
    · obtain ⟨h1, h2⟩ := h.2 s hs (by omega)
      have t3 := T3 s (by omega)
      by_cases q : pcn 10 s ≤ 2
      · rw [h1 q]
        have : pcn 10 s = 1 ∨ pcn 10 s = 2 := by have := t3.2.2 e; omega
        rcases this with r | r <;> rw [r] <;> split <;> decide
      · rw [h2 (by omega)]
        obtain ⟨p, hp⟩ : ∃ p, pcn 10 s = p + 1 := ⟨pcn 10 s - 1, by omega⟩
        have key : ∀ m, m ≤ 10 → sumN (sq n kd lt w s) m ≤ cntB (fun h => s.testBit h) m * fct p := by
          intro m
          induction m with
          | zero => intro _; exact Nat.zero_le _
          | succ m ihm =>
            intro hm
            rw [sumN, cntB, Nat.add_mul]
            have := ihm (by omega)
            refine Nat.add_le_add this ?_
            unfold sq
            cases hb : s.testBit m
            · simp
            · obtain ⟨g1, g2⟩ := T4 s (by omega) m (by omega) hb
              have := ih (s - 2 ^ m) g1 (by omega)
              rw [show pcn 10 (s - 2 ^ m) = p by omega] at this
              simp only [Bool.true_and, if_true, Nat.one_mul]
              split
              · exact this
              · exact Nat.zero_le _
        refine Nat.le_trans (key n hn) ?_
        rw [hp, fct]
        refine Nat.mul_le_mul_right _ ?_
        have := cntB_mono (f := fun h => s.testBit h) hn
        omega
theorem WX_lt {n : Nat} {kd lt : Nat → Int32} {ok : Nat → Bool} {N : Nat} {w : Nat → Nat} (hn : n ≤ 10) (hN : N ≤ 1024) (h : WX n kd lt ok N w) {s : Nat} (hs : s < N) : w s < 2 ^ 31 := by
  have h1 := WX_le hn hN h s hs
  have h2 := fct_le _ (T3 s (by omega)).2.1
  omega
/-- the class's fits -/
def E0 (μ : qM) (n : Nat) (kd lt : Nat → Int32) : Prop := μ 43 2 = nI n ∧ ∀ h a, h < n → a < n → μ 45 (10 * h + a) = nI (setN (evB kd lt h a) n)
theorem fits_sp {μ : qM} {n : Nat} {kd lt : Nat → Int32} {h s : Nat} (hn : n ≤ 10) (hE : E0 μ n kd lt) (hh : h < n) (hs : s < 1024) (post : Int32 → qM → Prop) (hp' : post (tb (ftB n kd lt h s)) μ) : w_X0_fits 43 (nI h) (nI s) post μ := by
  unfold w_X0_fits q_X0_fits_2 q_X0_fits_36
  refine for1 n (fun j μ' => μ' = μ ∧ ∀ a b, a < j → b < n → s.testBit a = true → s.testBit b = true → evB kd lt h a b = false) ?_ 0 (Nat.zero_le _) ⟨rfl, fun _ _ q => absurd q (Nat.not_lt_zero _)⟩
  rintro P j μ' hj ⟨rfl, hno⟩ hP
  rw [hE.1]
  refine ⟨fun hx => ⟨Or.inl rfl, ?_⟩, fun hx => ?_⟩
  · have : n ≤ j := pn_le (by omega) (by omega) hx
    have e : ftB n kd lt h s = false := by
      cases e : ftB n kd lt h s
      · rfl
      · obtain ⟨a, b, ha, hb, h1, h2, h3⟩ := ftB_iff.mp e
        rw [hno a b (by omega) hb h1 h2] at h3; cases h3
    rw [e] at hp'; exact hp'
  · have hlt : j < n := pn_nle (by omega) (by omega) hx
    have e10 : (10 : Int32) * nI h + nI j = nI (10 * h + j) := by rw [show (10 : Int32) = nI 10 from rfl, pk_mul, nI_add]
    have lt10 := setN_lt (evB kd lt h j) n
    have l1024 : (2 : Nat) ^ n ≤ 2 ^ 10 := Nat.pow_le_pow_right (by omega) hn
    rw [T1 s hs j (by omega), e10, clp (by omega)]
    have e45 : μ' (43 + 2) (10 * h + j) = nI (setN (evB kd lt h j) n) := hE.2 h j hh hlt
    rw [e45, nI_and _ _ (by omega) (by omega)]
    have no : (s.testBit j = true → ∀ b, b < n → s.testBit b = true → evB kd lt h j b = false) → P (nI j + 1) μ' := fun hb => hP _ hlt ⟨rfl, fun a b ha hb' h1 h2 => by
      by_cases e : a = j
      · subst e; exact hb h1 b hb' h2
      · exact hno a b (by omega) hb' h1 h2⟩
    have hand : setN (evB kd lt h j) n &&& s < 2 ^ 31 := by
      have : setN (evB kd lt h j) n &&& s ≤ s := Nat.and_le_right
      omega
    refine pb_if (fun hb => no (fun q => by rw [hb] at q; cases q)) (fun hb => ⟨vp_in_nI (by omega) (by omega), fun q => no (fun _ b hb' h2 => ?_), fun q => ⟨Or.inr rfl, ?_⟩⟩)
    · have e0 : setN (evB kd lt h j) n &&& s = 0 := pn_eq (b := 0) hand (by omega) q
      cases e : evB kd lt h j b
      · rfl
      · exact absurd e0 (and_ne0.mpr ⟨b, by rw [setN_bit, e]; simpa using hb', h2⟩)
    · have ne0 : setN (evB kd lt h j) n &&& s ≠ 0 := fun e => q (by rw [e]; rfl)
      obtain ⟨b, h1, h2⟩ := and_ne0.mp ne0
      rw [setN_bit, Bool.and_eq_true, decide_eq_true_eq] at h1
      have e : ftB n kd lt h s = true := ftB_iff.mpr ⟨j, b, hlt, h1.1, hb, h2, h1.2⟩
      rw [e] at hp'; exact hp'
/-- the reference's -/
theorem mfits_sp {μ : qM} {n : Nat} {kd lt : Nat → Int32} {h s : Nat} (hn : n ≤ 10) (hM : HM μ n kd lt) (hh : h < n) (hs : s < 1024) (post : Int32 → qM → Prop) (hp' : post (tb (ftB n kd lt h s)) μ) : w_X11_isFreeBy (nI s) (nI h) post μ := by
  unfold w_X11_isFreeBy q_X11_isFreeBy_2
  refine for1 n (fun j μ' => μ' = μ ∧ ∀ a b, a < j → a < b → b < n → s.testBit a = true → s.testBit b = true → evB kd lt h a b = false) ?_ 0 (Nat.zero_le _) ⟨rfl, fun _ _ q => absurd q (Nat.not_lt_zero _)⟩
  rintro P j μ' hj ⟨rfl, hno⟩ hP
  rw [hM.1]
  refine ⟨fun hx => ⟨Or.inl rfl, ?_⟩, fun hx => ?_⟩
  · have : n ≤ j := pn_le (by omega) (by omega) hx
    have e : ftB n kd lt h s = false := by
      cases e : ftB n kd lt h s
      · rfl
      · obtain ⟨a, b, ha, hb, h1, h2, h3⟩ := ftB_iff.mp e
        rcases Nat.lt_trichotomy a b with q | q | q
        · rw [hno a b (by omega) q hb h1 h2] at h3; cases h3
        · subst q; simp [evB] at h3
        · rw [evB_sym, hno b a (by omega) q ha h2 h1] at h3; cases h3
    rw [e] at hp'; exact hp'
  · have hlt : j < n := pn_nle (by omega) (by omega) hx
    rw [nI_1]
    unfold q_X11_isFreeBy_15 q_X11_isFreeBy_57 q_X11_isFreeBy_58 q_X11_isFreeBy_114
    refine for1 n (fun i μ2 => μ2 = μ' ∧ j < i ∧ ∀ b, j < b → b < i → s.testBit j = true → s.testBit b = true → evB kd lt h j b = false) ?_ (j + 1) (by omega) ⟨rfl, by omega, fun b h1 h2 => by omega⟩
    rintro P' i μ2 hi ⟨rfl, hji, hno2⟩ hP'
    rw [hM.1]
    refine ⟨fun hx => ?_, fun hx => ?_⟩
    · have : n ≤ i := pn_le (by omega) (by omega) hx
      rw [nI_1]
      have t := hP μ2 hlt ⟨rfl, fun a b ha hab hb' h1 h2 => by
        by_cases e : a = j
        · subst e; exact hno2 b hab (by omega) h1 h2
        · exact hno a b (by omega) hab hb' h1 h2⟩
      rw [nI_1] at t
      exact t
    · have hil : i < n := pn_nle (by omega) (by omega) hx
      have v1 : vp_in (nI j) 154 := vp_in_nI (by omega) (by omega)
      have v2 : vp_in (nI i) 154 := vp_in_nI (by omega) (by omega)
      have v3 : vp_in (nI h) 154 := vp_in_nI (by omega) (by omega)
      have no : (s.testBit j = true → s.testBit i = true → evB kd lt h j i = false) → P' (nI i + 1) μ2 := fun hb => hP' _ hil ⟨rfl, by omega, fun b h1 h2 h3 h4 => by
        by_cases e : b = i
        · subst e; exact hb h3 h4
        · exact hno2 b h1 (by omega) h3 h4⟩
      have t1 : ∀ x, x < n → ((nI s >>> (nI x &&& 31)) &&& 1 = 1) = (s.testBit x = true) := fun x hx' => by
        rw [T1 s hs x (by omega)]
        cases s.testBit x <;> simp [tb]
      have hji' : (j == i) = false := by rw [beq_eq_false_iff_ne]; omega
      have skip : P' (nI i + 1) μ2 → ((0 : Int32) = 0 → P' (nI i + 1) μ2) ∧ (¬ (0 : Int32) = 0 → (vp_in (nI j) 154 ∧ (vp_in (nI j) 154 ∧ (vp_in (nI h) 154 ∧ w_X11_farOf (μ2 47 (nI j).toNatClampNeg) (μ2 48 (nI j).toNatClampNeg) (μ2 48 (nI h).toNatClampNeg) (fun r83 μ83 => (vp_in (nI i) 154 ∧ (vp_in (nI i) 154 ∧ (vp_in (nI h) 154 ∧ w_X11_farOf (μ83 47 (nI i).toNatClampNeg) (μ83 48 (nI i).toNatClampNeg) (μ83 48 (nI h).toNatClampNeg) (fun r106 μ106 => ((¬ r83 = r106 → P' (nI i + 1) μ106) ∧ (r83 = r106 → (((1 : Int32) = 0 ∨ (1 : Int32) = 1) ∧ post (1 : Int32) μ106)))) μ83)))) μ2)))) := fun t => ⟨fun _ => t, fun q => absurd rfl q⟩
      rw [t1 j hlt, t1 i hil]
      refine ⟨fun q => skip (no (fun q1 _ => absurd q1 q)), fun q1 => ⟨fun q => skip (no (fun _ q2 => absurd q2 q)), fun q2 => ?_⟩⟩
      rw [marePair_eq hM hlt hil, hji']
      refine pb_if (fun hb => skip (no (fun _ _ => ?_))) (fun hb => ⟨fun q => absurd q (by decide), fun _ => ⟨v1, v1, v3, ?_⟩⟩)
      · have hb' : prB kd lt j i = false := by simpa using hb
        rw [evB, hb', Bool.and_false, Bool.and_false]
      · have hb' : prB kd lt j i = true := by simpa using hb
        rw [farOf_eq]
        refine ⟨v2, v2, v3, ?_⟩
        rw [farOf_eq, clp (show j < 2 ^ 31 by omega), clp (show i < 2 ^ 31 by omega), clp (show h < 2 ^ 31 by omega), (hM.arr hlt).1, (hM.arr hlt).2, (hM.arr hil).1, (hM.arr hil).2, (hM.arr hh).2]
        refine ⟨fun q => no (fun _ _ => ?_), fun q => ⟨Or.inr rfl, ?_⟩⟩
        · have : (fr (kd j) (lt j) (lt h) == fr (kd i) (lt i) (lt h)) = false := by rw [beq_eq_false_iff_ne]; exact q
          rw [evB, this, Bool.false_and]
        · have e : ftB n kd lt h s = true := ftB_iff.mpr ⟨j, i, hlt, hil, q1, q2, by rw [evB, q, hji', hb']; simp⟩
          rw [e] at hp'; exact hp'
