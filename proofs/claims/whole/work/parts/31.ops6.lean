section
variable {μ : qM} {n : Nat} {kd lt : Nat → Int32}
def ptN (n : Nat) (kd lt : Nat → Int32) (a : Nat) : Nat := setN (fun b => !(a == b) && prB kd lt a b) n
theorem ptN_lt {a : Nat} (hn : n ≤ 10) : ptN n kd lt a < 1024 := Nat.lt_of_lt_of_le (setN_lt _ n) (Nat.pow_le_pow_right (by omega) hn)
theorem ptn_N {a : Nat} (hn : n ≤ 10) : ptn n kd lt a = nI (ptN n kd lt a) := setI_N _ (by omega)
theorem countPairs_sp {o : Nat} (h : HX μ o n kd lt) (post : Int32 → qM → Prop) (hp' : post (sumI (fun a => nI (pcn 10 (ptN n kd lt a))) n / 2) μ) : w_X1_countPairs o post μ := by
  have h10 := h.2.1
  unfold w_X1_countPairs q_X1_countPairs_4
  refine for2 n (fun j x μ' => μ' = μ ∧ x = sumI (fun a => nI (pcn 10 (ptN n kd lt a))) j) ?_ 0 (Nat.zero_le _) ⟨rfl, rfl⟩
  rintro P j x μ' hjn ⟨rfl, rfl⟩ hP
  rw [h.1]
  refine ⟨fun hx => ⟨by decide, ?_⟩, fun hx => ?_⟩
  · have : n ≤ j := pn_le (by omega) (by omega) hx
    rw [show j = n by omega]; exact hp'
  · have hlt : j < n := pn_nle (by omega) (by omega) hx
    refine partners_sp h hlt _ ?_
    rw [ptn_N h10]
    refine bitCount_sp (ptN_lt h10) _ _ ?_
    exact hP _ _ hlt ⟨rfl, rfl⟩
theorem allPairs_sp (h : HM μ n kd lt) (h10 : n ≤ 10) (post : Int32 → qM → Prop) (hp' : post (sumI (fun a => nI (pcn 10 (ptN n kd lt a))) n / 2) μ) : w_X11_allPairs post μ := by
  unfold w_X11_allPairs q_X11_allPairs_4
  refine for2 n (fun j x μ' => μ' = μ ∧ x = sumI (fun a => nI (pcn 10 (ptN n kd lt a))) j) ?_ 0 (Nat.zero_le _) ⟨rfl, rfl⟩
  rintro P j x μ' hjn ⟨rfl, rfl⟩ hP
  rw [h.1]
  refine ⟨fun hx => ⟨by decide, ?_⟩, fun hx => ?_⟩
  · have : n ≤ j := pn_le (by omega) (by omega) hx
    rw [show j = n by omega]; exact hp'
  · have hlt : j < n := pn_nle (by omega) (by omega) hx
    refine mpairsOf_sp h hlt _ ?_
    rw [ptn_N h10]
    refine bits_sp (ptN_lt h10) _ _ ?_
    exact hP _ _ hlt ⟨rfl, rfl⟩
end
theorem allWorth_sp {μ : qM} {o : Nat} (post : Int32 → qM → Prop) (hp' : post (sumI (μ (o + 5)) 144) μ) : w_X9_allWorth o post μ := by
  unfold w_X9_allWorth q_X9_allWorth_4
  refine for2 144 (fun j x μ' => μ' = μ ∧ x = sumI (μ (o + 5)) j) ?_ 0 (Nat.zero_le _) ⟨rfl, rfl⟩
  rintro P j x μ' hjn ⟨rfl, rfl⟩ hP
  refine ⟨fun hx => ?_, fun hx => ?_⟩
  · have : 144 ≤ j := pn_le (by omega) (by omega) hx
    rw [show j = 144 by omega]; exact hp'
  · have hlt : j < 144 := pn_nle (by omega) (by omega) hx
    rw [clp (by omega)]
    exact ⟨vp_in_nI hlt (by omega), hP _ _ hlt ⟨rfl, rfl⟩⟩
theorem mallWorth_sp {μ : qM} (post : Int32 → qM → Prop) (hp' : post (sumI (μ 49) 144) μ) : w_X11_allWorth post μ := by
  unfold w_X11_allWorth q_X11_allWorth_4
  refine for2 144 (fun j x μ' => μ' = μ ∧ x = sumI (μ 49) j) ?_ 0 (Nat.zero_le _) ⟨rfl, rfl⟩
  rintro P j x μ' hjn ⟨rfl, rfl⟩ hP
  refine ⟨fun hx => ?_, fun hx => ?_⟩
  · have : 144 ≤ j := pn_le (by omega) (by omega) hx
    rw [show j = 144 by omega]; exact hp'
  · have hlt : j < 144 := pn_nle (by omega) (by omega) hx
    rw [clp (by omega)]
    exact ⟨vp_in_nI hlt (by omega), hP _ _ hlt ⟨rfl, rfl⟩⟩
theorem filled_sp {μ : qM} (post : Int32 → qM → Prop) (hp' : post (nI (cntB (fun j => !(μ 7 j == -1)) 10)) μ) : w_X9_filledSpots 1 post μ := by
  unfold w_X9_filledSpots q_X9_filledSpots_4 q_X9_filledSpots_23
  refine for2 10 (fun j x μ' => μ' = μ ∧ x = nI (cntB (fun j => !(μ 7 j == -1)) j)) ?_ 0 (Nat.zero_le _) ⟨rfl, rfl⟩
  rintro P j x μ' hjn ⟨rfl, rfl⟩ hP
  refine ⟨fun hx => ?_, fun hx => ?_⟩
  · have : 10 ≤ j := pn_le (by omega) (by omega) hx
    rw [show j = 10 by omega]; exact hp'
  · have hlt : j < 10 := pn_nle (by omega) (by omega) hx
    rw [clp (by omega)]
    refine ⟨vp_in_nI hlt (by omega), fun e => hP _ _ hlt ⟨rfl, ?_⟩, fun e => hP _ _ hlt ⟨rfl, ?_⟩⟩
    · have e' : μ' 7 j = -1 := e
      simp [cntB, e']
    · have e' : ¬ μ' 7 j = -1 := e
      simp [cntB, e', nI_1]
theorem holding_sp {μ : qM} (hs : ∀ j, j < 10 → μ 50 j = -1 ∨ 0 ≤ μ 50 j) (post : Int32 → qM → Prop) (hp' : post (nI (cntB (fun j => !(μ 50 j == -1)) 10)) μ) : w_X11_holding post μ := by
  unfold w_X11_holding q_X11_holding_4 q_X11_holding_25
  refine for2 10 (fun j x μ' => μ' = μ ∧ x = nI (cntB (fun j => !(μ 50 j == -1)) j)) ?_ 0 (Nat.zero_le _) ⟨rfl, rfl⟩
  rintro P j x μ' hjn ⟨rfl, rfl⟩ hP
  refine ⟨fun hx => ?_, fun hx => ?_⟩
  · have : 10 ≤ j := pn_le (by omega) (by omega) hx
    rw [show j = 10 by omega]; exact hp'
  · have hlt : j < 10 := pn_nle (by omega) (by omega) hx
    rw [clp (by omega)]
    refine ⟨vp_in_nI hlt (by omega), fun e => hP _ _ hlt ⟨rfl, ?_⟩, fun e => hP _ _ hlt ⟨rfl, ?_⟩⟩
    · have e' : ¬ μ' 50 j = -1 := fun q => by rw [q] at e; exact absurd e (by decide)
      simp [cntB, e', nI_1]
    · have e' : μ' 50 j = -1 := (hs j hlt).resolve_right e
      simp only [cntB, e', beq_self_eq_true, Bool.not_true, Bool.false_eq_true, if_false, Nat.add_zero]
      exact Int32.add_zero _
theorem cntB_congr {f g : Nat → Bool} {n : Nat} (h : ∀ j, j < n → f j = g j) : cntB f n = cntB g n := by
  induction n with
  | zero => rfl
  | succ n ih => rw [cntB, cntB, ih (fun j hj => h j (by omega)), h n (by omega)]
theorem op_count (v : Int32) : OP (w_X10_count v) (w_X11_count v) := by
  intro μ h
  obtain ⟨n, kd, lt, hX, hM, hW⟩ := h.1.1
  have h10 := hX.2.1
  obtain ⟨⟨r1, r2, r3, r4, r5, r6, r7⟩, r8⟩ := id h
  unfold w_X10_count w_X11_count w_X9_age w_X9_houses w_X1_size w_X9_purse w_X8_size w_X9_luck
  simp only [xf0, mf0, pc_if]
  by_cases e0 : v = 0
  · simp only [e0, if_true]
    obtain ⟨y, _, a, b⟩ := r4.2.1
    exact ⟨a.trans b.symm, h⟩
  · simp only [e0, if_false]
    by_cases e1 : v = 1
    · simp only [e1, if_true]
      exact ⟨by trivial, hX.1.trans hM.1.symm, h⟩
    · simp only [e1, if_false]
      by_cases e2 : v = 2
      · simp only [e2, if_true]; exact ⟨r4.1, h⟩
      · simp only [e2, if_false]
        by_cases e3 : v = 3
        · simp only [e3, if_true]
          exact ⟨by trivial, countPairs_sp hX _ (allPairs_sp hM h10 _ ⟨rfl, h⟩)⟩
        · simp only [e3, if_false]
          by_cases e4 : v = 4
          · simp only [e4, if_true]
            exact allWorth_sp _ (mallWorth_sp _ ⟨sumI_congr (fun j hj => (r2 j hj).1), h⟩)
          · simp only [e4, if_false]
            by_cases e5 : v = 5
            · simp only [e5, if_true]
              obtain ⟨m, _, a, b, _⟩ := r6
              exact ⟨a.trans b.symm, h⟩
            · simp only [e5, if_false]
              by_cases e6 : v = 6
              · simp only [e6, if_true]; exact ⟨r4.2.2, h⟩
              · simp only [e6, if_false]
                by_cases e7 : v = 7
                · simp only [e7, if_true]
                  refine filled_sp _ (holding_sp (fun j hj => by rw [← (r3 j hj).1]; exact (r3 j hj).2) _ ⟨?_, h⟩)
                  rw [cntB_congr (fun j hj => by rw [(r3 j hj).1])]
                · simp only [e7, if_false]
                  exact ⟨by trivial, h.fnd0 (by omega)⟩
/-! status -/
theorem sumI_one {f : Nat → Int32} {i n : Nat} (h : i < n) : sumI (fun k => if k = i then f k else 0) n = f i := by
  have hz : ∀ m, m ≤ i → sumI (fun k => if k = i then f k else 0) m = 0 := by
    intro m
    induction m with
    | zero => intro _; rfl
    | succ m ih => intro hm; rw [sumI, ih (by omega), if_neg (by omega)]; exact Int32.add_zero _
  have key : ∀ m, i < m → sumI (fun k => if k = i then f k else 0) m = f i := by
    intro m
    induction m with
    | zero => intro hm; omega
    | succ m ih =>
      intro hm
      rw [sumI]
      by_cases e : m = i
      · subst e; rw [hz m (Nat.le_refl _), if_pos rfl]; exact Int32.zero_add _
      · rw [ih (by omega), if_neg e]; exact Int32.add_zero _
  exact key n h
theorem status_sp {μ : qM} (post : Int32 → qM → Prop) (hp' : post (sumI (μ 33) 7) μ) : q_X10_status_33 post 0 0 μ := by
  unfold q_X10_status_33
  refine for2 7 (fun j x μ' => μ' = μ ∧ x = sumI (μ 33) j) ?_ 0 (Nat.zero_le _) ⟨rfl, rfl⟩
  rintro P j x μ' hjn ⟨rfl, rfl⟩ hP
  refine ⟨fun hx => ?_, fun hx => ?_⟩
  · have : 7 ≤ j := pn_le (by omega) (by omega) hx
    rw [show j = 7 by omega]; exact hp'
  · have hlt : j < 7 := pn_nle (by omega) (by omega) hx
    rw [clp (by omega)]
    exact ⟨vp_in_nI hlt (by omega), hP _ _ hlt ⟨rfl, rfl⟩⟩
theorem mstatus_sp {μ : qM} (v : Int32) (g : Nat → Bool) (hg : ∀ j, j < 7 → g j = (decide (v < 0) || decide (v = nI j))) (post : Int32 → qM → Prop) (hp' : post (sumI (fun k => if g k then μ 56 k else 0) 7) μ) : q_X11_status_20 v post 0 0 μ := by
  unfold q_X11_status_20 q_X11_status_36 q_X11_status_46
  refine for2 7 (fun j x μ' => μ' = μ ∧ x = sumI (fun k => if g k then μ 56 k else 0) j) ?_ 0 (Nat.zero_le _) ⟨rfl, rfl⟩
  rintro P j x μ' hjn ⟨rfl, rfl⟩ hP
  refine ⟨fun hx => ?_, fun hx => ?_⟩
  · have : 7 ≤ j := pn_le (by omega) (by omega) hx
    rw [show j = 7 by omega]; exact hp'
  · have hlt : j < 7 := pn_nle (by omega) (by omega) hx
    have vj : vp_in (nI j) 7 := vp_in_nI hlt (by omega)
    have hgj := hg j hlt
    rw [clp (by omega)]
    refine ⟨fun hn => ⟨vj, hP _ _ hlt ⟨rfl, ?_⟩⟩, fun hn => ⟨fun e => hP _ _ hlt ⟨rfl, ?_⟩, fun e => ⟨vj, hP _ _ hlt ⟨rfl, ?_⟩⟩⟩⟩
    · simp only [sumI, hgj, hn, decide_true, Bool.true_or, if_true]
    · simp only [sumI, hgj, hn, e, decide_false, Bool.or_self, Bool.false_eq_true, if_false]
    · simp only [sumI, hgj, e, decide_true, Bool.or_true, if_true]
theorem op_status (v : Int32) : OP (w_X10_status v) (w_X11_status v) := by
  intro μ h
  unfold w_X10_status w_X11_status q_X10_status_11
  simp only [within_eq, xf0, mf0, pt_if']
  have e7 : (v < (7 : Int32)) = ¬ ((6 : Int32) < v) := by
    rw [← le_lt (a := 7) (b := 6) (by decide) v]
    exact propext ⟨fun q => Int32.not_le.mpr q, fun q => Int32.not_le.mp q⟩
  have hb : inB v (-1) 6 = decide (¬ v < -1 ∧ ¬ 6 < v) := rfl
  by_cases h1 : v < -1
  · have : inB v (-1) 6 = false := by rw [hb]; simp [h1]
    refine ⟨fun _ => ?_, fun q => absurd h1 q⟩
    rw [this]
    exact ⟨by trivial, h.fnd0 (by omega)⟩
  · refine ⟨fun q => absurd q h1, fun _ => ?_⟩
    by_cases h6 : (6 : Int32) < v
    · have : inB v (-1) 6 = false := by rw [hb]; simp [h6]
      refine ⟨fun q => absurd h6 (by rw [← e7]; exact q), fun _ => ?_⟩
      rw [this]
      exact ⟨by trivial, h.fnd0 (by omega)⟩
    · have ht : inB v (-1) 6 = true := by rw [hb]; simp [h1, h6]
      refine ⟨fun _ => ?_, fun q => absurd (by rw [e7]; exact h6) q⟩
      simp only [ht, if_true]
      refine ⟨fun hn => ?_, fun hn => ?_⟩
      · refine status_sp _ (mstatus_sp v (fun _ => true) (fun j _ => by simp [hn]) _ ⟨?_, h⟩)
        exact sumI_congr (fun j hj => by rw [if_pos rfl]; exact h.2 j hj)
      · obtain ⟨i, hi, rfl⟩ := nI_of2 (M := 6) (n := 6) (by decide) hn (Int32.not_lt.mp h6)
        refine ⟨vp_in_nI (by omega) (by omega), ?_⟩
        rw [clp (by omega)]
        refine mstatus_sp (nI i) (fun k => decide (k = i)) (fun j hj => ?_) _ ⟨?_, h⟩
        · have hd : decide (nI i < 0) = false := decide_eq_false hn
          rw [hd, Bool.false_or]
          apply decide_eq_decide.mpr
          exact ⟨fun e => by rw [e], fun e => (pn_eq (by omega) (by omega) e).symm⟩
        · have := sumI_one (f := μ 56) (i := i) (n := 7) (by omega)
          simp only [decide_eq_true_eq]
          rw [this]
          exact h.2 i (by omega)
/-! sheets -/
theorem fill_sp {μ : qM} {o : Nat} (v : Int32) (post : qM → Prop) (hp' : ∀ f, (∀ j, j < 40 → f j = v) → post (qr μ o f)) : w_J7_fill_53178 o 15 v post μ := by
  unfold w_J7_fill_53178 q_J7_fill_53178_5
  show qL1 _ (nI 0) μ
  refine for1 40 (fun j μ' => ∃ f, μ' = qr μ o f ∧ ∀ i, i < j → f i = v) ?_ 0 (Nat.zero_le _) ⟨_, qr_id.symm, fun _ q => absurd q (Nat.not_lt_zero _)⟩
  rintro P j μ' hjn ⟨f, rfl, hf⟩ hP
  refine ⟨fun hx => ?_, fun hx => ?_⟩
  · have : 40 ≤ j := pn_le (a := 40) (by omega) (by omega) hx
    exact hp' f (fun i hi => hf i (by omega))
  · have hlt : j < 40 := pn_nle (a := 40) (by omega) (by omega) hx
    rw [clp (by omega)]
    refine ⟨(show vp_in (nI j) 40 from vp_in_nI hlt (by omega)), hP _ hlt ⟨upd f j v, qu_qr, fun i hi => ?_⟩⟩
    by_cases e : i = j
    · subst e; exact pk_us
    · rw [pk_un e]; exact hf i (by omega)
theorem RI.sh {μ ν : qM} (h : RI μ) (A : ∀ k, (Nat.ble 25 k && Nat.ble k 32) = false → (k == 62 || (k == 63 || (k == 64 || k == 65))) = false → ν k = μ k) (r7' : R7 ν) : RI ν := by
  obtain ⟨⟨r1, r2, r3, r4, r5, r6, r7⟩, r8⟩ := h
  have B : ν 46 = μ 46 := A 46 rfl rfl
  exact ⟨⟨r1.keep (by rw [A 2 rfl rfl]) (A 3 rfl rfl) (A 4 rfl rfl) (by rw [B]) (fun _ _ => ⟨by rw [A 47 rfl rfl], by rw [A 48 rfl rfl]⟩), r2.keep (A 6 rfl rfl) (A 49 rfl rfl), r3.keep (A 7 rfl rfl) (A 50 rfl rfl), r4.keep (A 1 rfl rfl) (by rw [B]) (by rw [B]) (by rw [B]), r5.keep (A 0 rfl rfl) (A 8 rfl rfl) (A 9 rfl rfl) (A 10 rfl rfl) (A 11 rfl rfl) (A 13 rfl rfl) (A 14 rfl rfl) (by rw [B]) (by rw [B]) (by rw [B]) (by rw [B]) (by rw [B]) (A 51 rfl rfl) (A 52 rfl rfl) (A 53 rfl rfl) (A 54 rfl rfl), r6.keep (A 22 rfl rfl) (A 23 rfl rfl) (by rw [B]) (A 55 rfl rfl), r7'⟩, r8.keep (A 33 rfl rfl) (A 56 rfl rfl)⟩
theorem R7.at {μ ν : qM} (h : R7 μ) {i : Nat} (hi : i < 4) (hn : ∀ s, s < 4 → s ≠ i → ν (25 + 2 * s) = μ (25 + 2 * s) ∧ ν (26 + 2 * s) = μ (26 + 2 * s) ∧ ν 62 s = μ 62 s ∧ ν 63 s = μ 63 s ∧ ∀ j, j < 40 → ν 64 (40 * s + j) = μ 64 (40 * s + j)) (g : ν (25 + 2 * i) 0 = ν 62 i ∧ (ν 62 i = 0 ∨ ν 62 i = 8 ∨ ν 62 i = 16 ∨ ν 62 i = 32) ∧ (∃ m, m ≤ 40 ∧ ν (25 + 2 * i) 1 = nI m ∧ ν 63 i = nI m) ∧ ∀ j, j < 40 → ν (26 + 2 * i) j = ν 64 (40 * i + j)) : R7 ν := by
  intro s hs
  by_cases e : s = i
  · subst e; exact g
  · obtain ⟨a, b, c, d, f⟩ := hn s hs e
    obtain ⟨g1, g2, g3, g4⟩ := h s hs
    rw [a, b, c, d]
    exact ⟨g1, g2, g3, fun j hj => by rw [f j hj]; exact g4 j hj⟩
def bk (v : Int32) : Bool := v == 0 || (v == 8 || (v == 16 || v == 32))
theorem bk_x {v : Int32} {A B : Prop} : ((v = 0 → A) ∧ (¬ v = 0 → ((v = 8 → A) ∧ (¬ v = 8 → ((v = 16 → A) ∧ (¬ v = 16 → ((v = 32 → A) ∧ (¬ v = 32 → B)))))))) = (if bk v = true then A else B) := by
  unfold bk
  by_cases h0 : v = 0
  · simp [h0]
  · by_cases h8 : v = 8
    · simp [h8]
    · by_cases h16 : v = 16
      · simp [h16]
      · by_cases h32 : v = 32
        · simp [h32]
        · simp [h0, h8, h16, h32]
theorem bk_m {v : Int32} {A B : Prop} : ((v = 0 → A) ∧ (¬ v = 0 → ((v = 8 → A) ∧ (¬ v = 8 → ((v = 16 → A) ∧ (¬ v = 16 → ((¬ v = 32 → B) ∧ (v = 32 → A)))))))) = (if bk v = true then A else B) := by
  rw [← bk_x]
  simp only [And.comm]
theorem bk_t {v : Int32} (h : bk v = true) : v = 0 ∨ v = 8 ∨ v = 16 ∨ v = 32 := by
  unfold bk at h
  simp only [Bool.or_eq_true, beq_iff_eq] at h
  exact h
theorem rule_sp {μ : qM} {o : Nat} (b : Int32) {m : Nat} (hm : m ≤ 40) (post : qM → Prop) (hp' : ∀ f, (∀ j, j < 40 → f j = 0) → post (qr (qu (qu μ o 0 b) o 1 (if b = 0 then 0 else nI m)) (o + 1) f)) : w_X6_rule o b (nI m) post μ := by
  unfold w_X6_rule q_X6_rule_20 q_X6_rule_25
  refine ⟨fun e => ?_, fun e => ⟨fun q => absurd q (nI_pos (by omega)), fun _ => ⟨fun _ => ?_, fun q => absurd (nI_le (b := 40) hm (by omega)) q⟩⟩⟩
  · refine fill_sp _ _ (fun f hf => ?_)
    have := hp' f hf
    rw [if_pos e] at this
    exact this
  · refine fill_sp _ _ (fun f hf => ?_)
    have := hp' f hf
    rw [if_neg e] at this
    exact this
theorem zero_sp {μ : qM} {i : Nat} (hi : i < 4) (post : Int32 → qM → Prop) (hp' : ∀ g, (∀ k, g k = if 40 * i ≤ k ∧ k < 40 * i + 40 then 0 else μ 64 k) → post (μ 63 i) (qr μ 64 g)) : q_X11_sheet_95 (nI i) post 0 μ := by
  unfold q_X11_sheet_95
  refine for1 40 (fun j μ' => ∃ g, μ' = qr μ 64 g ∧ ∀ k, g k = if 40 * i ≤ k ∧ k < 40 * i + j then 0 else μ 64 k) ?_ 0 (Nat.zero_le _) ⟨_, qr_id.symm, fun k => by rw [if_neg (by omega)]⟩
  rintro P j μ' hjn ⟨g, rfl, hg⟩ hP
  refine ⟨fun hx => ⟨vp_in_nI hi (by omega), ?_⟩, fun hx => ?_⟩
  · have : 40 ≤ j := pn_le (a := 40) (by omega) (by omega) hx
    have hj40 : j = 40 := by omega
    subst hj40
    rw [clp (by omega)]
    exact hp' g hg
  · have hlt : j < 40 := pn_nle (a := 40) (by omega) (by omega) hx
    have e : (40 : Int32) * nI i + nI j = nI (40 * i + j) := by rw [show (40 : Int32) = nI 40 from rfl, pk_mul, nI_add]
    rw [e, clp (by omega)]
    refine ⟨vp_in_nI (by omega) (by omega), hP _ hlt ⟨upd g (40 * i + j) 0, qu_qr, fun k => ?_⟩⟩
    by_cases ek : k = 40 * i + j
    · subst ek; rw [pk_us, if_pos (by omega)]
    · rw [pk_un ek, hg k]
      by_cases hc : 40 * i ≤ k ∧ k < 40 * i + j
      · rw [if_pos hc, if_pos (by omega)]
      · rw [if_neg hc, if_neg (by omega)]
theorem b32 {k : Nat} (h1 : 25 ≤ k) (h2 : k ≤ 32) : (Nat.ble 25 k && Nat.ble k 32) = true := by
  rw [Bool.and_eq_true]; exact ⟨Nat.ble_eq.mpr h1, Nat.ble_eq.mpr h2⟩
theorem inB_vp4 {v : Int32} (h : inB v 0 3 = true) : vp_in v 4 := by
  obtain ⟨i, hi, rfl⟩ := inB_t (m := 3) (by decide) h
  exact vp_in_nI (by omega) (by omega)
theorem op_sheet (v1 v2 v3 : Int32) : OP (w_X10_sheet v1 v2 v3) (w_X11_sheet v1 v2 v3) := by
  intro μ h
  unfold w_X10_sheet w_X11_sheet q_X10_sheet_34 q_X11_sheet_22 q_X11_sheet_27 q_X11_sheet_41 q_X10_sheet_41
  simp only [sheetIf, misSheet_eq, xf0, mf0, xf6, mf6, pt_if, bk_x, bk_m]
  cases hs : inB v1 0 3
  · simp only [Bool.false_eq_true, if_false, ite_self]
    exact ⟨by trivial, h.fnd0 (by omega)⟩
  · simp only [if_true]
    refine ⟨inB_vp4 hs, ?_⟩
    cases hb : bk v2
    · simp only [Bool.false_eq_true, if_false]
      exact ⟨fun q => absurd (by trivial) q, fun _ => ⟨by trivial, h.fnd0 (by omega)⟩⟩
    · obtain ⟨i, hi, rfl⟩ := inB_t (m := 3) (by decide) hs
      have h1 : ¬ (1 : Int32) = 0 := by decide
      have vi : vp_in (nI i) 4 := vp_in_nI (by omega) (by omega)
      simp only [if_true, h1, not_false_eq_true, false_implies, and_true, forall_const]
      by_cases h0 : 0 ≤ v3
      · refine ⟨fun _ => ?_, fun q => absurd h0 q⟩
        by_cases h40 : v3 ≤ 40
        · refine ⟨fun _ => ?_, fun q => absurd h40 q⟩
          obtain ⟨m, hm, rfl⟩ := nI_of2 (M := 40) (n := 40) (by decide) (Int32.not_lt.mpr h0) h40
          rw [clp (show i < 2 ^ 31 by omega)]
          refine rule_sp v2 hm _ (fun f hf => ?_)
          unfold w_X6_size
          generalize hsz : (if v2 = 0 then (0 : Int32) else nI m) = sz
          have hszm : ∃ m', m' ≤ 40 ∧ sz = nI m' := by
            by_cases e : v2 = 0
            · rw [if_pos e] at hsz; exact ⟨0, by omega, hsz.symm⟩
            · rw [if_neg e] at hsz; exact ⟨m, hm, hsz.symm⟩
          have fin : q_X11_sheet_91 (fun r' μ2 => (qr (qu (qu μ (25 + 2 * i) 0 v2) (25 + 2 * i) 1 sz) (25 + 2 * i + 1) f) (25 + 2 * i) 1 = r' ∧ RI μ2) (nI i) sz (nI i) (qu (qr (qu (qu μ (25 + 2 * i) 0 v2) (25 + 2 * i) 1 sz) (25 + 2 * i + 1) f) 62 i v2) := by
            unfold q_X11_sheet_91
            refine ⟨vi, ?_⟩
            rw [clp (by omega)]
            refine zero_sp (by omega) _ (fun g hg => ⟨?_, ?_⟩)
            · rw [qr_n (by omega), qu_s, pk_us, qu_s, pk_us]
            · refine h.sh (fun k a b => ?_) (h.1.2.2.2.2.2.2.at (i := i) (by omega) (fun s hs hsi => ?_) ?_)
              · have k1 : k ≠ 25 + 2 * i := fun e => by subst e; rw [b32 (by omega) (by omega)] at a; cases a
                have k2 : k ≠ 25 + 2 * i + 1 := fun e => by subst e; rw [b32 (by omega) (by omega)] at a; cases a
                simp only [Bool.or_eq_false_iff, beq_eq_false_iff_ne] at b
                rw [qr_n b.2.2.1, qu_n b.2.1, qu_n b.1, qr_n k2, qu_n k1, qu_n k1]
              · refine ⟨?_, ?_, ?_, ?_, fun j hj => ?_⟩
                · rw [qr_n (by omega), qu_n (by omega), qu_n (by omega), qr_n (by omega), qu_n (by omega), qu_n (by omega)]
                · rw [qr_n (by omega), qu_n (by omega), qu_n (by omega), qr_n (by omega), qu_n (by omega), qu_n (by omega)]
                · rw [qr_n (by omega), qu_n (by omega), qu_s, pk_un hsi, qr_n (by omega), qu_n (by omega), qu_n (by omega)]
                · rw [qr_n (by omega), qu_s, pk_un hsi, qu_n (by omega), qr_n (by omega), qu_n (by omega), qu_n (by omega)]
                · rw [qr_s, hg, if_neg (by omega), qu_n (by omega), qu_n (by omega), qr_n (by omega), qu_n (by omega), qu_n (by omega)]
              · refine ⟨?_, ?_, ?_, fun j hj => ?_⟩
                · rw [qr_n (by omega), qu_n (by omega), qu_n (by omega), qr_n (by omega), qu_s, pk_un (by omega), qu_s, pk_us, qr_n (by omega), qu_n (by omega), qu_s, pk_us]
                · rw [qr_n (by omega), qu_n (by omega), qu_s, pk_us]
                  exact bk_t hb
                · obtain ⟨m', hm', e⟩ := hszm
                  refine ⟨m', hm', ?_, ?_⟩
                  · rw [qr_n (by omega), qu_n (by omega), qu_n (by omega), qr_n (by omega), qu_s, pk_us, e]
                  · rw [qr_n (by omega), qu_s, pk_us, e]
                · rw [show 26 + 2 * i = 25 + 2 * i + 1 by omega, qr_n (by omega), qu_n (by omega), qu_n (by omega), qr_s, hf j hj, qr_s, hg, if_pos (by omega)]
          refine ⟨fun _ => ⟨fun _ => ⟨vi, fun e => ?_, fun e => ?_⟩, fun q => absurd h40 q⟩, fun q => absurd h0 q⟩
          · rw [if_neg e] at hsz
            subst hsz
            exact fin
          · rw [if_pos e] at hsz
            subst hsz
            exact fin
        · refine ⟨fun q => absurd q h40, fun _ => ⟨fun _ => ⟨fun q => absurd q h40, fun _ => ⟨by trivial, h.fnd0 (by omega)⟩⟩, fun q => absurd h0 q⟩⟩
      · exact ⟨fun q => absurd q h0, fun _ => ⟨fun q => absurd q h0, fun _ => ⟨by trivial, h.fnd0 (by omega)⟩⟩⟩
theorem isMissing_eq (o : Nat) (post : Int32 → qM → Prop) (μ : qM) : w_X6_isMissing o post μ = post (tb (μ o 0 == 0)) μ := by
  unfold w_X6_isMissing
  simp only [q01, q11, true_or, or_true, true_and, pc_if']
  by_cases h : μ o 0 = 0
  · simp [h, tb]
  · have : (μ o 0 == 0) = false := by simpa using h
    simp [h, this, tb]
theorem lacks_sp {μ : qM} (v : Int32) (post : Int32 → qM → Prop) (h0 : inB v 0 3 = false → post 0 μ) (h1 : ∀ i, i < 4 → v = nI i → (μ 62 i = 0 → post 5 μ) ∧ (¬ μ 62 i = 0 → post (-1) μ)) : w_X11_lacks v post μ := by
  unfold w_X11_lacks
  rw [misSheet_eq, pt_if']
  cases hs : inB v 0 3
  · exact h0 hs
  · obtain ⟨i, hi, rfl⟩ := inB_t (m := 3) (by decide) hs
    have := h1 i (by omega) rfl
    simp only [if_true]
    rw [clp (by omega)]
    exact ⟨vp_in_nI (by omega) (by omega), this.2, this.1⟩
/-- which sheets there are, and what they hold, on both sides -/
theorem op_write (v1 v2 v3 : Int32) : OP (w_X10_write v1 v2 v3) (w_X11_write v1 v2 v3) := by
  intro μ h
  unfold w_X10_write w_X11_write q_X10_write_48 w_X6_size
  simp only [sheetIf, isMissing_eq, xf0, mf0, xf5, mf5, pt_if, pt_if', within_eq]
  cases hs : inB v1 0 3
  · simp only [Bool.false_eq_true, if_false]
    refine lacks_sp _ _ (fun _ => ?_) (fun i hi e => ?_)
    · refine ⟨fun q => absurd q (by decide), fun _ => ?_⟩
      rw [mf0]
      exact ⟨by trivial, h.fnd0 (by omega)⟩
    · rw [e] at hs
      have : inB (nI i) 0 3 = true := decide_eq_true ⟨nI_pos (by omega), nI_nlt (b := i) (a := 3) (by omega) (by omega)⟩
      rw [this] at hs; cases hs
  · obtain ⟨i, hi, rfl⟩ := inB_t (m := 3) (by decide) hs
    have vi : vp_in (nI i) 4 := vp_in_nI (by omega) (by omega)
    obtain ⟨g1, g2, ⟨m, hm, g3, g3'⟩, g4⟩ := h.1.2.2.2.2.2.2 i (by omega)
    simp only [if_true, clp (show i < 2 ^ 31 by omega)]
    refine ⟨vi, ?_⟩
    cases hz : (μ (25 + 2 * i) 0 == 0)
    · simp only [Bool.false_eq_true, if_false]
      have hnz : ¬ μ 62 i = 0 := by rw [← g1]; simpa using hz
      have L : ∀ (ν : qM) (post : Int32 → qM → Prop), ν 62 i = μ 62 i → post (-1) ν → w_X11_lacks (nI i) post ν := fun ν post e hp => lacks_sp _ _ (fun q => by rw [q] at hs; cases hs) (fun i' hi' e' => by
        have : i' = i := (pn_eq (by omega) (by omega) e').symm
        subst this
        rw [e]
        exact ⟨fun q => absurd q hnz, fun _ => hp⟩)
      have hin : inB v2 0 (nI m - 1) = hasB m v2 := by
        unfold inB hasB
        apply decide_eq_decide.mpr
        rw [le_lt (a := nI m) (b := nI m - 1) (by
          rw [nI_toInt (by omega), show nI m - 1 = nI m - nI 1 from rfl, pk_sub_toInt (by omega) (by omega)]
          omega) v2]
      cases hh : hasB m v2
      · have bad : w_X11_lacks (nI i) (fun r2 μ2 => (r2 < 0 → vp_in (nI i) 4 ∧ if inB v2 0 (μ2 63 i - 1) = true then vp_in (nI i) 4 ∧ w_X11_cut v3 (μ2 62 i) (fun r58 μ58 => vp_in ((40 : Int32) * nI i + v2) 160 ∧ -1000001 = (1 : Int32) ∧ RI (qu μ58 64 ((40 : Int32) * nI i + v2).toNatClampNeg r58)) μ2 else True ∧ RI (qu μ2 56 0 (μ2 56 0 + 1))) ∧ (¬ r2 < 0 → w_X11_finding r2 (fun r15 μ15 => (-1000001 : Int32) = r15 ∧ RI μ15) μ2)) (qu μ 33 0 (μ 33 0 + 1)) := L _ _ rfl ⟨fun _ => ⟨vi, by
          have e63 : (qu μ 33 0 (μ 33 0 + 1)) 63 i = nI m := g3'
          rw [e63, hin, hh]
          exact ⟨by trivial, h.fnd0 (by omega)⟩⟩, fun q => absurd (by decide) q⟩
        refine ⟨fun _ => by simpa using bad, fun hn => ?_⟩
        rw [g3]
        refine ⟨fun q => ?_, fun _ => by simpa using bad⟩
        exfalso
        have h' := of_decide_eq_false hh
        exact h' ⟨hn, Int32.not_le.mpr q⟩
      · obtain ⟨j, hj, rfl⟩ := hasB_t (by omega) hh
        refine ⟨fun q => absurd q (nI_pos (by omega)), fun _ => ?_⟩
        rw [g3]
        refine ⟨fun _ => ?_, fun q => absurd (nI_lt hj (by omega)) q⟩
        have vj : vp_in (nI j) 40 := vp_in_nI (by omega) (by omega)
        have e40 : (40 : Int32) * nI i + nI j = nI (40 * i + j) := by rw [show (40 : Int32) = nI 40 from rfl, pk_mul, nI_add]
        have v160 : vp_in (nI (40 * i + j)) 160 := vp_in_nI (by omega) (by omega)
        have fin : ∀ x : Int32, (∀ post : Int32 → qM → Prop, ∀ ν, post x ν → w_X11_cut v3 (μ 62 i) post ν) → w_X11_lacks (nI i) (fun r2 μ2 => (r2 < 0 → vp_in (nI i) 4 ∧ if inB (nI j) 0 (μ2 63 i - 1) = true then vp_in (nI i) 4 ∧ w_X11_cut v3 (μ2 62 i) (fun r58 μ58 => vp_in ((40 : Int32) * nI i + nI j) 160 ∧ (1 : Int32) = 1 ∧ RI (qu μ58 64 ((40 : Int32) * nI i + nI j).toNatClampNeg r58)) μ2 else (1 : Int32) = -1000001 ∧ RI (qu μ2 56 0 (μ2 56 0 + 1))) ∧ (¬ r2 < 0 → w_X11_finding r2 (fun r15 μ15 => (1 : Int32) = r15 ∧ RI μ15) μ2)) (qu μ (25 + 2 * i + 1) j x) := fun x hx => by
          have a62 : (qu μ (25 + 2 * i + 1) j x) 62 i = μ 62 i := by rw [qu_n (by omega)]
          have a63 : (qu μ (25 + 2 * i + 1) j x) 63 i = nI m := by rw [qu_n (by omega)]; exact g3'
          refine L _ _ a62 ⟨fun _ => ⟨vi, ?_⟩, fun q => absurd (by decide) q⟩
          rw [a63, hin, hh, a62]
          simp only [if_true]
          refine ⟨vi, hx _ _ ?_⟩
          rw [e40, clp (by omega)]
          refine ⟨v160, by trivial, ?_⟩
          refine h.sh (fun k a b => ?_) (h.1.2.2.2.2.2.2.at (i := i) (by omega) (fun s hs hsi => ?_) ?_)
          · have k2 : k ≠ 25 + 2 * i + 1 := fun e => by subst e; rw [b32 (by omega) (by omega)] at a; cases a
            simp only [Bool.or_eq_false_iff, beq_eq_false_iff_ne] at b
            rw [qu_n b.2.2.1, qu_n k2]
          · refine ⟨?_, ?_, ?_, ?_, fun j' hj' => ?_⟩
            · rw [qu_n (by omega), qu_n (by omega)]
            · rw [qu_n (by omega), qu_n (by omega)]
            · rw [qu_n (by omega), qu_n (by omega)]
            · rw [qu_n (by omega), qu_n (by omega)]
            · rw [qu_s, pk_un (by omega), qu_n (by omega)]
          · refine ⟨?_, ?_, ⟨m, hm, ?_, ?_⟩, fun j' hj' => ?_⟩
            · rw [qu_n (by omega), qu_n (by omega), qu_n (by omega), qu_n (by omega)]; exact g1
            · rw [qu_n (by omega), qu_n (by omega)]; exact g2
            · rw [qu_n (by omega), qu_n (by omega)]; exact g3
            · rw [qu_n (by omega), qu_n (by omega)]; exact g3'
            · rw [show 26 + 2 * i = 25 + 2 * i + 1 by omega, qu_n (by omega), qu_s, qu_s]
              by_cases e : j' = j
              · subst e; rw [pk_us, pk_us]
              · rw [pk_un e, pk_un (by omega), qu_n (by omega), show 25 + 2 * i + 1 = 26 + 2 * i by omega]
                exact g4 j' hj'
        unfold w_X6_set q_X6_set_46
        rw [clp (by omega), g3]
        refine ⟨fun q => absurd q (nI_pos (by omega)), fun _ => ⟨fun q => absurd q (nI_ge hj (by omega)), fun _ => ⟨fun e8 => ⟨fun e16 => ⟨vj, ?_⟩, fun e16 => ⟨vj, ?_⟩⟩, fun e8 => ⟨vj, ?_⟩⟩⟩⟩
        · have := fin v3 (fun post ν hp => by unfold w_X11_cut; rw [← g1]; exact ⟨fun _ => ⟨fun _ => hp, fun q => absurd q e16⟩, fun q => absurd q e8⟩)
          simpa using this
        · have := fin v3.toInt16.toInt32 (fun post ν hp => by unfold w_X11_cut; rw [← g1]; exact ⟨fun _ => ⟨fun q => absurd e16 q, fun _ => hp⟩, fun q => absurd q e8⟩)
          simpa using this
        · have := fin v3.toInt8.toInt32 (fun post ν hp => by unfold w_X11_cut; rw [← g1]; exact ⟨fun q => absurd e8 q, fun _ => hp⟩)
          simpa using this
    · simp only [if_true]
      have hz' : μ 62 i = 0 := by rw [← g1]; simpa using hz
      refine lacks_sp _ _ (fun q => by rw [q] at hs; cases hs) (fun i' hi' e' => ?_)
      have : i' = i := (pn_eq (by omega) (by omega) e').symm
      subst this
      refine ⟨fun _ => ⟨fun q => absurd q (by decide), fun _ => ?_⟩, fun q => absurd hz' q⟩
      rw [mf5]
      exact ⟨by trivial, h.fnd0 (by omega)⟩
