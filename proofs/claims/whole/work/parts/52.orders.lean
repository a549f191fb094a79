theorem okm (n : Nat) : OKD n (-1) (fun _ => true) := Or.inl ⟨by decide, fun _ => rfl⟩
theorem okf {n f : Nat} (hf : f < n) : OKD n (nI f) (fun s => s.testBit f) := Or.inr ⟨f, hf, rfl, fun _ => rfl⟩
theorem yk_sa {μ μ' : qM} (g : YK 43 44 45 45 μ μ') : SA μ μ' := g.sa rfl
theorem all_nI {n : Nat} (hn : n ≤ 10) : ((1 : Int32) <<< (nI n &&& 31)) - 1 = nI (2 ^ n - 1) := by
  have lp : 0 < 2 ^ n := Nat.two_pow_pos n
  rw [shl_tab n (by omega)]
  exact pk_sub (b := 1) (by omega)
theorem op_orders : OP w_X10_orders w_X11_orders := by
  intro μ h
  obtain ⟨n, kd, lt, hX, hM, hW⟩ := h.1.1
  have hn := hX.2.1
  have l10 : (2 : Nat) ^ n ≤ 2 ^ 10 := Nat.pow_le_pow_right (by omega) hn
  have lp : 0 < 2 ^ n := Nat.two_pow_pos n
  unfold w_X10_orders w_X11_orders w_X9_houses
  refine ⟨rfl, tell_sp (ok := fun _ => true) _ ((okm n).x hn) hX _ (fun μ1 w g hE hWX hw => ?_)⟩
  have hM1 := (yk_sa g).hm hM
  refine findWays_sp (okm n) hn hM1 _ (fun μ2 w' g2 hWM hw' => ?_)
  rw [(g2.hm hM1).1, all_nI hn, clp (by omega), hw' _ (by omega)]
  exact ⟨vp_in_nI (by omega) (by omega), by rw [WXM_all hn hWX hWM (fun _ => rfl)], (h.sa (yk_sa g)).sa g2⟩
theorem op_founders (v : Int32) : OP (w_X10_founders v) (w_X11_founders v) := by
  intro μ h
  obtain ⟨n, kd, lt, hX, hM, hW⟩ := h.1.1
  have hn := hX.2.1
  have l10 : (2 : Nat) ^ n ≤ 2 ^ 10 := Nat.pow_le_pow_right (by omega) hn
  have lp : 0 < 2 ^ n := Nat.two_pow_pos n
  unfold w_X10_founders w_X11_founders w_X9_houses
  refine ⟨rfl, ?_⟩
  rw [has_eq hX, pt_if']
  cases hh : hasB n v
  · simp only [Bool.false_eq_true, if_false]
    rw [xf0]
    refine misHouse_sp (n := n) (kd := kd) (lt := lt) (by exact hM) _ _ ?_
    rw [hh]
    refine ⟨fun q => absurd rfl q, fun _ => ?_⟩
    rw [mf0]; exact ⟨rfl, h.fnd0 (by omega)⟩
  · obtain ⟨f, hf, rfl⟩ := hasB_t (by omega) hh
    simp only [if_true]
    refine ⟨by trivial, tell_sp (ok := fun s => s.testBit f) _ ((okf hf).x hn) hX _ (fun μ1 w g hE hWX hw => ?_)⟩
    have hM1 := (yk_sa g).hm hM
    refine misHouse_sp hM1 _ _ ?_
    rw [hh]
    refine ⟨fun _ => ?_, fun q => absurd q (by decide)⟩
    refine findWays_sp (okf hf) hn hM1 _ (fun μ2 w' g2 hWM hw' => ?_)
    rw [(g2.hm hM1).1, all_nI hn, clp (by omega), hw' _ (by omega)]
    exact ⟨vp_in_nI (by omega) (by omega), by rw [WXM_all hn hWX hWM (fun e => by subst e; have : f = 0 := by omega
                                                                                  subst this; rfl)], (h.sa (yk_sa g)).sa g2⟩
def lB (n : Nat) (kd lt : Nat → Int32) (w : Nat → Nat) (h : Nat) : Bool := !(w (2 ^ n - 1 - 2 ^ h) == 0) && (decide (n ≤ 2) || ftB n kd lt h (2 ^ n - 1 - 2 ^ h))
theorem rmv_all {n h : Nat} (hh : h < n) : rmv (2 ^ n - 1) h = 2 ^ n - 1 - 2 ^ h := by
  have : (2 ^ n - 1).testBit h = true := by rw [Nat.testBit_two_pow_sub_one]; exact decide_eq_true hh
  rw [rmv, this]; rfl
theorem WXM_every {n : Nat} {kd lt : Nat → Int32} {w w' : Nat → Nat} (hn : n ≤ 10) (h : WX n kd lt (fun _ => true) (2 ^ n) w) (h' : WM n kd lt (fun _ => true) (2 ^ n) w') : ∀ s, s < 2 ^ n → w s = w' s := by
  have l10 : (2 : Nat) ^ n ≤ 2 ^ 10 := Nat.pow_le_pow_right (by omega) hn
  intro s hs
  by_cases p2 : 2 ≤ pcn 10 s
  · exact WXM hn h h' s hs p2
  · rcases Nat.eq_zero_or_pos s with e | e
    · subst e; exact (h.1 (by omega)).trans (h'.1 (by omega)).symm
    · have p1 : pcn 10 s = 1 := by have := (T3 s (by omega)).2.2 (by omega); omega
      rw [(h.2 s hs e).1 (by omega), WM_1 hn h' (Or.inr rfl) hs p1, p1]; rfl
theorem lastOne_sp {μ : qM} {n : Nat} {kd lt : Nat → Int32} {w : Nat → Nat} (hn : n ≤ 10) (hE : E0 μ n kd lt) (hW : WX n kd lt (fun _ => true) (2 ^ n) w) (hw : ∀ x, x < 2 ^ n → μ 44 x = nI (w x)) (post : Int32 → qM → Prop) (h1 : ∀ h, h < n → lB n kd lt w h = true → (∀ x, h < x → x < n → lB n kd lt w x = false) → post (nI h) μ) (h0 : (∀ x, x < n → lB n kd lt w x = false) → post (-1) μ) : w_X0_lastOne 43 post μ := by
  have l10 : (2 : Nat) ^ n ≤ 2 ^ 10 := Nat.pow_le_pow_right (by omega) hn
  have lp : 0 < 2 ^ n := Nat.two_pow_pos n
  unfold w_X0_lastOne
  rw [hE.1, all_nI hn]
  unfold q_X0_lastOne_16 q_X0_lastOne_56 q_X0_lastOne_54
  refine for1d (fun i => nI i - 1) (fun i μ' => μ' = μ ∧ i ≤ n ∧ ∀ x, i ≤ x → x < n → lB n kd lt w x = false) ?_ n μ ⟨rfl, Nat.le_refl _, fun x a b => by omega⟩
  rintro P i μ' ⟨rfl, hi, hno⟩ hP
  cases i with
  | zero => exact ⟨fun _ => h0 (fun x hx => hno x (Nat.zero_le _) hx), fun q => absurd (by decide) q⟩
  | succ i =>
    show ((nI (i + 1) - 1) < 0 → _) ∧ (¬ (nI (i + 1) - 1) < 0 → _)
    rw [nI_pred]
    refine ⟨fun q => absurd q (nI_pos (by omega)), fun _ => ?_⟩
    have em : nI i + -1 = nI i - 1 := by grind
    have l2i : 0 < 2 ^ i := Nat.two_pow_pos i
    have lt' : 2 ^ n - 1 - 2 ^ i < 2 ^ n := by omega
    rw [T2 _ (by omega) i (by omega), rmv_all (by omega), clp (by omega), show μ' (43 + 1) (2 ^ n - 1 - 2 ^ i) = nI (w (2 ^ n - 1 - 2 ^ i)) from hw _ lt', hE.1, em]
    have wl := WX_lt hn (by omega) hW lt'
    have no : lB n kd lt w i = false → P (nI i - 1) μ' := fun hb => hP i μ' rfl ⟨rfl, by omega, fun x a b => by
      by_cases e : x = i
      · subst e; exact hb
      · exact hno x (by omega) b⟩
    have yes : lB n kd lt w i = true → post (nI i) μ' := fun hb => h1 i (by omega) hb (fun x a b => hno x (by omega) b)
    refine ⟨vp_in_nI (by omega) (by omega), fun q => no ?_, fun q => ?_⟩
    · have : w (2 ^ n - 1 - 2 ^ i) = 0 := by have := pn_le (b := 0) wl (by omega) q; omega
      rw [lB, this]; rfl
    · have w0 : (w (2 ^ n - 1 - 2 ^ i) == 0) = false := by
        rw [beq_eq_false_iff_ne]; intro e; rw [e] at q; exact q (Int32.le_refl _)
      refine ⟨fun q2 => yes ?_, fun q2 => ?_⟩
      · have : n ≤ 2 := pn_le (b := 2) (by omega) (by omega) q2
        rw [lB, w0, decide_eq_true this]; rfl
      · have : ¬ n ≤ 2 := by have := pn_nle (b := 2) (by omega) (by omega) q2; omega
        refine fits_sp hn hE (by omega) (by omega) _ (pb_if (fun hf => no ?_) (fun hf => yes ?_))
        · rw [lB, hf, decide_eq_false this, Bool.or_false, Bool.and_false]
        · rw [lB, hf, w0, Bool.or_true]; rfl
theorem mlatest_sp {μ : qM} {n : Nat} {kd lt : Nat → Int32} {w : Nat → Nat} (hn : n ≤ 10) (hM : HM μ n kd lt) (hwl : ∀ x, x < 2 ^ n → w x < 2 ^ 31) (hw : ∀ x, x < 2 ^ n → μ 60 x = nI (w x)) (post : Int32 → qM → Prop) (h1 : ∀ h, h < n → lB n kd lt w h = true → (∀ x, h < x → x < n → lB n kd lt w x = false) → post (nI h) μ) (h0 : (∀ x, x < n → lB n kd lt w x = false) → w_X11_finding 3 post μ) : q_X11_latest_21 (((1 : Int32) <<< ((μ 46 0) &&& 31)) - (1 : Int32)) post ((μ 46 0) - (1 : Int32)) μ := by
  have l10 : (2 : Nat) ^ n ≤ 2 ^ 10 := Nat.pow_le_pow_right (by omega) hn
  have lp : 0 < 2 ^ n := Nat.two_pow_pos n
  rw [hM.1, all_nI hn]
  unfold q_X11_latest_21 q_X11_latest_63 q_X11_latest_69
  refine for1d (fun i => nI i - 1) (fun i μ' => μ' = μ ∧ i ≤ n ∧ ∀ x, i ≤ x → x < n → lB n kd lt w x = false) ?_ n μ ⟨rfl, Nat.le_refl _, fun x a b => by omega⟩
  rintro P i μ' ⟨rfl, hi, hno⟩ hP
  cases i with
  | zero => exact ⟨fun _ => ⟨fun q => absurd q (by decide), fun _ => h0 (fun x hx => hno x (Nat.zero_le _) hx)⟩, fun q => absurd (by decide) q⟩
  | succ i =>
    show ((nI (i + 1) - 1) < 0 → _) ∧ (¬ (nI (i + 1) - 1) < 0 → _)
    rw [nI_pred]
    refine ⟨fun q => absurd q (nI_pos (by omega)), fun _ => ?_⟩
    have em : nI i + -1 = nI i - 1 := by grind
    have l2i : 0 < 2 ^ i := Nat.two_pow_pos i
    have lt' : 2 ^ n - 1 - 2 ^ i < 2 ^ n := by omega
    rw [T2 _ (by omega) i (by omega), rmv_all (by omega), clp (by omega), hw _ lt', hM.1, em]
    have wl := hwl _ lt'
    have no : lB n kd lt w i = false → P (nI i - 1) μ' := fun hb => hP i μ' rfl ⟨rfl, by omega, fun x a b => by
      by_cases e : x = i
      · subst e; exact hb
      · exact hno x (by omega) b⟩
    have yes : lB n kd lt w i = true → ((0 ≤ nI i → post (nI i) μ') ∧ (¬ 0 ≤ nI i → w_X11_finding 3 post μ')) := fun hb => ⟨fun _ => h1 i (by omega) hb (fun x a b => hno x (by omega) b), fun q => absurd (nI_pos' (by omega)) q⟩
    refine ⟨vp_in_nI (by omega) (by omega), fun q => no ?_, fun q => ?_⟩
    · have : w (2 ^ n - 1 - 2 ^ i) = 0 := pn_eq (b := 0) wl (by omega) q
      rw [lB, this]; rfl
    · have w0 : (w (2 ^ n - 1 - 2 ^ i) == 0) = false := by
        rw [beq_eq_false_iff_ne]; intro e; rw [e] at q; exact q rfl
      refine ⟨fun q2 => yes ?_, fun q2 => ?_⟩
      · have : n ≤ 2 := pn_le (b := 2) (by omega) (by omega) q2
        rw [lB, w0, decide_eq_true this]; rfl
      · have : ¬ n ≤ 2 := by have := pn_nle (b := 2) (by omega) (by omega) q2; omega
        refine mfits_sp hn hM (by omega) (by omega) _ (pb_if' (fun hf => yes ?_) (fun hf => no ?_))
        · rw [lB, hf, w0, Bool.or_true]; rfl
        · rw [lB, hf, decide_eq_false this, Bool.or_false, Bool.and_false]
theorem op_latest : OP w_X10_latest w_X11_latest := by
  intro μ h
  obtain ⟨n, kd, lt, hX, hM, hW⟩ := h.1.1
  have hn := hX.2.1
  have l10 : (2 : Nat) ^ n ≤ 2 ^ 10 := Nat.pow_le_pow_right (by omega) hn
  have lp : 0 < 2 ^ n := Nat.two_pow_pos n
  unfold w_X10_latest w_X11_latest w_X9_houses
  refine ⟨rfl, tell_sp (ok := fun _ => true) _ ((okm n).x hn) hX _ (fun μ1 w g hE hWX hw => ?_)⟩
  have gS := yk_sa g
  refine lastOne_sp hn hE hWX hw _ (fun x hx c1 c2 => ⟨fun _ => ?_, fun q => absurd (nI_pos' (by omega)) q⟩) (fun c1 => ⟨fun q => absurd q (by decide), fun _ => ?_⟩)
  · have hM1 := gS.hm hM
    refine findWays_sp (okm n) hn hM1 _ (fun μ2 w' g2 hWM hw' => ?_)
    have ew := WXM_every hn hWX hWM
    refine mlatest_sp (w := w) hn (g2.hm hM1) (fun s hs => WX_lt hn (by omega) hWX hs) (fun s hs => by rw [ew s hs]; exact hw' s hs) _ (fun y hy d1 d2 => ⟨?_, (h.sa gS).sa g2⟩) (fun d1 => ?_)
    · rcases Nat.lt_trichotomy x y with q | q | q
      · rw [c2 y q hy] at d1; cases d1
      · rw [q]
      · rw [d2 x q hx] at c1; cases c1
    · rw [d1 x hx] at c1; cases c1
  · rw [xf3]
    have hM1 : HM (qu μ1 33 3 (μ1 33 3 + 1)) n kd lt := gS.hm hM
    refine findWays_sp (okm n) hn hM1 _ (fun μ2 w' g2 hWM hw' => ?_)
    have ew := WXM_every hn hWX hWM
    refine mlatest_sp (w := w) hn (g2.hm hM1) (fun s hs => WX_lt hn (by omega) hWX hs) (fun s hs => by rw [ew s hs]; exact hw' s hs) _ (fun y hy d1 d2 => ?_) (fun d1 => ?_)
    · rw [c1 y hy] at d1; cases d1
    · rw [mf3]; exact ⟨rfl, (h.sa gS).fnd (by omega) g2⟩
