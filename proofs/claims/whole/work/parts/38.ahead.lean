theorem SQ.kx {μ μ' : qM} {s : (Nat × (Nat → Int32) × (Nat → Int32) × Int32 × Int32)} {w : Nat → Int32} (h : SQ μ s w) (g : KX 1 μ μ') : SQ μ' s w := SM.kx h g
theorem inB_z (v M : Int32) (A B : Prop) : ((v < 0 → A) ∧ (¬ v < 0 → ((M < v → A) ∧ (¬ M < v → B)))) = (if inB v 0 M = true then B else A) := by
  unfold inB
  by_cases h1 : v < 0
  · simp [h1]
  · by_cases h2 : M < v
    · simp [h1, h2]
    · simp [h1, h2]
theorem inB_w (v lo M : Int32) (A B : Prop) : ((v < lo → A) ∧ (¬ v < lo → ((v ≤ M → B) ∧ (¬ v ≤ M → A)))) = (if inB v lo M = true then B else A) := by
  unfold inB
  by_cases h1 : v < lo
  · simp [h1]
  · by_cases h2 : v ≤ M
    · have h3 : ¬ M < v := Int32.not_lt.mpr h2
      simp [h1, h2, h3]
    · have h3 : M < v := Int32.not_le.mp h2
      simp [h1, h2, h3]
/-- years on the reference's side: a loop's body -/
theorem myear {μ : qM} {s : (Nat × (Nat → Int32) × (Nat → Int32) × Int32 × Int32)} {w : Nat → Int32} (hW : WS s) {y : Nat} (j : Nat) {μ' : qM} (hI : KM μ μ' ∧ SQ μ' (its w j s).2 w ∧ μ' 46 6 = nI (y + j)) (post : Int32 → qM → Prop) (hp' : ∀ ν, KM μ ν ∧ SQ ν (its w (j + 1) s).2 w ∧ ν 46 6 = nI (y + (j + 1)) → post (tb (yr w (its w j s).2).1) ν) : w_X11_aYear post μ' := by
  obtain ⟨hK, hS, hy⟩ := hI
  refine aYear_sp hS (its_ws hW j).1.1 _ (fun ν K Y S => hp' ν ⟨hK.trans K, S, ?_⟩)
  rw [Y, hy, nI_1]
  rfl
theorem its_1 {w : Nat → Int32} {j : Nat} {s : (Nat × (Nat → Int32) × (Nat → Int32) × Int32 × Int32)} : nI (its w (j + 1) s).1 = nI (its w j s).1 + tb (yr w (its w j s).2).1 := by
  rw [its]
  cases (yr w (its w j s).2).1
  · exact (Int32.add_zero _).symm
  · exact (nI_1 _).symm
theorem op_years (v : Int32) : OP (w_X10_years v) (w_X11_years v) := by
  intro μ h
  obtain ⟨n, kd, lt, hX, hM, hW, sX, sM⟩ := h.st
  have h10 := hX.2.1
  obtain ⟨y, hy, y1, y2⟩ := h.1.2.2.2.1.2.1
  unfold w_X10_years w_X11_years q_X10_years_11 w_X9_age
  simp only [within_eq, xf0, mf0, xf4, mf4, pt_if', inB_w, y1]
  cases hv : inB v 1 60
  · exact ⟨by trivial, h.fnd0 (by omega)⟩
  · have hv' := of_decide_eq_true hv
    obtain ⟨m, hm, rfl⟩ := nI_of2 (M := 60) (n := 60) (by decide) (fun q => hv'.1 (Int32.lt_trans q (by decide))) (Int32.not_lt.mp hv'.2)
    simp only [if_true]
    rw [nI_add]
    have hWS : WS (n, kd, lt, μ 1 3, μ 1 5) := ⟨h10, hW⟩
    by_cases hym : y + m ≤ 9999
    · refine ⟨fun _ => ?_, fun q => absurd (nI_le (b := 9999) hym (by omega)) q⟩
      refine pass_sp (s := (n, kd, lt, μ 1 3, μ 1 5)) (by omega) (by exact sX) _ (fun μ1 K1 S1 => ?_)
      have e4 : μ1 1 4 = nI y := (K1.2 4 (by omega) (by omega)).trans y1
      have e46 : (qu μ1 1 4 (μ1 1 4 + nI m)) 46 6 = nI y := by
        show μ1 46 6 = _
        rw [K1.1 46 (by omega) (by omega) (by omega) (by omega) (by omega)]; exact y2
      rw [e46, nI_add]
      refine ⟨fun _ => ?_, fun q => absurd (nI_le (b := 9999) hym (by omega)) q⟩
      have S1' : SP (qu μ1 1 4 (μ1 1 4 + nI m)) 1 (its (μ 6) m (n, kd, lt, μ 1 3, μ 1 5)).2 (μ 6) := S1
      have M1 : SQ (qu μ1 1 4 (μ1 1 4 + nI m)) (n, kd, lt, μ 1 3, μ 1 5) (μ 6) := SM.sa (SQ.kx (by exact sM) K1) (fun _ _ => rfl) (fun _ _ => ⟨rfl, rfl⟩) rfl
      have ey : (qu μ1 1 4 (μ1 1 4 + nI m)) 1 4 = nI (y + m) := by
        show upd (μ1 1) 4 (μ1 1 4 + nI m) 4 = _
        rw [pk_us, e4, nI_add]
      have kk : ∀ i, i ≠ 1 → i ≠ 2 → i ≠ 3 → i ≠ 4 → i ≠ 5 → (qu μ1 1 4 (μ1 1 4 + nI m)) i = μ i := fun i a b c d e => by rw [qu_n a]; exact K1.1 i a b c d e
      generalize (qu μ1 1 4 (μ1 1 4 + nI m)) = ν at e46 S1' M1 ey kk
      unfold q_X11_years_38 q_X11_years_56
      refine for2 m (fun j a μ' => (KM ν μ' ∧ SQ μ' (its (μ 6) j (n, kd, lt, μ 1 3, μ 1 5)).2 (μ 6) ∧ μ' 46 6 = nI (y + j)) ∧ a = nI (its (μ 6) j (n, kd, lt, μ 1 3, μ 1 5)).1) ?_ 0 (Nat.zero_le _) ⟨⟨KM.refl _, M1, e46⟩, rfl⟩
      rintro P j a μ' hj ⟨hI, rfl⟩ hP
      refine ⟨fun hx => ?_, fun hx => ?_⟩
      · have : m ≤ j := pn_le (by omega) (by omega) hx
        have hjm : j = m := by omega
        subst hjm
        refine ⟨rfl, h.plk kk hI.1 (S1'.km hI.1) hI.2.1 (its_ws hWS j).1 hym ?_ hI.2.2⟩
        rw [hI.1.1 1 (by omega) (by omega) (by omega) (by omega)]; exact ey
      · have hlt : j < m := pn_nle (by omega) (by omega) hx
        refine myear hWS j hI _ (fun ρ hI' => ?_)
        have := fun e => hP (nI (its (μ 6) j (n, kd, lt, μ 1 3, μ 1 5)).1 + tb (yr (μ 6) (its (μ 6) j (n, kd, lt, μ 1 3, μ 1 5)).2).1) ρ hlt ⟨hI', e⟩
        have := this its_1.symm
        revert this
        cases (yr (μ 6) (its (μ 6) j (n, kd, lt, μ 1 3, μ 1 5)).2).1
        · exact fun this => ⟨fun _ => this, fun q => absurd rfl q⟩
        · exact fun this => ⟨fun q => absurd q (by decide), fun _ => this⟩
    · refine ⟨fun q => absurd (pn_le (b := 9999) (by omega) (by omega) q) hym, fun _ => ?_⟩
      have e46 : (qu μ 33 4 (μ 33 4 + 1)) 46 6 = nI y := y2
      rw [e46, nI_add]
      exact ⟨fun q => absurd (pn_le (b := 9999) (by omega) (by omega) q) hym, fun _ => ⟨by trivial, h.fnd0 (by omega)⟩⟩

theorem trial_sp {μ : qM} {n : Nat} {kd lt w : Nat → Int32} {c z : Int32} (h : SX μ 1 n kd lt c z w) (post : qM → Prop) (hp' : ∀ μ', SA μ μ' → SX μ' 15 n kd lt c z w → post μ') : w_X9_becomeAs 15 1 post μ := by
  obtain ⟨hX, hc, hz, hw⟩ := h
  have h10 := hX.2.1
  refine copyT_15_1 hX _ (fun f g w' s' hfg hw' hs => hp' _ ?_ ⟨⟨rfl, h10, fun j hj => ⟨?_, ?_⟩⟩, hc, hz, fun L hL => ?_⟩)
  · exact (((((((SA.qr rfl).trans (SA.qr rfl)).trans (SA.qr rfl)).trans (SA.qr rfl)).trans (SA.qr rfl)).trans (SA.qr rfl)).trans (SA.qr rfl)).trans (SA.qr rfl)
  · show f j = kd j
    rw [(hfg j (by omega)).1]; exact (hX.2.2 j hj).1
  · show g j = lt j
    rw [(hfg j (by omega)).2]; exact (hX.2.2 j hj).2
  · show w' L = w L
    rw [hw' L hL]; exact hw L hL
theorem KX.sa {μ μ' : qM} (g : KX 15 μ μ') : SA μ μ' := by
  refine ⟨fun i a _ _ _ => g.1 i ?_ ?_ ?_ ?_ ?_, fun k _ => by rw [g.1 46 (by omega) (by omega) (by omega) (by omega) (by omega)], fun j _ => ⟨by rw [g.1 47 (by omega) (by omega) (by omega) (by omega) (by omega)], by rw [g.1 48 (by omega) (by omega) (by omega) (by omega) (by omega)]⟩⟩
  all_goals
    intro e
    subst e
    exact absurd a (by decide)
def MK (μ ρ : qM) : Prop := ρ 46 27 = μ 46 0 ∧ ρ 46 28 = μ 46 5 ∧ ρ 46 29 = μ 46 6 ∧ ρ 46 30 = μ 46 7 ∧ (∀ i, i ≠ 46 → ρ i = μ i) ∧ ∀ k, k ≠ 27 → k ≠ 28 → k ≠ 29 → k ≠ 30 → ρ 46 k = μ 46 k
theorem marks_sp {μ : qM} (post : qM → Prop) (hp' : ∀ ρ, MK μ ρ → post ρ) : w_X11_marks post μ := by
  unfold w_X11_marks
  refine hp' _ ⟨rfl, rfl, rfl, rfl, fun i hi => ?_, fun k a b c d => ?_⟩
  · rw [qu_n hi, qu_n hi, qu_n hi, qu_n hi]
  · rw [qu_s, pk_un d, qu_s, pk_un c, qu_s, pk_un b, qu_s, pk_un a]
theorem back_sp {μ ρ ν : qM} {s : (Nat × (Nat → Int32) × (Nat → Int32) × Int32 × Int32)} {w : Nat → Int32} {m : Nat} (hS : SQ μ s w) (hW : WS s) (k : MK μ ρ) (K : KM ρ ν) (S : SQ ν (its w m s).2 w) (post : qM → Prop) (hp' : ∀ ρ', SA μ ρ' → post ρ') : w_X11_goesBack post ν := by
  obtain ⟨k27, k28, k29, k30, ki, kk⟩ := k
  unfold w_X11_goesBack
  have g : ∀ i, 27 ≤ i → i ≤ 30 → ν 46 i = ρ 46 i := fun i a b => K.2 i (by omega) (by omega) (by omega) (by omega)
  refine hp' _ ⟨fun i a b c d => ?_, fun i a => ?_, fun j hj => ?_⟩
  · have i57 : i ≠ 57 := fun q => by subst q; exact absurd a (by decide)
    rw [qu_n b, qu_n b, qu_n b, qu_n b, K.1 i b c d i57, ki i b]
  · show upd (upd (upd (upd (ν 46) 0 (ν 46 27)) 5 (ν 46 28)) 6 (ν 46 29)) 7 (ν 46 30) i = μ 46 i
    by_cases i7 : i = 7
    · subst i7; rw [pk_us, g 30 (by omega) (by omega), k30]
    · rw [pk_un i7]
      by_cases i6 : i = 6
      · subst i6; rw [pk_us, g 29 (by omega) (by omega), k29]
      · rw [pk_un i6]
        by_cases i5 : i = 5
        · subst i5; rw [pk_us, g 28 (by omega) (by omega), k28]
        · rw [pk_un i5]
          by_cases i0 : i = 0
          · subst i0; rw [pk_us, g 27 (by omega) (by omega), k27]
          · rw [pk_un i0, K.2 i i0 i5 i6 i7]
            refine kk i ?_ ?_ ?_ ?_
            all_goals
              intro e
              subst e
              exact absurd a (by decide)
  · have h1 := hS.1.1
    have h2 := hS.1.2.1
    rw [h1, clp (by omega)] at hj
    obtain ⟨_, hn, hk⟩ := its_ws (w := w) hW m
    have a := S.1.2.2 j (Nat.lt_of_lt_of_le hj hn)
    have b := hS.1.2.2 j hj
    show ν 47 j = μ 47 j ∧ ν 48 j = μ 48 j
    rw [a.1, a.2, b.1, b.2]
    exact hk j hj
def ans (v : Int32) (s : (Nat × (Nat → Int32) × (Nat → Int32) × Int32 × Int32)) : Int32 := if v = 0 then nI s.1 else if v = 1 then s.2.2.2.1 else nI (cntB (fun j => fb s.1 s.2.1 s.2.2.1 (nI j)) 144)
theorem SM.mk {μ ρ : qM} {n : Nat} {kd lt w : Nat → Int32} {c z : Int32} (h : SM μ n kd lt c z w) (k : MK μ ρ) : SM ρ n kd lt c z w := by
  obtain ⟨k27, k28, k29, k30, ki, kk⟩ := k
  refine h.sa (fun i hi => kk i (by omega) (by omega) (by omega) (by omega)) (fun j _ => ⟨by rw [ki 47 (by omega)], by rw [ki 48 (by omega)]⟩) (ki 49 (by omega))
theorem mahead_sp {μ : qM} {s : (Nat × (Nat → Int32) × (Nat → Int32) × Int32 × Int32)} {w : Nat → Int32} {m y : Nat} (hm : m ≤ 60) (hS : SQ μ s w) (hW : WS s) (hy : μ 46 6 = nI y) (v : Int32) (post : Int32 → qM → Prop) (hp' : ∀ ρ, SA μ ρ → post (ans v (its w m s).2) ρ) : w_X11_marks (fun ν => q_X11_ahead_52 (nI m) v post 0 0 ν) μ := by
  refine marks_sp _ (fun ρ k => ?_)
  have hS' : SQ ρ s w := SM.mk hS k
  have hy' : ρ 46 6 = nI y := by rw [k.2.2.2.2.2 6 (by omega) (by omega) (by omega) (by omega)]; exact hy
  unfold q_X11_ahead_52 q_X11_ahead_71 q_X11_ahead_106
  refine for2 m (fun j a μ' => KM ρ μ' ∧ SQ μ' (its w j s).2 w ∧ μ' 46 6 = nI (y + j)) ?_ 0 (Nat.zero_le _) ⟨KM.refl _, hS', hy'⟩
  rintro P j a μ' hj hI hP
  refine ⟨fun hx => ?_, fun hx => ?_⟩
  · have : m ≤ j := pn_le (by omega) (by omega) hx
    have hjm : j = m := by omega
    subst hjm
    unfold ans at hp'
    refine ⟨fun v0 => ⟨fun v1 => ?_, fun v1 => ?_⟩, fun v0 => ?_⟩
    · refine mfreeLots_sp hI.2.1.1 _ (fun f => ?_)
      have K : KM ρ (qr μ' 57 f) := hI.1.trans ⟨fun i _ _ _ e => qr_n e, fun k _ _ _ _ => rfl⟩
      have S : SQ (qr μ' 57 f) (its w j s).2 w := SM.sa hI.2.1 (fun _ _ => rfl) (fun _ _ => ⟨rfl, rfl⟩) rfl
      refine back_sp hS hW k K S _ (fun ρ' g => ?_)
      have := hp' ρ' g
      rw [if_neg v0, if_neg v1] at this
      exact this
    · refine back_sp hS hW k hI.1 hI.2.1 _ (fun ρ' g => ?_)
      have := hp' ρ' g
      rw [if_neg v0, if_pos v1] at this
      rw [hI.2.1.2.1]
      exact this
    · refine back_sp hS hW k hI.1 hI.2.1 _ (fun ρ' g => ?_)
      have := hp' ρ' g
      rw [if_pos v0] at this
      rw [hI.2.1.1.1]
      exact this
  · have hlt : j < m := pn_nle (by omega) (by omega) hx
    refine myear hW j hI _ (fun ρ' hI' => ⟨fun _ => hP _ _ hlt hI', fun _ => hP _ _ hlt hI'⟩)
theorem op_ahead (v1 v2 : Int32) : OP (w_X10_ahead v1 v2) (w_X11_ahead v1 v2) := by
  intro μ h
  obtain ⟨n, kd, lt, hX, hM, hW, sX, sM⟩ := h.st
  have h10 := hX.2.1
  obtain ⟨y, hy, y1, y2⟩ := h.1.2.2.2.1.2.1
  have hWS : WS (n, kd, lt, μ 1 3, μ 1 5) := ⟨h10, hW⟩
  unfold w_X10_ahead w_X11_ahead q_X10_ahead_19 q_X11_ahead_19 w_X9_age w_X9_houses w_X9_purse w_X1_size
  simp only [within_eq, xf0, mf0, xf4, mf4, pt_if, pt_if', inB_y, inB_z, y1]
  cases hv : inB v1 0 60
  · exact ⟨by trivial, h.fnd0 (by omega)⟩
  · cases hv2 : inB v2 0 2
    · exact ⟨by trivial, h.fnd0 (by omega)⟩
    · obtain ⟨m, hm, rfl⟩ := inB_t (m := 60) (by decide) hv
      simp only [if_true]
      rw [nI_add]
      by_cases hym : y + m ≤ 9999
      · refine ⟨fun _ => ?_, fun q => absurd (nI_le (b := 9999) hym (by omega)) q⟩
        have fin : ∀ ν, SA μ ν → (ν 46 6 + nI m ≤ 9999 → w_X11_marks (fun μ44 => q_X11_ahead_52 (nI m) v2 (fun r' μ2 => ans v2 (its (μ 6) m (n, kd, lt, μ 1 3, μ 1 5)).2 = r' ∧ RI μ2) 0 0 μ44) ν) ∧ (¬ ν 46 6 + nI m ≤ 9999 → (ans v2 (its (μ 6) m (n, kd, lt, μ 1 3, μ 1 5)).2 = -1000005 ∧ RI (qu ν 56 4 (ν 56 4 + 1)))) := fun ν g => by
          have e46 : ν 46 6 = nI y := (g.2.1 6 rfl).trans y2
          rw [e46, nI_add]
          refine ⟨fun _ => ?_, fun q => absurd (nI_le (b := 9999) hym (by omega)) q⟩
          exact mahead_sp hm (SM.ofSA (by exact sM) g) hWS e46 v2 _ (fun ρ g' => ⟨rfl, (h.sa g).sa g'⟩)
        refine trial_sp sX _ (fun μ1 g1 S1 => pass_sp (s := (n, kd, lt, μ 1 3, μ 1 5)) hm (by exact S1) _ (fun μ2 K2 S2 => ?_))
        have g2 : SA μ (qu μ2 15 4 (μ2 15 4 + nI m)) := (g1.trans K2.sa).trans (SA.qr rfl)
        have S2' : SP (qu μ2 15 4 (μ2 15 4 + nI m)) 15 (its (μ 6) m (n, kd, lt, μ 1 3, μ 1 5)).2 (μ 6) := S2
        generalize (qu μ2 15 4 (μ2 15 4 + nI m)) = μ3 at g2 S2'
        unfold ans at fin
        refine ⟨fun v0 => ⟨fun v1 => ⟨by trivial, ?_⟩, fun v1 => ?_⟩, fun v0 => ⟨by trivial, ?_⟩⟩
        · refine countFree_sp S2'.1 _ (fun f => ?_)
          have := fin _ (g2.trans (SA.qr (i := 16 + 3) (f := f) rfl))
          rw [if_neg v0, if_neg v1] at this
          exact this
        · have := fin _ g2
          rw [if_neg v0, if_pos v1] at this
          rw [S2'.2.1]
          exact this
        · have := fin _ g2
          rw [if_pos v0] at this
          have e := S2'.1.1
          have e' : μ3 16 0 = nI (its (μ 6) m (n, kd, lt, μ 1 3, μ 1 5)).2.1 := e
          rw [e']
          exact this
      · refine ⟨fun q => absurd (pn_le (b := 9999) (by omega) (by omega) q) hym, fun _ => ?_⟩
        have e46 : (qu μ 33 4 (μ 33 4 + 1)) 46 6 = nI y := y2
        rw [e46, nI_add]
        exact ⟨fun q => absurd (pn_le (b := 9999) (by omega) (by omega) q) hym, fun _ => ⟨by trivial, h.fnd0 (by omega)⟩⟩
