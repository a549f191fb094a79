def bl (w : Nat → Int32) (s : (Nat × (Nat → Int32) × (Nat → Int32) × Int32 × Int32)) (j : Nat) : Bool := (yr w (its w j s).2).1
theorem xwhen_sp {ν : qM} {s : (Nat × (Nat → Int32) × (Nat → Int32) × Int32 × Int32)} {w : Nat → Int32} (S : SP ν 15 s w) (post : Int32 → qM → Prop) (h1 : ∀ v, 1 ≤ v → v ≤ 99 → bl w s (v - 1) = true → (∀ i, i < v - 1 → bl w s i = false) → ∀ μ', SA ν μ' → post (nI v) μ') (h2 : (∀ i, i < 99 → bl w s i = false) → ∀ μ', SA ν μ' → w_X10_finding (-1000004) post μ') : q_X10_when_33 post 1 ν := by
  unfold q_X10_when_33
  refine for1 100 (fun j μ' => 1 ≤ j ∧ SA ν μ' ∧ SP μ' 15 (its w (j - 1) s).2 w ∧ ∀ i, i < j - 1 → bl w s i = false) ?_ 1 (by omega) ⟨Nat.le_refl _, SA.refl _, S, fun i hi => by omega⟩
  rintro P j μ' hj ⟨j1, g, S', hno⟩ hP
  refine ⟨fun hx => ?_, fun hx => ?_⟩
  · have : 99 < j := pn_lt (a := 99) (by omega) (by omega) hx
    exact h2 (fun i hi => hno i (by omega)) μ' g
  · have hlt : j ≤ 99 := pn_nlt (a := 99) (by omega) (by omega) hx
    refine pass_sp (m := 1) (by omega) S' _ (fun μ2 K2 S2 => ?_)
    have g2 : SA ν (qu μ2 15 4 (μ2 15 4 + nI 1)) := (g.trans K2.sa).trans (SA.qr rfl)
    have e : (its w 1 (its w (j - 1) s).2).1 = 0 + (if bl w s (j - 1) then 1 else 0) := rfl
    have ej : j - 1 + 1 = j := by omega
    rw [e]
    cases hb : bl w s (j - 1)
    · refine ⟨fun _ => hP _ (by omega) ⟨by omega, g2, ?_, fun i hi => ?_⟩, fun q => absurd (by decide) q⟩
      · have h3 : (its w (j + 1 - 1) s).2 = (its w 1 (its w (j - 1) s).2).2 := by
          rw [show j + 1 - 1 = j - 1 + 1 by omega]; rfl
        rw [h3]; exact S2
      · by_cases q : i = j - 1
        · subst q; exact hb
        · exact hno i (by omega)
    · exact ⟨fun q => absurd q (by decide), fun _ => h1 j j1 hlt hb hno _ g2⟩
theorem mwhen_sp {μ : qM} {s : (Nat × (Nat → Int32) × (Nat → Int32) × Int32 × Int32)} {w : Nat → Int32} {y : Nat} (hS : SQ μ s w) (hW : WS s) (hy : μ 46 6 = nI y) (post : Int32 → qM → Prop) (h1 : ∀ v, 1 ≤ v → v ≤ 99 → bl w s (v - 1) = true → (∀ i, i < v - 1 → bl w s i = false) → ∀ ρ, SA μ ρ → post (nI v) ρ) (h2 : (∀ i, i < 99 → bl w s i = false) → ∀ ρ, SA μ ρ → w_X11_finding 3 post ρ) : w_X11_marks (fun ν => q_X11_when_22 post 1 ν) μ := by
  refine marks_sp _ (fun ρ k => ?_)
  have hS' : SQ ρ s w := SM.mk hS k
  have hy' : ρ 46 6 = nI y := by rw [k.2.2.2.2.2 6 (by omega) (by omega) (by omega) (by omega)]; exact hy
  unfold q_X11_when_22 q_X11_when_41
  refine for1 100 (fun j μ' => 1 ≤ j ∧ (KM ρ μ' ∧ SQ μ' (its w (j - 1) s).2 w ∧ μ' 46 6 = nI (y + (j - 1))) ∧ ∀ i, i < j - 1 → bl w s i = false) ?_ 1 (by omega) ⟨Nat.le_refl _, ⟨KM.refl _, hS', hy'⟩, fun i hi => by omega⟩
  rintro P j μ' hj ⟨j1, hI, hno⟩ hP
  refine ⟨fun hx => ?_, fun hx => ?_⟩
  · have : 100 ≤ j := pn_le (a := 100) (by omega) (by omega) hx
    refine back_sp hS hW k hI.1 hI.2.1 _ (fun ρ' g => ?_)
    exact ⟨fun _ => h2 (fun i hi => hno i (by omega)) ρ' g, fun q => absurd hx q⟩
  · have hlt : j < 100 := pn_nle (a := 100) (by omega) (by omega) hx
    refine myear hW (j - 1) hI _ (fun ν hI' => ?_)
    have ej : j - 1 + 1 = j := by omega
    have eb : (yr w (its w (j - 1) s).2).1 = bl w s (j - 1) := rfl
    rw [eb]
    refine pb_if' (fun hb => ?_) (fun hb => ?_)
    · refine back_sp hS hW k hI'.1 hI'.2.1 _ (fun ρ' g => ?_)
      exact ⟨fun q => absurd q hx, fun _ => h1 j j1 (by omega) hb hno ρ' g⟩
    · refine hP _ hlt ⟨by omega, ?_, fun i hi => ?_⟩
      · rw [show j + 1 - 1 = j - 1 + 1 by omega]; exact hI'
      · by_cases q : i = j - 1
        · subst q; exact hb
        · exact hno i (by omega)
theorem op_when : OP w_X10_when w_X11_when := by
  intro μ h
  obtain ⟨n, kd, lt, hX, hM, hW, sX, sM⟩ := h.st
  have h10 := hX.2.1
  obtain ⟨y, hy, y1, y2⟩ := h.1.2.2.2.1.2.1
  have hWS : WS (n, kd, lt, μ 1 3, μ 1 5) := ⟨h10, hW⟩
  unfold w_X10_when w_X11_when w_X9_age
  rw [y1]
  by_cases hym : y ≤ 9900
  · refine ⟨fun _ => ?_, fun q => absurd (nI_le (b := 9900) hym (by omega)) q⟩
    refine trial_sp sX _ (fun μ1 g1 S1 => xwhen_sp (s := (n, kd, lt, μ 1 3, μ 1 5)) (by exact S1) _ (fun v a1 a2 a3 a4 μ2 g2 => ?_) (fun a μ2 g2 => ?_))
    · have g := g1.trans g2
      have e46 : μ2 46 6 = nI y := (g.2.1 6 rfl).trans y2
      rw [e46]
      refine ⟨fun _ => ?_, fun q => absurd (nI_le (b := 9900) hym (by omega)) q⟩
      refine mwhen_sp (s := (n, kd, lt, μ 1 3, μ 1 5)) (w := μ 6) (SM.ofSA (by exact sM) g) hWS e46 _ (fun v' b1 b2 b3 b4 ρ g' => ⟨?_, (h.sa g).sa g'⟩) (fun b ρ g' => ?_)
      · rcases Nat.lt_trichotomy v v' with q | q | q
        · have := b4 (v - 1) (by omega); rw [this] at a3; cases a3
        · rw [q]
        · have := a4 (v' - 1) (by omega); rw [this] at b3; cases b3
      · have := b (v - 1) (by omega); rw [this] at a3; cases a3
    · have g := g1.trans g2
      rw [xf3]
      have e46 : (qu μ2 33 3 (μ2 33 3 + 1)) 46 6 = nI y := (g.2.1 6 rfl).trans y2
      show ((qu μ2 33 3 (μ2 33 3 + 1)) 46 6 ≤ 9900 → _) ∧ (¬ (qu μ2 33 3 (μ2 33 3 + 1)) 46 6 ≤ 9900 → _)
      rw [e46]
      refine ⟨fun _ => ?_, fun q => absurd (nI_le (b := 9900) hym (by omega)) q⟩
      have sM2 : SQ (qu μ2 33 3 (μ2 33 3 + 1)) (n, kd, lt, μ 1 3, μ 1 5) (μ 6) := SM.sa (SM.ofSA (by exact sM) g) (fun _ _ => rfl) (fun _ _ => ⟨rfl, rfl⟩) rfl
      refine mwhen_sp (s := (n, kd, lt, μ 1 3, μ 1 5)) (w := μ 6) sM2 hWS e46 _ (fun v' b1 b2 b3 b4 ρ g' => ?_) (fun b ρ g' => ?_)
      · have := a (v' - 1) (by omega); rw [this] at b3; cases b3
      · rw [mf3]
        exact ⟨rfl, (h.sa g).fnd (by omega) g'⟩
  · refine ⟨fun q => absurd (pn_le (b := 9900) (by omega) (by omega) q) hym, fun _ => ?_⟩
    rw [xf4]
    have e46 : (qu μ 33 4 (μ 33 4 + 1)) 46 6 = nI y := y2
    show ((qu μ 33 4 (μ 33 4 + 1)) 46 6 ≤ 9900 → _) ∧ (¬ (qu μ 33 4 (μ 33 4 + 1)) 46 6 ≤ 9900 → _)
    rw [e46]
    refine ⟨fun q => absurd (pn_le (b := 9900) (by omega) (by omega) q) hym, fun _ => ?_⟩
    rw [mf4]
    exact ⟨rfl, h.fnd0 (by omega)⟩
/-! houses are strewn -/
theorem HX.move {μ : qM} {o n : Nat} {kd lt : Nat → Int32} (h : HX μ o n kd lt) {j : Nat} (l : Int32) : HX (qu μ (o + 2) j l) o n kd (upd lt j l) := by
  refine ⟨by rw [qu_n (by omega)]; exact h.1, h.2.1, fun i hi => ?_⟩
  rw [qu_n (show o + 1 ≠ o + 2 by omega), qu_s]
  refine ⟨(h.2.2 i hi).1, ?_⟩
  by_cases e : i = j
  · subst e; rw [pk_us, pk_us]
  · rw [pk_un e, pk_un e]; exact (h.2.2 i hi).2
theorem HM.move {μ : qM} {n : Nat} {kd lt : Nat → Int32} (h : HM μ n kd lt) {j : Nat} (l : Int32) : HM (qu μ 48 j l) n kd (upd lt j l) := by
  refine ⟨h.1, h.2.1, fun i hi => ?_⟩
  show μ 47 i = _ ∧ upd (μ 48) j l i = _
  refine ⟨(h.2.2 i hi).1, ?_⟩
  by_cases e : i = j
  · subst e; rw [pk_us, pk_us]
  · rw [pk_un e, pk_un e]; exact (h.2.2 i hi).2
theorem WF.move {n : Nat} {kd lt : Nat → Int32} (h : WF n kd lt) {j l : Nat} (hl : l < 144) : WF n kd (upd lt j (nI l)) := by
  intro i hi
  by_cases e : i = j
  · subst e; rw [pk_us]; exact ⟨(h i hi).1, l, hl, rfl⟩
  · rw [pk_un e]; exact h i hi
def sw (n : Nat) : Nat → (Nat → Int32) × Int32 → (Nat → Int32) × Int32
  | 0, s => s
  | m + 1, s => let r := sw n m s
    (if stn r.1 (md (dr (nz (nz r.2))) 144) n = true then r.1 else upd r.1 (md (dr (nz r.2)) (nI n)).toNatClampNeg (md (dr (nz (nz r.2))) 144), nz (nz r.2))
theorem swz {n : Nat} (hn : 0 < n) (h10 : n ≤ 10) (z : Int32) : ∃ j l, j < n ∧ l < 144 ∧ md (dr (nz z)) (nI n) = nI j ∧ md (dr (nz (nz z))) 144 = nI l := by
  obtain ⟨j, hj, ej⟩ := md_lt (nz z) hn (by omega)
  obtain ⟨l, hl, el⟩ := md_lt (nz (nz z)) (d := 144) (by omega) (by omega)
  exact ⟨j, l, hj, hl, ej, el⟩
theorem sw_wf {n m : Nat} {kd lt : Nat → Int32} {z : Int32} (hn : 0 < n) (h10 : n ≤ 10) (h : WF n kd lt) : WF n kd (sw n m (lt, z)).1 := by
  induction m with
  | zero => exact h
  | succ m ih =>
    obtain ⟨j, l, hj, hl, ej, el⟩ := swz hn h10 (sw n m (lt, z)).2
    rw [sw]
    by_cases e : stn (sw n m (lt, z)).1 (md (dr (nz (nz (sw n m (lt, z)).2))) 144) n = true
    · show WF n kd (if _ then _ else _)
      rw [if_pos e]; exact ih
    · show WF n kd (if _ then _ else _)
      rw [if_neg e, el]; exact ih.move hl
theorem strew_step {n : Nat} (hn : 0 < n) (h10 : n ≤ 10) {j l : Nat} {lt : Nat → Int32} {z : Int32} {m : Nat} {s : (Nat → Int32) × Int32} (hs : sw n m s = (lt, z)) (ej : md (dr (nz z)) (nI n) = nI j) (el : md (dr (nz (nz z))) 144 = nI l) (hj : j < n) : sw n (m + 1) s = (if stn lt (nI l) n = true then lt else upd lt j (nI l), nz (nz z)) := by
  rw [sw, hs]
  show (if stn lt (md (dr (nz (nz z))) 144) n = true then lt else upd lt (md (dr (nz z)) (nI n)).toNatClampNeg (md (dr (nz (nz z))) 144), nz (nz z)) = _
  rw [ej, el, clp (by omega)]
theorem strewX_sp {μ : qM} {n m : Nat} {kd lt w : Nat → Int32} {c z : Int32} (h : SX μ 1 n kd lt c z w) (hn : 0 < n) (hm : m ≤ 12) (post : Int32 → qM → Prop) (hp' : ∀ μ', KX 1 μ μ' → SX μ' 1 n kd (sw n m (lt, z)).1 c (sw n m (lt, z)).2 w → post (nI (cntB (fun j => fb n kd (sw n m (lt, z)).1 (nI j)) 144)) μ') : q_X10_strew_42 (nI m) post 0 μ := by
  have h10 := h.1.2.1
  unfold q_X10_strew_42
  refine for1 m (fun j μ' => KX 1 μ μ' ∧ SX μ' 1 n kd (sw n j (lt, z)).1 c (sw n j (lt, z)).2 w) ?_ 0 (Nat.zero_le _) ⟨KX.refl _, h⟩
  rintro P j μ' hj ⟨hK, hS⟩ hP
  refine ⟨fun hx => ?_, fun hx => ?_⟩
  · have : m ≤ j := pn_le (by omega) (by omega) hx
    have hjm : j = m := by omega
    subst hjm
    refine countFree_sp hS.1 _ (fun f => ?_)
    exact hp' _ (hK.trans ⟨fun i _ _ _ _ e => qr_n e, fun _ _ _ => rfl⟩) ⟨hS.1.fars f, hS.2.1, hS.2.2.1, hS.2.2.2⟩
  · have hlt : j < m := pn_nle (by omega) (by omega) hx
    generalize hs : sw n j (lt, z) = s at hS
    obtain ⟨lt', z'⟩ := s
    have hS0 : SX μ' 1 n kd lt' c z' w := hS
    obtain ⟨p, l, hp, hl, ep, el⟩ := swz hn h10 z'
    have st := strew_step hn h10 hs ep el hp
    unfold w_X9_strewOne w_X1_size
    rw [hS0.1.1]
    refine ⟨fun q => absurd q (nI_nle (by omega) (by omega)), fun _ => ?_⟩
    refine draw_sp hS0 _ (fun μ1 K1 S1 => ?_)
    have e2 : μ1 (1 + 1) 0 = nI n := S1.1.1
    rw [e2]
    refine ⟨nI_ne0 hn (by omega), draw_sp S1 _ (fun μ2 K2 S2 => ⟨by decide, ?_⟩)⟩
    have ep' : dr (nz z') - dr (nz z') / nI n * nI n = nI p := ep
    have el' : dr (nz (nz z')) - dr (nz (nz z')) / 144 * 144 = nI l := el
    rw [ep', el']
    refine stands_sp S2.1 _ _ (pb_if' (fun hb => ?_) (fun hb => ?_))
    · refine hP _ hlt ⟨(hK.trans K1).trans K2, ?_⟩
      rw [st, hb, if_pos rfl]
      exact S2
    · unfold w_X1_move
      rw [has_eq S2.1, hasB_nI (by omega) hp, clp (by omega)]
      refine ⟨fun q => absurd q (by decide), fun _ => ⟨vp_in_nI (by omega) (by omega), ?_⟩⟩
      refine hP _ hlt ⟨((hK.trans K1).trans K2).trans ⟨fun i _ _ _ d _ => qu_n d, fun _ _ _ => rfl⟩, ?_⟩
      rw [st, hb]
      exact ⟨S2.1.move (nI l), S2.2.1, S2.2.2.1, S2.2.2.2⟩
theorem strewM_sp {μ : qM} {n m : Nat} {kd lt w : Nat → Int32} {c z : Int32} (h : SM μ n kd lt c z w) (hn : 0 < n) (h10 : n ≤ 10) (hm : m ≤ 12) (post : Int32 → qM → Prop) (hp' : ∀ μ', KM μ μ' → μ' 46 6 = μ 46 6 → SM μ' n kd (sw n m (lt, z)).1 c (sw n m (lt, z)).2 w → post (nI (cntB (fun j => fb n kd (sw n m (lt, z)).1 (nI j)) 144)) μ') : q_X11_strew_31 (nI m) post 0 μ := by
  unfold q_X11_strew_31 q_X11_strew_73
  refine for1 m (fun j μ' => KM μ μ' ∧ μ' 46 6 = μ 46 6 ∧ SM μ' n kd (sw n j (lt, z)).1 c (sw n j (lt, z)).2 w) ?_ 0 (Nat.zero_le _) ⟨KM.refl _, rfl, h⟩
  rintro P j μ' hj ⟨hK, hY, hS⟩ hP
  refine ⟨fun hx => ?_, fun hx => ?_⟩
  · have : m ≤ j := pn_le (by omega) (by omega) hx
    have hjm : j = m := by omega
    subst hjm
    refine mfreeLots_sp hS.1 _ (fun f => ?_)
    exact hp' _ (hK.trans ⟨fun i _ _ _ e => qr_n e, fun _ _ _ _ _ => rfl⟩) hY ⟨hS.1.away f, hS.2.1, hS.2.2.1, hS.2.2.2⟩
  · have hlt : j < m := pn_nle (by omega) (by omega) hx
    generalize hs : sw n j (lt, z) = s at hS
    obtain ⟨lt', z'⟩ := s
    have hS0 : SM μ' n kd lt' c z' w := hS
    obtain ⟨p, l, hp, hl, ep, el⟩ := swz hn h10 z'
    have st := strew_step hn h10 hs ep el hp
    refine mdraw_sp hS0 _ (fun μ1 K1 Y1 S1 => ?_)
    rw [S1.1.1]
    refine ⟨nI_ne0 hn (by omega), mdraw_sp S1 _ (fun μ2 K2 Y2 S2 => ⟨by decide, ?_⟩)⟩
    have ep' : dr (nz z') - dr (nz z') / nI n * nI n = nI p := ep
    have el' : dr (nz (nz z')) - dr (nz (nz z')) / 144 * 144 = nI l := el
    rw [ep', el']
    have Y := Y2.trans (Y1.trans hY)
    refine houseOn_sp S2.1 _ _ (fun hb => ?_) (fun i hi he _ => ?_)
    · refine ⟨fun q => absurd q (by decide), fun _ => ⟨vp_in_nI (by omega) (by omega), ?_⟩⟩
      rw [clp (by omega)]
      refine hP _ hlt ⟨((hK.trans K1).trans K2).trans ⟨fun i _ _ d _ => qu_n d, fun _ _ _ _ _ => rfl⟩, Y, ?_⟩
      rw [st, hb]
      exact ⟨S2.1.move (nI l), S2.2.1, S2.2.2.1, S2.2.2.2⟩
    · have hb : stn lt' (nI l) n = true := stn_iff.mpr ⟨i, hi, he⟩
      refine ⟨fun _ => hP _ hlt ⟨(hK.trans K1).trans K2, Y, ?_⟩, fun q => absurd (nI_pos' (by omega)) q⟩
      rw [st, hb, if_pos rfl]
      exact S2
theorem op_strew (v : Int32) : OP (w_X10_strew v) (w_X11_strew v) := by
  intro μ h
  obtain ⟨n, kd, lt, hX, hM, hW, sX, sM⟩ := h.st
  have h10 := hX.2.1
  obtain ⟨y, hy, y1, y2⟩ := h.1.2.2.2.1.2.1
  unfold w_X10_strew w_X11_strew q_X10_strew_11 w_X9_houses w_X1_size
  simp only [within_eq, xf0, mf0, xf4, mf4, pt_if', inB_w]
  cases hv : inB v 1 12
  · exact ⟨by trivial, h.fnd0 (by omega)⟩
  · have hv' := of_decide_eq_true hv
    obtain ⟨m, hm, rfl⟩ := nI_of2 (M := 12) (n := 12) (by decide) (fun q => hv'.1 (Int32.lt_trans q (by decide))) (Int32.not_lt.mp hv'.2)
    simp only [if_true]
    rw [hX.1]
    refine ⟨by trivial, ?_⟩
    rcases Nat.eq_zero_or_pos n with e | hn
    · subst e
      refine ⟨fun q => absurd rfl q, fun _ => ⟨fun q => absurd hM.1 q, fun _ => ⟨by trivial, h.fnd0 (by omega)⟩⟩⟩
    · refine ⟨fun _ => ?_, fun q => absurd q (nI_ne0 hn (by omega))⟩
      refine strewX_sp sX hn hm _ (fun μ1 K1 S1 => ?_)
      have M1 := sM.kx K1
      rw [M1.1.1]
      refine ⟨fun _ => ?_, fun q => absurd q (nI_ne0 hn (by omega))⟩
      refine strewM_sp M1 hn h10 hm _ (fun μ2 K2 Y2 M2 => ⟨rfl, ?_⟩)
      refine h.plk (s := ⟨n, kd, (sw n m (lt, μ 1 5)).1, μ 1 3, (sw n m (lt, μ 1 5)).2⟩) (y := y) K1.1 K2 (SP.km (by exact S1) K2) M2 ⟨h10, sw_wf hn h10 hW⟩ hy ?_ ?_
      · rw [K2.1 1 (by omega) (by omega) (by omega) (by omega), K1.2 4 (by omega) (by omega)]; exact y1
      · rw [Y2, K1.1 46 (by omega) (by omega) (by omega) (by omega) (by omega)]; exact y2
