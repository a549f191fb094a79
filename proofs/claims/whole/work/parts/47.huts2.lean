theorem find3_sp {μ : qM} {n : Nat} {kd lt : Nat → Int32} {g : Nat} (hX : HX μ 2 n kd lt) (hg : g < 144) (hsg : stn lt (nI g) n = false) (post : Int32 → qM → Prop) (hp' : ∀ r μ', YK 5 37 38 39 μ μ' → HS n kd lt g r (μ' 37 2) (μ' 37 3) → post r μ') : w_X3_find 37 2 (nI g) post μ := by
  unfold w_X3_find
  have g0 : YK 5 37 38 39 μ (qu (qu μ 37 2 (-1)) 37 3 (-1)) := fun i _ b _ _ => by rw [qu_n b, qu_n b]
  generalize (qu (qu μ 37 2 (-1)) 37 3 (-1)) = μ0 at g0
  refine isFree_sp (g0.hx (by omega) (by omega) (by omega) hX) _ _ (fun f0 => pb_if (fun hf0 => ?_) (fun hf0 => hp' 0 _ (g0.trans (fun i a _ _ _ => qr_n a)) (Or.inl ⟨hf0, rfl⟩)))
  have g1 : YK 5 37 38 39 μ (qr μ0 (2 + 3) f0) := g0.trans (fun i a _ _ _ => qr_n a)
  unfold q_X3_find_22 q_X3_find_72 q_X3_find_73
  refine for1 144 (fun j μ' => YK 5 37 38 39 μ μ' ∧ (∀ v, v < j → μ' 38 v = tb (fb n kd lt (nI v))) ∧ ∀ v, v < j → μ' 39 v = tb (nr n kd lt g v)) ?_ 0 (Nat.zero_le _) ⟨g1, fun _ q => absurd q (Nat.not_lt_zero _), fun _ q => absurd q (Nat.not_lt_zero _)⟩
  rintro P j μ' hjn ⟨gY, m1, m2⟩ hP
  refine ⟨fun hx => ?_, fun hx => ?_⟩
  · have : 144 ≤ j := pn_le (by omega) (by omega) hx
    have hj : j = 144 := by omega
    subst hj
    clear hP hx hjn
    unfold q_X3_find_82 q_X3_find_114
    refine for1 144 (fun j μ2 => μ2 = μ' ∧ ∀ x, x < j → p1 n kd lt g x = false) ?_ 0 (Nat.zero_le _) ⟨rfl, fun _ q => absurd q (Nat.not_lt_zero _)⟩
    rintro P j μ2 hjn ⟨rfl, hno⟩ hP
    refine ⟨fun hx => ?_, fun hx => ?_⟩
    · have : 144 ≤ j := pn_le (by omega) (by omega) hx
      have hp1 : ∀ u, u < 144 → p1 n kd lt g u = false := fun u hu => hno u (by omega)
      clear hP hx hjn
      unfold q_X3_find_122 q_X3_find_155
      refine for1 144 (fun j μ3 => μ3 = μ2 ∧ ∀ x, x < j → ¬ (x ≠ g ∧ fb n kd lt (nI x) = true ∧ ∃ u, u < 144 ∧ p2 n kd lt g x u = true)) ?_ 0 (Nat.zero_le _) ⟨rfl, fun _ q => absurd q (Nat.not_lt_zero _)⟩
      rintro P j μ3 hjn ⟨rfl, hno2⟩ hP
      refine ⟨fun hx => ?_, fun hx => ?_⟩
      · have : 144 ≤ j := pn_le (by omega) (by omega) hx
        exact hp' (-1) μ3 gY (Or.inr (Or.inr (Or.inr ⟨hf0, hp1, fun x hx => hno2 x (by omega), rfl⟩)))
      · have hlt : j < 144 := pn_nle (by omega) (by omega) hx
        have vj : vp_in (nI j) 144 := vp_in_nI (by omega) (by omega)
        have no : ¬ (j ≠ g ∧ fb n kd lt (nI j) = true ∧ ∃ u, u < 144 ∧ p2 n kd lt g j u = true) → P (nI j + 1) μ3 := fun hb => hP _ hlt ⟨rfl, fun u hu => by
          by_cases e : u = j
          · subst e; exact hb
          · exact hno2 u (by omega)⟩
        rw [clp (by omega)]
        have e1 : μ3 (37 + 1) j = tb (fb n kd lt (nI j)) := m1 j hlt
        rw [e1]
        refine ⟨vj, pb_if (fun hb => no (fun p => by rw [hb] at p; cases p.2.1)) (fun hb => ?_)⟩
        have hjg : j ≠ g := fun e => by subst e; rw [hf0] at hb; cases hb
        have ex : ∀ u, u < 144 → p2 n kd lt g j u = x2 n kd lt g j u := fun u hu => p2_x2 hg hlt hu hf0 hsg hb hjg (hp1 j hlt)
        refine findSecond_sp (gY.hx (by omega) (by omega) (by omega) hX) hg hlt m1 m2 _ (fun u hu c1 c2 => ⟨fun q => absurd q (by decide), fun _ => ?_⟩) (fun c1 => ⟨fun _ => no (fun p => ?_), fun q => absurd rfl q⟩)
        · have c1' := (ex u hu).trans c1
          have c2' : ∀ x, x < u → p2 n kd lt g j x = false := fun x hx => (ex x (by omega)).trans (c2 x hx)
          refine hp' 2 _ (gY.trans (fun i _ b _ _ => by rw [qu_n b, qu_n b])) (Or.inr (Or.inr (Or.inl ⟨hf0, hp1, j, hlt, ⟨hjg, hb, u, hu, c1'⟩, hno2, rfl, qu_ss, u, hu, c1', c2', ?_⟩)))
          rw [qu_s, pk_un (by omega)]
          exact qu_ss
        · obtain ⟨_, _, u, hu, hp⟩ := p
          rw [ex u hu, c1 u hu] at hp; cases hp
    · have hlt : j < 144 := pn_nle (by omega) (by omega) hx
      have vj : vp_in (nI j) 144 := vp_in_nI (by omega) (by omega)
      have no : p1 n kd lt g j = false → P (nI j + 1) μ2 := fun hb => hP _ hlt ⟨rfl, fun u hu => by
        by_cases e : u = j
        · subst e; exact hb
        · exact hno u (by omega)⟩
      have ep := p1_nr (n := n) (kd := kd) (lt := lt) hg hlt hf0 hsg
      rw [clp (by omega)]
      have e1 : μ2 (37 + 1) j = tb (fb n kd lt (nI j)) := m1 j hlt
      have e2 : μ2 (37 + 2) j = tb (nr n kd lt g j) := m2 j hlt
      rw [e1, e2]
      refine ⟨vj, pb_if (fun hb => no (by rw [ep, hb]; rfl)) (fun hb => ⟨vj, pb_if (fun hb2 => no (by rw [ep, hb2, Bool.and_false])) (fun hb2 => ?_)⟩)⟩
      exact hp' 1 _ (gY.trans (fun i _ b _ _ => qu_n b)) (Or.inr (Or.inl ⟨hf0, j, hlt, by rw [ep, hb, hb2]; rfl, hno, rfl, qu_ss⟩))
  · have hlt : j < 144 := pn_nle (by omega) (by omega) hx
    have vj : vp_in (nI j) 144 := vp_in_nI (by omega) (by omega)
    refine isFree_sp (gY.hx (by omega) (by omega) (by omega) hX) _ _ (fun f => ⟨vj, tb_01 _, ?_⟩)
    rw [clp (by omega)]
    have g2 : YK 5 37 38 39 μ (qu (qr μ' (2 + 3) f) (37 + 1) j (tb (fb n kd lt (nI j)))) := gY.trans (fun i a _ c _ => by rw [qu_n c, qr_n a])
    have n1 : ∀ v, v < j + 1 → (qu (qr μ' (2 + 3) f) (37 + 1) j (tb (fb n kd lt (nI j)))) 38 v = tb (fb n kd lt (nI v)) := fun v hv => by
      show upd (μ' 38) j _ v = _
      by_cases e : v = j
      · subst e; exact pk_us
      · rw [pk_un e]; exact m1 v (by omega)
    have n2 : ∀ v, v < j → (qu (qr μ' (2 + 3) f) (37 + 1) j (tb (fb n kd lt (nI j)))) 39 v = tb (nr n kd lt g v) := fun v hv => m2 v hv
    generalize (qu (qr μ' (2 + 3) f) (37 + 1) j (tb (fb n kd lt (nI j)))) = ν at g2 n1 n2
    have go : ∀ b : Bool, nr n kd lt g j = b → P (nI j + 1) (qu ν (37 + 2) j (tb b)) := fun b hb => hP _ hlt ⟨g2.trans (fun i _ _ _ d => qu_n d), fun v hv => n1 v hv, fun v hv => by
      show upd (ν 39) j (tb b) v = _
      by_cases e : v = j
      · subst e; rw [pk_us, hb]
      · rw [pk_un e]; exact n2 v (by omega)⟩
    refine ⟨fun q => ⟨vj, Or.inl rfl, go false ?_⟩, fun q => ?_⟩
    · have := pn_eq (by omega) (by omega) q
      subst this; simp [nr]
    · have hjg : (j == g) = false := by rw [beq_eq_false_iff_ne]; intro e; exact q (by rw [e])
      have hX2 := g2.hx (by omega) (by omega) (by omega) hX
      refine stands_sp hX2 _ _ (pb_if' (fun hs => ⟨vj, Or.inl rfl, go false (by rw [nr, hs]; simp)⟩) (fun hs => ?_))
      exact isEvenWith_sp hX2 _ _ _ _ (pb_if (fun he => ⟨vj, Or.inl rfl, go false (by rw [nr, he]; simp)⟩) (fun he => ⟨vj, Or.inr rfl, go true (by rw [nr, hjg, hs, he]; rfl)⟩))
theorem HS_r {n : Nat} {kd lt : Nat → Int32} {g : Nat} {r a b : Int32} (h : HS n kd lt g r a b) : r = 0 ∨ r = 1 ∨ r = 2 ∨ r = -1 := by
  rcases h with ⟨_, h⟩ | ⟨_, _, _, _, _, h, _⟩ | ⟨_, _, _, _, _, _, h, _⟩ | ⟨_, _, _, h⟩
  · exact Or.inl h
  · exact Or.inr (Or.inl h)
  · exact Or.inr (Or.inr (Or.inl h))
  · exact Or.inr (Or.inr (Or.inr h))
theorem op_huts (v1 v2 : Int32) : OP (w_X10_huts v1 v2) (w_X11_huts v1 v2) := by
  intro μ h
  obtain ⟨n, kd, lt, hX, hM, hW⟩ := h.1.1
  have h10 := hX.2.1
  unfold w_X10_huts w_X11_huts w_X9_houses w_X10_lotOf
  simp only [isLot_eq, misLot_eq, xf0, mf0, xf3, mf3, xf4, mf4, pt_if, pt_if']
  cases hl : (inB v1 0 11 && inB v2 0 11)
  · exact ⟨by trivial, h.fnd0 (by omega)⟩
  · obtain ⟨a, b, ha, hb, rfl, rfl⟩ := lotB hl
    have hL : 12 * b + a < 144 := by omega
    simp only [if_true, lot_nI]
    refine ⟨by trivial, ?_⟩
    refine stands_sp hX _ _ ?_
    rw [pt_if]
    cases hs : stn lt (nI (12 * b + a)) n
    · simp only [Bool.false_eq_true, if_false]
      refine ⟨by trivial, find3_sp hX hL hs _ (fun r μ1 g hH => ?_)⟩
      have gS : SA μ μ1 := g.sa rfl
      have cont : ∀ (r0 : Int32) (ν : qM), HM ν n kd lt → (0 ≤ r → r0 = r ∧ ∀ μ2, SA ν μ2 → RI μ2) → (¬ 0 ≤ r → r0 = -1000004 ∧ ∀ μ2, SA ν μ2 → RI (qu μ2 56 3 (μ2 56 3 + 1))) → w_X11_houseOn (nI (12 * b + a)) (fun r21 μ21 => ((r21 < 0 → w_X11_hutsFor (nI (12 * b + a)) (fun r40 μ40 => ((0 ≤ r40 → r0 = r40 ∧ RI μ40) ∧ (¬ 0 ≤ r40 → r0 = -1000004 ∧ RI (qu μ40 56 3 (μ40 56 3 + 1))))) μ21) ∧ (¬ r21 < 0 → r0 = -1000005 ∧ RI (qu μ21 56 4 (μ21 56 4 + 1))))) ν := fun r0 ν hMν c1 c2 => by
        refine houseOn_sp hMν _ _ (fun _ => ⟨fun _ => ?_, fun q => absurd (by decide) q⟩) (fun j hj he _ => absurd he (stn_false.mp hs j hj))
        refine hutsFor_sp hL hMν (by omega) _ (fun r' μ2 g2 hH' => ?_)
        have e := (HS_eq hH hH').1
        subst e
        exact ⟨fun q => ⟨(c1 q).1, (c1 q).2 μ2 g2⟩, fun q => ⟨(c2 q).1, (c2 q).2 μ2 g2⟩⟩
      refine ⟨fun q => ?_, fun q => ?_⟩
      · exact cont r μ1 (gS.hm hM) (fun _ => ⟨rfl, fun μ2 g2 => (h.sa gS).sa g2⟩) (fun p => absurd q p)
      · have t := cont (-1000004) (qu μ1 33 3 (μ1 33 3 + 1)) (by exact gS.hm hM) (fun p => absurd p q) (fun _ => ⟨rfl, fun μ2 g2 => (h.sa gS).fnd (by omega) g2⟩)
        simpa only [eq_self, true_and] using t
    · simp only [if_true]
      refine houseOn_sp (n := n) (kd := kd) (lt := lt) (by exact hM) _ _ (fun q => by rw [hs] at q; cases q) (fun j hj he _ => ?_)
      have := hM.2.1
      exact ⟨fun q => absurd q (nI_pos (by omega)), fun _ => ⟨by trivial, h.fnd0 (by omega)⟩⟩
theorem op_hut (v1 v2 v3 : Int32) : OP (w_X10_hut v1 v2 v3) (w_X11_hut v1 v2 v3) := by
  intro μ h
  obtain ⟨n, kd, lt, hX, hM, hW⟩ := h.1.1
  have h10 := hX.2.1
  unfold w_X10_hut w_X11_hut w_X9_houses w_X10_lotOf q_X10_hut_17 q_X11_hut_17 w_X3_first w_X3_second
  simp only [isLot_eq, misLot_eq, within_eq, xf0, mf0, xf3, mf3, xf4, mf4, pt_if, pt_if', inB_y]
  cases hl : (inB v1 0 11 && inB v2 0 11)
  · exact ⟨by trivial, h.fnd0 (by omega)⟩
  · cases hv : inB v3 0 1
    · exact ⟨by trivial, h.fnd0 (by omega)⟩
    · obtain ⟨a, b, ha, hb, rfl, rfl⟩ := lotB hl
      obtain ⟨w, hw, rfl⟩ := inB_t (m := 1) (by decide) hv
      have hL : 12 * b + a < 144 := by omega
      simp only [if_true, lot_nI]
      refine ⟨by trivial, ?_⟩
      refine stands_sp hX _ _ ?_
      rw [pt_if]
      cases hs : stn lt (nI (12 * b + a)) n
      · simp only [Bool.false_eq_true, if_false]
        refine ⟨by trivial, find3_sp hX hL hs _ (fun r μ1 g hH => ?_)⟩
        have gS : SA μ μ1 := g.sa rfl
        have cont : ∀ (r0 : Int32) (ν : qM), HM ν n kd lt → (∀ r' μ2, HS n kd lt (12 * b + a) r' (μ2 46 23) (μ2 46 24) → SA ν μ2 → ((r' ≤ nI w → r0 = -1000004 ∧ RI (qu μ2 56 3 (μ2 56 3 + 1))) ∧ (¬ r' ≤ nI w → ((¬ nI w = 0 → r0 = μ2 46 24 ∧ RI μ2) ∧ (nI w = 0 → r0 = μ2 46 23 ∧ RI μ2))))) → w_X11_houseOn (nI (12 * b + a)) (fun r30 μ30 => ((r30 < 0 → w_X11_hutsFor (nI (12 * b + a)) (fun r50 μ50 => ((r50 ≤ nI w → r0 = -1000004 ∧ RI (qu μ50 56 3 (μ50 56 3 + 1))) ∧ (¬ r50 ≤ nI w → ((¬ nI w = 0 → r0 = μ50 46 24 ∧ RI μ50) ∧ (nI w = 0 → r0 = μ50 46 23 ∧ RI μ50))))) μ30) ∧ (¬ r30 < 0 → r0 = -1000005 ∧ RI (qu μ30 56 4 (μ30 56 4 + 1))))) ν := fun r0 ν hMν c1 => by
          refine houseOn_sp hMν _ _ (fun _ => ⟨fun _ => ?_, fun q => absurd (by decide) q⟩) (fun j hj he _ => absurd he (stn_false.mp hs j hj))
          exact hutsFor_sp hL hMν (by omega) _ (fun r' μ2 g2 hH' => c1 r' μ2 hH' g2)
        have lt_le : ∀ x y : Int32, ¬ (x < y) → y ≤ x := fun x y q => Int32.not_lt.mp q
        refine ⟨fun q => ?_, fun q => ?_⟩
        · have nq : ∀ r', r = r' → ¬ r' ≤ nI w := fun r' e p => by rw [← e] at p; exact Int32.not_lt.mpr p q
          have w01 : w = 0 ∨ w = 1 := by omega
          have n10 : ¬ nI 1 = 0 := by decide
          have n12 : ¬ nI 1 < (1 : Int32) := by decide
          have n00 : ¬ nI 0 < (0 : Int32) := by decide
          have n01 : ¬ nI 1 < (0 : Int32) := by decide
          have nm0 : ¬ nI 0 < (-1 : Int32) := by decide
          have nm1 : ¬ nI 1 < (-1 : Int32) := by decide
          refine ⟨fun e => ?_, fun e => ?_⟩
          · have hw1 : w = 1 := w01.resolve_left (fun e' => by subst e'; exact e rfl)
            subst hw1
            have hr : r = 2 := by
              rcases HS_r hH with hr | hr | hr | hr
              · rw [hr] at q; exact absurd q n01
              · rw [hr] at q; exact absurd q n12
              · exact hr
              · rw [hr] at q; exact absurd q nm1
            refine cont _ μ1 (gS.hm hM) (fun r' μ2 hH' g2 => ⟨fun p => absurd p (nq r' (HS_eq hH hH').1), fun _ => ⟨fun _ => ⟨((HS_eq hH hH').2.2 hr).2, (h.sa gS).sa g2⟩, fun p => absurd p n10⟩⟩)
          · have hw0 : w = 0 := by
              rcases w01 with h0 | h0
              · exact h0
              · subst h0; exact absurd e n10
            subst hw0
            refine cont _ μ1 (gS.hm hM) (fun r' μ2 hH' g2 => ⟨fun p => absurd p (nq r' (HS_eq hH hH').1), fun _ => ⟨fun p => absurd rfl p, fun _ => ⟨?_, (h.sa gS).sa g2⟩⟩⟩)
            rcases HS_r hH with hr | hr | hr | hr
            · rw [hr] at q; exact absurd q n00
            · exact (HS_eq hH hH').2.1 hr
            · exact ((HS_eq hH hH').2.2 hr).1
            · rw [hr] at q; exact absurd q nm0
        · have t := cont (-1000004) (qu μ1 33 3 (μ1 33 3 + 1)) (by exact gS.hm hM) (fun r' μ2 hH' g2 => ⟨fun _ => ⟨rfl, (h.sa gS).fnd (by omega) g2⟩, fun p => absurd (Int32.not_lt.mp (by rw [← (HS_eq hH hH').1]; exact q)) p⟩)
          simpa only [eq_self, true_and] using t
      · simp only [if_true]
        refine houseOn_sp (n := n) (kd := kd) (lt := lt) (by exact hM) _ _ (fun q => by rw [hs] at q; cases q) (fun j hj he _ => ?_)
        have := hM.2.1
        exact ⟨fun q => absurd q (nI_pos (by omega)), fun _ => ⟨by trivial, h.fnd0 (by omega)⟩⟩
