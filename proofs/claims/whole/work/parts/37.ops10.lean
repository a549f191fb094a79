/-! build, years, ahead, when -/
def WS (s : (Nat × (Nat → Int32) × (Nat → Int32) × Int32 × Int32)) : Prop := s.1 ≤ 10 ∧ WF s.1 s.2.1 s.2.2.1
theorem yr_cases {w : Nat → Int32} {n : Nat} {kd lt : Nat → Int32} {c z : Int32} (h10 : n ≤ 10) : (∃ Z, (yr w ⟨n, kd, lt, c, z⟩).2 = ⟨n, kd, lt, c, Z⟩) ∨ (n < 10 ∧ ∃ k L C Z, k < 7 ∧ L < 144 ∧ (yr w ⟨n, kd, lt, c, z⟩).2 = ⟨n + 1, upd kd n (nI k), upd lt n (nI L), C, Z⟩) := by
  obtain ⟨a, b, k, ha, hb, hk, ea, eb, ek, el, ek'⟩ := yz z
  by_cases e10 : n = 10
  · exact Or.inl ⟨nz (nz (nz z)), by rw [yr, if_pos e10]⟩
  · by_cases hc : c < cs (yk z)
    · exact Or.inl ⟨nz (nz (nz z)), by rw [yr, if_neg e10, if_pos hc]⟩
    · by_cases hf : fb n kd lt (yl z) = true
      · exact Or.inr ⟨by omega, k, 12 * b + a, c + (w (yl z).toNatClampNeg - cs (yk z)), nz (nz (nz z)), hk, by omega, by rw [yr, if_neg e10, if_neg hc, if_pos hf, ← el, ← ek']⟩
      · exact Or.inl ⟨nz (nz (nz z)), by rw [yr, if_neg e10, if_neg hc, if_neg hf]⟩
theorem yr_ws {w : Nat → Int32} {s : (Nat × (Nat → Int32) × (Nat → Int32) × Int32 × Int32)} (h : WS s) : WS (yr w s).2 ∧ s.1 ≤ (yr w s).2.1 ∧ ∀ j, j < s.1 → (yr w s).2.2.1 j = s.2.1 j ∧ (yr w s).2.2.2.1 j = s.2.2.1 j := by
  obtain ⟨n, kd, lt, c, z⟩ := s
  obtain ⟨h1, h2⟩ := h
  have h10 : n ≤ 10 := h1
  have hW : WF n kd lt := h2
  show WS (yr w ⟨n, kd, lt, c, z⟩).2 ∧ n ≤ (yr w ⟨n, kd, lt, c, z⟩).2.1 ∧ ∀ j, j < n → (yr w ⟨n, kd, lt, c, z⟩).2.2.1 j = kd j ∧ (yr w ⟨n, kd, lt, c, z⟩).2.2.2.1 j = lt j
  rcases yr_cases (w := w) (kd := kd) (lt := lt) (c := c) (z := z) h10 with ⟨Z, e⟩ | ⟨hn, k, L, C, Z, hk, hL, e⟩
  · rw [e]; exact ⟨⟨h10, hW⟩, Nat.le_refl _, fun _ _ => ⟨rfl, rfl⟩⟩
  · rw [e]
    refine ⟨⟨show n + 1 ≤ 10 by omega, ?_⟩, Nat.le_succ n, fun j hj => ?_⟩
    · show WF (n + 1) (upd kd n (nI k)) (upd lt n (nI L))
      exact hW.put hk hL
    · show upd kd n (nI k) j = kd j ∧ upd lt n (nI L) j = lt j
      exact ⟨pk_un (by omega), pk_un (by omega)⟩
theorem its_ws {w : Nat → Int32} {s : (Nat × (Nat → Int32) × (Nat → Int32) × Int32 × Int32)} (h : WS s) (m : Nat) : WS (its w m s).2 ∧ s.1 ≤ (its w m s).2.1 ∧ ∀ j, j < s.1 → (its w m s).2.2.1 j = s.2.1 j ∧ (its w m s).2.2.2.1 j = s.2.2.1 j := by
  induction m with
  | zero => exact ⟨h, Nat.le_refl _, fun _ _ => ⟨rfl, rfl⟩⟩
  | succ m ih =>
    obtain ⟨h1, h2, h3⟩ := ih
    obtain ⟨g1, g2, g3⟩ := yr_ws (w := w) h1
    refine ⟨g1, Nat.le_trans h2 g2, fun j hj => ?_⟩
    have a := g3 j (Nat.lt_of_lt_of_le hj h2)
    have b := h3 j hj
    exact ⟨a.1.trans b.1, a.2.trans b.2⟩
theorem RI.st {μ : qM} (h : RI μ) : ∃ (n : Nat) (kd lt : Nat → Int32), HX μ 2 n kd lt ∧ HM μ n kd lt ∧ WF n kd lt ∧ SX μ 1 n kd lt (μ 1 3) (μ 1 5) (μ 6) ∧ SM μ n kd lt (μ 1 3) (μ 1 5) (μ 6) := by
  obtain ⟨⟨r1, r2, r3, r4, r5, r6, r7⟩, r8⟩ := h
  obtain ⟨n, kd, lt, hX, hM, hW⟩ := r1
  exact ⟨n, kd, lt, hX, hM, hW, ⟨hX, rfl, rfl, fun _ _ => rfl⟩, ⟨hM, r4.1.symm, r4.2.2.symm, fun L hL => (r2 L hL).1.symm⟩⟩
theorem SP.km {μ μ' : qM} {s : (Nat × (Nat → Int32) × (Nat → Int32) × Int32 × Int32)} {w : Nat → Int32} (h : SP μ 1 s w) (g : KM μ μ') : SP μ' 1 s w := by
  obtain ⟨⟨h1, h2, h3⟩, hc, hz, hw⟩ := h
  have e : ∀ i, i < 46 → μ' i = μ i := fun i hi => g.1 i (by omega) (by omega) (by omega) (by omega)
  refine ⟨⟨by rw [e _ (by omega)]; exact h1, h2, fun j hj => ?_⟩, by rw [e _ (by omega)]; exact hc, by rw [e _ (by omega)]; exact hz, fun L hL => by rw [e _ (by omega)]; exact hw L hL⟩
  rw [e _ (by omega), e _ (by omega)]; exact h3 j hj
theorem SM.sa {μ μ' : qM} {n : Nat} {kd lt w : Nat → Int32} {c z : Int32} (h : SM μ n kd lt c z w) (a46 : ∀ k, k = 0 ∨ k = 5 ∨ k = 7 → μ' 46 k = μ 46 k) (a : ∀ j, j < n → μ' 47 j = μ 47 j ∧ μ' 48 j = μ 48 j) (b : μ' 49 = μ 49) : SM μ' n kd lt c z w := by
  obtain ⟨⟨h1, h2, h3⟩, hc, hz, hw⟩ := h
  refine ⟨⟨by rw [a46 0 (by omega)]; exact h1, h2, fun j hj => ?_⟩, by rw [a46 5 (by omega)]; exact hc, by rw [a46 7 (by omega)]; exact hz, fun L hL => by rw [b]; exact hw L hL⟩
  rw [(a j hj).1, (a j hj).2]; exact h3 j hj
theorem SM.kx {μ μ' : qM} {n : Nat} {kd lt w : Nat → Int32} {c z : Int32} (h : SM μ n kd lt c z w) (g : KX 1 μ μ') : SM μ' n kd lt c z w := by
  have e : ∀ i, 46 ≤ i → μ' i = μ i := fun i hi => g.1 i (by omega) (by omega) (by omega) (by omega) (by omega)
  exact h.sa (fun k _ => by rw [e 46 (by omega)]) (fun j _ => ⟨by rw [e 47 (by omega)], by rw [e 48 (by omega)]⟩) (e 49 (by omega))
theorem SM.ofSA {μ μ' : qM} {n : Nat} {kd lt w : Nat → Int32} {c z : Int32} (h : SM μ n kd lt c z w) (g : SA μ μ') : SM μ' n kd lt c z w := by
  have h1 := h.1.1
  have h2 := h.1.2.1
  refine h.sa (fun k hk => g.2.1 k ?_) (fun j hj => g.2.2 j (by rw [h1, clp (by omega)]; exact hj)) (g.1 49 rfl (by decide) (by decide) (by decide))
  rcases hk with rfl | rfl | rfl <;> rfl
/-- the plain changes on both sides: all else stays -/
theorem RI.pl {μ ν : qM} {s : (Nat × (Nat → Int32) × (Nat → Int32) × Int32 × Int32)} {y : Nat} (h : RI μ) (hX : SP ν 1 s (μ 6)) (hM : SQ ν s (μ 6)) (hW : WS s) (hy : y ≤ 9999) (y1 : ν 1 4 = nI y) (y2 : ν 46 6 = nI y) (a : ∀ i, scrB i = false → i ≠ 1 → i ≠ 2 → i ≠ 3 → i ≠ 4 → i ≠ 46 → i ≠ 47 → i ≠ 48 → ν i = μ i) (b : ∀ k, k ≠ 0 → k ≠ 5 → k ≠ 6 → k ≠ 7 → scrF k = false → ν 46 k = μ 46 k) : RI ν := by
  obtain ⟨⟨r1, r2, r3, r4, r5, r6, r7⟩, r8⟩ := h
  have A : ∀ i, (scrB i || (i == 1 || (i == 2 || (i == 3 || (i == 4 || (i == 46 || (i == 47 || i == 48))))))) = false → ν i = μ i := fun i hi => by
    simp only [Bool.or_eq_false_iff, beq_eq_false_iff_ne] at hi
    exact a i hi.1 hi.2.1 hi.2.2.1 hi.2.2.2.1 hi.2.2.2.2.1 hi.2.2.2.2.2.1 hi.2.2.2.2.2.2.1 hi.2.2.2.2.2.2.2
  exact ⟨⟨⟨_, _, _, hX.1, hM.1, hW.2⟩, r2.keep (A 6 rfl) (A 49 rfl), r3.keep (A 7 rfl) (A 50 rfl), ⟨hX.2.1.trans hM.2.1.symm, ⟨y, hy, y1, y2⟩, hX.2.2.1.trans hM.2.2.1.symm⟩, r5.keep (A 0 rfl) (A 8 rfl) (A 9 rfl) (A 10 rfl) (A 11 rfl) (A 13 rfl) (A 14 rfl) (b 8 (by decide) (by decide) (by decide) (by decide) rfl) (b 9 (by decide) (by decide) (by decide) (by decide) rfl) (b 14 (by decide) (by decide) (by decide) (by decide) rfl) (b 15 (by decide) (by decide) (by decide) (by decide) rfl) (b 16 (by decide) (by decide) (by decide) (by decide) rfl) (A 51 rfl) (A 52 rfl) (A 53 rfl) (A 54 rfl), r6.keep (A 22 rfl) (A 23 rfl) (b 18 (by decide) (by decide) (by decide) (by decide) rfl) (A 55 rfl), r7.keep (s8 ⟨A 25 rfl, A 26 rfl, A 27 rfl, A 28 rfl, A 29 rfl, A 30 rfl, A 31 rfl, A 32 rfl⟩) (A 62 rfl) (A 63 rfl) (A 64 rfl)⟩, r8.keep (A 33 rfl) (A 56 rfl)⟩
theorem RI.plk {μ μ1 ν : qM} {s : (Nat × (Nat → Int32) × (Nat → Int32) × Int32 × Int32)} {y : Nat} (h : RI μ) (K1 : ∀ i, i ≠ 1 → i ≠ 2 → i ≠ 3 → i ≠ 4 → i ≠ 5 → μ1 i = μ i) (K2 : KM μ1 ν) (hX : SP ν 1 s (μ 6)) (hM : SQ ν s (μ 6)) (hW : WS s) (hy : y ≤ 9999) (y1 : ν 1 4 = nI y) (y2 : ν 46 6 = nI y) : RI ν := by
  refine h.pl hX hM hW hy y1 y2 (fun i a b c d e f g k => ?_) (fun k a b c d e => ?_)
  · have i57 : i ≠ 57 := fun q => by subst q; exact absurd a (by decide)
    have i5 : i ≠ 5 := fun q => by subst q; exact absurd a (by decide)
    rw [K2.1 i f g k i57, K1 i b c d e i5]
  · rw [K2.2 k a b c d, K1 46 (by omega) (by omega) (by omega) (by omega) (by omega)]
theorem op_build (v1 v2 v3 : Int32) : OP (w_X10_build v1 v2 v3) (w_X11_build v1 v2 v3) := by
  intro μ h
  obtain ⟨n, kd, lt, hX, hM, hW, sX, sM⟩ := h.st
  have h10 := hX.2.1
  unfold w_X10_build w_X11_build q_X10_build_15 q_X11_build_15 q_X11_build_45 w_X9_houses w_X10_lotOf w_X9_allows q_X9_allows_26 w_X9_purse
  simp only [isKind_eq, isLot_eq, misKind_eq, misLot_eq, costs_eq, mcosts_eq, xf0, mf0, xf1, mf1, xf4, mf4, pt_if, pt_if']
  cases hk : inB v1 0 6
  · exact ⟨by trivial, h.fnd0 (by omega)⟩
  · cases hl : (inB v2 0 11 && inB v3 0 11)
    · exact ⟨by trivial, h.fnd0 (by omega)⟩
    · obtain ⟨k, hk6, rfl⟩ := inB_t (m := 6) (by decide) hk
      obtain ⟨a, b, ha, hb, rfl, rfl⟩ := lotB hl
      have hL : 12 * b + a < 144 := by omega
      simp only [if_true, lot_nI]
      refine ⟨fun hc => ⟨Or.inl (by trivial), fun q => absurd (by trivial) q, fun _ => ?_⟩, fun hc => ?_⟩
      · refine misFree_sp (by exact hM.t33) _ _ (fun f => pb_if (fun _ => ⟨by trivial, h.fnd (by omega) (SA.qr rfl)⟩) (fun _ => ⟨fun q => ?_, fun _ => ⟨by trivial, h.fnd (by omega) (SA.qr rfl)⟩⟩))
        exact absurd (Int32.lt_of_le_of_lt q (by
          show (qr (qu μ 33 4 (μ 33 4 + 1)) 57 f) 46 5 < _
          have : (qr (qu μ 33 4 (μ 33 4 + 1)) 57 f) 46 5 = μ 1 3 := sM.2.1
          rw [this]; exact hc)) Int32.lt_irrefl
      · refine isFree_sp hX _ _ (fun f => pb_if (fun hb' => ⟨Or.inl (by trivial), fun q => absurd (by trivial) q, fun _ => ?_⟩) (fun hb' => ⟨Or.inr (by trivial), fun _ => ⟨by trivial, ?_⟩, fun q => absurd q (by decide)⟩))
        · have hM' : HM (qu (qr μ (2 + 3) f) 33 4 ((qr μ (2 + 3) f) 33 4 + 1)) n kd lt := hM
          refine misFree_sp hM' _ _ (fun g => ?_)
          rw [hb']
          refine ⟨fun _ => ⟨by trivial, ?_⟩, fun q => absurd rfl q⟩
          exact (h.sa (SA.qr (i := 2 + 3) (f := f) rfl)).fnd (by omega) (SA.qr rfl)
        · rw [isFull_eq (hX.fars f), pt_if]
          by_cases e : n = 10
          · simp only [e, decide_true, if_true]
            have hM' : HM (qu (qr μ (2 + 3) f) 33 1 ((qr μ (2 + 3) f) 33 1 + 1)) n kd lt := hM
            refine misFree_sp hM' _ _ (fun g => ?_)
            rw [hb']
            refine ⟨fun q => absurd q (by decide), fun _ => ⟨fun _ => ?_, fun q => absurd (Int32.not_lt.mp ?_) q⟩⟩
            · refine ⟨fun q => absurd ((many10 (hM'.away g)).mpr e) q, fun _ => ⟨by trivial, ?_⟩⟩
              exact (h.sa (SA.qr (i := 2 + 3) (f := f) rfl)).fnd (by omega) (SA.qr rfl)
            · have : (qr (qu (qr μ (2 + 3) f) 33 1 ((qr μ (2 + 3) f) 33 1 + 1)) 57 g) 46 5 = μ 1 3 := sM.2.1
              rw [this]; exact hc
          · simp only [e, decide_false, Bool.false_eq_true, if_false]
            have sX' : SX (qr μ (2 + 3) f) 1 n kd lt (μ 1 3) (μ 1 5) (μ 6) := ⟨hX.fars f, rfl, rfl, fun _ _ => rfl⟩
            refine raise_sp sX' (by omega) _ hL _ (fun μ1 K1 S1 => ?_)
            have K1' : KX 1 μ μ1 := (show KX 1 μ (qr μ (2 + 3) f) from ⟨fun i _ _ _ _ e => qr_n e, fun _ _ _ => rfl⟩).trans K1
            have M1 := sM.kx K1'
            refine mfree_sp M1 _ _ (fun μ2 K2 Y2 M2 => ?_)
            rw [hb']
            refine ⟨fun q => absurd q (by decide), fun _ => ⟨fun _ => ⟨fun _ => ?_, fun q => absurd ((many10 M2.1).mp q) e⟩, fun q => absurd (Int32.not_lt.mp ?_) q⟩⟩
            · refine builds_sp M2 (by omega) _ hL _ (fun μ3 K3 Y3 M3 => ⟨?_, ?_⟩)
              · rw [S1.2.1, M3.2.1]
              · obtain ⟨y, hy, y1, y2⟩ := h.1.2.2.2.1.2.1
                have K := K2.trans K3
                refine h.plk (s := ⟨n + 1, upd kd n (nI k), upd lt n (nI (12 * b + a)), μ 1 3 + (μ 6 (12 * b + a) - cs (nI k)), μ 1 5⟩) (y := y) K1'.1 K (SP.km (by exact S1) K) M3 ⟨show n + 1 ≤ 10 by omega, hW.put (by omega) (by omega)⟩ hy ?_ ?_
                · rw [K.1 1 (by omega) (by omega) (by omega) (by omega), K1'.2 4 (by omega) (by omega)]; exact y1
                · rw [Y3, Y2, K1'.1 46 (by omega) (by omega) (by omega) (by omega) (by omega)]; exact y2
            · rw [M2.2.1]; exact hc
