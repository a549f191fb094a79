theorem misHouse_sp {μ : qM} {n : Nat} {kd lt : Nat → Int32} (h : HM μ n kd lt) (v : Int32) (post : Int32 → qM → Prop) (hp' : post (tb (hasB n v)) μ) : w_X11_isHouse v post μ := by
  rw [misHouse_eq h]; exact hp'
theorem many10_x {μ : qM} {n : Nat} {kd lt : Nat → Int32} (h : HM μ n kd lt) {A B : Prop} (a : n ≠ 10 → A) (b : n = 10 → B) : (¬ μ 46 0 = 10 → A) ∧ (μ 46 0 = 10 → B) := by
  rw [many10 h]; exact ⟨a, b⟩
/-- houses change on both sides: all else stays -/
theorem RI.h1 {μ ν : qM} (h : RI μ) (g : R1 ν) (a : ∀ i, scrB i = false → i ≠ 2 → i ≠ 3 → i ≠ 4 → i ≠ 46 → i ≠ 47 → i ≠ 48 → ν i = μ i) (b : ∀ k, k ≠ 0 → scrF k = false → ν 46 k = μ 46 k) : RI ν := by
  obtain ⟨⟨r1, r2, r3, r4, r5, r6, r7⟩, r8⟩ := h
  have A : ∀ i, (scrB i || (i == 2 || (i == 3 || (i == 4 || (i == 46 || (i == 47 || i == 48)))))) = false → ν i = μ i := fun i hi => by
    simp only [Bool.or_eq_false_iff, beq_eq_false_iff_ne] at hi
    exact a i hi.1 hi.2.1 hi.2.2.1 hi.2.2.2.1 hi.2.2.2.2.1 hi.2.2.2.2.2.1 hi.2.2.2.2.2.2
  exact ⟨⟨g, r2.keep (A 6 rfl) (A 49 rfl), r3.keep (A 7 rfl) (A 50 rfl), r4.keep (A 1 rfl) (b 5 (by decide) rfl) (b 6 (by decide) rfl) (b 7 (by decide) rfl), r5.keep (A 0 rfl) (A 8 rfl) (A 9 rfl) (A 10 rfl) (A 11 rfl) (A 13 rfl) (A 14 rfl) (b 8 (by decide) rfl) (b 9 (by decide) rfl) (b 14 (by decide) rfl) (b 15 (by decide) rfl) (b 16 (by decide) rfl) (A 51 rfl) (A 52 rfl) (A 53 rfl) (A 54 rfl), r6.keep (A 22 rfl) (A 23 rfl) (b 18 (by decide) rfl) (A 55 rfl), r7.keep (s8 ⟨A 25 rfl, A 26 rfl, A 27 rfl, A 28 rfl, A 29 rfl, A 30 rfl, A 31 rfl, A 32 rfl⟩) (A 62 rfl) (A 63 rfl) (A 64 rfl)⟩, r8.keep (A 33 rfl) (A 56 rfl)⟩
theorem qu_n {μ : qM} {i j k : Nat} {x : Int32} (h : j ≠ i) : qu μ i k x j = μ j := qr_n h
theorem qu_s {μ : qM} {i k : Nat} {x : Int32} : qu μ i k x i = upd (μ i) k x := qr_s
theorem HX.become {μ : qM} {o n : Nat} {kd lt : Nat → Int32} (h : HX μ o n kd lt) {j : Nat} (k : Int32) : HX (qu μ (o + 1) j k) o n (upd kd j k) lt := by
  refine ⟨by rw [qu_n (by omega)]; exact h.1, h.2.1, fun i hi => ?_⟩
  rw [qu_s, qu_n (by omega)]
  refine ⟨?_, (h.2.2 i hi).2⟩
  by_cases e : i = j
  · subst e; rw [pk_us, pk_us]
  · rw [pk_un e, pk_un e]; exact (h.2.2 i hi).1
theorem HM.become {μ : qM} {n : Nat} {kd lt : Nat → Int32} (h : HM μ n kd lt) {j : Nat} (k : Int32) : HM (qu μ 47 j k) n (upd kd j k) lt := by
  refine ⟨h.1, h.2.1, fun i hi => ?_⟩
  show upd (μ 47) j k i = _ ∧ μ 48 i = _
  refine ⟨?_, (h.2.2 i hi).2⟩
  by_cases e : i = j
  · subst e; rw [pk_us, pk_us]
  · rw [pk_un e, pk_un e]; exact (h.2.2 i hi).1
theorem WF.become {n : Nat} {kd lt : Nat → Int32} (h : WF n kd lt) {j k : Nat} (hk : k < 7) : WF n (upd kd j (nI k)) lt := by
  intro i hi
  by_cases e : i = j
  · subst e; rw [pk_us]; exact ⟨⟨k, hk, rfl⟩, (h i hi).2⟩
  · rw [pk_un e]; exact h i hi
theorem kindOf_sp {μ : qM} {o n : Nat} {kd lt : Nat → Int32} (h : HX μ o n kd lt) {j : Nat} (hj : j < n) (post : Int32 → qM → Prop) (hp' : post (kd j) μ) : w_X1_kindOf o (nI j) post μ := by
  have h10 := h.2.1
  unfold w_X1_kindOf
  rw [has_eq h, hasB_nI (by omega) hj, clp (by omega), (h.arr hj).1]
  exact ⟨fun q => absurd q (by decide), fun _ => ⟨vp_in_nI (by omega) (by omega), hp'⟩⟩
theorem homeOf_sp {μ : qM} {o n : Nat} {kd lt : Nat → Int32} (h : HX μ o n kd lt) {j : Nat} (hj : j < n) (post : Int32 → qM → Prop) (hp' : post (lt j) μ) : w_X1_homeOf o (nI j) post μ := by
  have h10 := h.2.1
  unfold w_X1_homeOf
  rw [has_eq h, hasB_nI (by omega) hj, clp (by omega), (h.arr hj).2]
  exact ⟨fun q => absurd q (by decide), fun _ => ⟨vp_in_nI (by omega) (by omega), hp'⟩⟩
theorem become_sp {μ : qM} {o n : Nat} {kd lt : Nat → Int32} (h : HX μ o n kd lt) {j : Nat} (hj : j < n) (k : Int32) (post : qM → Prop) (hp' : post (qu μ (o + 1) j k)) : w_X1_become o (nI j) k post μ := by
  have h10 := h.2.1
  unfold w_X1_become
  rw [has_eq h, hasB_nI (by omega) hj, clp (by omega)]
  exact ⟨fun q => absurd q (by decide), fun _ => ⟨vp_in_nI (by omega) (by omega), hp'⟩⟩
theorem op_change (v1 v2 : Int32) : OP (w_X10_change v1 v2) (w_X11_change v1 v2) := by
  intro μ h
  obtain ⟨n, kd, lt, hX, hM, hW⟩ := h.1.1
  have h10 := hX.2.1
  unfold w_X10_change w_X11_change q_X10_change_23 q_X11_change_15 w_X9_houses
  refine ⟨by trivial, ?_⟩
  rw [has_eq hX]
  simp only [isKind_eq, misKind_eq, xf0, mf0, pt_if, pt_if']
  cases hh : hasB n v1
  · refine misHouse_sp (n := n) (kd := kd) (lt := lt) (by exact hM) _ _ ?_
    rw [hh]
    exact ⟨fun _ => ⟨by trivial, h.fnd0 (by omega)⟩, fun q => absurd rfl q⟩
  · obtain ⟨j, hj, rfl⟩ := hasB_t (by omega) hh
    simp only [if_true]
    cases hk : inB v2 0 6
    · refine misHouse_sp (n := n) (kd := kd) (lt := lt) (by exact hM) _ _ ?_
      rw [hh]
      exact ⟨fun q => absurd q (by decide), fun _ => ⟨by trivial, h.fnd0 (by omega)⟩⟩
    · obtain ⟨k, hk6, rfl⟩ := inB_t (m := 6) (by decide) hk
      simp only [if_true]
      refine kindOf_sp hX hj _ (become_sp hX hj _ _ ?_)
      refine misHouse_sp (n := n) (kd := kd) (lt := lt) (by exact hM) _ _ ?_
      rw [hh, clp (by omega)]
      refine ⟨fun q => absurd q (by decide), fun _ => ⟨vp_in_nI (by omega) (by omega), vp_in_nI (by omega) (by omega), ?_, ?_⟩⟩
      · exact ((hM.arr hj).1).symm
      · refine h.h1 ⟨n, upd kd j (nI k), lt, ?_, ?_, hW.become (by omega)⟩ (fun i a b c d e f g => ?_) (fun k' a b => rfl)
        · exact hX.become (nI k)
        · exact HM.become (μ := qu μ 3 j (nI k)) hM (nI k)
        · show qu (qu μ 3 j (nI k)) 47 j (nI k) i = μ i
          rw [qu_n f, qu_n c]
theorem op_fire : OP w_X10_fire w_X11_fire := by
  intro μ h
  obtain ⟨n, kd, lt, hX, hM, hW⟩ := h.1.1
  have h10 := hX.2.1
  unfold w_X10_fire w_X11_fire w_X9_houses w_X1_size w_X1_burnLast
  simp only [xf3, mf3]
  refine ⟨by trivial, ?_⟩
  rw [hX.1]
  cases n with
  | zero => exact ⟨fun q => absurd rfl q, fun _ => ⟨fun q => absurd hM.1 q, fun _ => ⟨by trivial, h.fnd0 (by omega)⟩⟩⟩
  | succ m =>
    refine ⟨fun _ => ?_, fun q => absurd q (nI_ne0 (by omega) (by omega))⟩
    rw [nI_pred]
    refine homeOf_sp hX (by omega) _ ?_
    rw [hX.1]
    refine ⟨fun q => absurd q (nI_nle (by omega) (by omega)), fun _ => ⟨fun _ => ?_, fun q => absurd (hM.1.symm.trans q) (nI_ne0 (by omega) (by omega))⟩⟩
    have e : (qu (qu μ 2 0 (nI (m + 1) - 1)) 46 0 ((qu μ 2 0 (nI (m + 1) - 1)) 46 0 - 1)) 46 0 = nI m := by
      show μ 46 0 - 1 = nI m
      rw [hM.1, nI_pred]
    rw [e, clp (by omega)]
    refine ⟨vp_in_nI (by omega) (by omega), ?_, ?_⟩
    · exact ((hM.arr (by omega)).2).symm
    · refine h.h1 ⟨m, kd, lt, ⟨?_, by omega, fun j hj => hX.2.2 j (by omega)⟩, ⟨e, by omega, fun j hj => hM.2.2 j (by omega)⟩, fun j hj => hW j (by omega)⟩ (fun i a b c d e f g => ?_) (fun k' a b => ?_)
      · show nI (m + 1) - 1 = nI m
        exact nI_pred m
      · show qu (qu μ 2 0 _) 46 0 _ i = μ i
        rw [qu_n e, qu_n b]
      · show upd (μ 46) 0 _ k' = μ 46 k'
        exact pk_un a
theorem RI.wo {μ : qM} {L k : Nat} (hk : k < 100) (h : RI μ) : RI (qu (qu μ 6 L (nI k)) 49 L (nI k)) := by
  obtain ⟨⟨r1, r2, r3, r4, r5, r6, r7⟩, r8⟩ := h
  refine ⟨⟨r1.keep rfl rfl rfl rfl (fun _ _ => ⟨rfl, rfl⟩), fun j hj => ?_, r3.keep rfl rfl, r4.keep rfl rfl rfl rfl, r5.keep rfl rfl rfl rfl rfl rfl rfl rfl rfl rfl rfl rfl rfl rfl rfl rfl, r6.keep rfl rfl rfl rfl, r7.keep (s8 ⟨rfl, rfl, rfl, rfl, rfl, rfl, rfl, rfl⟩) rfl rfl rfl⟩, r8.keep rfl rfl⟩
  show upd (μ 6) L (nI k) j = upd (μ 49) L (nI k) j ∧ ∃ k', k' < 100 ∧ upd (μ 6) L (nI k) j = nI k'
  by_cases e : j = L
  · subst e; rw [pk_us, pk_us]; exact ⟨rfl, k, hk, rfl⟩
  · rw [pk_un e, pk_un e]; exact r2 j hj
theorem worthOf_sp {μ : qM} {o L : Nat} (hL : L < 144) (post : Int32 → qM → Prop) (hp' : post (μ (o + 5) L) μ) : w_X9_worthOf o (nI L) post μ := by
  unfold w_X9_worthOf
  refine ⟨fun q => absurd q (nI_pos (by omega)), fun _ => ⟨fun q => absurd q (nI_ge (b := 144) hL (by omega)), fun _ => ⟨vp_in_nI hL (by omega), ?_⟩⟩⟩
  rw [clp (by omega)]; exact hp'
theorem setWorth_sp {μ : qM} {o L : Nat} (hL : L < 144) (x : Int32) (post : qM → Prop) (hp' : post (qu μ (o + 5) L x)) : w_X9_setWorth o (nI L) x post μ := by
  unfold w_X9_setWorth
  refine ⟨fun q => absurd q (nI_pos (by omega)), fun _ => ⟨fun q => absurd q (nI_ge (b := 144) hL (by omega)), fun _ => ⟨vp_in_nI hL (by omega), ?_⟩⟩⟩
  rw [clp (by omega)]; exact hp'
/-- two places of a lot -/
theorem lotB {x y : Int32} (h : (inB x 0 11 && inB y 0 11) = true) : ∃ a b, a ≤ 11 ∧ b ≤ 11 ∧ x = nI a ∧ y = nI b := by
  simp only [Bool.and_eq_true] at h
  obtain ⟨a, ha, rfl⟩ := inB_t (m := 11) (by decide) h.1
  obtain ⟨b, hb, rfl⟩ := inB_t (m := 11) (by decide) h.2
  exact ⟨a, b, ha, hb, rfl, rfl⟩
theorem op_worth (v1 v2 v3 : Int32) : OP (w_X10_worth v1 v2 v3) (w_X11_worth v1 v2 v3) := by
  intro μ h
  unfold w_X10_worth w_X11_worth q_X10_worth_18 q_X11_worth_18 w_X10_lotOf
  simp only [isLot_eq, misLot_eq, within_eq, xf0, mf0, pt_if, pt_if', inB_y]
  cases hl : (inB v1 0 11 && inB v2 0 11)
  · exact ⟨by trivial, h.fnd0 (by omega)⟩
  · cases hw : inB v3 0 99
    · exact ⟨by trivial, h.fnd0 (by omega)⟩
    · obtain ⟨a, b, ha, hb, rfl, rfl⟩ := lotB hl
      obtain ⟨k, hk, rfl⟩ := inB_t (m := 99) (by decide) hw
      have hL : 12 * b + a < 144 := by omega
      simp only [if_true, lot_nI]
      refine worthOf_sp hL _ (setWorth_sp hL _ _ ?_)
      rw [clp (by omega)]
      exact ⟨vp_in_nI hL (by omega), vp_in_nI hL (by omega), (h.1.2.1 _ hL).1, h.wo (by omega)⟩
theorem farOf_sp {μ : qM} {o n : Nat} {kd lt : Nat → Int32} (h : HX μ o n kd lt) {j : Nat} (hj : j < n) (v : Int32) (post : Int32 → qM → Prop) (hp' : post (fr (kd j) (lt j) v) μ) : w_X1_farOf o (nI j) v post μ := by
  have h10 := h.2.1
  unfold w_X1_farOf
  rw [has_eq h, hasB_nI (by omega) hj, clp (by omega), (h.arr hj).1, (h.arr hj).2, measure_eq]
  exact ⟨fun q => absurd q (by decide), fun _ => ⟨vp_in_nI (by omega) (by omega), vp_in_nI (by omega) (by omega), hp'⟩⟩
theorem op_far (v1 v2 v3 : Int32) : OP (w_X10_far v1 v2 v3) (w_X11_far v1 v2 v3) := by
  intro μ h
  obtain ⟨n, kd, lt, hX, hM, hW⟩ := h.1.1
  have h10 := hX.2.1
  unfold w_X10_far w_X11_far q_X10_far_26 q_X11_far_40 w_X9_houses w_X10_lotOf
  refine ⟨by trivial, ?_⟩
  rw [has_eq hX]
  simp only [isLot_eq, misLot_eq, xf0, mf0, pt_if, pt_if', farOf_eq]
  cases hh : hasB n v1
  · refine misHouse_sp (n := n) (kd := kd) (lt := lt) (by exact hM) _ _ ?_
    rw [hh]
    exact ⟨fun _ => ⟨by trivial, h.fnd0 (by omega)⟩, fun q => absurd rfl q⟩
  · obtain ⟨j, hj, rfl⟩ := hasB_t (by omega) hh
    simp only [if_true]
    cases hl : (inB v2 0 11 && inB v3 0 11)
    · refine misHouse_sp (n := n) (kd := kd) (lt := lt) (by exact hM) _ _ ?_
      rw [hh]
      exact ⟨fun q => absurd q (by decide), fun _ => ⟨by trivial, h.fnd0 (by omega)⟩⟩
    · simp only [if_true]
      refine farOf_sp hX hj _ _ ?_
      refine misHouse_sp (n := n) (kd := kd) (lt := lt) (by exact hM) _ _ ?_
      rw [hh, clp (by omega), (hM.arr hj).1, (hM.arr hj).2]
      exact ⟨fun q => absurd q (by decide), fun _ => ⟨vp_in_nI (by omega) (by omega), vp_in_nI (by omega) (by omega), rfl, h⟩⟩
theorem op_of (v1 v2 : Int32) : OP (w_X10_of v1 v2) (w_X11_of v1 v2) := by
  intro μ h
  obtain ⟨n, kd, lt, hX, hM, hW⟩ := h.1.1
  have h10 := hX.2.1
  unfold w_X10_of w_X11_of q_X10_of_25 q_X11_of_17 w_X9_houses
  refine ⟨by trivial, ?_⟩
  rw [has_eq hX]
  simp only [within_eq, xf0, mf0, pt_if, pt_if', costs_eq, mcosts_eq, inB_y]
  cases hh : hasB n v1
  · refine misHouse_sp (n := n) (kd := kd) (lt := lt) (by exact hM) _ _ ?_
    rw [hh]
    exact ⟨fun _ => ⟨by trivial, h.fnd0 (by omega)⟩, fun q => absurd rfl q⟩
  · obtain ⟨j, hj, rfl⟩ := hasB_t (by omega) hh
    simp only [if_true]
    have vj : vp_in (nI j) 154 := vp_in_nI (by omega) (by omega)
    cases hl : inB v2 0 4
    · refine misHouse_sp (n := n) (kd := kd) (lt := lt) (by exact hM) _ _ ?_
      rw [hh]
      exact ⟨fun q => absurd q (by decide), fun _ => ⟨by trivial, h.fnd0 (by omega)⟩⟩
    · simp only [if_true]
      have M : ∀ (post : Int32 → qM → Prop) , (w_X11_isHouse (nI j) post μ = post (tb true) μ) := fun post => by rw [misHouse_eq hM, hh]
      simp only [M, tb_t, clp (show j < 2 ^ 31 by omega), (hM.arr hj).1, (hM.arr hj).2]
      have t1 : ((1 : Int32) = 0) = False := by decide
      by_cases e0 : v2 = 0
      · refine ⟨fun _ => kindOf_sp hX hj _ ?_, fun q => absurd e0 q⟩
        rw [M, tb_t, (hM.arr hj).1]
        simp only [e0, t1, false_implies, true_and, not_false_eq_true, forall_const, not_true_eq_false, and_true]
        exact ⟨vj, h⟩
      · refine ⟨fun q => absurd q e0, fun _ => ?_⟩
        by_cases e1 : v2 = 1
        · refine ⟨fun _ => homeOf_sp hX hj _ ⟨n12, ?_⟩, fun q => absurd e1 q⟩
          rw [M, tb_t, (hM.arr hj).2]
          refine ⟨fun q => absurd q (by decide), fun _ => ⟨fun q => absurd q e0, fun _ => ⟨fun _ => ⟨vj, n12, rfl, h⟩, fun q => absurd e1 q⟩⟩⟩
        · refine ⟨fun q => absurd q e1, fun _ => ?_⟩
          by_cases e2 : v2 = 2
          · refine ⟨fun _ => homeOf_sp hX hj _ ⟨n12, ?_⟩, fun q => absurd e2 q⟩
            rw [M, tb_t, (hM.arr hj).2]
            refine ⟨fun q => absurd q (by decide), fun _ => ⟨fun q => absurd q e0, fun _ => ⟨fun q => absurd q e1, fun _ => ⟨fun _ => ⟨vj, n12, rfl, h⟩, fun q => absurd e2 q⟩⟩⟩⟩
          · refine ⟨fun q => absurd q e2, fun _ => ?_⟩
            by_cases e3 : v2 = 3
            · refine ⟨fun _ => kindOf_sp hX hj _ ?_, fun q => absurd e3 q⟩
              rw [M, tb_t, (hM.arr hj).1]
              refine ⟨fun q => absurd q (by decide), fun _ => ⟨fun q => absurd q e0, fun _ => ⟨fun q => absurd q e1, fun _ => ⟨fun q => absurd q e2, fun _ => ⟨fun _ => ⟨vj, rfl, h⟩, fun q => absurd e3 q⟩⟩⟩⟩⟩
            · refine ⟨fun q => absurd q e3, fun _ => partners_sp hX hj _ ?_⟩
              rw [M, tb_t]
              refine ⟨fun q => absurd q (by decide), fun _ => ⟨fun q => absurd q e0, fun _ => ⟨fun q => absurd q e1, fun _ => ⟨fun q => absurd q e2, fun _ => ⟨fun q => absurd q e3, fun _ => mpairsOf_sp hM hj _ ⟨rfl, h⟩⟩⟩⟩⟩⟩
theorem RI.f5 {μ : qM} (h : RI μ) (f : Nat → Int32) : RI (qr μ (2 + 3) f) := h.sa (SA.qr rfl)
theorem RI.f57 {μ : qM} (h : RI μ) (f : Nat → Int32) : RI (qr μ 57 f) := h.sa (SA.qr rfl)
theorem op_pairs (v1 v2 : Int32) : OP (w_X10_pairs v1 v2) (w_X11_pairs v1 v2) := by
  intro μ h
  obtain ⟨n, kd, lt, hX, hM, hW⟩ := h.1.1
  unfold w_X10_pairs w_X11_pairs w_X9_houses w_X10_lotOf
  simp only [isLot_eq, misLot_eq, xf0, mf0, pt_if, pt_if']
  cases hl : (inB v1 0 11 && inB v2 0 11)
  · exact ⟨by trivial, h.fnd0 (by omega)⟩
  · obtain ⟨a, b, ha, hb, rfl, rfl⟩ := lotB hl
    simp only [if_true, lot_nI]
    refine ⟨by trivial, freeings_sp hX _ _ (fun f => ?_)⟩
    refine howMany_sp (n := n) (kd := kd) (lt := lt) (by exact hM) _ _ (fun g => ⟨rfl, (h.f5 f).f57 g⟩)
theorem op_pair (v1 v2 : Int32) : OP (w_X10_pair v1 v2) (w_X11_pair v1 v2) := by
  intro μ h
  obtain ⟨n, kd, lt, hX, hM, hW⟩ := h.1.1
  have h10 := hX.2.1
  unfold w_X10_pair w_X11_pair w_X9_houses w_X10_lotOf
  simp only [isLot_eq, misLot_eq, xf0, mf0, xf3, mf3, pt_if, pt_if']
  cases hl : (inB v1 0 11 && inB v2 0 11)
  · exact ⟨by trivial, h.fnd0 (by omega)⟩
  · obtain ⟨a, b, ha, hb, rfl, rfl⟩ := lotB hl
    simp only [if_true, lot_nI]
    refine ⟨by trivial, isFree_sp hX _ _ (fun f => ?_)⟩
    have h1 := h.f5 f
    have hX1 := hX.fars f
    have hM1 : HM (qr μ (2 + 3) f) n kd lt := hM
    generalize qr μ (2 + 3) f = μ1 at h1 hX1 hM1
    rw [pt_if']
    cases hf : fb n kd lt (nI (12 * b + a))
    · simp only [Bool.false_eq_true, if_false]
      refine misFree_sp (n := n) (kd := kd) (lt := lt) (by exact hM1) _ _ (fun g => ?_)
      rw [hf]
      exact ⟨fun q => absurd rfl q, fun _ => ⟨by trivial, h1.fnd (by omega) (SA.qr rfl)⟩⟩
    · simp only [if_true]
      refine firstPair_sp hX1 _ _ (fun f2 => ?_)
      refine misFree_sp (n := n) (kd := kd) (lt := lt) (by exact hM1) _ _ (fun g => ?_)
      rw [hf]
      refine ⟨fun _ => ?_, fun q => absurd q (by decide)⟩
      refine pairBy_sp (n := n) (kd := kd) (lt := lt) (w := 0) (by exact hM1) _ _ (by omega) _ (fun g2 => ?_)
      rw [ea_m1 (by omega)]
      have hne : 0 < (prs (ev kd lt (nI (12 * b + a))) n).length := by
        unfold fb at hf
        rw [hp_len] at hf
        simp only [Bool.and_eq_true, decide_eq_true_eq] at hf
        exact hf.2
      refine ⟨by decide, by decide, ?_, ((h1.f5 f2).f57 g).f57 g2⟩
      cases hL : prs (ev kd lt (nI (12 * b + a))) n with
      | nil => rw [hL] at hne; exact absurd hne (Nat.lt_irrefl _)
      | cons p l =>
        have hm := prs_mem (show p ∈ prs (ev kd lt (nI (12 * b + a))) n by rw [hL]; exact List.mem_cons_self)
        show (10 : Int32) * nI p.1 + nI p.2 = _
        have e : pick (p :: l) 0 = nI (154 * p.1 + p.2) := by
          show (154 : Int32) * nI p.1 + nI p.2 = _
          exact pick_nI (n := 0) (by omega) (by omega)
        have d1 : nI (154 * p.1 + p.2) / 154 = nI p.1 := by
          have := pk_div (a := 154 * p.1 + p.2) (d := 154) (by omega) (by omega) (by omega)
          rw [show (154 * p.1 + p.2) / 154 = p.1 by omega] at this
          exact this
        have d2 : nI (154 * p.1 + p.2) - nI (154 * p.1 + p.2) / 154 * 154 = nI p.2 := by
          have := pk_rem (a := 154 * p.1 + p.2) (d := 154) (by omega) (by omega) (by omega)
          rw [show (154 * p.1 + p.2) % 154 = p.2 by omega] at this
          exact this
        rw [e, d2, d1]
