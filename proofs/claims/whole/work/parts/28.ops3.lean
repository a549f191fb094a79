/-- one pair alone -/
def ob (n : Nat) (kd lt : Nat → Int32) (v : Int32) : Bool := !stn lt v n && (prs (ev kd lt v) n).length == 1
theorem ob_if {n : Nat} {kd lt : Nat → Int32} {v : Int32} (hn : n ≤ 154) {A B : Prop} (f : ob n kd lt v = false → A) (t : ob n kd lt v = true → B) : (¬ (if stn lt v n = true then (0 : Int32) else nI (prs (ev kd lt v) n).length) = 1 → A) ∧ ((if stn lt v n = true then (0 : Int32) else nI (prs (ev kd lt v) n).length) = 1 → B) := by
  have hle : (prs (ev kd lt v) n).length ≤ 154 * 154 := Nat.le_trans prs_len (Nat.mul_le_mul hn hn)
  have key : ob n kd lt v = decide ((if stn lt v n = true then (0 : Int32) else nI (prs (ev kd lt v) n).length) = 1) := by
    unfold ob
    cases hs : stn lt v n
    · simp only [Bool.not_false, Bool.true_and, Bool.false_eq_true, if_false]
      by_cases e : (prs (ev kd lt v) n).length = 1
      · rw [e]; rfl
      · have : ¬ nI (prs (ev kd lt v) n).length = 1 := fun q => e (pn_eq (b := 1) (by omega) (by omega) q)
        rw [beq_eq_false_iff_ne.mpr e, decide_eq_false this]
    · simp
  rw [key] at f t
  exact ⟨fun q => f (decide_eq_false q), fun q => t (decide_eq_true q)⟩
theorem row_sp {μ : qM} {n : Nat} {kd lt : Nat → Int32} (hX : HX μ 2 n kd lt) {b : Nat} (post : Int32 → qM → Prop) (hp' : ∀ f, post (setI (fun x => fb n kd lt (nI (12 * b + x))) 12) (qr μ (2 + 3) f)) : q_X10_row_18 (nI b) post 0 0 μ := by
  unfold q_X10_row_18 q_X10_row_48 w_X9_houses w_X10_lotOf
  refine for2 12 (fun j x μ' => (∃ f, μ' = qr μ (2 + 3) f) ∧ x = setI (fun x => fb n kd lt (nI (12 * b + x))) j) ?_ 0 (Nat.zero_le _) ⟨⟨_, qr_id.symm⟩, rfl⟩
  rintro P j x μ' hjn ⟨⟨f, rfl⟩, rfl⟩ hP
  refine ⟨fun hx => ?_, fun hx => ?_⟩
  · have : 12 ≤ j := pn_le (by omega) (by omega) hx
    rw [show j = 12 by omega]; exact hp' f
  · have hlt : j < 12 := pn_nle (by omega) (by omega) hx
    refine ⟨rfl, isFree_sp (hX.fars f) _ _ (fun g => ?_)⟩
    rw [lot_nI]
    refine pb_if (fun hb => ?_) (fun hb => ?_)
    · exact hP _ _ hlt ⟨⟨g, qr_qr⟩, by simp only [setI, hb, Bool.false_eq_true, if_false]⟩
    · exact hP _ _ hlt ⟨⟨g, qr_qr⟩, by simp only [setI, hb, if_true]⟩
theorem inRow0_sp {μ : qM} {n : Nat} {kd lt : Nat → Int32} (hM : HM μ n kd lt) {b : Nat} (post : Int32 → qM → Prop) (hp' : ∀ f, post (setI (fun x => fb n kd lt (nI (12 * b + x))) 12) (qr μ 57 f)) : w_X11_inRow (nI b) 0 post μ := by
  unfold w_X11_inRow q_X11_inRow_5 q_X11_inRow_36 w_X11_isSo
  refine for2 12 (fun j x μ' => (∃ f, μ' = qr μ 57 f) ∧ x = setI (fun x => fb n kd lt (nI (12 * b + x))) j) ?_ 0 (Nat.zero_le _) ⟨⟨_, qr_id.symm⟩, rfl⟩
  rintro P j x μ' hjn ⟨⟨f, rfl⟩, rfl⟩ hP
  refine ⟨fun hx => ?_, fun hx => ?_⟩
  · have : 12 ≤ j := pn_le (by omega) (by omega) hx
    rw [show j = 12 by omega]; exact hp' f
  · have hlt : j < 12 := pn_nle (by omega) (by omega) hx
    refine ⟨fun q => absurd rfl q, fun _ => ?_⟩
    rw [lot_nI]
    refine misFree_sp (hM.away f) _ _ (fun g => ⟨tb_01 _, ?_⟩)
    refine pb_if (fun hb => ?_) (fun hb => ?_)
    · exact hP _ _ hlt ⟨⟨g, qr_qr⟩, by simp only [setI, hb, Bool.false_eq_true, if_false]; exact or0 _⟩
    · exact hP _ _ hlt ⟨⟨g, qr_qr⟩, by simp only [setI, hb, if_true]⟩
theorem op_row (v1 : Int32) : OP (w_X10_row v1) (w_X11_row v1) := by
  intro μ h
  obtain ⟨n, kd, lt, hX, hM, hW⟩ := h.1.1
  unfold w_X10_row w_X11_row
  simp only [isPlace_eq, within_eq, xf0, mf0, pt_if, pt_if']
  cases hl : inB v1 0 11
  · exact ⟨by trivial, h.fnd0 (by omega)⟩
  · obtain ⟨b, hb, rfl⟩ := inB_t (m := 11) (by decide) hl
    simp only [if_true]
    exact row_sp hX _ (fun f => inRow0_sp (n := n) (kd := kd) (lt := lt) (by exact hM) _ (fun g => ⟨rfl, (h.f5 f).f57 g⟩))
theorem only_sp {μ : qM} {n : Nat} {kd lt : Nat → Int32} (hX : HX μ 2 n kd lt) {b : Nat} (post : Int32 → qM → Prop) (hp' : ∀ f, post (setI (fun x => ob n kd lt (nI (12 * b + x))) 12) (qr μ (2 + 3) f)) : q_X10_only_18 (nI b) post 0 0 μ := by
  unfold q_X10_only_18 q_X10_only_49 w_X9_houses w_X10_lotOf
  refine for2 12 (fun j x μ' => (∃ f, μ' = qr μ (2 + 3) f) ∧ x = setI (fun x => ob n kd lt (nI (12 * b + x))) j) ?_ 0 (Nat.zero_le _) ⟨⟨_, qr_id.symm⟩, rfl⟩
  rintro P j x μ' hjn ⟨⟨f, rfl⟩, rfl⟩ hP
  refine ⟨fun hx => ?_, fun hx => ?_⟩
  · have : 12 ≤ j := pn_le (by omega) (by omega) hx
    rw [show j = 12 by omega]; exact hp' f
  · have hlt : j < 12 := pn_nle (by omega) (by omega) hx
    refine ⟨rfl, freeings_sp (hX.fars f) _ _ (fun g => ?_)⟩
    rw [lot_nI]
    refine ob_if (by have := hX.2.1; omega) (fun hb => ?_) (fun hb => ?_)
    · exact hP _ _ hlt ⟨⟨g, qr_qr⟩, by simp only [setI, hb, Bool.false_eq_true, if_false]⟩
    · exact hP _ _ hlt ⟨⟨g, qr_qr⟩, by simp only [setI, hb, if_true]⟩
theorem inRow1_sp {μ : qM} {n : Nat} {kd lt : Nat → Int32} (hM : HM μ n kd lt) {b : Nat} (post : Int32 → qM → Prop) (hp' : ∀ f, post (setI (fun x => ob n kd lt (nI (12 * b + x))) 12) (qr μ 57 f)) : w_X11_inRow (nI b) 1 post μ := by
  unfold w_X11_inRow q_X11_inRow_5 q_X11_inRow_36 w_X11_isSo
  refine for2 12 (fun j x μ' => (∃ f, μ' = qr μ 57 f) ∧ x = setI (fun x => ob n kd lt (nI (12 * b + x))) j) ?_ 0 (Nat.zero_le _) ⟨⟨_, qr_id.symm⟩, rfl⟩
  rintro P j x μ' hjn ⟨⟨f, rfl⟩, rfl⟩ hP
  refine ⟨fun hx => ?_, fun hx => ?_⟩
  · have : 12 ≤ j := pn_le (by omega) (by omega) hx
    rw [show j = 12 by omega]; exact hp' f
  · have hlt : j < 12 := pn_nle (by omega) (by omega) hx
    refine ⟨fun _ => ⟨fun q => absurd rfl q, fun _ => ?_⟩, fun q => absurd q (by decide)⟩
    rw [lot_nI]
    refine howMany_sp (hM.away f) _ _ (fun g => ?_)
    simp only [q01, q11, true_or, or_true, true_and]
    refine ob_if hM.2.1 (fun hb => ⟨fun _ => ?_, fun q => absurd (by trivial) q⟩) (fun hb => ⟨fun q => absurd q (by decide), fun _ => ?_⟩)
    · exact hP _ _ hlt ⟨⟨g, qr_qr⟩, by simp only [setI, hb, Bool.false_eq_true, if_false]; exact or0 _⟩
    · exact hP _ _ hlt ⟨⟨g, qr_qr⟩, by simp only [setI, hb, if_true]⟩
theorem op_only (v1 : Int32) : OP (w_X10_only v1) (w_X11_only v1) := by
  intro μ h
  obtain ⟨n, kd, lt, hX, hM, hW⟩ := h.1.1
  unfold w_X10_only w_X11_only
  simp only [isPlace_eq, within_eq, xf0, mf0, pt_if, pt_if']
  cases hl : inB v1 0 11
  · exact ⟨by trivial, h.fnd0 (by omega)⟩
  · obtain ⟨b, hb, rfl⟩ := inB_t (m := 11) (by decide) hl
    simp only [if_true]
    exact only_sp hX _ (fun f => inRow1_sp (n := n) (kd := kd) (lt := lt) (by exact hM) _ (fun g => ⟨rfl, (h.f5 f).f57 g⟩))
theorem lots0_sp {μ : qM} {n : Nat} {kd lt : Nat → Int32} (hM : HM μ n kd lt) (post : Int32 → qM → Prop) (hp' : ∀ f, post (nI (cntB (fun j => fb n kd lt (nI j)) 144)) (qr μ 57 f)) : q_X11_lots_28 0 post 0 0 μ := by
  unfold q_X11_lots_28 q_X11_lots_50 w_X11_isSo
  refine for2 144 (fun j x μ' => (∃ f, μ' = qr μ 57 f) ∧ x = nI (cntB (fun j => fb n kd lt (nI j)) j)) ?_ 0 (Nat.zero_le _) ⟨⟨_, qr_id.symm⟩, rfl⟩
  rintro P j x μ' hjn ⟨⟨f, rfl⟩, rfl⟩ hP
  refine ⟨fun hx => ?_, fun hx => ?_⟩
  · have : 144 ≤ j := pn_le (by omega) (by omega) hx
    rw [show j = 144 by omega]; exact hp' f
  · have hlt : j < 144 := pn_nle (by omega) (by omega) hx
    refine ⟨fun q => absurd rfl q, fun _ => ?_⟩
    refine misFree_sp (hM.away f) _ _ (fun g => ⟨tb_01 _, pb_if (fun hb => ?_) (fun hb => ?_)⟩)
    · refine hP _ _ hlt ⟨⟨g, qr_qr⟩, ?_⟩
      simp only [cntB, hb, Bool.false_eq_true, if_false, Nat.add_zero]
      exact Int32.add_zero _
    · refine hP _ _ hlt ⟨⟨g, qr_qr⟩, ?_⟩
      simp [cntB, hb, nI_1]
theorem lots1_sp {μ : qM} {n : Nat} {kd lt : Nat → Int32} (hM : HM μ n kd lt) (post : Int32 → qM → Prop) (hp' : ∀ f, post (nI (cntB (fun j => !stn lt (nI j) n && (prs (ev kd lt (nI j)) n).length == 1) 144)) (qr μ 57 f)) : q_X11_lots_28 1 post 0 0 μ := by
  unfold q_X11_lots_28 q_X11_lots_50 w_X11_isSo
  refine for2 144 (fun j x μ' => (∃ f, μ' = qr μ 57 f) ∧ x = nI (cntB (fun j => ob n kd lt (nI j)) j)) ?_ 0 (Nat.zero_le _) ⟨⟨_, qr_id.symm⟩, rfl⟩
  rintro P j x μ' hjn ⟨⟨f, rfl⟩, rfl⟩ hP
  refine ⟨fun hx => ?_, fun hx => ?_⟩
  · have : 144 ≤ j := pn_le (by omega) (by omega) hx
    rw [show j = 144 by omega]; exact hp' f
  · have hlt : j < 144 := pn_nle (by omega) (by omega) hx
    refine ⟨fun _ => ⟨fun q => absurd rfl q, fun _ => ?_⟩, fun q => absurd q (by decide)⟩
    refine howMany_sp (hM.away f) _ _ (fun g => ?_)
    simp only [q01, q11, true_or, or_true, true_and]
    refine ob_if hM.2.1 (fun hb => ⟨fun _ => ?_, fun q => absurd (by trivial) q⟩) (fun hb => ⟨fun q => absurd q (by decide), fun _ => ?_⟩)
    · refine hP _ _ hlt ⟨⟨g, qr_qr⟩, ?_⟩
      simp only [cntB, hb, Bool.false_eq_true, if_false, Nat.add_zero]
      exact Int32.add_zero _
    · refine hP _ _ hlt ⟨⟨g, qr_qr⟩, ?_⟩
      simp [cntB, hb, nI_1]
theorem sum_sp {μ : qM} {n : Nat} {kd lt : Nat → Int32} (hX : HX μ 2 n kd lt) (post : Int32 → qM → Prop) (hp' : ∀ f, post (sumI (fun j => if fb n kd lt (nI j) then μ 6 j else 0) 144) (qr μ (2 + 3) f)) : w_X10_sum post μ := by
  unfold w_X10_sum q_X10_sum_4 q_X10_sum_36 w_X9_houses
  refine for2 144 (fun j x μ' => (∃ f, μ' = qr μ (2 + 3) f) ∧ x = sumI (fun j => if fb n kd lt (nI j) then μ 6 j else 0) j) ?_ 0 (Nat.zero_le _) ⟨⟨_, qr_id.symm⟩, rfl⟩
  rintro P j x μ' hjn ⟨⟨f, rfl⟩, rfl⟩ hP
  refine ⟨fun hx => ?_, fun hx => ?_⟩
  · have : 144 ≤ j := pn_le (by omega) (by omega) hx
    rw [show j = 144 by omega]; exact hp' f
  · have hlt : j < 144 := pn_nle (by omega) (by omega) hx
    refine ⟨rfl, isFree_sp (hX.fars f) _ _ (fun g => pb_if (fun hb => ?_) (fun hb => worthOf_sp hlt _ ?_))⟩
    · refine hP _ _ hlt ⟨⟨g, qr_qr⟩, ?_⟩
      simp only [sumI, hb, Bool.false_eq_true, if_false]
      exact (Int32.add_zero _).symm
    · refine hP _ _ hlt ⟨⟨g, qr_qr⟩, ?_⟩
      simp only [sumI, hb, if_true]
      rfl
theorem msum_sp {μ : qM} {n : Nat} {kd lt : Nat → Int32} (hM : HM μ n kd lt) (post : Int32 → qM → Prop) (hp' : ∀ f, post (sumI (fun j => if fb n kd lt (nI j) then μ 49 j else 0) 144) (qr μ 57 f)) : w_X11_sum post μ := by
  unfold w_X11_sum q_X11_sum_4 q_X11_sum_30
  refine for2 144 (fun j x μ' => (∃ f, μ' = qr μ 57 f) ∧ x = sumI (fun j => if fb n kd lt (nI j) then μ 49 j else 0) j) ?_ 0 (Nat.zero_le _) ⟨⟨_, qr_id.symm⟩, rfl⟩
  rintro P j x μ' hjn ⟨⟨f, rfl⟩, rfl⟩ hP
  refine ⟨fun hx => ?_, fun hx => ?_⟩
  · have : 144 ≤ j := pn_le (by omega) (by omega) hx
    rw [show j = 144 by omega]; exact hp' f
  · have hlt : j < 144 := pn_nle (by omega) (by omega) hx
    refine misFree_sp (hM.away f) _ _ (fun g => pb_if (fun hb => ?_) (fun hb => ⟨vp_in_nI hlt (by omega), ?_⟩))
    · refine hP _ _ hlt ⟨⟨g, qr_qr⟩, ?_⟩
      simp only [sumI, hb, Bool.false_eq_true, if_false]
    · refine hP _ _ hlt ⟨⟨g, qr_qr⟩, ?_⟩
      rw [clp (by omega)]
      simp only [sumI, hb, if_true]
      rfl
theorem sumI_congr {f g : Nat → Int32} {n : Nat} (h : ∀ j, j < n → f j = g j) : sumI f n = sumI g n := by
  induction n with
  | zero => rfl
  | succ n ih => rw [sumI, sumI, ih (fun j hj => h j (by omega)), h n (by omega)]
theorem op_sum : OP w_X10_sum w_X11_sum := by
  intro μ h
  obtain ⟨n, kd, lt, hX, hM, hW⟩ := h.1.1
  refine sum_sp hX _ (fun f => msum_sp (n := n) (kd := kd) (lt := lt) (by exact hM) _ (fun g => ⟨sumI_congr (fun j hj => ?_), (h.f5 f).f57 g⟩))
  show (if _ then μ 6 j else 0) = if _ then μ 49 j else 0
  rw [(h.1.2.1 j hj).1]
/-- the free lot of most worth so far -/
def bst (f : Nat → Bool) (w : Nat → Int32) : Nat → Int32
  | 0 => -1
  | j + 1 => if f j && (decide (bst f w j < 0) || decide (¬ w j ≤ w (bst f w j).toNatClampNeg)) then nI j else bst f w j
theorem bst_in (f : Nat → Bool) (w : Nat → Int32) (j : Nat) : bst f w j = -1 ∨ ∃ i, i < j ∧ bst f w j = nI i := by
  induction j with
  | zero => exact Or.inl rfl
  | succ j ih =>
    rw [bst]
    split
    · exact Or.inr ⟨j, Nat.lt_succ_self _, rfl⟩
    · rcases ih with h | ⟨i, hi, h⟩
      · exact Or.inl h
      · exact Or.inr ⟨i, by omega, h⟩
theorem best_sp {μ : qM} {n : Nat} {kd lt : Nat → Int32} (hX : HX μ 2 n kd lt) {r : Int32} (hr : bst (fun j => fb n kd lt (nI j)) (μ 6) 144 = r) (post : Int32 → qM → Prop) (hp' : ∀ f, (0 ≤ r → post r (qr μ (2 + 3) f)) ∧ (¬ 0 ≤ r → w_X10_finding (-1000004) (fun r63 μ63 => post r63 μ63) (qr μ (2 + 3) f))) : w_X10_best post μ := by
  unfold w_X10_best q_X10_best_4 q_X10_best_50 q_X10_best_48 q_X10_best_50 w_X9_houses
  refine for2 144 (fun j x μ' => (∃ f, μ' = qr μ (2 + 3) f) ∧ x = bst (fun j => fb n kd lt (nI j)) (μ 6) j) ?_ 0 (Nat.zero_le _) ⟨⟨_, qr_id.symm⟩, rfl⟩
  rintro P j x μ' hjn ⟨⟨f, rfl⟩, rfl⟩ hP
  refine ⟨fun hx => ?_, fun hx => ?_⟩
  · have : 144 ≤ j := pn_le (by omega) (by omega) hx
    rw [show j = 144 by omega, hr]; exact hp' f
  · have hlt : j < 144 := pn_nle (by omega) (by omega) hx
    refine ⟨rfl, isFree_sp (hX.fars f) _ _ (fun g => ?_)⟩
    rw [qr_qr]
    have stay : ∀ y, y = bst (fun j => fb n kd lt (nI j)) (μ 6) (j + 1) → P y (nI j + 1) (qr μ (2 + 3) g) := fun y hy => hP _ _ hlt ⟨⟨g, rfl⟩, hy⟩
    refine pb_if (fun hb => stay _ ?_) (fun hb => ⟨fun hneg => stay _ ?_, fun hneg => ?_⟩)
    · simp only [bst, hb, Bool.false_and, Bool.false_eq_true, if_false]
    · simp only [bst, hb, hneg, decide_true, Bool.true_or, Bool.and_self, if_true]
    · rcases bst_in (fun j => fb n kd lt (nI j)) (μ 6) j with e | ⟨i, hi, e⟩
      · rw [e] at hneg; exact absurd (by decide) hneg
      · refine worthOf_sp hlt _ ?_
        rw [e]
        refine worthOf_sp (by omega) _ ⟨fun q => stay _ ?_, fun q => stay _ ?_⟩
        · have q' : μ 6 j ≤ μ 6 i := q
          have hn' : ¬ nI i < 0 := nI_pos (by omega)
          simp only [bst, hb, e, clp (show i < 2 ^ 31 by omega), q', hn', not_true_eq_false, decide_false, Bool.or_self, Bool.and_false, Bool.false_eq_true, if_false]
        · have q' : ¬ μ 6 j ≤ μ 6 i := q
          simp only [bst, hb, e, clp (show i < 2 ^ 31 by omega), q', not_false_eq_true, decide_true, Bool.or_true, Bool.and_self, if_true]
theorem mbest_sp {μ : qM} {n : Nat} {kd lt : Nat → Int32} (hM : HM μ n kd lt) {r : Int32} (hr : bst (fun j => fb n kd lt (nI j)) (μ 49) 144 = r) (post : Int32 → qM → Prop) (hp' : ∀ f, (0 ≤ r → post r (qr μ 57 f)) ∧ (¬ 0 ≤ r → w_X11_finding 3 (fun r63 μ63 => post r63 μ63) (qr μ 57 f))) : w_X11_best post μ := by
  unfold w_X11_best q_X11_best_4 q_X11_best_40 q_X11_best_30 q_X11_best_40
  refine for2 144 (fun j x μ' => (∃ f, μ' = qr μ 57 f) ∧ x = bst (fun j => fb n kd lt (nI j)) (μ 49) j) ?_ 0 (Nat.zero_le _) ⟨⟨_, qr_id.symm⟩, rfl⟩
  rintro P j x μ' hjn ⟨⟨f, rfl⟩, rfl⟩ hP
  refine ⟨fun hx => ?_, fun hx => ?_⟩
  · have : 144 ≤ j := pn_le (by omega) (by omega) hx
    rw [show j = 144 by omega, hr]; exact hp' f
  · have hlt : j < 144 := pn_nle (by omega) (by omega) hx
    have stay : ∀ g y, y = bst (fun j => fb n kd lt (nI j)) (μ 49) (j + 1) → P y (nI j + 1) (qr μ 57 g) := fun g y hy => hP _ _ hlt ⟨⟨g, rfl⟩, hy⟩
    have take : (decide (bst (fun j => fb n kd lt (nI j)) (μ 49) j < 0) || decide (¬ μ 49 j ≤ μ 49 (bst (fun j => fb n kd lt (nI j)) (μ 49) j).toNatClampNeg)) = true → w_X11_isFree (nI j) (fun r32 μ32 => (r32 = 0 → P (bst (fun j => fb n kd lt (nI j)) (μ 49) j) (nI j + 1) μ32) ∧ (¬ r32 = 0 → P (nI j) (nI j + 1) μ32)) (qr μ 57 f) := fun hd => by
      refine misFree_sp (hM.away f) _ _ (fun g => ?_)
      rw [qr_qr]
      refine pb_if (fun hb => stay g _ ?_) (fun hb => stay g _ ?_)
      · simp only [bst, hb, Bool.false_and, Bool.false_eq_true, if_false]
      · simp only [bst, hb, hd, Bool.and_self, if_true]
    refine ⟨fun hneg => take (by simp [hneg]), fun hneg => ?_⟩
    rcases bst_in (fun j => fb n kd lt (nI j)) (μ 49) j with e | ⟨i, hi, e⟩
    · rw [e] at hneg; exact absurd (by decide) hneg
    · rw [clp (by omega)]
      refine ⟨vp_in_nI hlt (by omega), by rw [e]; exact vp_in_nI (by omega) (by omega), fun q => stay f _ ?_, fun q => take ?_⟩
      · have q' : μ 49 j ≤ μ 49 (bst (fun j => fb n kd lt (nI j)) (μ 49) j).toNatClampNeg := q
        have hd : (decide (bst (fun j => fb n kd lt (nI j)) (μ 49) j < 0) || decide (¬ μ 49 j ≤ μ 49 (bst (fun j => fb n kd lt (nI j)) (μ 49) j).toNatClampNeg)) = false := by
          simp [hneg, q']
        rw [bst, hd]
        simp
      · have q' : ¬ μ 49 j ≤ μ 49 (bst (fun j => fb n kd lt (nI j)) (μ 49) j).toNatClampNeg := q
        simp [q']
theorem bst_congr {f : Nat → Bool} {w w' : Nat → Int32} {n : Nat} (hn : n ≤ 1000) (h : ∀ j, j < n → w j = w' j) : ∀ j, j ≤ n → bst f w j = bst f w' j := by
  intro j
  induction j with
  | zero => intro _; rfl
  | succ j ih =>
    intro hj
    rw [bst, bst, ← ih (by omega), h j (by omega)]
    rcases bst_in f w j with e | ⟨i, hi, e⟩
    · rw [e]
      have : decide ((-1 : Int32) < 0) = true := by decide
      simp only [this, Bool.true_or]
    · rw [e, clp (show i < 2 ^ 31 by omega), h i (by omega)]
theorem op_best : OP w_X10_best w_X11_best := by
  intro μ h
  obtain ⟨n, kd, lt, hX, hM, hW⟩ := h.1.1
  have e : bst (fun j => fb n kd lt (nI j)) (μ 6) 144 = bst (fun j => fb n kd lt (nI j)) (μ 49) 144 := bst_congr (n := 144) (by omega) (fun j hj => (h.1.2.1 j hj).1) 144 (Nat.le_refl _)
  generalize hr : bst (fun j => fb n kd lt (nI j)) (μ 6) 144 = r at e
  refine best_sp hX hr _ (fun f => ⟨fun h0 => ?_, fun h0 => ?_⟩)
  · refine mbest_sp (n := n) (kd := kd) (lt := lt) (r := r) (by exact hM) (by exact e.symm) _ (fun g => ?_)
    exact ⟨fun _ => ⟨rfl, (h.f5 f).f57 g⟩, fun q => absurd h0 q⟩
  · rw [xf3]
    refine mbest_sp (n := n) (kd := kd) (lt := lt) (r := r) (by exact hM) (by exact e.symm) _ (fun g => ?_)
    refine ⟨fun q => absurd q h0, fun _ => ?_⟩
    rw [mf3]
    exact ⟨rfl, (h.f5 f).fnd (by omega) (SA.qr rfl)⟩
/-- a lot that would be lost without a house -/
def lsB (n : Nat) (kd lt : Nat → Int32) (w : Nat) (v : Int32) : Bool := fb n kd lt v && !hp (ew kd lt v (nI w)) n
theorem fb_st {n : Nat} {kd lt : Nat → Int32} {v : Int32} (h : fb n kd lt v = true) : stn lt v n = false := by
  unfold fb at h
  cases hs : stn lt v n
  · rfl
  · rw [hs] at h; exact absurd h (by simp)
theorem loses_sp {μ : qM} {n : Nat} {kd lt : Nat → Int32} (hX : HX μ 2 n kd lt) {w : Nat} (post : Int32 → qM → Prop) (hp' : ∀ f, post (nI (cntB (fun j => lsB n kd lt w (nI j)) 144)) (qr μ (2 + 3) f)) : q_X10_loses_28 (nI w) post 0 0 μ := by
  unfold q_X10_loses_28 q_X10_loses_58
  refine for2 144 (fun j x μ' => (∃ f, μ' = qr μ (2 + 3) f) ∧ x = nI (cntB (fun j => lsB n kd lt w (nI j)) j)) ?_ 0 (Nat.zero_le _) ⟨⟨_, qr_id.symm⟩, rfl⟩
  rintro P j x μ' hjn ⟨⟨f, rfl⟩, rfl⟩ hP
  refine ⟨fun hx => ?_, fun hx => ?_⟩
  · have : 144 ≤ j := pn_le (by omega) (by omega) hx
    rw [show j = 144 by omega]; exact hp' f
  · have hlt : j < 144 := pn_nle (by omega) (by omega) hx
    refine isFree_sp (hX.fars f) _ _ (fun g => pb_if (fun hb => ?_) (fun hb => isFreeWithout_sp ((hX.fars f).fars g) _ _ _ (fun g2 => pb_if' (fun hc => ?_) (fun hc => ?_))))
    · exact hP _ _ hlt ⟨⟨g, qr_qr⟩, by simp [cntB, lsB, hb]⟩
    · exact hP _ _ hlt ⟨⟨g2, by rw [qr_qr, qr_qr]⟩, by simp [cntB, lsB, hb, hc]⟩
    · exact hP _ _ hlt ⟨⟨g2, by rw [qr_qr, qr_qr]⟩, by simp [cntB, lsB, hb, hc, nI_1]⟩
theorem worthLost_sp {μ : qM} {o n : Nat} {kd lt : Nat → Int32} (hX : HX μ (o + 1) n kd lt) {w : Nat} (post : Int32 → qM → Prop) (hp' : ∀ f, post (sumI (fun j => if lsB n kd lt w (nI j) then μ (o + 5) j else 0) 144) (qr μ (o + 1 + 3) f)) : w_X9_worthLost o (nI w) post μ := by
  unfold w_X9_worthLost q_X9_worthLost_4 q_X9_worthLost_52
  refine for2 144 (fun j x μ' => (∃ f, μ' = qr μ (o + 1 + 3) f) ∧ x = sumI (fun j => if lsB n kd lt w (nI j) then μ (o + 5) j else 0) j) ?_ 0 (Nat.zero_le _) ⟨⟨_, qr_id.symm⟩, rfl⟩
  rintro P j x μ' hjn ⟨⟨f, rfl⟩, rfl⟩ hP
  have e5 : ∀ f, qr μ (o + 1 + 3) f (o + 5) = μ (o + 5) := fun f => qr_n (by omega)
  refine ⟨fun hx => ?_, fun hx => ?_⟩
  · have : 144 ≤ j := pn_le (by omega) (by omega) hx
    rw [show j = 144 by omega]; exact hp' f
  · have hlt : j < 144 := pn_nle (by omega) (by omega) hx
    have vj : vp_in (nI j) 144 := vp_in_nI hlt (by omega)
    rw [clp (by omega), e5]
    have stay : ∀ g y, y = sumI (fun j => if lsB n kd lt w (nI j) then μ (o + 5) j else 0) (j + 1) → P y (nI j + 1) (qr μ (o + 1 + 3) g) := fun g y hy => hP _ _ hlt ⟨⟨g, rfl⟩, hy⟩
    refine ⟨vj, fun h0 => stay f _ ?_, fun h0 => ?_⟩
    · simp only [sumI, h0, ite_self]
      exact (Int32.add_zero _).symm
    · refine isFree_sp (hX.fars f) _ _ (fun g => pb_if (fun hb => ?_) (fun hb => isFreeWithout_sp ((hX.fars f).fars g) _ _ _ (fun g2 => pb_if' (fun hc => ?_) (fun hc => ⟨vj, ?_⟩))))
      · rw [qr_qr]
        refine stay g _ ?_
        simp only [sumI, lsB, hb, Bool.false_and, Bool.false_eq_true, if_false]
        exact (Int32.add_zero _).symm
      · rw [qr_qr, qr_qr]
        refine stay g2 _ ?_
        simp only [sumI, lsB, hb, hc, Bool.not_true, Bool.and_false, Bool.false_eq_true, if_false]
        exact (Int32.add_zero _).symm
      · rw [qr_qr, qr_qr, e5]
        refine stay g2 _ ?_
        simp only [sumI, lsB, hb, hc, Bool.not_false, Bool.and_self, if_true]
theorem lossOf_sp {μ : qM} {n : Nat} {kd lt : Nat → Int32} (hM : HM μ n kd lt) (hW : WF n kd lt) {w : Nat} (hw : w < n) (q : Int32) (post : Int32 → qM → Prop) (hp' : ∀ f, post (sumI (fun j => if lsB n kd lt w (nI j) then (if q = 0 then 1 else μ 49 j) else 0) 144) (qr μ 57 f)) : w_X11_lossOf (nI w) q post μ := by
  unfold w_X11_lossOf q_X11_lossOf_5 q_X11_lossOf_48 q_X11_lossOf_50
  refine for2 144 (fun j x μ' => (∃ f, μ' = qr μ 57 f) ∧ x = sumI (fun j => if lsB n kd lt w (nI j) then (if q = 0 then 1 else μ 49 j) else 0) j) ?_ 0 (Nat.zero_le _) ⟨⟨_, qr_id.symm⟩, rfl⟩
  rintro P j x μ' hjn ⟨⟨f, rfl⟩, rfl⟩ hP
  refine ⟨fun hx => ?_, fun hx => ?_⟩
  · have : 144 ≤ j := pn_le (by omega) (by omega) hx
    rw [show j = 144 by omega]; exact hp' f
  · have hlt : j < 144 := pn_nle (by omega) (by omega) hx
    have vj : vp_in (nI j) 144 := vp_in_nI hlt (by omega)
    have stay : ∀ g y, y = sumI (fun j => if lsB n kd lt w (nI j) then (if q = 0 then 1 else μ 49 j) else 0) (j + 1) → P y (nI j + 1) (qr μ 57 g) := fun g y hy => hP _ _ hlt ⟨⟨g, rfl⟩, hy⟩
    refine misFree_sp (hM.away f) _ _ (fun g => pb_if (fun hb => ?_) (fun hb => misFreeWithout_sp ((hM.away f).away g) _ hw (fb_st hb) (hW.nn hlt (fb_st hb)) _ (fun g2 => pb_if' (fun hc => ?_) (fun hc => ?_))))
    · rw [qr_qr]
      refine stay g _ ?_
      simp only [sumI, lsB, hb, Bool.false_and, Bool.false_eq_true, if_false]
      exact (Int32.add_zero _).symm
    · rw [qr_qr, qr_qr]
      refine stay g2 _ ?_
      simp only [sumI, lsB, hb, hc, Bool.not_true, Bool.and_false, Bool.false_eq_true, if_false]
      exact (Int32.add_zero _).symm
    · rw [qr_qr, qr_qr]
      refine ⟨fun h0 => stay g2 _ ?_, fun h0 => ⟨vj, ?_⟩⟩
      · simp only [sumI, lsB, hb, hc, h0, Bool.not_false, Bool.and_self, if_true]
      · rw [clp (by omega)]
        refine stay g2 _ ?_
        simp only [sumI, lsB, hb, hc, h0, Bool.not_false, Bool.and_self, if_true, if_false]
        rfl
theorem sumI_cnt {f : Nat → Bool} {n : Nat} : sumI (fun j => if f j then 1 else 0) n = nI (cntB f n) := by
  induction n with
  | zero => rfl
  | succ n ih =>
    rw [sumI, cntB, ih]
    cases f n
    · simp only [Bool.false_eq_true, if_false, Nat.add_zero]; exact Int32.add_zero _
    · simp only [if_true, nI_1]
theorem op_loses (v1 : Int32) : OP (w_X10_loses v1) (w_X11_loses v1) := by
  intro μ h
  obtain ⟨n, kd, lt, hX, hM, hW⟩ := h.1.1
  have h10 := hX.2.1
  unfold w_X10_loses w_X11_loses w_X9_houses
  refine ⟨rfl, ?_⟩
  rw [has_eq hX]
  simp only [xf0, mf0, pt_if, pt_if']
  cases hh : hasB n v1
  · refine misHouse_sp (n := n) (kd := kd) (lt := lt) (by exact hM) _ _ ?_
    rw [hh]
    exact ⟨fun _ => ⟨by trivial, h.fnd0 (by omega)⟩, fun q => absurd rfl q⟩
  · obtain ⟨j, hj, rfl⟩ := hasB_t (by omega) hh
    simp only [if_true]
    refine loses_sp hX _ (fun f => ?_)
    refine misHouse_sp (n := n) (kd := kd) (lt := lt) (by exact hM) _ _ ?_
    rw [hh]
    refine ⟨fun q => absurd q (by decide), fun _ => ?_⟩
    refine lossOf_sp (n := n) (kd := kd) (lt := lt) (by exact hM) hW hj _ _ (fun g => ⟨?_, (h.f5 f).f57 g⟩)
    simp only [if_true]
    exact sumI_cnt.symm
theorem loss_eq {μ ν : qM} (h : RI μ) {n : Nat} {kd lt : Nat → Int32} {w : Nat} (e : ν 49 = μ 49) : sumI (fun j => if lsB n kd lt w (nI j) then μ 6 j else 0) 144 = sumI (fun j => if lsB n kd lt w (nI j) then (if (1 : Int32) = 0 then 1 else ν 49 j) else 0) 144 := sumI_congr (fun j hj => by
  rw [e, (h.1.2.1 j hj).1, if_neg (show ¬ (1 : Int32) = 0 by decide)])
theorem op_dear (v1 : Int32) : OP (w_X10_dear v1) (w_X11_dear v1) := by
  intro μ h
  obtain ⟨n, kd, lt, hX, hM, hW⟩ := h.1.1
  have h10 := hX.2.1
  unfold w_X10_dear w_X11_dear w_X9_houses
  refine ⟨rfl, ?_⟩
  rw [has_eq hX]
  simp only [xf0, mf0, pt_if, pt_if']
  cases hh : hasB n v1
  · refine misHouse_sp (n := n) (kd := kd) (lt := lt) (by exact hM) _ _ ?_
    rw [hh]
    exact ⟨fun _ => ⟨by trivial, h.fnd0 (by omega)⟩, fun q => absurd rfl q⟩
  · obtain ⟨j, hj, rfl⟩ := hasB_t (by omega) hh
    simp only [if_true]
    refine worthLost_sp (o := 1) hX _ (fun f => ?_)
    refine misHouse_sp (n := n) (kd := kd) (lt := lt) (by exact hM) _ _ ?_
    rw [hh]
    refine ⟨fun q => absurd q (by decide), fun _ => ?_⟩
    exact lossOf_sp (n := n) (kd := kd) (lt := lt) (by exact hM) hW hj _ _ (fun g => ⟨loss_eq h rfl, (h.f5 f).f57 g⟩)
/-- sums of worth aren't negative -/
theorem sumI_nn {f : Nat → Int32} {n : Nat} (hn : n ≤ 144) (h : ∀ j, j < n → f j = 0 ∨ ∃ k, k < 100 ∧ f j = nI k) : ∃ s, s ≤ 100 * n ∧ sumI f n = nI s := by
  induction n with
  | zero => exact ⟨0, Nat.le_refl _, rfl⟩
  | succ n ih =>
    obtain ⟨s, hs, e⟩ := ih (by omega) (fun j hj => h j (by omega))
    rw [sumI, e]
    rcases h n (by omega) with e0 | ⟨k, hk, e0⟩
    · rw [e0]; exact ⟨s, by omega, Int32.add_zero _⟩
    · rw [e0]; exact ⟨s + k, by omega, nI_add s k⟩
/-! the house whose loss is worth most -/
def lw (n : Nat) (kd lt wo : Nat → Int32) (w : Nat) : Int32 := sumI (fun j => if lsB n kd lt w (nI j) then wo j else 0) 144
/-- the reference's way: found and most, at first -1 and -1 -/
def dst (g : Nat → Int32) : Nat → Int32 × Int32
  | 0 => (-1, -1)
  | j + 1 => if g j ≤ (dst g j).2 then dst g j else (nI j, g j)
/-- what both hold behind the first house -/
theorem dst_in (g : Nat → Int32) (hg : ∀ j, ∃ s, s < 2 ^ 20 ∧ g j = nI s) (j : Nat) (hj : 0 < j) : ∃ i, i < j ∧ (dst g j).1 = nI i ∧ (dst g j).2 = g i := by
  induction j with
  | zero => omega
  | succ j ih =>
    rw [dst]
    by_cases h0 : j = 0
    · subst h0
      obtain ⟨s, hs, e⟩ := hg 0
      have : ¬ g 0 ≤ (dst g 0).2 := by
        rw [e]
        show ¬ nI s ≤ -1
        intro q
        have h1 := Int32.le_iff_toInt_le.mp q
        rw [nI_toInt (by omega)] at h1
        have h2 : (-1 : Int32).toInt = -1 := by decide
        omega
      rw [if_neg this]
      exact ⟨0, by omega, rfl, rfl⟩
    · obtain ⟨i, hi, e1, e2⟩ := ih (by omega)
      split
      · exact ⟨i, by omega, e1, e2⟩
      · exact ⟨j, by omega, rfl, rfl⟩
theorem lw_in {n : Nat} {kd lt wo : Nat → Int32} (h : ∀ j, j < 144 → ∃ k, k < 100 ∧ wo j = nI k) (w : Nat) : ∃ s, s < 2 ^ 20 ∧ lw n kd lt wo w = nI s := by
  obtain ⟨s, hs, e⟩ := sumI_nn (f := fun j => if lsB n kd lt w (nI j) then wo j else 0) (n := 144) (Nat.le_refl _) (fun j hj => by
    by_cases hc : lsB n kd lt w (nI j) = true
    · simp only [hc, if_true]; exact Or.inr (h j hj)
    · simp only [hc]; exact Or.inl rfl)
  exact ⟨s, by omega, e⟩
theorem dearest_sp {μ : qM} {n : Nat} {kd lt : Nat → Int32} (hX : HX μ 2 n kd lt) (hw : ∀ j, j < 144 → ∃ k, k < 100 ∧ μ 6 j = nI k) {r : Int32} (hr : (dst (lw n kd lt (μ 6)) n).1 = r) (post : Int32 → qM → Prop) (hp' : ∀ f, (0 ≤ r → post r (qr μ (2 + 3) f)) ∧ (¬ 0 ≤ r → w_X10_finding (-1000004) (fun r63 μ63 => post r63 μ63) (qr μ (2 + 3) f))) : w_X10_dearest post μ := by
  have h10 := hX.2.1
  unfold w_X10_dearest q_X10_dearest_6 q_X10_dearest_45 q_X10_dearest_40 q_X10_dearest_45 w_X9_houses w_X1_size
  refine for3 n (fun j x y μ' => (∃ f, μ' = qr μ (2 + 3) f) ∧ (j = 0 → x = -1) ∧ (0 < j → x = (dst (lw n kd lt (μ 6)) j).1 ∧ y = (dst (lw n kd lt (μ 6)) j).2)) ?_ 0 (Nat.zero_le _) ⟨⟨_, qr_id.symm⟩, fun _ => rfl, fun q => absurd q (Nat.lt_irrefl _)⟩
  rintro P j x y μ' hjn ⟨⟨f, rfl⟩, hx0, hx1⟩ hP
  refine ⟨rfl, ?_⟩
  rw [(hX.fars f).1]
  refine ⟨fun hx => ?_, fun hx => ?_⟩
  · have : n ≤ j := pn_le (by omega) (by omega) hx
    have hjn' : j = n := by omega
    subst hjn'
    have : x = r := by
      by_cases h0 : j = 0
      · rw [hx0 h0, ← hr, h0]; rfl
      · rw [(hx1 (by omega)).1, hr]
    rw [this]
    exact hp' f
  · have hlt : j < n := pn_nle (by omega) (by omega) hx
    refine worthLost_sp (o := 1) (hX.fars f) _ (fun g => ?_)
    rw [qr_qr]
    have e6 : (qr μ (2 + 3) f) (1 + 5) = μ 6 := rfl
    rw [e6]
    show (x < 0 → P (nI j) (lw n kd lt (μ 6) j) (nI j + 1) (qr μ (2 + 3) g)) ∧ (¬ x < 0 → (lw n kd lt (μ 6) j ≤ y → P x y (nI j + 1) (qr μ (2 + 3) g)) ∧ (¬ lw n kd lt (μ 6) j ≤ y → P (nI j) (lw n kd lt (μ 6) j) (nI j + 1) (qr μ (2 + 3) g)))
    by_cases h0 : j = 0
    · subst h0
      rw [hx0 rfl]
      refine ⟨fun _ => hP _ _ _ hlt ⟨⟨g, rfl⟩, fun q => absurd q (by omega), fun _ => ?_⟩, fun q => absurd (by decide) q⟩
      obtain ⟨i, hi, e1, e2⟩ := dst_in (lw n kd lt (μ 6)) (lw_in hw) 1 (by omega)
      have : i = 0 := by omega
      subst this
      exact ⟨e1.symm, e2.symm⟩
    · obtain ⟨i, hi, e1, e2⟩ := dst_in (lw n kd lt (μ 6)) (lw_in hw) j (by omega)
      have hxy := hx1 (by omega)
      have hpos : ¬ x < 0 := by rw [hxy.1, e1]; exact nI_pos (by omega)
      refine ⟨fun q => absurd q hpos, fun _ => ⟨fun q => hP _ _ _ hlt ⟨⟨g, rfl⟩, fun q => absurd q (by omega), fun _ => ?_⟩, fun q => hP _ _ _ hlt ⟨⟨g, rfl⟩, fun q => absurd q (by omega), fun _ => ?_⟩⟩⟩
      · rw [hxy.2] at q
        rw [dst, if_pos q]; exact hxy
      · rw [hxy.2] at q
        rw [dst, if_neg q]; exact ⟨rfl, rfl⟩
theorem mdearest_sp {μ : qM} {n : Nat} {kd lt : Nat → Int32} (hM : HM μ n kd lt) (hW : WF n kd lt) {wo : Nat → Int32} (hwo : ∀ j, j < 144 → μ 49 j = wo j) {r : Int32} (hr : (dst (lw n kd lt wo) n).1 = r) (post : Int32 → qM → Prop) (hp' : ∀ f, (0 ≤ r → post r (qr μ 57 f)) ∧ (¬ 0 ≤ r → w_X11_finding 3 (fun r63 μ63 => post r63 μ63) (qr μ 57 f))) : w_X11_dearest post μ := by
  have h154 := hM.2.1
  unfold w_X11_dearest q_X11_dearest_6 q_X11_dearest_33
  refine for3 n (fun j x y μ' => (∃ f, μ' = qr μ 57 f) ∧ x = (dst (lw n kd lt wo) j).1 ∧ y = (dst (lw n kd lt wo) j).2) ?_ 0 (Nat.zero_le _) ⟨⟨_, qr_id.symm⟩, rfl, rfl⟩
  rintro P j x y μ' hjn ⟨⟨f, rfl⟩, rfl, rfl⟩ hP
  rw [(hM.away f).1]
  refine ⟨fun hx => ?_, fun hx => ?_⟩
  · have : n ≤ j := pn_le (by omega) (by omega) hx
    have hjn' : j = n := by omega
    subst hjn'
    rw [hr]
    exact hp' f
  · have hlt : j < n := pn_nle (by omega) (by omega) hx
    refine lossOf_sp (hM.away f) hW hlt _ _ (fun g => ?_)
    rw [qr_qr]
    have e : sumI (fun i => if lsB n kd lt j (nI i) then (if (1 : Int32) = 0 then 1 else (qr μ 57 f) 49 i) else 0) 144 = lw n kd lt wo j := sumI_congr (fun i hi => by
      rw [if_neg (show ¬ (1 : Int32) = 0 by decide)]
      show (if _ then μ 49 i else 0) = _
      rw [hwo i hi])
    rw [e]
    refine ⟨fun q => hP _ _ _ hlt ⟨⟨g, rfl⟩, ?_, ?_⟩, fun q => hP _ _ _ hlt ⟨⟨g, rfl⟩, ?_, ?_⟩⟩
    · rw [dst, if_pos q]
    · rw [dst, if_pos q]
    · rw [dst, if_neg q]
    · rw [dst, if_neg q]
theorem op_dearest : OP w_X10_dearest w_X11_dearest := by
  intro μ h
  obtain ⟨n, kd, lt, hX, hM, hW⟩ := h.1.1
  obtain ⟨r, hr⟩ : ∃ r, (dst (lw n kd lt (μ 6)) n).1 = r := ⟨_, rfl⟩
  have hw : ∀ j, j < 144 → μ 49 j = μ 6 j := fun j hj => ((h.1.2.1 j hj).1).symm
  refine dearest_sp hX (fun j hj => (h.1.2.1 j hj).2) hr _ (fun f => ⟨fun h0 => ?_, fun h0 => ?_⟩)
  · exact mdearest_sp (n := n) (kd := kd) (lt := lt) (wo := μ 6) (by exact hM) hW (by exact hw) hr _ (fun g => ⟨fun _ => ⟨rfl, (h.f5 f).f57 g⟩, fun q => absurd h0 q⟩)
  · rw [xf3]
    refine mdearest_sp (n := n) (kd := kd) (lt := lt) (wo := μ 6) (by exact hM) hW (by exact hw) hr _ (fun g => ⟨fun q => absurd q h0, fun _ => ?_⟩)
    rw [mf3]
    exact ⟨rfl, (h.f5 f).fnd (by omega) (SA.qr rfl)⟩
theorem setI_congr {f g : Nat → Bool} {n : Nat} (h : ∀ j, j < n → f j = g j) : setI f n = setI g n := by
  induction n with
  | zero => rfl
  | succ n ih => rw [setI, setI, ih (fun j hj => h j (by omega)), h n (by omega)]
theorem op_keepers (v1 v2 : Int32) : OP (w_X10_keepers v1 v2) (w_X11_keepers v1 v2) := by
  intro μ h
  obtain ⟨n, kd, lt, hX, hM, hW⟩ := h.1.1
  have h10 := hX.2.1
  unfold w_X10_keepers w_X11_keepers w_X9_houses w_X10_lotOf
  simp only [isLot_eq, misLot_eq, xf0, mf0, xf3, mf3, pt_if, pt_if']
  cases hl : (inB v1 0 11 && inB v2 0 11)
  · exact ⟨by trivial, h.fnd0 (by omega)⟩
  · obtain ⟨a, b, ha, hb, rfl, rfl⟩ := lotB hl
    have hL : 12 * b + a < 144 := by omega
    simp only [if_true, lot_nI]
    refine ⟨by trivial, isFree_sp hX _ _ (fun f => ?_)⟩
    have h1 := h.f5 f
    have hX1 := hX.fars f
    have hM1 : HM (qr μ (2 + 3) f) n kd lt := hM
    generalize qr μ (2 + 3) f = μ1 at h1 hX1 hM1
    rw [pt_if']
    cases hf : fb n kd lt (nI (12 * b + a))
    · simp only [Bool.false_eq_true, if_false]
      refine misFree_sp (n := n) (kd := kd) (lt := lt) (by exact hM1) _ _ (fun g => ?_)
      rw [hf]
      exact ⟨fun q => absurd rfl q, fun _ => ⟨by trivial, h1.fnd (by omega) (SA.qr rfl)⟩⟩
    · simp only [if_true]
      unfold q_X10_keepers_48 q_X10_keepers_80 w_X1_size w_X10_lotOf
      refine for2 n (fun j x μ' => (∃ f, μ' = qr μ1 (2 + 3) f) ∧ x = setI (fun w => !hp (ew kd lt (nI (12 * b + a)) (nI w)) n) j) ?_ 0 (Nat.zero_le _) ⟨⟨_, qr_id.symm⟩, rfl⟩
      rintro P j x μ' hjn ⟨⟨f1, rfl⟩, rfl⟩ hP
      rw [(hX1.fars f1).1, lot_nI]
      refine ⟨fun hx => ?_, fun hx => ?_⟩
      · have : n ≤ j := pn_le (by omega) (by omega) hx
        rw [show j = n by omega]
        refine misFree_sp (n := n) (kd := kd) (lt := lt) (by exact hM1) _ _ (fun g => ?_)
        rw [hf]
        refine ⟨fun _ => ?_, fun q => absurd q (by decide)⟩
        have h2 := (h1.f5 f1).f57 g
        have hM2 : HM (qr (qr μ1 (2 + 3) f1) 57 g) n kd lt := HM.away (μ := qr μ1 (2 + 3) f1) hM1 g
        generalize qr (qr μ1 (2 + 3) f1) 57 g = μ2 at h2 hM2
        unfold q_X11_keepers_38 q_X11_keepers_71
        refine for2 n (fun j x μ' => (∃ f, μ' = qr μ2 57 f) ∧ x = setI (fun w => !hp (ew kd lt (nI (12 * b + a)) (nI w)) n) j) ?_ 0 (Nat.zero_le _) ⟨⟨_, qr_id.symm⟩, rfl⟩
        rintro P' i x μ' hin ⟨⟨f2, rfl⟩, rfl⟩ hP'
        rw [(hM2.away f2).1, lot_nI]
        refine ⟨fun hx => ?_, fun hx => ?_⟩
        · have : n ≤ i := pn_le (by omega) (by omega) hx
          rw [show i = n by omega]
          exact ⟨rfl, h2.f57 f2⟩
        · have hlt : i < n := pn_nle (by omega) (by omega) hx
          refine misFreeWithout_sp (hM2.away f2) _ hlt (fb_st hf) (hW.nn hL (fb_st hf)) _ (fun g2 => pb_if (fun hc => ?_) (fun hc => ?_))
          · exact hP' _ _ hlt ⟨⟨g2, qr_qr⟩, by simp only [setI, hc, Bool.not_false, if_true]⟩
          · exact hP' _ _ hlt ⟨⟨g2, qr_qr⟩, by simp only [setI, hc, Bool.not_true, Bool.false_eq_true, if_false]; exact or0 _⟩
      · have hlt : j < n := pn_nle (by omega) (by omega) hx
        refine isFreeWithout_sp (hX1.fars f1) _ _ _ (fun g2 => pb_if' (fun hc => ?_) (fun hc => ?_))
        · exact hP _ _ hlt ⟨⟨g2, qr_qr⟩, by simp only [setI, hc, Bool.not_true, Bool.false_eq_true, if_false]⟩
        · exact hP _ _ hlt ⟨⟨g2, qr_qr⟩, by simp only [setI, hc, Bool.not_false, if_true]⟩
