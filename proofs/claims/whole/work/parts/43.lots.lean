theorem cntB_cong {f g : Nat → Bool} {N : Nat} (h : ∀ v, v < N → f v = g v) : cntB f N = cntB g N := by
  induction N with
  | zero => rfl
  | succ N ih => rw [cntB, cntB, ih (fun v hv => h v (by omega)), h N (by omega)]
theorem setI_cong {f g : Nat → Bool} {N : Nat} (h : ∀ v, v < N → f v = g v) : setI f N = setI g N := by
  induction N with
  | zero => rfl
  | succ N ih => rw [setI, setI, ih (fun v hv => h v (by omega)), h N (by omega)]
theorem PI_eq {n : Nat} {kd lt : Nat → Int32} {k k' : Nat} {p p' : Nat → Nat} {f f' : Nat → Bool} (h : PI n kd lt k p f) (hC : CL n kd lt f) (h' : PI n kd lt k' p' f') (hC' : CL n kd lt f') : ∀ v, v < 144 → f v = f' v := fun v hv => by
  have a := h.done hC v hv
  have b := h'.done hC' v hv
  cases e : f v
  · cases e' : f' v
    · rfl
    · rw [a.mpr (b.mp e')] at e; cases e
  · rw [b.mpr (a.mp e)]
theorem lots2_sp {μ : qM} {f : Nat → Bool} (hf : ∀ v, v < 144 → μ 58 v = tb (f v)) (post : Int32 → qM → Prop) (hp' : post (nI (cntB f 144)) μ) : q_X11_lots_28 2 post 0 0 μ := by
  unfold q_X11_lots_28 q_X11_lots_50 w_X11_isSo
  refine for2 144 (fun j x μ' => μ' = μ ∧ x = nI (cntB f j)) ?_ 0 (Nat.zero_le _) ⟨rfl, rfl⟩
  rintro P j x μ' hjn ⟨rfl, rfl⟩ hP
  refine ⟨fun hx => ?_, fun hx => ?_⟩
  · have : 144 ≤ j := pn_le (by omega) (by omega) hx
    rw [show j = 144 by omega]; exact hp'
  · have hlt : j < 144 := pn_nle (by omega) (by omega) hx
    refine ⟨fun _ => ⟨fun _ => ⟨vp_in_nI (by omega) (by omega), ?_⟩, fun q => absurd q (by decide)⟩, fun q => absurd q (by decide)⟩
    rw [clp (by omega), hf j hlt]
    refine ⟨tb_01 _, pb_if (fun hb => hP _ _ hlt ⟨rfl, ?_⟩) (fun hb => hP _ _ hlt ⟨rfl, ?_⟩)⟩
    · rw [cntB, hb]; exact Int32.add_zero _
    · rw [cntB, hb]; exact nI_1 _
theorem inRow2_sp {μ : qM} {f : Nat → Bool} (hf : ∀ v, v < 144 → μ 58 v = tb (f v)) {b : Nat} (hb : b ≤ 11) (post : Int32 → qM → Prop) (hp' : post (setI (fun x => f (12 * b + x)) 12) μ) : w_X11_inRow (nI b) 2 post μ := by
  unfold w_X11_inRow q_X11_inRow_5 q_X11_inRow_36 w_X11_isSo
  refine for2 12 (fun j x μ' => μ' = μ ∧ x = setI (fun x => f (12 * b + x)) j) ?_ 0 (Nat.zero_le _) ⟨rfl, rfl⟩
  rintro P j x μ' hjn ⟨rfl, rfl⟩ hP
  refine ⟨fun hx => ?_, fun hx => ?_⟩
  · have : 12 ≤ j := pn_le (by omega) (by omega) hx
    rw [show j = 12 by omega]; exact hp'
  · have hlt : j < 12 := pn_nle (by omega) (by omega) hx
    rw [lot_nI]
    refine ⟨fun _ => ⟨fun _ => ⟨vp_in_nI (by omega) (by omega), ?_⟩, fun q => absurd q (by decide)⟩, fun q => absurd q (by decide)⟩
    rw [clp (by omega), hf (12 * b + j) (by omega)]
    refine ⟨tb_01 _, pb_if (fun hb => hP _ _ hlt ⟨rfl, ?_⟩) (fun hb => hP _ _ hlt ⟨rfl, ?_⟩)⟩
    · simp only [setI, hb, Bool.false_eq_true, if_false]; exact or0 _
    · simp only [setI, hb, if_true]
theorem everX_sp {μ : qM} {f : Nat → Bool} (hf : ∀ v, v < 144 → μ 35 v = tb (f v)) {b : Nat} (hb : b ≤ 11) (post : Int32 → qM → Prop) (hp' : post (setI (fun x => f (12 * b + x)) 12) μ) : q_X10_ever_33 (nI b) post 0 0 μ := by
  unfold q_X10_ever_33 q_X10_ever_60 w_X10_lotOf w_X7_isHad q_X7_isHad_24
  refine for2 12 (fun j x μ' => μ' = μ ∧ x = setI (fun x => f (12 * b + x)) j) ?_ 0 (Nat.zero_le _) ⟨rfl, rfl⟩
  rintro P j x μ' hjn ⟨rfl, rfl⟩ hP
  refine ⟨fun hx => ?_, fun hx => ?_⟩
  · have : 12 ≤ j := pn_le (by omega) (by omega) hx
    rw [show j = 12 by omega]; exact hp'
  · have hlt : j < 12 := pn_nle (by omega) (by omega) hx
    rw [lot_nI]
    refine ⟨fun q => absurd q (nI_pos (by omega)), fun _ => ⟨fun q => absurd q (nI_ge (b := 144) (by omega) (by omega)), fun _ => ⟨vp_in_nI (by omega) (by omega), ?_⟩⟩⟩
    rw [clp (by omega)]
    have e : μ' (34 + 1) (12 * b + j) = tb (f (12 * b + j)) := hf (12 * b + j) (by omega)
    rw [e]
    refine pb_if (fun hb => ⟨Or.inl rfl, fun _ => hP _ _ hlt ⟨rfl, ?_⟩, fun q => absurd rfl q⟩) (fun hb => ⟨Or.inr rfl, fun q => absurd q (by decide), fun _ => hP _ _ hlt ⟨rfl, ?_⟩⟩)
    · simp only [setI, hb, Bool.false_eq_true, if_false]
    · simp only [setI, hb, if_true]
theorem op_ever (v1 : Int32) : OP (w_X10_ever v1) (w_X11_ever v1) := by
  intro μ h
  obtain ⟨n, kd, lt, hX, hM, hW⟩ := h.1.1
  unfold w_X10_ever w_X11_ever w_X9_houses
  simp only [isPlace_eq, within_eq, xf0, mf0, pt_if, pt_if']
  cases hl : inB v1 0 11
  · exact ⟨by trivial, h.fnd0 (by omega)⟩
  · obtain ⟨b, hb, rfl⟩ := inB_t (m := 11) (by decide) hl
    simp only [if_true]
    refine ⟨by trivial, reach_sp hX _ (fun μ1 k p f g hI hM1 hC => everX_sp hM1.2.2 hb _ ?_)⟩
    refine findEver_sp (g.sa.hm hM) hX.2.1 _ (fun μ2 k' p' f' g' hI' hf' hC' => inRow2_sp hf' hb _ ⟨?_, (h.sa g.sa).sa g'⟩)
    exact setI_cong (fun x hx => PI_eq hI hC hI' hC' _ (by omega))
theorem op_lots (v1 : Int32) : OP (w_X10_lots v1) (w_X11_lots v1) := by
  intro μ h
  obtain ⟨n, kd, lt, hX, hM, hW⟩ := h.1.1
  unfold w_X10_lots w_X11_lots w_X9_houses q_X11_lots_24
  simp only [within_eq, xf0, mf0, pt_if']
  by_cases e0 : v1 = 0
  · subst e0
    refine ⟨fun _ => ⟨by trivial, countFree_sp hX _ (fun f => ?_)⟩, fun q => absurd rfl q⟩
    have : inB 0 0 2 = true := by decide
    rw [this]
    simp only [if_true]
    exact ⟨fun _ => lots0_sp (n := n) (kd := kd) (lt := lt) (by exact hM) _ (fun g => ⟨rfl, (h.f5 f).f57 g⟩), fun q => absurd q (by decide)⟩
  · refine ⟨fun q => absurd q e0, fun _ => ?_⟩
    by_cases e1 : v1 = 1
    · subst e1
      refine ⟨fun _ => ⟨by trivial, countFreeByOne_sp hX _ (fun f => ?_)⟩, fun q => absurd rfl q⟩
      have : inB 1 0 2 = true := by decide
      rw [this]
      simp only [if_true]
      exact ⟨fun _ => lots1_sp (n := n) (kd := kd) (lt := lt) (by exact hM) _ (fun g => ⟨rfl, (h.f5 f).f57 g⟩), fun q => absurd q (by decide)⟩
    · refine ⟨fun q => absurd q e1, fun _ => ?_⟩
      by_cases e2 : v1 = 2
      · subst e2
        refine ⟨fun _ => ⟨by trivial, reach_sp hX _ (fun μ1 k p f g hI hM1 hC => ?_)⟩, fun q => absurd rfl q⟩
        have : inB 2 0 2 = true := by decide
        rw [this]
        simp only [if_true]
        refine ⟨fun q => absurd (by trivial) q, fun _ => ?_⟩
        refine findEver_sp (g.sa.hm hM) hX.2.1 _ (fun μ2 k' p' f' g' hI' hf' hC' => lots2_sp hf' _ ⟨?_, (h.sa g.sa).sa g'⟩)
        rw [← hI.1, cntB_cong (PI_eq hI hC hI' hC')]
      · refine ⟨fun q => absurd q e2, fun _ => ?_⟩
        have hb : inB v1 0 2 = false := by
          cases hb : inB v1 0 2
          · rfl
          · obtain ⟨j, hj, rfl⟩ := inB_t (m := 2) (by decide) hb
            have : j = 0 ∨ j = 1 ∨ j = 2 := by omega
            rcases this with rfl | rfl | rfl
            · exact absurd rfl e0
            · exact absurd rfl e1
            · exact absurd rfl e2
        rw [hb]
        exact ⟨by trivial, h.fnd0 (by omega)⟩
