theorem pt_if {b : Bool} {A B : Prop} : ((tb b = 0 → A) ∧ (¬ tb b = 0 → B)) = (if b = true then B else A) := by cases b <;> simp [tb]
theorem pt_if' {b : Bool} {A B : Prop} : ((¬ tb b = 0 → A) ∧ (tb b = 0 → B)) = (if b = true then A else B) := by cases b <;> simp [tb]
theorem inB_y (v M : Int32) (A B : Prop) : ((v < 0 → A) ∧ (¬ v < 0 → ((v ≤ M → B) ∧ (¬ v ≤ M → A)))) = (if inB v 0 M = true then B else A) := by
  unfold inB
  by_cases h1 : v < 0
  · simp [h1]
  · by_cases h2 : v ≤ M
    · have h3 : ¬ M < v := Int32.not_lt.mpr h2
      simp [h1, h2, h3]
    · have h3 : M < v := Int32.not_le.mp h2
      simp [h1, h2, h3]
theorem RI.co {μ : qM} {x : Int32} (h : RI μ) : RI (qu (qu μ 1 3 x) 46 5 x) := by
  obtain ⟨⟨r1, r2, r3, r4, r5, r6, r7⟩, r8⟩ := h
  exact ⟨⟨r1.keep rfl rfl rfl rfl (fun _ _ => ⟨rfl, rfl⟩), r2.keep rfl rfl, r3.keep rfl rfl, ⟨rfl, r4.2⟩, r5.keep rfl rfl rfl rfl rfl rfl rfl rfl rfl rfl rfl rfl rfl rfl rfl rfl, r6.keep rfl rfl rfl rfl, r7.keep (s8 ⟨rfl, rfl, rfl, rfl, rfl, rfl, rfl, rfl⟩) rfl rfl rfl⟩, r8.keep rfl rfl⟩
theorem RI.z {μ : qM} {x : Int32} (h : RI μ) : RI (qu (qu μ 1 5 x) 46 7 x) := by
  obtain ⟨⟨r1, r2, r3, r4, r5, r6, r7⟩, r8⟩ := h
  exact ⟨⟨r1.keep rfl rfl rfl rfl (fun _ _ => ⟨rfl, rfl⟩), r2.keep rfl rfl, r3.keep rfl rfl, ⟨r4.1, r4.2.1, rfl⟩, r5.keep rfl rfl rfl rfl rfl rfl rfl rfl rfl rfl rfl rfl rfl rfl rfl rfl, r6.keep rfl rfl rfl rfl, r7.keep (s8 ⟨rfl, rfl, rfl, rfl, rfl, rfl, rfl, rfl⟩) rfl rfl rfl⟩, r8.keep rfl rfl⟩
theorem op_coin (v : Int32) : OP (w_X10_coin v) (w_X11_coin v) := by
  intro μ h
  unfold w_X10_coin w_X11_coin q_X10_coin_10 w_X9_purse w_X9_setPurse
  simp only [within_eq, xf0, mf0, pt_if', inB_y]
  cases hb : inB v 0 99999
  · exact ⟨by trivial, h.fnd0 (by omega)⟩
  · exact ⟨h.1.2.2.2.1.1, h.co⟩
theorem op_seed (v : Int32) : OP (w_X10_seed v) (w_X11_seed v) := by
  intro μ h
  unfold w_X10_seed w_X11_seed w_X9_luck w_X9_setLuck
  exact ⟨h.1.2.2.2.1.2.2, h.z⟩
theorem op_wipe : OP w_X10_wipe w_X11_wipe := by
  intro μ h
  obtain ⟨⟨r1, r2, r3, r4, r5, r6, r7⟩, r8⟩ := h
  unfold w_X10_wipe w_X11_wipe w_X8_size w_X8_empty
  obtain ⟨m, hm, e1, e2, e3⟩ := r6
  refine ⟨e1.trans e2.symm, ⟨r1.keep rfl rfl rfl rfl (fun _ _ => ⟨rfl, rfl⟩), r2.keep rfl rfl, r3.keep rfl rfl, r4.keep rfl rfl rfl rfl, r5.keep rfl rfl rfl rfl rfl rfl rfl rfl rfl rfl rfl rfl rfl rfl rfl rfl, ⟨0, Nat.zero_le _, rfl, rfl, fun j hj => absurd hj (Nat.not_lt_zero _)⟩, r7.keep (s8 ⟨rfl, rfl, rfl, rfl, rfl, rfl, rfl, rfl⟩) rfl rfl rfl⟩, r8.keep rfl rfl⟩
theorem op_tear : OP w_X10_tear w_X11_tear := by
  intro μ h
  obtain ⟨⟨r1, r2, r3, r4, r5, r6, r7⟩, r8⟩ := h
  have fin : ∀ (r : Int32), RI (qu (qu μ 0 2 0) 46 8 0) := fun r => ⟨⟨r1.keep rfl rfl rfl rfl (fun _ _ => ⟨rfl, rfl⟩), r2.keep rfl rfl, r3.keep rfl rfl, r4.keep rfl rfl rfl rfl, ⟨rfl, Or.inl rfl, fun e => absurd (show (0 : Int32) = 1 from e) (by decide)⟩, r6.keep rfl rfl rfl rfl, r7.keep (s8 ⟨rfl, rfl, rfl, rfl, rfl, rfl, rfl, rfl⟩) rfl rfl rfl⟩, r8.keep rfl rfl⟩
  have e : μ 46 8 = μ 0 2 := r5.1.symm
  unfold w_X10_tear w_X11_tear
  simp only [q_X10_tear_12, q_X11_tear_12, q01, q11, true_or, or_true, true_and]
  have e2 : ∀ x, (qu μ 0 2 x) 46 8 = μ 0 2 := fun x => e
  simp only [e2]
  by_cases h0 : μ 0 2 = 0
  · simp only [h0, not_true_eq_false, false_implies, true_and, and_true, forall_const]
    exact fin 0
  · simp only [h0, not_false_eq_true, false_implies, true_and, and_true, forall_const]
    exact fin 1
/-! houses are put up -/
theorem put_sp {μ : qM} {o n : Nat} {kd lt : Nat → Int32} (h : HX μ o n kd lt) (hn : n < 10) (k l : Int32) (post : qM → Prop) (hp' : post (qu (qu (qu μ (o + 1) n k) (o + 2) n l) o 0 (nI n + 1))) : w_X1_put o k l post μ := by
  unfold w_X1_put w_X1_isFull
  have e1 : ∀ (m : Nat) (x : Int32), qu μ (o + 1) m x o = μ o := fun m x => qr_n (by omega)
  have e2 : ∀ (m m' : Nat) (x y : Int32), qu (qu μ (o + 1) m x) (o + 2) m' y o = μ o := fun m m' x y => by
    show qr _ _ _ _ = _
    rw [qr_n (by omega), e1]
  have hlt : nI n < (10 : Int32) := nI_lt (b := 10) hn (by omega)
  have hv : vp_in (nI n) 10 := vp_in_nI hn (by omega)
  simp only [e1, e2, q01, q11, true_or, or_true, true_and, h.1, hlt, hv, clp (show n < 2 ^ 31 by omega), not_true_eq_false, false_implies, and_true, forall_const]
  exact hp'
theorem HX.put {μ : qM} {o n : Nat} {kd lt : Nat → Int32} (h : HX μ o n kd lt) (hn : n < 10) (k l : Int32) : HX (qu (qu (qu μ (o + 1) n k) (o + 2) n l) o 0 (nI n + 1)) o (n + 1) (upd kd n k) (upd lt n l) := by
  refine ⟨?_, hn, fun j hj => ?_⟩
  · show qr _ _ _ _ _ = _
    rw [qr_s, pk_us, nI_1]
  · have e1 : qu (qu (qu μ (o + 1) n k) (o + 2) n l) o 0 (nI n + 1) (o + 1) = upd (μ (o + 1)) n k := by
      show qr _ _ _ _ = _
      rw [qr_n (by omega)]
      show qr _ _ _ _ = _
      rw [qr_n (by omega)]
      exact qr_s
    have e2 : qu (qu (qu μ (o + 1) n k) (o + 2) n l) o 0 (nI n + 1) (o + 2) = upd (μ (o + 2)) n l := by
      show qr _ _ _ _ = _
      rw [qr_n (by omega)]
      show qr _ _ _ _ = _
      rw [qr_s]
      show upd (qr _ _ _ _) _ _ = _
      rw [qr_n (by omega)]
    rw [e1, e2]
    by_cases e : j = n
    · subst e; exact ⟨by rw [pk_us, pk_us], by rw [pk_us, pk_us]⟩
    · rw [pk_un e, pk_un e, pk_un e, pk_un e]
      exact h.2.2 j (by omega)
theorem mput_sp {μ : qM} {n : Nat} {kd lt : Nat → Int32} (h : HM μ n kd lt) (hn : n < 154) (k l : Int32) (post : qM → Prop) (hp' : post (qu (qu (qu μ 47 n k) 48 n l) 46 0 (nI n + 1))) : w_X11_put k l post μ := by
  unfold w_X11_put
  have e1 : ∀ (m : Nat) (x : Int32), qu μ 47 m x 46 = μ 46 := fun _ _ => rfl
  have e2 : ∀ (m m' : Nat) (x y : Int32), qu (qu μ 47 m x) 48 m' y 46 = μ 46 := fun _ _ _ _ => rfl
  have hv : vp_in (nI n) 154 := vp_in_nI hn (by omega)
  simp only [e1, e2, h.1, hv, clp (show n < 2 ^ 31 by omega), true_and]
  exact hp'
theorem HM.put {μ : qM} {n : Nat} {kd lt : Nat → Int32} (h : HM μ n kd lt) (hn : n < 154) (k l : Int32) : HM (qu (qu (qu μ 47 n k) 48 n l) 46 0 (nI n + 1)) (n + 1) (upd kd n k) (upd lt n l) := by
  refine ⟨?_, hn, fun j hj => ?_⟩
  · show nI n + 1 = _
    rw [nI_1]
  · show upd (μ 47) n k j = _ ∧ upd (μ 48) n l j = _
    by_cases e : j = n
    · subst e; exact ⟨by rw [pk_us, pk_us], by rw [pk_us, pk_us]⟩
    · rw [pk_un e, pk_un e, pk_un e, pk_un e]
      exact h.2.2 j (by omega)
theorem WF.put {n : Nat} {kd lt : Nat → Int32} (h : WF n kd lt) {k l : Nat} (hk : k < 7) (hl : l < 144) : WF (n + 1) (upd kd n (nI k)) (upd lt n (nI l)) := by
  intro j hj
  by_cases e : j = n
  · subst e; exact ⟨⟨k, hk, pk_us⟩, l, hl, pk_us⟩
  · rw [pk_un e, pk_un e]; exact h j (by omega)
/-- all but the houses stays: a house is put up on both sides -/
theorem RI.put {μ : qM} {n : Nat} {kd lt : Nat → Int32} (h : RI μ) (hX : HX μ 2 n kd lt) (hM : HM μ n kd lt) (hW : WF n kd lt) (hn : n < 10) {k l : Nat} (hk : k < 7) (hl : l < 144) : RI (qu (qu (qu (qu (qu (qu μ 3 n (nI k)) 4 n (nI l)) 2 0 (nI n + 1)) 47 n (nI k)) 48 n (nI l)) 46 0 (nI n + 1)) := by
  obtain ⟨⟨r1, r2, r3, r4, r5, r6, r7⟩, r8⟩ := h
  have x := hX.put hn (nI k) (nI l)
  have y : HM (qu (qu (qu μ 3 n (nI k)) 4 n (nI l)) 2 0 (nI n + 1)) n kd lt := hM
  exact ⟨⟨⟨n + 1, _, _, x, y.put (by omega) (nI k) (nI l), hW.put hk hl⟩, r2.keep rfl rfl, r3.keep rfl rfl, r4.keep rfl rfl rfl rfl, r5.keep rfl rfl rfl rfl rfl rfl rfl rfl rfl rfl rfl rfl rfl rfl rfl rfl, r6.keep rfl rfl rfl rfl, r7.keep (s8 ⟨rfl, rfl, rfl, rfl, rfl, rfl, rfl, rfl⟩) rfl rfl rfl⟩, r8.keep rfl rfl⟩
theorem isFull_eq {μ : qM} {o n : Nat} {kd lt : Nat → Int32} (h : HX μ o n kd lt) (post : Int32 → qM → Prop) : w_X1_isFull o post μ = post (tb (decide (n = 10))) μ := by
  have h10 := h.2.1
  unfold w_X1_isFull
  simp only [q01, q11, true_or, or_true, true_and, h.1, pc_if]
  by_cases e : n = 10
  · subst e
    have : ¬ nI 10 < (10 : Int32) := nI_nlt (Nat.le_refl _) (by omega)
    simp [this, tb]
  · have : nI n < (10 : Int32) := nI_lt (b := 10) (by omega) (by omega)
    simp [this, e, tb]
theorem many10 {μ : qM} {n : Nat} {kd lt : Nat → Int32} (h : HM μ n kd lt) : (μ 46 0 = 10) = (n = 10) := by
  have := h.2.1
  rw [h.1]
  exact propext ⟨fun e => pn_eq (b := 10) (by omega) (by omega) e, fun e => by rw [e]; rfl⟩
theorem HM.t33 {μ : qM} {n : Nat} {kd lt : Nat → Int32} (h : HM μ n kd lt) {k : Nat} {x : Int32} : HM (qu μ 33 k x) n kd lt := h
theorem op_grace (v1 v2 v3 : Int32) : OP (w_X10_grace v1 v2 v3) (w_X11_grace v1 v2 v3) := by
  intro μ h
  obtain ⟨n, kd, lt, hX, hM, hW⟩ := h.1.1
  unfold w_X10_grace w_X11_grace q_X10_grace_15 q_X11_grace_15 w_X9_houses w_X10_lotOf w_X1_size
  simp only [isKind_eq, isLot_eq, misKind_eq, misLot_eq, xf0, mf0, xf1, mf1, xf4, mf4, pt_if, pt_if']
  cases hk : inB v1 0 6
  · exact ⟨by trivial, h.fnd0 (by omega)⟩
  · cases hl : (inB v2 0 11 && inB v3 0 11)
    · exact ⟨by trivial, h.fnd0 (by omega)⟩
    · simp only [Bool.and_eq_true] at hl
      obtain ⟨k, hk6, rfl⟩ := inB_t (m := 6) (by decide) hk
      obtain ⟨a, ha, rfl⟩ := inB_t (m := 11) (by decide) hl.1
      obtain ⟨b, hb, rfl⟩ := inB_t (m := 11) (by decide) hl.2
      simp only [if_true, lot_nI]
      refine ⟨by trivial, ?_⟩
      refine stands_sp hX _ _ ?_
      rw [pt_if]
      cases hs : stn lt (nI (12 * b + a)) n
      · simp only [Bool.false_eq_true, if_false]
        rw [isFull_eq hX, pt_if]
        by_cases e : n = 10
        · simp only [e, decide_true, if_true]
          refine houseOn_sp hM.t33 _ _ (fun _ => ?_) (fun j hj he _ => absurd he (stn_false.mp hs j hj))
          refine ⟨fun _ => ⟨fun q => absurd ((many10 hM.t33).mpr e) q, fun _ => ⟨by trivial, h.fnd0 (by omega)⟩⟩, fun q => absurd (by decide) q⟩
        · simp only [e, decide_false, Bool.false_eq_true, if_false]
          have hn : n < 10 := by have := hX.2.1; omega
          refine put_sp hX hn _ _ _ ?_
          have hM' : HM (qu (qu (qu μ (2 + 1) n (nI k)) (2 + 2) n (nI (12 * b + a))) 2 0 (nI n + 1)) n kd lt := hM
          refine houseOn_sp hM' _ _ (fun _ => ?_) (fun j hj he _ => absurd he (stn_false.mp hs j hj))
          refine ⟨fun _ => ⟨fun _ => ?_, fun q => absurd ((many10 hM').mp q) e⟩, fun q => absurd (by decide) q⟩
          refine mput_sp hM' (by omega) _ _ _ ⟨?_, h.put hX hM hW hn (by omega) (by omega)⟩
          rfl
      · simp only [if_true]
        refine houseOn_sp hM.t33 _ _ (fun q => by rw [hs] at q; cases q) (fun j hj he _ => ?_)
        have := hM.2.1
        exact ⟨fun q => absurd q (nI_pos (by omega)), fun _ => ⟨by trivial, h.fnd0 (by omega)⟩⟩
