theorem for1d {F : (Int32 → qM → Prop) → Int32 → qM → Prop} (D : Nat → Int32) (I : Nat → qM → Prop) (h : ∀ (P : Int32 → qM → Prop) (i : Nat) (μ : qM), I i μ → (∀ i' μ', i = i' + 1 → I i' μ' → P (D i') μ') → F P (D i) μ) : ∀ (i : Nat) (μ : qM), I i μ → qL1 F (D i) μ := by
  intro i μ hI P hP
  induction i generalizing μ with
  | zero => exact hP _ _ (h P 0 μ hI (fun i' μ' e _ => by omega))
  | succ i ih => exact hP _ _ (h P (i + 1) μ hI (fun i' μ' e hI' => by
      have : i = i' := by omega
      subst this
      exact ih μ' hI'))
def by8 (b : Int32) (q : Nat) : Nat := b.toBitVec.toNat / 2 ^ (8 * q) % 256
theorem ush_tab : ∀ i, i < 4 → ((((8 : Int32) * nI i).toUInt32 &&& Int32.toUInt32 31).toBitVec % 32).toNat = 8 * i := by decide +kernel
theorem shr_tab : ∀ i, i < 4 → ((nI (8 * i) &&& 31).toBitVec.smod 32).toNat = 8 * i := by decide +kernel
theorem feedX_sp {μ : qM} (b : Int32) {t n : Nat} (hn : n ≤ 4) (ht : t + n ≤ 120) (h1 : μ 22 1 = nI t) (post : Int32 → qM → Prop) (hp' : ∀ f, (∀ j, j < t → f j = μ 23 j) → (∀ p, p < n → f (t + p) &&& 255 = nI (by8 b (n - 1 - p))) → post (nI (t + n)) (qu (qr μ 23 f) 22 1 (nI (t + n)))) : q_X10_feed_42 b post (nI n - 1) μ := by
  unfold q_X10_feed_42 w_X8_size w_X8_put
  refine for1d (fun i => nI i - 1) (fun i μ' => i ≤ n ∧ ∃ f, μ' = qu (qr μ 23 f) 22 1 (nI (t + (n - i))) ∧ (∀ j, j < t → f j = μ 23 j) ∧ ∀ p, p < n - i → f (t + p) &&& 255 = nI (by8 b (n - 1 - p))) ?_ n μ ⟨Nat.le_refl _, μ 23, ?_, fun _ _ => rfl, fun p hp => by omega⟩
  · rintro P i μ' ⟨hi, f, rfl, hf0, hf⟩ hP
    have e22 : (qu (qr μ 23 f) 22 1 (nI (t + (n - i)))) 22 1 = nI (t + (n - i)) := rfl
    cases i with
    | zero =>
      refine ⟨fun _ => ?_, fun q => absurd (by decide) q⟩
      have := hp' f hf0 (fun p hp => hf p (by omega))
      rw [e22]
      exact this
    | succ i =>
      have ex : nI (i + 1) - 1 = nI i := nI_pred i
      show ((nI (i + 1) - 1) < 0 → _) ∧ (¬ (nI (i + 1) - 1) < 0 → _)
      rw [ex]
      refine ⟨fun q => absurd q (nI_pos (by omega)), fun _ => ?_⟩
      rw [e22, clp (by omega)]
      refine ⟨fun q => absurd q (nI_ge (b := 120) (by omega) (by omega)), fun _ => ⟨vp_in_nI (by omega) (by omega), ?_⟩⟩
      have em : nI i + -1 = nI i - 1 := by grind
      rw [em]
      refine hP i _ rfl ⟨by omega, upd f (t + (n - (i + 1))) (((b.toUInt32 >>> (((8 : Int32) * nI i).toUInt32 &&& Int32.toUInt32 31)).toInt32.toInt8.toInt32).toInt8.toInt32), ?_, fun j hj => ?_, fun p hp => ?_⟩
      · have e22' : ∀ (k : Nat) (x : Int32), (qu (qu (qr μ 23 f) 22 1 (nI (t + (n - (i + 1))))) 23 k x) 22 1 = nI (t + (n - (i + 1))) := fun _ _ => rfl
        rw [e22', nI_1, show t + (n - (i + 1)) + 1 = t + (n - i) by omega]
        funext z
        by_cases z22 : z = 22
        · subst z22; rw [qu_s, qu_s, qu_n (by omega), qu_s, upd_upd, qr_n (by omega), qr_n (by omega)]
        · rw [qu_n z22, qu_n z22]
          by_cases z23 : z = 23
          · subst z23; rw [qu_s, qu_n (by omega), qr_s, qr_s]
          · rw [qu_n z23, qu_n z22, qr_n z23, qr_n z23]
      · rw [pk_un (by omega)]; exact hf0 j hj
      · by_cases e : p = n - (i + 1)
        · subst e
          rw [pk_us, byX, pk_ushr b ((8 : Int32) * nI i) (8 * i) (ush_tab i (by omega)), show n - 1 - (n - (i + 1)) = i by omega]
          rfl
        · rw [pk_un (by omega)]; exact hf p (by omega)
  · rw [Nat.sub_self, Nat.add_zero, ← h1, qr_id]
    funext z
    by_cases z22 : z = 22
    · subst z22; rw [qu_s, upd_id]
    · rw [qu_n z22]
theorem feedM_sp {μ : qM} (b : Int32) {t n : Nat} (hn : n ≤ 4) (ht : t + n ≤ 120) (h1 : μ 46 18 = nI t) (post : Int32 → qM → Prop) (hp' : ∀ f, (∀ j, j < t → f j = μ 55 j) → (∀ p, p < n → f (t + p) = nI (by8 b (n - 1 - p))) → post (nI (t + n)) (qu (qr μ 55 f) 46 18 (nI (t + n)))) : q_X11_feed_40 b post (nI (8 * n) - 8) μ := by
  unfold q_X11_feed_40
  refine for1d (fun i => nI (8 * i) - 8) (fun i μ' => i ≤ n ∧ ∃ f, μ' = qu (qr μ 55 f) 46 18 (nI (t + (n - i))) ∧ (∀ j, j < t → f j = μ 55 j) ∧ ∀ p, p < n - i → f (t + p) = nI (by8 b (n - 1 - p))) ?_ n μ ⟨Nat.le_refl _, μ 55, ?_, fun _ _ => rfl, fun p hp => by omega⟩
  · rintro P i μ' ⟨hi, f, rfl, hf0, hf⟩ hP
    have e22 : (qu (qr μ 55 f) 46 18 (nI (t + (n - i)))) 46 18 = nI (t + (n - i)) := rfl
    cases i with
    | zero =>
      refine ⟨fun _ => ?_, fun q => absurd (by decide) q⟩
      have := hp' f hf0 (fun p hp => hf p (by omega))
      rw [e22]
      exact this
    | succ i =>
      have ex : nI (8 * (i + 1)) - 8 = nI (8 * i) := by
        rw [show (8 : Int32) = nI 8 from rfl, pk_sub (by omega), show 8 * (i + 1) - 8 = 8 * i by omega]
      show ((nI (8 * (i + 1)) - 8) < 0 → _) ∧ (¬ (nI (8 * (i + 1)) - 8) < 0 → _)
      rw [ex]
      refine ⟨fun q => absurd q (nI_pos (by omega)), fun _ => ?_⟩
      rw [e22, clp (by omega)]
      refine ⟨vp_in_nI (by omega) (by omega), ?_⟩
      have em : nI (8 * i) + -8 = nI (8 * i) - 8 := by grind
      rw [em]
      refine hP i _ rfl ⟨by omega, upd f (t + (n - (i + 1))) (nI (by8 b i)), ?_, fun j hj => ?_, fun p hp => ?_⟩
      · have e22' : ∀ (k : Nat) (x : Int32), (qu (qu (qr μ 55 f) 46 18 (nI (t + (n - (i + 1))))) 55 k x) 46 18 = nI (t + (n - (i + 1))) := fun _ _ => rfl
        have eb : (b >>> (nI (8 * i) &&& 31)) &&& 255 = nI (by8 b i) := byM b _ (8 * i) (by omega) (shr_tab i (by omega))
        rw [e22', nI_1, show t + (n - (i + 1)) + 1 = t + (n - i) by omega, eb]
        funext z
        by_cases z22 : z = 46
        · subst z22; rw [qu_s, qu_s, qu_n (by omega), qu_s, upd_upd, qr_n (by omega), qr_n (by omega)]
        · rw [qu_n z22, qu_n z22]
          by_cases z23 : z = 55
          · subst z23; rw [qu_s, qu_n (by omega), qr_s, qr_s]
          · rw [qu_n z23, qu_n z22, qr_n z23, qr_n z23]
      · rw [pk_un (by omega)]; exact hf0 j hj
      · by_cases e : p = n - (i + 1)
        · subst e
          rw [pk_us, show n - 1 - (n - (i + 1)) = i by omega]
        · rw [pk_un (by omega)]; exact hf p (by omega)
  · rw [Nat.sub_self, Nat.add_zero, ← h1, qr_id]
    funext z
    by_cases z22 : z = 46
    · subst z22; rw [qu_s, upd_id]
    · rw [qu_n z22]
theorem op_feed (v1 v2 : Int32) : OP (w_X10_feed v1 v2) (w_X11_feed v1 v2) := by
  intro μ h
  obtain ⟨⟨r1, r2, r3, r4, r5, r6, r7⟩, r8⟩ := id h
  obtain ⟨t, ht, e1, e2, e3⟩ := r6
  unfold w_X10_feed w_X11_feed q_X10_feed_10 w_X8_size
  simp only [within_eq, xf0, mf0, xf1, mf1, pt_if']
  by_cases c1 : v2 < 1
  · have : inB v2 1 4 = false := decide_eq_false (fun q => q.1 c1)
    refine ⟨fun _ => ?_, fun q => absurd c1 q⟩
    rw [this]
    exact ⟨by trivial, h.fnd0 (by omega)⟩
  · refine ⟨fun q => absurd q c1, fun _ => ?_⟩
    by_cases c4 : v2 ≤ 4
    · refine ⟨fun _ => ?_, fun q => absurd c4 q⟩
      have hb : inB v2 1 4 = true := decide_eq_true ⟨c1, Int32.not_lt.mpr c4⟩
      have hpos : ¬ v2 < 0 := fun q => c1 (Int32.lt_trans q (by decide))
      obtain ⟨n, hn, rfl⟩ := nI_of2 (M := 4) (n := 4) (by decide) hpos c4
      simp only [hb, if_true]
      rw [e1, nI_add]
      by_cases c120 : t + n ≤ 120
      · refine ⟨fun _ => ?_, fun q => absurd (nI_le (b := 120) c120 (by omega)) q⟩
        refine feedX_sp v1 hn c120 e1 _ (fun f hf0 hf => ?_)
        have e46 : (qu (qr μ 23 f) 22 1 (nI (t + n))) 46 18 = nI t := e2
        rw [e46, nI_add]
        refine ⟨fun _ => ?_, fun q => absurd (nI_le (b := 120) c120 (by omega)) q⟩
        have e8 : (8 : Int32) * nI n - 8 = nI (8 * n) - 8 := by rw [show (8 : Int32) * nI n = nI (8 * n) from by rw [show (8 : Int32) = nI 8 from rfl, pk_mul]]
        rw [e8]
        refine feedM_sp v1 hn c120 e46 _ (fun g hg0 hg => ⟨rfl, ?_⟩)
        refine ⟨⟨r1.keep rfl rfl rfl rfl (fun _ _ => ⟨rfl, rfl⟩), r2.keep rfl rfl, r3.keep rfl rfl, r4.keep rfl rfl rfl rfl, r5.keep rfl rfl rfl rfl rfl rfl rfl rfl rfl rfl rfl rfl rfl rfl rfl rfl, ⟨t + n, c120, rfl, rfl, fun j hj => ?_⟩, r7.keep (s8 ⟨rfl, rfl, rfl, rfl, rfl, rfl, rfl, rfl⟩) rfl rfl rfl⟩, r8.keep rfl rfl⟩
        show f j &&& 255 = g j ∧ ∃ b, b < 256 ∧ g j = nI b
        by_cases q : j < t
        · have hg' : g j = μ 55 j := hg0 j q
          rw [hf0 j q, hg']
          exact e3 j q
        · obtain ⟨p, rfl⟩ : ∃ p, j = t + p := ⟨j - t, by omega⟩
          rw [hf p (by omega), hg p (by omega)]
          exact ⟨rfl, _, Nat.mod_lt _ (by omega), rfl⟩
      · refine ⟨fun q => absurd (pn_le (b := 120) (by omega) (by omega) q) c120, fun _ => ?_⟩
        have e46 : (qu μ 33 1 (μ 33 1 + 1)) 46 18 = nI t := e2
        rw [e46, nI_add]
        exact ⟨fun q => absurd (pn_le (b := 120) (by omega) (by omega) q) c120, fun _ => ⟨by trivial, h.fnd0 (by omega)⟩⟩
    · have : inB v2 1 4 = false := decide_eq_false (fun q => q.2 (Int32.not_le.mp c4))
      refine ⟨fun q => absurd q c4, fun _ => ?_⟩
      rw [this]
      exact ⟨by trivial, h.fnd0 (by omega)⟩
/-! rows are copied -/
theorem rows_sp {μ : qM} {o0 o1 κ0 κ1 n : Nat} (ho : o0 ≠ o1) (h0 : n ≤ qaN κ0) (h1 : n ≤ qaN κ1) (hn : n < 1000) (post : qM → Prop) (hp' : ∀ f, (∀ j, j < n → f j = μ o0 j) → post (qr μ o1 f)) : w_X11_row_ o0 o1 κ0 κ1 (nI n) post μ := by
  unfold w_X11_row_ q_X11_row__2
  refine for1 n (fun j μ' => ∃ f, μ' = qr μ o1 f ∧ ∀ i, i < j → f i = μ o0 i) ?_ 0 (Nat.zero_le _) ⟨_, qr_id.symm, fun _ q => absurd q (Nat.not_lt_zero _)⟩
  rintro P j μ' hjn ⟨f, rfl, hf⟩ hP
  refine ⟨fun hx => ?_, fun hx => ?_⟩
  · have : n ≤ j := pn_le (by omega) (by omega) hx
    exact hp' f (fun i hi => hf i (by omega))
  · have hlt : j < n := pn_nle (by omega) (by omega) hx
    rw [clp (by omega), qr_n ho]
    have v0 : vp_in (nI j) (qaN κ0) := fun q => q.elim (nI_pos (by omega)) (fun q => by rw [clp (by omega)] at q; omega)
    have v1 : vp_in (nI j) (qaN κ1) := fun q => q.elim (nI_pos (by omega)) (fun q => by rw [clp (by omega)] at q; omega)
    refine ⟨v0, v1, hP _ hlt ⟨upd f j (μ o0 j), qu_qr, fun i hi => ?_⟩⟩
    by_cases e : i = j
    · subst e; exact pk_us
    · rw [pk_un e]; exact hf i (by omega)
theorem copyT_8_1 {μ : qM} {n : Nat} {kd lt : Nat → Int32} (h : HX μ 2 n kd lt) (post : qM → Prop) (hp' : ∀ f g w s' : Nat → Int32, (∀ i, i < 10 → f i = μ 3 i ∧ g i = μ 4 i) → (∀ j, j < 144 → w j = μ 6 j) → (∀ j, j < 10 → s' j = μ 7 j) → post (qu (qu (qu (qr (qr (qr (qr (qu μ 9 0 (nI n)) 10 f) 11 g) 13 w) 14 s') 8 3 (μ 1 3)) 8 4 (μ 1 4)) 8 5 (μ 1 5))) : w_X9_becomeAs 8 1 post μ := by
  unfold w_X9_becomeAs
  refine becomeAs_sp h (by omega) _ (fun f g hfg => ?_)
  have z0 : (0 : Int32).toNatClampNeg = 0 := by decide
  have z1 : (144 : Int32).toNatClampNeg = 144 := by decide
  have z2 : (10 : Int32).toNatClampNeg = 10 := by decide
  refine ⟨by decide, by decide, by decide, by decide, by decide, by decide, by decide, by decide, by decide, by decide, ?_⟩
  refine hp' f g _ _ hfg (fun j hj => ?_) (fun j hj => ?_)
  · rw [z0, z1, pk_cpy_in (by omega) (by omega)]
    show μ 6 (0 + (j - 0)) = μ 6 j
    rw [Nat.zero_add, Nat.sub_zero]
  · rw [z0, z2, pk_cpy_in (by omega) (by omega)]
    show μ 7 (0 + (j - 0)) = μ 7 j
    rw [Nat.zero_add, Nat.sub_zero]
theorem copyT_1_8 {μ : qM} {n : Nat} {kd lt : Nat → Int32} (h : HX μ 9 n kd lt) (post : qM → Prop) (hp' : ∀ f g w s' : Nat → Int32, (∀ i, i < 10 → f i = μ 10 i ∧ g i = μ 11 i) → (∀ j, j < 144 → w j = μ 13 j) → (∀ j, j < 10 → s' j = μ 14 j) → post (qu (qu (qu (qr (qr (qr (qr (qu μ 2 0 (nI n)) 3 f) 4 g) 6 w) 7 s') 1 3 (μ 8 3)) 1 4 (μ 8 4)) 1 5 (μ 8 5))) : w_X9_becomeAs 1 8 post μ := by
  unfold w_X9_becomeAs
  refine becomeAs_sp h (by omega) _ (fun f g hfg => ?_)
  have z0 : (0 : Int32).toNatClampNeg = 0 := by decide
  have z1 : (144 : Int32).toNatClampNeg = 144 := by decide
  have z2 : (10 : Int32).toNatClampNeg = 10 := by decide
  refine ⟨by decide, by decide, by decide, by decide, by decide, by decide, by decide, by decide, by decide, by decide, ?_⟩
  refine hp' f g _ _ hfg (fun j hj => ?_) (fun j hj => ?_)
  · rw [z0, z1, pk_cpy_in (by omega) (by omega)]
    show μ 13 (0 + (j - 0)) = μ 13 j
    rw [Nat.zero_add, Nat.sub_zero]
  · rw [z0, z2, pk_cpy_in (by omega) (by omega)]
    show μ 14 (0 + (j - 0)) = μ 14 j
    rw [Nat.zero_add, Nat.sub_zero]
theorem copyT_15_1 {μ : qM} {n : Nat} {kd lt : Nat → Int32} (h : HX μ 2 n kd lt) (post : qM → Prop) (hp' : ∀ f g w s' : Nat → Int32, (∀ i, i < 10 → f i = μ 3 i ∧ g i = μ 4 i) → (∀ j, j < 144 → w j = μ 6 j) → (∀ j, j < 10 → s' j = μ 7 j) → post (qu (qu (qu (qr (qr (qr (qr (qu μ 16 0 (nI n)) 17 f) 18 g) 20 w) 21 s') 15 3 (μ 1 3)) 15 4 (μ 1 4)) 15 5 (μ 1 5))) : w_X9_becomeAs 15 1 post μ := by
  unfold w_X9_becomeAs
  refine becomeAs_sp h (by omega) _ (fun f g hfg => ?_)
  have z0 : (0 : Int32).toNatClampNeg = 0 := by decide
  have z1 : (144 : Int32).toNatClampNeg = 144 := by decide
  have z2 : (10 : Int32).toNatClampNeg = 10 := by decide
  refine ⟨by decide, by decide, by decide, by decide, by decide, by decide, by decide, by decide, by decide, by decide, ?_⟩
  refine hp' f g _ _ hfg (fun j hj => ?_) (fun j hj => ?_)
  · rw [z0, z1, pk_cpy_in (by omega) (by omega)]
    show μ 6 (0 + (j - 0)) = μ 6 j
    rw [Nat.zero_add, Nat.sub_zero]
  · rw [z0, z2, pk_cpy_in (by omega) (by omega)]
    show μ 7 (0 + (j - 0)) = μ 7 j
    rw [Nat.zero_add, Nat.sub_zero]
theorem copyT_1_15 {μ : qM} {n : Nat} {kd lt : Nat → Int32} (h : HX μ 16 n kd lt) (post : qM → Prop) (hp' : ∀ f g w s' : Nat → Int32, (∀ i, i < 10 → f i = μ 17 i ∧ g i = μ 18 i) → (∀ j, j < 144 → w j = μ 20 j) → (∀ j, j < 10 → s' j = μ 21 j) → post (qu (qu (qu (qr (qr (qr (qr (qu μ 2 0 (nI n)) 3 f) 4 g) 6 w) 7 s') 1 3 (μ 15 3)) 1 4 (μ 15 4)) 1 5 (μ 15 5))) : w_X9_becomeAs 1 15 post μ := by
  unfold w_X9_becomeAs
  refine becomeAs_sp h (by omega) _ (fun f g hfg => ?_)
  have z0 : (0 : Int32).toNatClampNeg = 0 := by decide
  have z1 : (144 : Int32).toNatClampNeg = 144 := by decide
  have z2 : (10 : Int32).toNatClampNeg = 10 := by decide
  refine ⟨by decide, by decide, by decide, by decide, by decide, by decide, by decide, by decide, by decide, by decide, ?_⟩
  refine hp' f g _ _ hfg (fun j hj => ?_) (fun j hj => ?_)
  · rw [z0, z1, pk_cpy_in (by omega) (by omega)]
    show μ 20 (0 + (j - 0)) = μ 20 j
    rw [Nat.zero_add, Nat.sub_zero]
  · rw [z0, z2, pk_cpy_in (by omega) (by omega)]
    show μ 21 (0 + (j - 0)) = μ 21 j
    rw [Nat.zero_add, Nat.sub_zero]
