theorem get_sp {μ : qM} {o m j : Nat} (hm : μ o 1 = nI m) (hm40 : m ≤ 40) (hj : j < m) (post : Int32 → qM → Prop) (hp' : post (μ (o + 1) j) μ) : w_X6_get o (nI j) post μ := by
  unfold w_X6_get
  rw [hm, clp (by omega)]
  exact ⟨fun q => absurd q (nI_pos (by omega)), fun _ => ⟨fun q => absurd q (nI_ge hj (by omega)), fun _ => ⟨vp_in_nI (by omega) (by omega), hp'⟩⟩⟩
/-- how many numbers come: the first that isn't 0 to 99 -/
def ldc (num : Nat → Int32) (m c : Nat) : Prop := c ≤ m ∧ (∀ j, j < c → inB (num j) 0 99 = true) ∧ (c = m ∨ inB (num c) 0 99 = false)
theorem load_sp {μ : qM} {i m : Nat} (hi : i < 4) (hm : μ (25 + 2 * i) 1 = nI m) (hm40 : m ≤ 40) (post : Int32 → qM → Prop) (hp' : ∀ c f, ldc (μ (26 + 2 * i)) m c → (∀ j, f j = if j < c then μ (26 + 2 * i) j else μ 6 j) → post (nI c) (qr μ 6 f)) : q_X10_load_34 (nI i) post 0 μ := by
  have vi : vp_in (nI i) 4 := vp_in_nI hi (by omega)
  unfold q_X10_load_34 q_X10_load_61 w_X6_size
  refine for1 m (fun j μ' => ∃ f, μ' = qr μ 6 f ∧ (∀ k, k < j → inB (μ (26 + 2 * i) k) 0 99 = true) ∧ ∀ k, f k = if k < j then μ (26 + 2 * i) k else μ 6 k) ?_ 0 (Nat.zero_le _) ⟨μ 6, qr_id.symm, fun _ q => absurd q (Nat.not_lt_zero _), fun k => by rw [if_neg (Nat.not_lt_zero _)]⟩
  rintro P j μ' hjn ⟨f, rfl, hok, hf⟩ hP
  have e25 : ∀ f, qr μ 6 f (25 + 2 * i) = μ (25 + 2 * i) := fun f => qr_n (by omega)
  have e26 : ∀ f, qr μ 6 f (25 + 2 * i + 1) = μ (26 + 2 * i) := fun f => by rw [qr_n (by omega), show 25 + 2 * i + 1 = 26 + 2 * i by omega]
  rw [clp (by omega), e25, hm]
  refine ⟨fun hx => ?_, fun hx => ?_⟩
  · have : m ≤ j := pn_le (by omega) (by omega) hx
    have hjm : j = m := by omega
    subst hjm
    exact hp' j f ⟨Nat.le_refl _, hok, Or.inl rfl⟩ hf
  · have hlt : j < m := pn_nle (by omega) (by omega) hx
    refine get_sp (m := m) (by rw [e25]; exact hm) hm40 hlt _ ?_
    rw [e26, inB_y]
    cases hb : inB (μ (26 + 2 * i) j) 0 99
    · exact hp' j f ⟨by omega, hok, Or.inr hb⟩ hf
    · simp only [if_true]
      refine setWorth_sp (o := 1) (by omega) _ _ (hP _ hlt ⟨upd f j (μ (26 + 2 * i) j), qu_qr, fun k hk => ?_, fun k => ?_⟩)
      · by_cases e : k = j
        · subst e; exact hb
        · exact hok k (by omega)
      · by_cases e : k = j
        · subst e; rw [pk_us, if_pos (by omega)]
        · rw [pk_un e, hf k]
          by_cases hc : k < j
          · rw [if_pos hc, if_pos (by omega)]
          · rw [if_neg hc, if_neg (by omega)]
theorem mload_sp {μ : qM} {i m c : Nat} (hi : i < 4) (hm : μ 63 i = nI m) (hm40 : m ≤ 40) {num : Nat → Int32} (hn : ∀ j, j < 40 → μ 64 (40 * i + j) = num j) (hc : ldc num m c) (post : Int32 → qM → Prop) (hp' : ∀ f, (∀ j, f j = if j < c then num j else μ 49 j) → post (nI c) (qr μ 49 f)) : q_X11_load_18 (nI i) post 0 μ := by
  have vi : vp_in (nI i) 4 := vp_in_nI hi (by omega)
  obtain ⟨hcm, hok, hend⟩ := hc
  unfold q_X11_load_18 q_X11_load_71
  refine for1 c (fun j μ' => ∃ f, μ' = qr μ 49 f ∧ ∀ k, f k = if k < j then num k else μ 49 k) ?_ 0 (Nat.zero_le _) ⟨μ 49, qr_id.symm, fun k => by rw [if_neg (Nat.not_lt_zero _)]⟩
  rintro P j μ' hjc ⟨f, rfl, hf⟩ hP
  have e63 : ∀ f, qr μ 49 f 63 = μ 63 := fun _ => rfl
  have e64 : ∀ f, qr μ 49 f 64 = μ 64 := fun _ => rfl
  have e40 : (40 : Int32) * nI i + nI j = nI (40 * i + j) := by rw [show (40 : Int32) = nI 40 from rfl, pk_mul, nI_add]
  rw [clp (by omega), e63, hm, e40, clp (by omega), clp (by omega)]
  refine ⟨vi, fun hx => ?_, fun hx => ⟨vp_in_nI (by have := pn_nle (a := m) (b := j) (by omega) (by omega) hx; omega) (by omega), ?_⟩⟩
  · have : m ≤ j := pn_le (by omega) (by omega) hx
    have hjc' : j = c := by omega
    subst hjc'
    exact hp' f hf
  · have hlt : j < m := pn_nle (by omega) (by omega) hx
    have hnj := hn j (by omega)
    rw [within_eq, e64, hnj]
    refine pb_if (fun hb => ?_) (fun hb => ⟨vp_in_nI (by omega) (by omega), vp_in_nI (by omega) (by omega), ?_⟩)
    · have hjc' : j = c := by
        rcases Nat.lt_or_ge j c with q | q
        · rw [hok j q] at hb; cases hb
        · omega
      subst hjc'
      exact hp' f hf
    · have hjc' : j < c := by
        rcases Nat.lt_or_ge j c with q | q
        · exact q
        · have : j = c := by omega
          subst this
          rcases hend with e | e
          · omega
          · rw [e] at hb; cases hb
      refine hP _ hjc' ⟨upd f j (num j), qu_qr, fun k => ?_⟩
      by_cases e : k = j
      · subst e; rw [pk_us, if_pos (by omega)]
      · rw [pk_un e, hf k]
        by_cases hc : k < j
        · rw [if_pos hc, if_pos (by omega)]
        · rw [if_neg hc, if_neg (by omega)]
theorem op_load (v1 : Int32) : OP (w_X10_load v1) (w_X11_load v1) := by
  intro μ h
  unfold w_X10_load w_X11_load
  simp only [sheetIf, isMissing_eq, xf0, xf5, pt_if, pt_if']
  cases hs : inB v1 0 3
  · simp only [Bool.false_eq_true, if_false]
    refine lacks_sp _ _ (fun _ => ?_) (fun i hi e => ?_)
    · refine ⟨fun q => absurd q (by decide), fun _ => ?_⟩
      rw [mf0]
      exact ⟨by trivial, h.fnd0 (by omega)⟩
    · rw [e] at hs
      have : inB (nI i) 0 3 = true := decide_eq_true ⟨nI_pos (by omega), nI_nlt (b := i) (a := 3) (by omega) (by omega)⟩
      rw [this] at hs; cases hs
  · obtain ⟨i, hi, rfl⟩ := inB_t (m := 3) (by decide) hs
    have vi : vp_in (nI i) 4 := vp_in_nI (by omega) (by omega)
    obtain ⟨g1, g2, ⟨m, hm, g3, g3'⟩, g4⟩ := h.1.2.2.2.2.2.2 i (by omega)
    simp only [if_true, clp (show i < 2 ^ 31 by omega)]
    refine ⟨vi, ?_⟩
    cases hz : (μ (25 + 2 * i) 0 == 0)
    · simp only [Bool.false_eq_true, if_false]
      have hnz : ¬ μ 62 i = 0 := by rw [← g1]; simpa using hz
      refine load_sp (by omega) g3 hm _ (fun c f hc hf => ?_)
      refine lacks_sp _ _ (fun q => by rw [q] at hs; cases hs) (fun i' hi' e' => ?_)
      have : i' = i := (pn_eq (by omega) (by omega) e').symm
      subst this
      refine ⟨fun q => absurd q hnz, fun _ => ⟨fun _ => ?_, fun q => absurd (by decide) q⟩⟩
      refine mload_sp (m := m) (c := c) (num := μ (26 + 2 * i')) (by omega) (by exact g3') hm (by exact fun j hj => (g4 j hj).symm) hc _ (fun g hg => ⟨rfl, ?_⟩)
      obtain ⟨⟨r1, r2, r3, r4, r5, r6, r7⟩, r8⟩ := h
      refine ⟨⟨r1.keep rfl rfl rfl rfl (fun _ _ => ⟨rfl, rfl⟩), fun j hj => ?_, r3.keep rfl rfl, r4.keep rfl rfl rfl rfl, r5.keep rfl rfl rfl rfl rfl rfl rfl rfl rfl rfl rfl rfl rfl rfl rfl rfl, r6.keep rfl rfl rfl rfl, r7.keep (s8 ⟨rfl, rfl, rfl, rfl, rfl, rfl, rfl, rfl⟩) rfl rfl rfl⟩, r8.keep rfl rfl⟩
      show f j = g j ∧ ∃ k, k < 100 ∧ f j = nI k
      have hg' : g j = if j < c then μ (26 + 2 * i') j else μ 49 j := hg j
      rw [hf j, hg']
      by_cases q : j < c
      · rw [if_pos q, if_pos q]
        obtain ⟨k, hk, e⟩ := inB_t (m := 99) (by decide) (hc.2.1 j q)
        exact ⟨rfl, k, by omega, e⟩
      · rw [if_neg q, if_neg q]
        exact r2 j hj
    · simp only [if_true]
      have hz' : μ 62 i = 0 := by rw [← g1]; simpa using hz
      refine lacks_sp _ _ (fun q => by rw [q] at hs; cases hs) (fun i' hi' e' => ?_)
      have : i' = i := (pn_eq (by omega) (by omega) e').symm
      subst this
      refine ⟨fun _ => ⟨fun q => absurd q (by decide), fun _ => ?_⟩, fun q => absurd hz' q⟩
      rw [mf5]
      exact ⟨by trivial, h.fnd0 (by omega)⟩
/-! feed -/
theorem byX (x : Int32) : (x.toInt8.toInt32.toInt8.toInt32 &&& 255) = nI (x.toBitVec.toNat % 256) := by
  have e1 : x.toInt8.toInt32.toInt8 = x.toInt8 := by simp
  have e2 : x.toInt8 = (nI (x.toBitVec.toNat % 256)).toInt8 := by
    apply Int8.toBitVec_inj.mp
    apply BitVec.eq_of_toNat_eq
    have a1 : ∀ y : Int32, y.toInt8.toBitVec.toNat = y.toBitVec.toNat % 256 := fun y => by
      simp [BitVec.toNat_signExtend, BitVec.signExtend_eq_setWidth_of_le]
    rw [a1, a1, pk_tn (by omega)]
    omega
  rw [e1, e2]
  exact sc_k8 _ (Nat.mod_lt _ (by omega))
theorem toInt_cases (x : Int32) : (x.toInt = (x.toBitVec.toNat : Int)) ∨ (x.toInt = (x.toBitVec.toNat : Int) - 4294967296) := by
  have h : x.toInt = x.toBitVec.toInt := rfl
  rw [h, BitVec.toInt_eq_toNat_cond]
  split
  · exact Or.inl rfl
  · exact Or.inr rfl
theorem byM (b s : Int32) (k : Nat) (hk : k = 0 ∨ k = 8 ∨ k = 16 ∨ k = 24) (hs : (s.toBitVec.smod 32).toNat = k) : (b >>> s) &&& 255 = nI (b.toBitVec.toNat / 2 ^ k % 256) := by
  rw [pk_and (b >>> s) 8 (by decide)]
  have h := pk_shr b s k hs
  rw [Int.shiftRight_eq_div_pow] at h
  congr 1
  rcases toInt_cases (b >>> s) with h1 | h1 <;> rcases toInt_cases b with h2 | h2 <;> rcases hk with rfl | rfl | rfl | rfl <;> rw [h1, h2] at h <;> omega
