theorem inB_m1 {n : Nat} (hn : n < 2 ^ 30) (v : Int32) : inB v (-1) (nI n - 1) = (v == -1 || hasB n v) := by
  unfold inB hasB
  have e := le_lt (a := nI n) (b := nI n - 1) (by
    rw [nI_toInt (by omega), show nI n - 1 = nI n - nI 1 from rfl, pk_sub_toInt (by omega) (by omega)]
    omega) v
  have h1 : (-1 : Int32).toInt = -1 := by decide
  have h0 : (0 : Int32).toInt = 0 := by decide
  by_cases hv : v = -1
  · subst hv
    have c1 : ¬ ((-1 : Int32) < -1) := by decide
    have c2 : ¬ (nI n - 1 < (-1 : Int32)) := by
      rw [← e]
      intro q
      have := Int32.le_iff_toInt_le.mp q
      rw [nI_toInt (by omega)] at this
      omega
    simp [c1, c2]
  · have hb : (v == -1) = false := by simpa using hv
    rw [hb, Bool.false_or]
    apply decide_eq_decide.mpr
    rw [e]
    have hne : v.toInt ≠ -1 := fun q => hv (Int32.toInt_inj.mp (by rw [q, h1]))
    rw [Int32.lt_iff_toInt_lt (x := v) (y := -1), Int32.lt_iff_toInt_lt (x := v) (y := 0), h1, h0]
    constructor
    · rintro ⟨a, b⟩; exact ⟨by omega, b⟩
    · rintro ⟨a, b⟩; exact ⟨by omega, b⟩
theorem setSpot_sp {μ : qM} {o i : Nat} (hi : i < 10) (x : Int32) (post : qM → Prop) (hp' : post (qu μ (o + 6) i x)) : w_X9_setSpot o (nI i) x post μ := by
  unfold w_X9_setSpot
  have hb : inB (nI i) 0 9 = true := decide_eq_true ⟨nI_pos (by omega), nI_nlt (b := i) (a := 9) (by omega) (by omega)⟩
  rw [isSpot_eq, hb, clp (by omega)]
  exact ⟨fun q => absurd q (by decide), fun _ => ⟨vp_in_nI hi (by omega), hp'⟩⟩
theorem spotOf_sp {μ : qM} {o i : Nat} (hi : i < 10) (post : Int32 → qM → Prop) (hp' : post (μ (o + 6) i) μ) : w_X9_spotOf o (nI i) post μ := by
  unfold w_X9_spotOf
  have hb : inB (nI i) 0 9 = true := decide_eq_true ⟨nI_pos (by omega), nI_nlt (b := i) (a := 9) (by omega) (by omega)⟩
  rw [isSpot_eq, hb, clp (by omega)]
  exact ⟨fun q => absurd q (by decide), fun _ => ⟨vp_in_nI hi (by omega), hp'⟩⟩
theorem RI.sp {μ : qM} {i : Nat} {x : Int32} (h : RI μ) (hx : x = -1 ∨ 0 ≤ x) : RI (qu (qu μ 7 i x) 50 i x) := by
  obtain ⟨⟨r1, r2, r3, r4, r5, r6, r7⟩, r8⟩ := h
  refine ⟨⟨r1.keep rfl rfl rfl rfl (fun _ _ => ⟨rfl, rfl⟩), r2.keep rfl rfl, fun j hj => ?_, r4.keep rfl rfl rfl rfl, r5.keep rfl rfl rfl rfl rfl rfl rfl rfl rfl rfl rfl rfl rfl rfl rfl rfl, r6.keep rfl rfl rfl rfl, r7.keep (s8 ⟨rfl, rfl, rfl, rfl, rfl, rfl, rfl, rfl⟩) rfl rfl rfl⟩, r8.keep rfl rfl⟩
  show upd (μ 7) i x j = upd (μ 50) i x j ∧ (upd (μ 7) i x j = -1 ∨ 0 ≤ upd (μ 7) i x j)
  by_cases e : j = i
  · subst e; rw [pk_us, pk_us]; exact ⟨rfl, hx⟩
  · rw [pk_un e, pk_un e]; exact r3 j hj
theorem op_hold (v1 v2 : Int32) : OP (w_X10_hold v1 v2) (w_X11_hold v1 v2) := by
  intro μ h
  obtain ⟨n, kd, lt, hX, hM, hW⟩ := h.1.1
  have h10 := hX.2.1
  unfold w_X10_hold w_X11_hold q_X10_hold_26 q_X10_hold_33 q_X11_hold_24 w_X9_houses
  simp only [isSpot_eq, within_eq, xf0, mf0, pt_if, pt_if', has_eq hX]
  cases hl : inB v1 0 9
  · exact ⟨by trivial, h.fnd0 (by omega)⟩
  · obtain ⟨i, hi, rfl⟩ := inB_t (m := 9) (by decide) hl
    simp only [if_true]
    have fin : (v2 = -1 ∨ 0 ≤ v2) → inB v2 (-1) (nI n - 1) = true → w_X9_setSpot 1 (nI i) v2 (fun μ39 => if inB v2 (-1) (μ39 46 0 - 1) = true then vp_in (nI i) 10 ∧ (1 : Int32) = 1 ∧ RI (qu μ39 50 (nI i).toNatClampNeg v2) else (1 : Int32) = -1000001 ∧ RI (qu μ39 56 0 (μ39 56 0 + 1))) μ := fun hx hb => by
      refine setSpot_sp (by omega) _ _ ?_
      have e0 : (qu μ (1 + 6) i v2) 46 0 = nI n := hM.1
      rw [e0, hb, clp (by omega)]
      simp only [if_true]
      exact ⟨vp_in_nI (by omega) (by omega), by trivial, h.sp hx⟩
    refine ⟨fun e => ?_, fun e => ⟨by trivial, ?_⟩⟩
    · have := fin (Or.inl e) (by rw [inB_m1 (by omega), e]; rfl)
      simpa using this
    · cases hh : hasB n v2
      · simp only [Bool.false_eq_true, if_false]
        have e0 : (qu μ 33 0 (μ 33 0 + 1)) 46 0 = nI n := hM.1
        have eb : inB v2 (-1) (nI n - 1) = false := by rw [inB_m1 (by omega), hh]; simpa using e
        rw [e0, eb]
        simp only [Bool.false_eq_true, if_false]
        exact ⟨by trivial, h.fnd0 (by omega)⟩
      · have eb : inB v2 (-1) (nI n - 1) = true := by rw [inB_m1 (by omega), hh, Bool.or_true]
        obtain ⟨j, hj, ej⟩ := hasB_t (by omega) hh
        have := fin (Or.inr (by rw [ej]; exact nI_pos' (by omega))) eb
        simpa using this
/-! kinds under kinds -/
def an : Nat → List Nat
  | 0 => [0]
  | 1 => [1, 0]
  | 2 => [2, 0]
  | 3 => [3, 1, 0]
  | 4 => [4, 2, 0]
  | 5 => [5, 0]
  | _ => [6, 5, 0]
def av (v : Int32) : Int32 := if v = 1 then 0 else if v = 2 then 0 else if v = 3 then 1 else if v = 4 then 2 else if v = 5 then 0 else if v = 6 then 5 else -1
def av' (v : Int32) : Int32 := if v = 0 then -1 else if v = 1 then 0 else if v = 2 then 0 else if v = 3 then 1 else if v = 4 then 2 else if v = 5 then 0 else if v = 6 then 5 else 0
theorem above_eq (k : Int32) (post : Int32 → qM → Prop) (μ : qM) : w_X2_above k post μ = post (av k) μ := by
  unfold w_X2_above q_X2_above_40 av
  simp only [pc_if]
  repeat' split
  all_goals rfl
theorem mabove_eq (k : Int32) (post : Int32 → qM → Prop) (μ : qM) : w_X11_above k post μ = post (av' k) μ := by
  unfold w_X11_above q_X11_above_52 av'
  simp only [pc_if]
  repeat' split
  all_goals rfl
theorem an_tab : ∀ a, a < 7 → (av (nI a) = av' (nI a)) ∧ ((av (nI a) = -1 ∧ an a = [a]) ∨ ((List.range 7).any (fun b => av (nI a) == nI b && an a == a :: an b)) = true) := by decide +kernel
theorem an_st {a : Nat} (h : a < 7) : (av (nI a) = -1 ∧ an a = [a]) ∨ ∃ b, b < 7 ∧ av (nI a) = nI b ∧ an a = a :: an b := by
  rcases (an_tab a h).2 with h1 | h1
  · exact Or.inl h1
  · obtain ⟨b, hb, e⟩ := List.any_eq_true.mp h1
    simp only [Bool.and_eq_true, beq_iff_eq] at e
    exact Or.inr ⟨b, List.mem_range.mp hb, e.1, e.2⟩
theorem an_len : ∀ a, a < 7 → (an a).length ≤ 3 := by decide
theorem isUnder_sp {k q : Nat} (hk : k < 7) (hq : q < 7) (post : Int32 → qM → Prop) (μ : qM) (hp' : post (tb ((an k).contains q)) μ) : w_X2_isUnder (nI k) (nI q) post μ := by
  unfold w_X2_isUnder q_X2_isUnder_4 q_X2_isUnder_32
  refine qL2_rule (fun x s μ' => μ' = μ ∧ ((∃ a t, a < 7 ∧ x = nI a ∧ s = nI t ∧ t + (an a).length ≤ 3 ∧ (an a).contains q = (an k).contains q) ∨ (x = -1 ∧ (an k).contains q = false ∧ ∃ t, t ≤ 3 ∧ s = nI t))) (fun _ s _ => 4 - s.toNatClampNeg) ?_ _ _ _ ⟨rfl, Or.inl ⟨k, 0, hk, rfl, rfl, by have := an_len k hk; omega, rfl⟩⟩
  rintro P x s μ' ⟨rfl, h⟩ hP
  simp only [q01, q11, true_or, or_true, true_and]
  rcases h with ⟨a, t, ha, rfl, rfl, hl, hc⟩ | ⟨rfl, hc, t, ht, rfl⟩
  · have hpos : 0 < (an a).length := by
      rcases an_st ha with h1 | ⟨b, _, _, h1⟩
      · rw [h1.2]; simp
      · rw [h1]; simp
    refine ⟨fun hx => absurd hx (nI_ge (b := 7) (by omega) (by omega)), fun _ => ⟨fun hx => absurd hx (nI_pos (by omega)), fun _ => ⟨fun hne => ?_, fun he => ?_⟩⟩⟩
    · have haq : ¬ a = q := fun e => hne (by rw [e])
      rw [above_eq, nI_1]
      have hm : 4 - (nI (t + 1)).toNatClampNeg < 4 - (nI t).toNatClampNeg := by
        rw [clp (by omega), clp (by omega)]; omega
      rcases an_st ha with ⟨e, el⟩ | ⟨b, hb, e, el⟩
      · refine hP _ _ _ ⟨rfl, Or.inr ⟨e, ?_, t + 1, by rw [el] at hl; simp at hl; omega, rfl⟩⟩ hm
        rw [← hc, el]
        simp [Ne.symm haq]
      · refine hP _ _ _ ⟨rfl, Or.inl ⟨b, t + 1, hb, e, rfl, by rw [el] at hl; simp at hl; omega, ?_⟩⟩ hm
        rw [← hc, el]
        simp [Ne.symm haq]
    · have haq : a = q := pn_eq (by omega) (by omega) he
      have : (an k).contains q = true := by
        rw [← hc, haq]
        rcases an_st hq with h1 | ⟨b, _, _, h1⟩
        · rw [h1.2]; simp
        · rw [h1]; simp
      rw [this] at hp'
      exact hp'
  · rw [hc] at hp'
    exact ⟨fun hx => absurd hx (nI_ge (b := 7) (by omega) (by omega)), fun _ => ⟨fun _ => hp', fun hx => absurd (by decide) hx⟩⟩
theorem misUnder_sp {k q : Nat} (hk : k < 7) (hq : q < 7) (post : Int32 → qM → Prop) (μ : qM) (hp' : post (tb ((an k).contains q)) μ) : w_X11_isUnder (nI k) (nI q) post μ := by
  unfold w_X11_isUnder q_X11_isUnder_2 q_X11_isUnder_19
  refine qL1_rule (fun x μ' => μ' = μ ∧ ((∃ a, a < 7 ∧ x = nI a ∧ (an a).contains q = (an k).contains q) ∨ (x = -1 ∧ (an k).contains q = false))) (fun x _ => if x < 0 then 0 else (an x.toNatClampNeg).length) ?_ _ _ ⟨rfl, Or.inl ⟨k, hk, rfl, rfl⟩⟩
  rintro P x μ' ⟨rfl, h⟩ hP
  simp only [q01, q11, true_or, or_true, true_and]
  rcases h with ⟨a, ha, rfl, hc⟩ | ⟨rfl, hc⟩
  · have hna : ¬ nI a < 0 := nI_pos (by omega)
    refine ⟨fun hx => absurd hx hna, fun _ => ⟨fun he => ⟨fun hx => absurd hx hna, fun _ => ?_⟩, fun hne => ?_⟩⟩
    · have haq : a = q := pn_eq (by omega) (by omega) he
      have : (an k).contains q = true := by
        rw [← hc, haq]
        rcases an_st hq with h1 | ⟨b, _, _, h1⟩
        · rw [h1.2]; simp
        · rw [h1]; simp
      rw [this] at hp'
      exact hp'
    · have haq : ¬ a = q := fun e => hne (by rw [e])
      rw [mabove_eq, ← (an_tab a ha).1]
      rcases an_st ha with ⟨e, el⟩ | ⟨b, hb, e, el⟩
      · refine hP _ _ ⟨rfl, Or.inr ⟨e, ?_⟩⟩ ?_
        · rw [← hc, el]
          simp [Ne.symm haq]
        · show (if av (nI a) < 0 then 0 else (an (av (nI a)).toNatClampNeg).length) < (if nI a < 0 then 0 else (an (nI a).toNatClampNeg).length)
          rw [e, if_pos (by decide), if_neg hna, clp (by omega), el]
          simp
      · refine hP _ _ ⟨rfl, Or.inl ⟨b, hb, e, ?_⟩⟩ ?_
        · rw [← hc, el]
          simp [Ne.symm haq]
        · show (if av (nI a) < 0 then 0 else (an (av (nI a)).toNatClampNeg).length) < (if nI a < 0 then 0 else (an (nI a).toNatClampNeg).length)
          rw [e, if_neg (nI_pos (by omega)), if_neg hna, clp (by omega), clp (by omega), el]
          simp
  · rw [hc] at hp'
    exact ⟨fun _ => ⟨fun _ => hp', fun hx => absurd (by decide) hx⟩, fun hx => absurd (by decide) hx⟩
theorem op_as (v1 v2 : Int32) : OP (w_X10_as v1 v2) (w_X11_as v1 v2) := by
  intro μ h
  obtain ⟨n, kd, lt, hX, hM, hW⟩ := h.1.1
  have h10 := hX.2.1
  unfold w_X10_as w_X11_as q_X10_as_14 q_X11_as_17 w_X9_houses
  simp only [isSpot_eq, within_eq, isKind_eq, misKind_eq, xf0, mf0, xf2, mf2, xf5, mf5, pt_if, pt_if']
  cases hl : inB v1 0 9
  · exact ⟨by trivial, h.fnd0 (by omega)⟩
  · cases hk : inB v2 0 6
    · exact ⟨by trivial, h.fnd0 (by omega)⟩
    · obtain ⟨i, hi, rfl⟩ := inB_t (m := 9) (by decide) hl
      obtain ⟨q, hq, rfl⟩ := inB_t (m := 6) (by decide) hk
      simp only [if_true]
      have vi : vp_in (nI i) 10 := vp_in_nI (by omega) (by omega)
      refine spotOf_sp (by omega) _ ⟨by trivial, ?_⟩
      have e7 : μ (1 + 6) i = μ 50 i := (h.1.2.2.1 i (by omega)).1
      rw [e7, has_eq hX]
      refine pb_if' (fun hh => ⟨by trivial, ?_⟩) (fun hh => ⟨vi, ?_⟩)
      · obtain ⟨j, hj, ej⟩ := hasB_t (by omega) hh
        rw [ej]
        refine kindOf_sp hX hj _ ?_
        obtain ⟨⟨k, hk7, ek⟩, -⟩ := hW j hj
        rw [ek]
        refine isUnder_sp hk7 (by omega) _ _ ?_
        have mm : ∀ ν : qM, HM ν n kd lt → ν 50 i = nI j → (∀ ν', ν' = ν → (tb ((an k).contains q) = 0 → True ∧ True) ) → True := fun _ _ _ _ => trivial
        cases hc : (an k).contains q
        · refine ⟨fun _ => ⟨vi, ?_⟩, fun p => absurd rfl p⟩
          refine misHouse_sp (n := n) (kd := kd) (lt := lt) (by exact hM) _ _ ?_
          have e50 : (qu μ 33 2 (μ 33 2 + 1)) 50 (nI i).toNatClampNeg = nI j := by rw [clp (by omega)]; exact ej
          rw [e50, hasB_nI (by omega) hj]
          refine ⟨fun _ => ⟨vi, vp_in_nI (by omega) (by omega), ?_⟩, fun p => absurd p (by decide)⟩
          rw [clp (by omega)]
          have e47 : (qu μ 33 2 (μ 33 2 + 1)) 47 j = nI k := ((hM.arr hj).1).trans ek
          rw [e47]
          refine misUnder_sp hk7 (by omega) _ _ ?_
          rw [hc]
          exact ⟨fun _ => ⟨by trivial, h.fnd0 (by omega)⟩, fun p => absurd rfl p⟩
        · refine ⟨fun p => absurd p (by decide), fun _ => ⟨vi, ?_⟩⟩
          refine misHouse_sp (n := n) (kd := kd) (lt := lt) (by exact hM) _ _ ?_
          have e50 : μ 50 (nI i).toNatClampNeg = nI j := by rw [clp (by omega)]; exact ej
          rw [e50, hasB_nI (by omega) hj]
          refine ⟨fun _ => ⟨vi, vp_in_nI (by omega) (by omega), ?_⟩, fun p => absurd p (by decide)⟩
          rw [clp (by omega), (hM.arr hj).1, ek]
          refine misUnder_sp hk7 (by omega) _ _ ?_
          rw [hc]
          exact ⟨fun p => absurd p (by decide), fun _ => ⟨vi, by rw [clp (by omega), ej], h⟩⟩
      · refine misHouse_sp (n := n) (kd := kd) (lt := lt) (by exact hM) _ _ ?_
        have e50 : (qu μ 33 5 (μ 33 5 + 1)) 50 (nI i).toNatClampNeg = μ 50 i := by rw [clp (by omega)]; rfl
        rw [e50, hh]
        exact ⟨fun p => absurd rfl p, fun _ => ⟨by trivial, h.fnd0 (by omega)⟩⟩
/-! bits of small sets -/
theorem nI_or (a b : Nat) : nI a ||| nI b = nI (a ||| b) := by
  apply Int32.toBitVec_inj.mp
  rw [Int32.toBitVec_or]
  show BitVec.ofNat 32 a ||| BitVec.ofNat 32 b = BitVec.ofNat 32 (a ||| b)
  rw [BitVec.ofNat_or]
theorem shl_tab : ∀ n, n < 31 → (1 : Int32) <<< (nI n &&& 31) = nI (2 ^ n) := by decide +kernel
def setN (f : Nat → Bool) : Nat → Nat
  | 0 => 0
  | n + 1 => if f n then setN f n ||| 2 ^ n else setN f n
theorem setN_lt (f : Nat → Bool) (n : Nat) : setN f n < 2 ^ n := by
  induction n with
  | zero => exact Nat.one_pos
  | succ n ih =>
    have h2 : 2 ^ n < 2 ^ (n + 1) := Nat.pow_lt_pow_right (by omega) (by omega)
    rw [setN]
    split
    · exact Nat.or_lt_two_pow (by omega) h2
    · omega
theorem setI_N (f : Nat → Bool) {n : Nat} (hn : n ≤ 31) : setI f n = nI (setN f n) := by
  induction n with
  | zero => rfl
  | succ n ih =>
    rw [setI, setN, ih (by omega), shl_tab n (by omega), nI_or]
    split <;> rfl
def pcn : Nat → Nat → Nat
  | 0, _ => 0
  | f + 1, m => m % 2 + pcn f (m / 2)
def bcX (v0 : Int32) : Int32 :=
  let x9 := v0 - ((v0.toUInt32 >>> ((1 : Int32).toUInt32 &&& Int32.toUInt32 31)).toInt32 &&& 1431655765)
  let x23 := (x9 &&& 858993459) + ((x9.toUInt32 >>> ((2 : Int32).toUInt32 &&& Int32.toUInt32 31)).toInt32 &&& 858993459)
  let x33 := (x23 + (x23.toUInt32 >>> ((4 : Int32).toUInt32 &&& Int32.toUInt32 31)).toInt32) &&& 252645135
  let x47 := (x33 + (x33.toUInt32 >>> ((8 : Int32).toUInt32 &&& Int32.toUInt32 31)).toInt32) + ((x33 + (x33.toUInt32 >>> ((8 : Int32).toUInt32 &&& Int32.toUInt32 31)).toInt32).toUInt32 >>> ((16 : Int32).toUInt32 &&& Int32.toUInt32 31)).toInt32
  x47 &&& 63
theorem bcX_tab : ∀ m, m < 1024 → bcX (nI m) = nI (pcn 10 m) := by decide +kernel
theorem bitCount_sp {m : Nat} (hm : m < 1024) (post : Int32 → qM → Prop) (μ : qM) (hp' : post (nI (pcn 10 m)) μ) : w_J6_bitCount_0f7a4 (nI m) post μ := by
  unfold w_J6_bitCount_0f7a4
  intro x9 h9 x23 h23 x33 h33 x47 h47
  have e : x47 &&& 63 = bcX (nI m) := by
    rw [h47, h33, h23, h9]
    rfl
  rw [e, bcX_tab m hm]
  exact hp'
theorem bits_tab : ∀ l, l < 1024 → 0 < l → (nI l &&& (nI l - 1) = nI (l &&& (l - 1))) ∧ (l &&& (l - 1)) < l ∧ pcn 10 (l &&& (l - 1)) + 1 = pcn 10 l := by decide +kernel
theorem bits_sp {m : Nat} (hm : m < 1024) (post : Int32 → qM → Prop) (μ : qM) (hp' : post (nI (pcn 10 m)) μ) : w_X11_bits (nI m) post μ := by
  unfold w_X11_bits q_X11_bits_4
  refine qL2_rule (fun x y μ' => μ' = μ ∧ ∃ c l, x = nI c ∧ y = nI l ∧ l < 1024 ∧ c + pcn 10 l = pcn 10 m) (fun _ y _ => y.toNatClampNeg) ?_ _ _ _ ⟨rfl, 0, m, rfl, rfl, hm, Nat.zero_add _⟩
  rintro P x y μ' ⟨rfl, c, l, rfl, rfl, hl, hc⟩ hP
  refine ⟨fun hx => ?_, fun hx => ?_⟩
  · have : l ≤ 0 := pn_le (b := 0) (by omega) (by omega) hx
    have h0 : l = 0 := by omega
    subst h0
    have e : pcn 10 0 = 0 := by decide
    rw [e, Nat.add_zero] at hc
    rw [hc]; exact hp'
  · have hpos : 0 < l := pn_nle (a := l) (b := 0) (by omega) (by omega) hx
    obtain ⟨e1, e2, e3⟩ := bits_tab l hl hpos
    rw [e1, nI_1]
    refine hP _ _ _ ⟨rfl, c + 1, _, rfl, rfl, by omega, by omega⟩ ?_
    show (nI (l &&& (l - 1))).toNatClampNeg < (nI l).toNatClampNeg
    rw [clp (by omega), clp (by omega)]
    exact e2
