/-! the judge: huts put up one after another, as a sheet tells -/
def jk (n : Nat) (kd : Nat → Int32) : Nat → Nat → Int32
  | 0 => kd
  | j + 1 => upd (jk n kd j) (n + j) 0
def jl (n : Nat) (lt sh : Nat → Int32) : Nat → Nat → Int32
  | 0 => lt
  | j + 1 => upd (jl n lt sh j) (n + j) (sh j)
def jo (n : Nat) (kd lt sh : Nat → Int32) (j : Nat) : Bool := inB (sh j) 0 143 && fb (n + j) (jk n kd j) (jl n lt sh j) (sh j)
theorem jk_lt {n : Nat} {kd : Nat → Int32} {x : Nat} (hx : x < n) (j : Nat) : jk n kd j x = kd x := by
  induction j with
  | zero => rfl
  | succ j ih => rw [jk, pk_un (by omega)]; exact ih
theorem jl_lt {n : Nat} {lt sh : Nat → Int32} {x : Nat} (hx : x < n) (j : Nat) : jl n lt sh j x = lt x := by
  induction j with
  | zero => rfl
  | succ j ih => rw [jl, pk_un (by omega)]; exact ih
theorem xput16 {ν : qM} {n : Nat} {k l : Int32} : SA ν (qu (qu (qu ν (16 + 1) n k) (16 + 2) n l) 16 0 (nI n + 1)) := ((SA.qr rfl).trans (SA.qr rfl)).trans (SA.qr rfl)
theorem xjudge_sp {μ ν : qM} {i n m : Nat} {kd lt sh : Nat → Int32} (hi : i < 4) (hX : HX ν 16 n kd lt) (hS : SA μ ν) (hnm : n + m ≤ 10) (hm : μ (25 + 2 * i) 1 = nI m) (hsh : ∀ j, j < m → μ (26 + 2 * i) j = sh j) (post : Int32 → qM → Prop) (h1 : ∀ j, j < m → jo n kd lt sh j = false → (∀ x, x < j → jo n kd lt sh x = true) → ∀ μ', SA μ μ' → post (1 + nI j) μ') (h2 : (∀ x, x < m → jo n kd lt sh x = true) → ∀ μ', SA μ μ' → post 0 μ') : q_X10_judge_82 (nI i) post 0 ν := by
  have fix : ∀ z, 25 ≤ z → z ≤ 32 → ∀ μ', SA μ μ' → μ' z = μ z := fun z a b μ' g => g.1 z (by
    have : z = 25 ∨ z = 26 ∨ z = 27 ∨ z = 28 ∨ z = 29 ∨ z = 30 ∨ z = 31 ∨ z = 32 := by omega
    rcases this with rfl | rfl | rfl | rfl | rfl | rfl | rfl | rfl <;> rfl) (by omega) (by omega) (by omega)
  have vi : vp_in (nI i) 4 := vp_in_nI hi (by omega)
  unfold q_X10_judge_82 q_X10_judge_121 w_X6_size
  refine for1 m (fun j μ' => SA μ μ' ∧ HX μ' 16 (n + j) (jk n kd j) (jl n lt sh j) ∧ ∀ x, x < j → jo n kd lt sh x = true) ?_ 0 (Nat.zero_le _) ⟨hS, hX, fun _ q => absurd q (Nat.not_lt_zero _)⟩
  rintro P j μ' hj ⟨g, hX', hok⟩ hP
  rw [clp (by omega), fix (25 + 2 * i) (by omega) (by omega) μ' g, hm]
  refine ⟨fun hx => ?_, fun hx => ?_⟩
  · have : m ≤ j := pn_le (by omega) (by omega) hx
    exact h2 (fun x hx => hok x (by omega)) μ' g
  · have hlt : j < m := pn_nle (by omega) (by omega) hx
    refine get_sp (m := m) (by rw [fix (25 + 2 * i) (by omega) (by omega) μ' g]; exact hm) (by omega) hlt _ ?_
    rw [show 25 + 2 * i + 1 = 26 + 2 * i by omega, fix (26 + 2 * i) (by omega) (by omega) μ' g, hsh j hlt]
    have no : ∀ μ2, SA μ μ2 → jo n kd lt sh j = false → post (1 + nI j) μ2 := fun μ2 g2 hb => h1 j hlt hb hok μ2 g2
    refine ⟨fun q => no _ g ?_, fun q1 => ⟨fun q2 => no _ g ?_, fun q2 => ?_⟩⟩
    · have : inB (sh j) 0 143 = false := decide_eq_false (fun p => p.1 q)
      rw [jo, this, Bool.false_and]
    · have : inB (sh j) 0 143 = false := decide_eq_false (fun p => p.2 (by rw [← le_lt (a := 144) (b := 143) (by decide)]; exact q2))
      rw [jo, this, Bool.false_and]
    · have hin : inB (sh j) 0 143 = true := decide_eq_true ⟨q1, by rw [← le_lt (a := 144) (b := 143) (by decide)]; exact q2⟩
      refine isFree_sp hX' _ _ (fun f => pb_if' (fun hb => ?_) (fun hb => ?_))
      · have hX2 := hX'.fars f
        refine put_sp hX2 (by omega) _ _ _ ?_
        refine hP _ hlt ⟨(g.trans (SA.qr (i := 16 + 3) (f := f) rfl)).trans xput16, ?_, fun x hx => ?_⟩
        · exact hX2.put (by omega) 0 (sh j)
        · by_cases e : x = j
          · subst e; rw [jo, hin, hb]; rfl
          · exact hok x (by omega)
      · exact no _ (g.trans (SA.qr (i := 16 + 3) (f := f) rfl)) (by rw [jo, hb, Bool.and_false])
theorem mjudge_sp {μ : qM} {i n m : Nat} {kd lt sh : Nat → Int32} (hi : i < 4) (hM : HM μ n kd lt) (hnm : n + m ≤ 10) (hm : μ 63 i = nI m) (hsh : ∀ j, j < m → μ 64 (40 * i + j) = sh j) (post : Int32 → qM → Prop) (h1 : ∀ j, j < m → jo n kd lt sh j = false → (∀ x, x < j → jo n kd lt sh x = true) → ∀ μ', SA μ μ' → post (1 + nI j) μ') (h2 : (∀ x, x < m → jo n kd lt sh x = true) → ∀ μ', SA μ μ' → post 0 μ') : q_X11_judge_47 (nI i) (μ 46 0) post 0 μ := by
  have vi : vp_in (nI i) 4 := vp_in_nI hi (by omega)
  have ci : (nI i).toNatClampNeg = i := clp (by omega)
  have e40 : ∀ x y : Nat, (40 : Int32) * nI x + nI y = nI (40 * x + y) := fun x y => by rw [show (40 : Int32) = nI 40 from rfl, pk_mul, nI_add]
  rw [hM.1]
  unfold q_X11_judge_47 q_X11_judge_122
  refine for1 m (fun j μ' => ((∀ z, z ≠ 46 → z ≠ 47 → z ≠ 48 → z ≠ 57 → μ' z = μ z) ∧ ∀ k, k ≠ 0 → μ' 46 k = μ 46 k) ∧ HM μ' (n + j) (jk n kd j) (jl n lt sh j) ∧ ∀ x, x < j → jo n kd lt sh x = true) ?_ 0 (Nat.zero_le _) ⟨⟨fun _ _ _ _ _ => rfl, fun _ _ => rfl⟩, hM, fun _ q => absurd q (Nat.not_lt_zero _)⟩
  rintro P j μ' hj ⟨⟨fz, fk⟩, hM', hok⟩ hP
  have e63 : ∀ μ2 : qM, (∀ z, z ≠ 46 → z ≠ 47 → z ≠ 48 → z ≠ 57 → μ2 z = μ z) → (qu μ2 46 0 (nI n)) 63 i = nI m := fun μ2 f2 => by
    rw [qu_n (by omega), f2 63 (by omega) (by omega) (by omega) (by omega)]; exact hm
  have fin : ∀ μ2 : qM, (∀ z, z ≠ 46 → z ≠ 47 → z ≠ 48 → z ≠ 57 → μ2 z = μ z) → (∀ k, k ≠ 0 → μ2 46 k = μ 46 k) → HM μ2 (n + j) (jk n kd j) (jl n lt sh j) → SA μ (qu μ2 46 0 (nI n)) := fun μ2 f2 k2 hM2 => by
    refine ⟨fun z a b c d => ?_, fun k _ => ?_, fun x hx => ?_⟩
    · have z57 : z ≠ 57 := fun q => by subst q; exact absurd a (by decide)
      rw [qu_n b]; exact f2 z b c d z57
    · rw [qu_s]
      by_cases e : k = 0
      · subst e; rw [pk_us]; exact hM.1.symm
      · rw [pk_un e]; exact k2 k e
    · rw [hM.1, clp (by omega)] at hx
      show μ2 47 x = μ 47 x ∧ μ2 48 x = μ 48 x
      have a := hM2.2.2 x (by omega)
      have b := hM.2.2 x hx
      rw [a.1, a.2, b.1, b.2, jk_lt hx, jl_lt hx]
      exact ⟨rfl, rfl⟩
  rw [ci, fz 63 (by omega) (by omega) (by omega) (by omega), hm, e63 μ' fz]
  have g := fin μ' fz fk hM'
  refine ⟨vi, fun hx => ?_, fun hx => ?_⟩
  · have : m ≤ j := pn_le (by omega) (by omega) hx
    have hjm : j = m := by omega
    subst hjm
    exact ⟨vi, fun q => absurd rfl q, fun _ => h2 hok _ g⟩
  · have hlt : j < m := pn_nle (by omega) (by omega) hx
    have v160 : vp_in (nI (40 * i + j)) 160 := vp_in_nI (by omega) (by omega)
    have nj : ¬ nI j = nI m := fun q => by have := pn_eq (by omega) (by omega) q; omega
    rw [e40, clp (by omega), fz 64 (by omega) (by omega) (by omega) (by omega), hsh j hlt, within_eq]
    refine ⟨v160, pb_if (fun hb => ⟨vi, fun _ => h1 j hlt (by rw [jo, hb, Bool.false_and]) hok _ g, fun q => absurd (by rw [e63 μ' fz] at q; exact q) nj⟩) (fun hb => ⟨v160, ?_⟩)⟩
    rw [fz 64 (by omega) (by omega) (by omega) (by omega), hsh j hlt]
    refine misFree_sp hM' _ _ (fun f => pb_if (fun hf => ?_) (fun hf => ⟨v160, ?_⟩))
    · have f2 : ∀ z, z ≠ 46 → z ≠ 47 → z ≠ 48 → z ≠ 57 → (qr μ' 57 f) z = μ z := fun z a b c d => by rw [qr_n d]; exact fz z a b c d
      rw [e63 _ f2]
      exact ⟨vi, fun _ => h1 j hlt (by rw [jo, hf, Bool.and_false]) hok _ (fin _ f2 fk (hM'.away f)), fun q => absurd q nj⟩
    · have e64 : (qr μ' 57 f) 64 (40 * i + j) = sh j := by
        rw [qr_n (by omega), fz 64 (by omega) (by omega) (by omega) (by omega)]; exact hsh j hlt
      rw [e64]
      refine mput_sp (hM'.away f) (by omega) _ _ _ ?_
      refine hP _ hlt ⟨⟨fun z a b c d => ?_, fun k hk => ?_⟩, (hM'.away f).put (by omega) 0 (sh j), fun x hx => ?_⟩
      · rw [qu_n a, qu_n c, qu_n b, qr_n d]; exact fz z a b c d
      · show upd (μ' 46) 0 _ k = μ 46 k
        rw [pk_un hk]; exact fk k hk
      · by_cases e : x = j
        · subst e; rw [jo, hb, hf]; rfl
        · exact hok x (by omega)
theorem op_judge (v : Int32) : OP (w_X10_judge v) (w_X11_judge v) := by
  intro μ h
  obtain ⟨n, kd, lt, hX, hM, hW⟩ := h.1.1
  have h10 := hX.2.1
  unfold w_X10_judge w_X11_judge w_X9_houses w_X1_size w_X6_size
  simp only [sheetIf, isMissing_eq, xf0, xf5, xf6, mf6, pt_if, pt_if']
  cases hs : inB v 0 3
  · simp only [Bool.false_eq_true, if_false]
    refine lacks_sp _ _ (fun _ => ⟨fun q => absurd q (by decide), fun _ => ?_⟩) (fun i hi e => ?_)
    · rw [mf0]; exact ⟨by trivial, h.fnd0 (by omega)⟩
    · rw [e] at hs
      have : inB (nI i) 0 3 = true := decide_eq_true ⟨nI_pos (by omega), fun q => by have := pn_lt (a := 3) (b := i) (by omega) (by omega) q; omega⟩
      rw [hs] at this; cases this
  · obtain ⟨i, hi, rfl⟩ := inB_t (m := 3) (by decide) hs
    have vi : vp_in (nI i) 4 := vp_in_nI (by omega) (by omega)
    obtain ⟨g1, g2, ⟨m, hm, g3, g3'⟩, g4⟩ := h.1.2.2.2.2.2.2 i (by omega)
    have ci : (nI i).toNatClampNeg = i := clp (by omega)
    simp only [if_true, ci]
    refine ⟨vi, ?_⟩
    have lk : ∀ (ν : qM) (post : Int32 → qM → Prop), ((ν 62 i = 0 → post 5 ν) ∧ (¬ ν 62 i = 0 → post (-1) ν)) → w_X11_lacks (nI i) post ν := fun ν post hp => lacks_sp _ _ (fun q => by rw [hs] at q; cases q) (fun i' hi' e => by
      have : i = i' := pn_eq (by omega) (by omega) e
      subst this; exact hp)
    by_cases hz : μ 62 i = 0
    · have hz' : (μ (25 + 2 * i) 0 == 0) = true := by rw [g1]; simpa using hz
      rw [hz']
      simp only [if_true]
      refine lk _ _ ⟨fun _ => ⟨fun q => absurd q (by decide), fun _ => ?_⟩, fun q => absurd hz q⟩
      rw [mf5]; exact ⟨rfl, h.fnd0 (by omega)⟩
    · have hz' : (μ (25 + 2 * i) 0 == 0) = false := by rw [g1]; simpa using hz
      rw [hz']
      simp only [Bool.false_eq_true, if_false]
      rw [g3, hX.1, nI_add]
      refine ⟨by trivial, ?_⟩
      by_cases hnm : n + m ≤ 10
      · refine ⟨fun _ => ⟨by trivial, by trivial, ?_⟩, fun q => absurd (nI_le (b := 10) hnm (by omega)) q⟩
        refine becomeAs_sp hX (by omega) _ (fun f g hfg => ?_)
        have hX16 := hX.copy (o := 16) hfg
        have cont : ∀ (r : Int32) (μ' : qM), SA μ μ' → (∀ μ2, (∀ j, j < m → jo n kd lt (μ (26 + 2 * i)) j = false → (∀ x, x < j → jo n kd lt (μ (26 + 2 * i)) x = true) → SA μ' μ2 → r = 1 + nI j) ∧ ((∀ x, x < m → jo n kd lt (μ (26 + 2 * i)) x = true) → SA μ' μ2 → r = 0)) → w_X11_lacks (nI i) (fun r2 μ2 => ((r2 < 0 → (vp_in (nI i) 4 ∧ (((μ2 46 0) + (μ2 63 i) ≤ (10 : Int32) → q_X11_judge_47 (nI i) (μ2 46 0) (fun r' μ3 => r = r' ∧ RI μ3) (0 : Int32) μ2) ∧ (¬ ((μ2 46 0) + (μ2 63 i)) ≤ (10 : Int32) → (r = -1000007 ∧ RI (qu μ2 56 6 (μ2 56 6 + 1))))))) ∧ (¬ r2 < 0 → w_X11_finding r2 (fun r12 μ12 => r = r12 ∧ RI μ12) μ2))) μ' := fun r μ' gS hr => by
          have e62 : μ' 62 = μ 62 := gS.1 62 rfl (by decide) (by decide) (by decide)
          have e63 : μ' 63 = μ 63 := gS.1 63 rfl (by decide) (by decide) (by decide)
          have e64 : μ' 64 = μ 64 := gS.1 64 rfl (by decide) (by decide) (by decide)
          have hM' := gS.hm hM
          refine lk _ _ ⟨fun q => absurd (by rw [e62] at q; exact q) hz, fun _ => ⟨fun _ => ⟨vi, ?_⟩, fun q => absurd (by decide) q⟩⟩
          rw [e63, g3', hM'.1, nI_add]
          refine ⟨fun _ => ?_, fun q => absurd (nI_le (b := 10) hnm (by omega)) q⟩
          have := mjudge_sp (μ := μ') (i := i) (sh := μ (26 + 2 * i)) (by omega) hM' hnm (by rw [e63]; exact g3') (fun j hj => by rw [e64]; exact (g4 j (by omega)).symm) (fun r' μ3 => r = r' ∧ RI μ3) (fun j a b c μ2 g2 => ⟨(hr μ2).1 j a b c g2, (h.sa gS).sa g2⟩) (fun a μ2 g2 => ⟨(hr μ2).2 a g2, (h.sa gS).sa g2⟩)
          rw [hM'.1] at this
          exact this
        refine xjudge_sp (μ := μ) (i := i) (n := n) (m := m) (kd := kd) (lt := lt) (sh := μ (26 + 2 * i)) (by omega) hX16 sa_copy16 hnm g3 (fun _ _ => rfl) _ (fun j a b c μ' gS => ?_) (fun a μ' gS => ?_)
        · refine cont _ _ gS (fun μ2 => ⟨fun j' a' b' c' _ => ?_, fun a' _ => ?_⟩)
          · rcases Nat.lt_trichotomy j j' with q | q | q
            · have := c' j q; rw [b] at this; cases this
            · rw [q]
            · have := c j' q; rw [b'] at this; cases this
          · have := a' j a; rw [b] at this; cases this
        · refine cont _ _ gS (fun μ2 => ⟨fun j' a' b' c' _ => ?_, fun a' _ => rfl⟩)
          have := a j' a'; rw [b'] at this; cases this
      · refine ⟨fun q => absurd (pn_le (b := 10) (by omega) (by omega) q) hnm, fun _ => ?_⟩
        refine lk _ _ ⟨fun q => absurd q hz, fun _ => ⟨fun _ => ⟨vi, ?_⟩, fun q => absurd (by decide) q⟩⟩
        have e1 : (qu μ 33 6 (μ 33 6 + 1)) 46 0 = nI n := hM.1
        have e2 : (qu μ 33 6 (μ 33 6 + 1)) 63 i = nI m := g3'
        rw [e1, e2, nI_add]
        exact ⟨fun q => absurd (pn_le (b := 10) (by omega) (by omega) q) hnm, fun _ => ⟨by trivial, h.fnd0 (by omega)⟩⟩
