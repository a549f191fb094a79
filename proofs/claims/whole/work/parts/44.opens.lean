/-! one more house -/
theorem qu_ss {μ : qM} {i k : Nat} {x : Int32} : qu μ i k x i k = x := by rw [qu_s, pk_us]
theorem hp_put {n : Nat} {kd lt : Nat → Int32} {k l U : Int32} : hp (ev (upd kd n k) (upd lt n l) U) (n + 1) = (hp (ev kd lt U) n || evW n kd lt k l U) := by
  rw [Bool.eq_iff_iff, Bool.or_eq_true]
  have e1 : ∀ a, a < n → upd kd n k a = kd a ∧ upd lt n l a = lt a := fun a ha => ⟨pk_un (by omega), pk_un (by omega)⟩
  have e2 : upd kd n k n = k ∧ upd lt n l n = l := ⟨pk_us, pk_us⟩
  constructor
  · intro h
    obtain ⟨a, b, hab, hb, he⟩ := hp_iff.mp h
    simp only [ev, prB, Bool.and_eq_true, beq_iff_eq] at he
    rw [(e1 a (by omega)).1, (e1 a (by omega)).2] at he
    by_cases hbn : b < n
    · refine Or.inl (hp_iff.mpr ⟨a, b, hab, hbn, ?_⟩)
      simp only [ev, prB, Bool.and_eq_true, beq_iff_eq]
      rw [(e1 b hbn).1, (e1 b hbn).2] at he
      exact he
    · have : b = n := by omega
      subst this
      rw [e2.1, e2.2] at he
      exact Or.inr (evW_iff.mpr ⟨a, hab, he.1, he.2.1, he.2.2⟩)
  · rintro (h | h)
    · obtain ⟨a, b, hab, hb, he⟩ := hp_iff.mp h
      refine hp_iff.mpr ⟨a, b, hab, by omega, ?_⟩
      simp only [ev, prB] at he ⊢
      rw [(e1 a (by omega)).1, (e1 a (by omega)).2, (e1 b hb).1, (e1 b hb).2]
      exact he
    · obtain ⟨a, ha, h1, h2, h3⟩ := evW_iff.mp h
      refine hp_iff.mpr ⟨a, n, ha, by omega, ?_⟩
      simp only [ev, prB, Bool.and_eq_true, beq_iff_eq]
      rw [(e1 a ha).1, (e1 a ha).2, e2.1, e2.2]
      exact ⟨h1, h2, h3⟩
theorem stn_congr {lt lt' : Nat → Int32} {U : Int32} {n : Nat} (h : ∀ j, j < n → lt j = lt' j) : stn lt U n = stn lt' U n := by
  induction n with
  | zero => rfl
  | succ n ih => rw [stn, stn, ih (fun j hj => h j (by omega)), h n (by omega)]
theorem stn_put {n : Nat} {lt : Nat → Int32} {l U : Int32} : stn (upd lt n l) U (n + 1) = (stn lt U n || (l == U)) := by
  rw [stn, pk_us, stn_congr (fun j hj => pk_un (by omega))]
theorem fb_put {n : Nat} {kd lt : Nat → Int32} {k : Int32} {h v : Nat} (hh : h < 144) (hv : v < 144) : fb (n + 1) (upd kd n k) (upd lt n (nI h)) (nI v) = (!(v == h) && (fb n kd lt (nI v) || (!stn lt (nI v) n && evW n kd lt k (nI h) (nI v)))) := by
  have e : (nI h == nI v) = (v == h) := by
    rw [Bool.eq_iff_iff, beq_iff_eq, beq_iff_eq]
    exact ⟨fun q => (pn_eq (by omega) (by omega) q).symm, fun q => by rw [q]⟩
  rw [fb, fb, hp_put, stn_put, e]
  cases stn lt (nI v) n <;> cases hp (ev kd lt (nI v)) n <;> cases evW n kd lt k (nI h) (nI v) <;> cases (v == h) <;> rfl
theorem SA.unput {μ ν : qM} {n : Nat} {kd lt : Nat → Int32} {k l : Int32} (hM : HM μ n kd lt) (hn : n < 154) (g : SA (qu (qu (qu μ 47 n k) 48 n l) 46 0 (nI n + 1)) ν) : SA μ (qu ν 46 0 (ν 46 0 - 1)) := by
  obtain ⟨a, b, c⟩ := g
  have e0 : ν 46 0 = nI (n + 1) := (b 0 rfl).trans (nI_1 n)
  refine ⟨fun i h1 h2 h3 h4 => ?_, fun q hq => ?_, fun j hj => ?_⟩
  · rw [qu_n h2, a i h1 h2 h3 h4, qu_n h2, qu_n h4, qu_n h3]
  · rw [qu_s]
    by_cases e : q = 0
    · subst e; rw [pk_us, e0, nI_pred, hM.1]
    · rw [pk_un e, b q hq]
      show upd (μ 46) 0 _ q = μ 46 q
      exact pk_un e
  · rw [hM.1, clp (by omega)] at hj
    have c' := c j (by
      show j < (nI n + 1).toNatClampNeg
      rw [nI_1, clp (by omega)]; omega)
    show ν 47 j = μ 47 j ∧ ν 48 j = μ 48 j
    rw [c'.1, c'.2]
    show upd (μ 47) n k j = _ ∧ upd (μ 48) n l j = _
    exact ⟨pk_un (by omega), pk_un (by omega)⟩
/-! which lot opens most -/
def cw (n : Nat) (kd lt : Nat → Int32) (k : Int32) (h : Nat) : Nat := cntB (fun v => fb (n + 1) (upd kd n k) (upd lt n (nI h)) (nI v)) 144
def os (n : Nat) (kd lt : Nat → Int32) (k : Int32) : Nat → Int32 × Int32
  | 0 => (-1, -1)
  | j + 1 => if fb n kd lt (nI j) = true ∧ ¬ nI (cw n kd lt k j) ≤ (os n kd lt k j).2 then (nI j, nI (cw n kd lt k j)) else os n kd lt k j
theorem os_ge {n : Nat} {kd lt : Nat → Int32} {k : Int32} (j : Nat) : -1 ≤ (os n kd lt k j).2 := by
  induction j with
  | zero => show (-1 : Int32) ≤ -1; decide
  | succ j ih =>
    rw [os]
    split
    · show -1 ≤ nI (cw n kd lt k j)
      have h1 : cw n kd lt k j ≤ 144 := cntB_le
      rw [Int32.le_iff_toInt_le, nI_toInt (by omega), show (-1 : Int32).toInt = -1 by decide]
      omega
    · exact ih
theorem os_some {n : Nat} {kd lt : Nat → Int32} {k : Int32} {N : Nat} (hN : N ≤ 144) : ((∀ v, v < N → fb n kd lt (nI v) = false) ∧ os n kd lt k N = (-1, -1)) ∨ ((∃ v, v < N ∧ fb n kd lt (nI v) = true) ∧ ∃ v, v < 144 ∧ (os n kd lt k N).1 = nI v) := by
  induction N with
  | zero => exact Or.inl ⟨fun v hv => absurd hv (Nat.not_lt_zero _), rfl⟩
  | succ N ih =>
    rw [os]
    rcases ih (by omega) with ⟨h1, h2⟩ | ⟨⟨v, hv, hf⟩, u, hu, he⟩
    · cases hf : fb n kd lt (nI N)
      · refine Or.inl ⟨fun v hv => ?_, ?_⟩
        · by_cases e : v = N
          · subst e; exact hf
          · exact h1 v (by omega)
        · rw [if_neg (fun q => by cases q.1)]; exact h2
      · refine Or.inr ⟨⟨N, by omega, hf⟩, N, by omega, ?_⟩
        have hc : ¬ nI (cw n kd lt k N) ≤ (os n kd lt k N).2 := by
          rw [h2]
          intro q
          have h1 : cw n kd lt k N ≤ 144 := cntB_le
          have := Int32.le_iff_toInt_le.mp q
          rw [nI_toInt (by omega)] at this
          have e : ((-1, -1) : Int32 × Int32).2.toInt = -1 := by decide
          omega
        rw [if_pos ⟨rfl, hc⟩]
    · refine Or.inr ⟨⟨v, by omega, hf⟩, ?_⟩
      split
      · exact ⟨N, by omega, rfl⟩
      · exact ⟨u, hu, he⟩
def YK (a b c d : Nat) (μ μ' : qM) : Prop := ∀ i, i ≠ a → i ≠ b → i ≠ c → i ≠ d → μ' i = μ i
theorem YK.trans {a b c d : Nat} {μ μ1 μ2 : qM} (h : YK a b c d μ μ1) (g : YK a b c d μ1 μ2) : YK a b c d μ μ2 := fun i x y z w => (g i x y z w).trans (h i x y z w)
theorem YK.sa {a b c d : Nat} {μ μ' : qM} (g : YK a b c d μ μ') (h : (scrB a && (scrB b && (scrB c && scrB d))) = true) : SA μ μ' := by
  simp only [Bool.and_eq_true] at h
  obtain ⟨ha, hb, hc, hd⟩ := h
  have ne : ∀ i, scrB i = false → μ' i = μ i := fun i hi => g i (fun e => by subst e; rw [hi] at ha; cases ha) (fun e => by subst e; rw [hi] at hb; cases hb) (fun e => by subst e; rw [hi] at hc; cases hc) (fun e => by subst e; rw [hi] at hd; cases hd)
  exact ⟨fun i q _ _ _ => ne i q, fun k _ => by rw [ne 46 rfl], fun j _ => ⟨by rw [ne 47 rfl], by rw [ne 48 rfl]⟩⟩
theorem YK.hx {b c d : Nat} {μ μ' : qM} {n : Nat} {kd lt : Nat → Int32} (g : YK 5 b c d μ μ') (hb : 5 < b) (hc : 5 < c) (hd : 5 < d) (h : HX μ 2 n kd lt) : HX μ' 2 n kd lt := by
  refine ⟨by rw [g 2 (by omega) (by omega) (by omega) (by omega)]; exact h.1, h.2.1, fun j hj => ?_⟩
  rw [g (2 + 1) (by omega) (by omega) (by omega) (by omega), g (2 + 2) (by omega) (by omega) (by omega) (by omega)]; exact h.2.2 j hj
theorem countWith_sp {μ : qM} {n : Nat} {kd lt : Nat → Int32} {k : Int32} {h : Nat} (hX : HX μ 2 n kd lt) (hh : h < 144) (m1 : ∀ v, v < 144 → μ 41 v = tb (fb n kd lt (nI v))) (m2 : ∀ v, v < 144 → μ 42 v = tb (stn lt (nI v) n)) (post : Int32 → qM → Prop) (hp' : post (nI (cw n kd lt k h)) μ) : w_X4_countWith 40 2 k (nI h) post μ := by
  unfold w_X4_countWith q_X4_countWith_6 q_X4_countWith_51 q_X4_countWith_54
  refine for2 144 (fun j x μ' => μ' = μ ∧ x = nI (cntB (fun v => fb (n + 1) (upd kd n k) (upd lt n (nI h)) (nI v)) j)) ?_ 0 (Nat.zero_le _) ⟨rfl, rfl⟩
  rintro P j x μ' hjn ⟨rfl, rfl⟩ hP
  refine ⟨fun hx => ?_, fun hx => ?_⟩
  · have : 144 ≤ j := pn_le (by omega) (by omega) hx
    rw [show j = 144 by omega]; exact hp'
  · have hlt : j < 144 := pn_nle (by omega) (by omega) hx
    have go : ∀ b : Bool, fb (n + 1) (upd kd n k) (upd lt n (nI h)) (nI j) = b → P (nI (cntB (fun v => fb (n + 1) (upd kd n k) (upd lt n (nI h)) (nI v)) j) + (if b then 1 else 0)) (nI j + 1) μ' := fun b hb => hP _ _ hlt ⟨rfl, by
      rw [cntB, hb]
      cases b
      · exact Int32.add_zero _
      · exact nI_1 _⟩
    have no : fb (n + 1) (upd kd n k) (upd lt n (nI h)) (nI j) = false → P (nI (cntB (fun v => fb (n + 1) (upd kd n k) (upd lt n (nI h)) (nI v)) j)) (nI j + 1) μ' := fun hb => by
      have := go false hb
      have e0 : ∀ x : Int32, x + (if (false : Bool) = true then 1 else 0) = x := fun x => Int32.add_zero _
      rw [e0] at this; exact this
    have yes : fb (n + 1) (upd kd n k) (upd lt n (nI h)) (nI j) = true → P (nI (cntB (fun v => fb (n + 1) (upd kd n k) (upd lt n (nI h)) (nI v)) j) + 1) (nI j + 1) μ' := fun hb => go true hb
    rw [fb_put hh hlt] at no yes
    rw [clp (by omega)]
    have e1 : μ' (40 + 1) j = tb (fb n kd lt (nI j)) := m1 j hlt
    have e2 : μ' (40 + 2) j = tb (stn lt (nI j) n) := m2 j hlt
    have vj : vp_in (nI j) 144 := vp_in_nI (by omega) (by omega)
    refine ⟨fun q => no ?_, fun q => ⟨vj, ?_⟩⟩
    · have := pn_eq (by omega) (by omega) q
      subst this; simp
    · have hjh : (j == h) = false := by
        rw [beq_eq_false_iff_ne]; intro e; exact q (by rw [e])
      rw [hjh] at no yes
      rw [e1, e2]
      refine pb_if' (fun hb => yes (by rw [hb]; rfl)) (fun hb => ⟨vj, pb_if' (fun hs => no (by rw [hb, hs]; rfl)) (fun hs => ?_)⟩)
      refine isEvenWith_sp hX _ _ _ _ (pb_if (fun he => no (by rw [hb, hs, he]; rfl)) (fun he => yes (by rw [hb, hs, he]; rfl)))
theorem find4_sp {μ : qM} {n : Nat} {kd lt : Nat → Int32} {k : Int32} (hX : HX μ 2 n kd lt) (post : Int32 → qM → Prop) (hp' : ∀ μ', YK 5 40 41 42 μ μ' → μ' 40 2 = (os n kd lt k 144).2 → post (os n kd lt k 144).1 μ') : w_X4_find 40 2 k post μ := by
  unfold w_X4_find q_X4_find_2
  refine for1 144 (fun j μ' => YK 5 40 41 42 μ μ' ∧ (∀ v, v < j → μ' 41 v = tb (fb n kd lt (nI v))) ∧ ∀ v, v < j → μ' 42 v = tb (stn lt (nI v) n)) ?_ 0 (Nat.zero_le _) ⟨fun _ _ _ _ _ => rfl, fun _ q => absurd q (Nat.not_lt_zero _), fun _ q => absurd q (Nat.not_lt_zero _)⟩
  rintro P j μ' hjn ⟨g, m1, m2⟩ hP
  refine ⟨fun hx => ?_, fun hx => ?_⟩
  · have : 144 ≤ j := pn_le (by omega) (by omega) hx
    have hj : j = 144 := by omega
    subst hj
    unfold q_X4_find_47 q_X4_find_77 q_X4_find_97
    refine for2 144 (fun j x μ' => YK 5 40 41 42 μ μ' ∧ (∀ v, v < 144 → μ' 41 v = tb (fb n kd lt (nI v))) ∧ (∀ v, v < 144 → μ' 42 v = tb (stn lt (nI v) n)) ∧ x = (os n kd lt k j).1 ∧ μ' 40 2 = (os n kd lt k j).2) ?_ 0 (Nat.zero_le _) ⟨g.trans (fun i _ b _ _ => qu_n b), m1, m2, rfl, qu_ss⟩
    rintro P j x μ' hjn ⟨g, m1, m2, rfl, hb⟩ hP
    refine ⟨fun hx => ?_, fun hx => ?_⟩
    · have : 144 ≤ j := pn_le (by omega) (by omega) hx
      have hj : j = 144 := by omega
      subst hj
      exact hp' μ' g hb
    · have hlt : j < 144 := pn_nle (by omega) (by omega) hx
      have vj : vp_in (nI j) 144 := vp_in_nI (by omega) (by omega)
      rw [clp (by omega)]
      have e1 : μ' (40 + 1) j = tb (fb n kd lt (nI j)) := m1 j hlt
      rw [e1, hb]
      refine ⟨vj, pb_if (fun hf => ⟨fun _ => ?_, fun q => absurd (os_ge j) q⟩) (fun hf => ?_)⟩
      · have e : os n kd lt k (j + 1) = os n kd lt k j := by rw [os, if_neg (fun q => by rw [hf] at q; cases q.1)]
        exact hP _ _ hlt ⟨g, m1, m2, by rw [e], by rw [e]; exact hb⟩
      · refine countWith_sp (g.hx (by omega) (by omega) (by omega) hX) hlt m1 m2 _ ?_
        rw [hb]
        refine ⟨fun q => ?_, fun q => ?_⟩
        · have e : os n kd lt k (j + 1) = os n kd lt k j := by rw [os, if_neg (fun p => p.2 q)]
          exact hP _ _ hlt ⟨g, m1, m2, by rw [e], by rw [e]; exact hb⟩
        · have e : os n kd lt k (j + 1) = (nI j, nI (cw n kd lt k j)) := by rw [os, if_pos ⟨hf, q⟩]
          exact hP _ _ hlt ⟨g.trans (fun i _ b _ _ => qu_n b), m1, m2, by rw [e], by rw [e]; exact qu_ss⟩
  · have hlt : j < 144 := pn_nle (by omega) (by omega) hx
    have vj : vp_in (nI j) 144 := vp_in_nI (by omega) (by omega)
    refine isFree_sp (g.hx (by omega) (by omega) (by omega) hX) _ _ (fun f => ⟨vj, tb_01 _, ?_⟩)
    rw [clp (by omega)]
    have g1 : YK 5 40 41 42 μ (qu (qr μ' (2 + 3) f) (40 + 1) j (tb (fb n kd lt (nI j)))) := g.trans (fun i a _ c _ => by rw [qu_n c, qr_n a])
    refine stands_sp (g1.hx (by omega) (by omega) (by omega) hX) _ _ ⟨vj, tb_01 _, ?_⟩
    refine hP _ hlt ⟨g1.trans (fun i _ _ _ d => qu_n d), fun v hv => ?_, fun v hv => ?_⟩
    · show upd (μ' 41) j _ v = _
      by_cases e : v = j
      · subst e; exact pk_us
      · rw [pk_un e]; exact m1 v (by omega)
    · show upd (μ' 42) j _ v = _
      by_cases e : v = j
      · subst e; exact pk_us
      · rw [pk_un e]; exact m2 v (by omega)
theorem mopens_sp {μ : qM} {n : Nat} {kd lt : Nat → Int32} {k : Int32} (hM : HM μ n kd lt) (hn : n < 154) (post : Int32 → qM → Prop) (hp' : ∀ μ', SA μ μ' → μ' 46 25 = (os n kd lt k 144).2 → post (os n kd lt k 144).1 μ') : w_X11_opensFor k post μ := by
  unfold w_X11_opensFor q_X11_opensFor_9 q_X11_opensFor_63
  have g0 : SA μ (qu μ 46 25 (-1)) := ⟨fun i _ b _ _ => qu_n b, fun q hq => by
    rw [qu_s]
    exact pk_un (fun e => by subst e; exact absurd hq (by decide)), fun _ _ => ⟨rfl, rfl⟩⟩
  refine for2 144 (fun j x μ' => SA μ μ' ∧ x = (os n kd lt k j).1 ∧ μ' 46 25 = (os n kd lt k j).2) ?_ 0 (Nat.zero_le _) ⟨g0, rfl, qu_ss⟩
  rintro P j x μ' hjn ⟨g, rfl, hb⟩ hP
  refine ⟨fun hx => ?_, fun hx => ?_⟩
  · have : 144 ≤ j := pn_le (by omega) (by omega) hx
    have hj : j = 144 := by omega
    subst hj
    exact hp' μ' g hb
  · have hlt : j < 144 := pn_nle (by omega) (by omega) hx
    refine misFree_sp (g.hm hM) _ _ (fun f => pb_if (fun hf => ?_) (fun hf => ?_))
    · have e : os n kd lt k (j + 1) = os n kd lt k j := by rw [os, if_neg (fun q => by rw [hf] at q; cases q.1)]
      exact hP _ _ hlt ⟨g.trans (SA.qr rfl), by rw [e], by rw [e]; exact hb⟩
    · have g1 : SA μ (qr μ' 57 f) := g.trans (SA.qr rfl)
      have hM1 := g1.hm hM
      refine mput_sp hM1 hn _ _ _ ?_
      have hM2 := hM1.put hn k (nI j)
      refine mfreeLots_sp hM2 _ (fun f2 => ?_)
      have g2 := SA.unput (k := k) (l := nI j) hM1 hn (SA.qr (i := 57) (f := f2) rfl)
      have b2 : (qu (qr (qu (qu (qu (qr μ' 57 f) 47 n k) 48 n (nI j)) 46 0 (nI n + 1)) 57 f2) 46 0 ((qr (qu (qu (qu (qr μ' 57 f) 47 n k) 48 n (nI j)) 46 0 (nI n + 1)) 57 f2) 46 0 - 1)) 46 25 = (os n kd lt k j).2 := hb
      generalize (qu (qr (qu (qu (qu (qr μ' 57 f) 47 n k) 48 n (nI j)) 46 0 (nI n + 1)) 57 f2) 46 0 ((qr (qu (qu (qu (qr μ' 57 f) 47 n k) 48 n (nI j)) 46 0 (nI n + 1)) 57 f2) 46 0 - 1)) = ν at g2 b2
      have g3 := g1.trans g2
      rw [b2]
      refine ⟨fun q => ?_, fun q => ?_⟩
      · have e : os n kd lt k (j + 1) = os n kd lt k j := by rw [os, if_neg (fun p => p.2 q)]
        exact hP _ _ hlt ⟨g3, by rw [e], by rw [e]; exact b2⟩
      · have e : os n kd lt k (j + 1) = (nI j, nI (cw n kd lt k j)) := by rw [os, if_pos ⟨hf, q⟩]
        refine hP _ _ hlt ⟨g3.trans ⟨fun i _ b _ _ => qu_n b, fun q hq => ?_, fun _ _ => ⟨rfl, rfl⟩⟩, by rw [e], by rw [e]; exact qu_ss⟩
        rw [qu_s]
        exact pk_un (fun e => by subst e; exact absurd hq (by decide))
theorem lacksToOpen_sp {μ : qM} {n : Nat} {kd lt : Nat → Int32} (hM : HM μ n kd lt) (h10 : n ≤ 10) (v : Int32) (post : Int32 → qM → Prop) (h0 : inB v 0 6 = false → post 0 μ) (h1 : inB v 0 6 = true → ∀ f, ((∀ v, v < 144 → fb n kd lt (nI v) = false) → post 3 (qr μ 57 f)) ∧ ((∃ v, v < 144 ∧ fb n kd lt (nI v) = true) → (n = 10 → post 1 (qr μ 57 f)) ∧ (¬ n = 10 → post (-1) (qr μ 57 f)))) : w_X11_lacksToOpen v post μ := by
  unfold w_X11_lacksToOpen
  rw [misKind_eq, pt_if']
  cases hk : inB v 0 6
  · exact h0 hk
  · simp only [if_true]
    have h1 := h1 hk
    unfold q_X11_lacksToOpen_13
    refine for2 144 (fun j x μ' => (∃ f, μ' = qr μ 57 f) ∧ ∃ b : Bool, x = tb b ∧ (b = false → ∀ v, v < j → fb n kd lt (nI v) = false) ∧ (b = true → ∃ v, v < 144 ∧ fb n kd lt (nI v) = true)) ?_ 0 (Nat.zero_le _) ⟨⟨_, qr_id.symm⟩, false, rfl, fun _ _ q => absurd q (Nat.not_lt_zero _), fun q => by cases q⟩
    rintro P j x μ' hjn ⟨⟨f, rfl⟩, b, rfl, hb0, hb1⟩ hP
    have fin : (b = false → j = 144) → q_X11_lacksToOpen_36 post (tb b) (qr μ 57 f) := fun hj => by
      unfold q_X11_lacksToOpen_36
      have hM' := hM.away f
      refine pb_if' (fun hb => ?_) (fun hb => ?_)
      · have := (h1 f).2 (hb1 hb)
        exact ⟨fun q => this.2 (fun e => q ((many10 hM').mpr e)), fun q => this.1 ((many10 hM').mp q)⟩
      · exact (h1 f).1 (by have := hb0 hb; rw [hj hb] at this; exact this)
    refine ⟨fun hx => ?_, fun hx => ?_⟩
    · have : 144 ≤ j := pn_le (by omega) (by omega) hx
      exact fin (fun _ => by omega)
    · have hlt : j < 144 := pn_nle (by omega) (by omega) hx
      refine pb_if' (fun hb => fin (fun q => by rw [hb] at q; cases q)) (fun hb => ?_)
      refine misFree_sp (hM.away f) _ _ (fun g => hP _ _ hlt ⟨⟨g, qr_qr⟩, fb n kd lt (nI j), rfl, fun q u hu => ?_, fun q => ⟨j, hlt, q⟩⟩)
      by_cases e : u = j
      · subst e; exact q
      · exact hb0 hb u (by omega)
