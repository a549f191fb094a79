theorem upd_upd {f : Nat → Int32} {k : Nat} {x y : Int32} : upd (upd f k x) k y = upd f k y := by
  funext i
  by_cases e : i = k
  · subst e; rw [pk_us, pk_us]
  · rw [pk_un e, pk_un e, pk_un e]
theorem upd_id {f : Nat → Int32} {k : Nat} : upd f k (f k) = f := by
  funext i
  by_cases e : i = k
  · subst e; rw [pk_us]
  · rw [pk_un e]
/-- the first kind that makes most free, by the numbers for each kind -/
def am (g : Nat → Nat) : Nat → Int32 × Int32
  | 0 => (0, -1)
  | k + 1 => if nI (g k) ≤ (am g k).2 then am g k else (nI k, nI (g k))
theorem becomeAs_sp {μ : qM} {o o1 n : Nat} {kd lt : Nat → Int32} (h : HX μ o1 n kd lt) (hd : o + 3 ≤ o1 ∨ o1 + 3 ≤ o) (post : qM → Prop) (hp' : ∀ f g : Nat → Int32, (∀ i, i < 10 → f i = μ (o1 + 1) i ∧ g i = μ (o1 + 2) i) → post (qr (qr (qu μ o 0 (nI n)) (o + 1) f) (o + 2) g)) : w_X1_becomeAs o o1 post μ := by
  unfold w_X1_becomeAs q_X1_becomeAs_10
  rw [h.1]
  refine for1 10 (fun j μ' => ∃ f g, μ' = qr (qr (qu μ o 0 (nI n)) (o + 1) f) (o + 2) g ∧ ∀ i, i < j → f i = μ (o1 + 1) i ∧ g i = μ (o1 + 2) i) ?_ 0 (Nat.zero_le _) ⟨qu μ o 0 (nI n) (o + 1), qu μ o 0 (nI n) (o + 2), ?_, fun _ q => absurd q (Nat.not_lt_zero _)⟩
  · rintro P j μ' hjn ⟨f, g, rfl, hfg⟩ hP
    refine ⟨fun hx => ?_, fun hx => ?_⟩
    · have : 10 ≤ j := pn_le (by omega) (by omega) hx
      exact hp' f g (fun i hi => hfg i (by omega))
    · have hlt : j < 10 := pn_nle (by omega) (by omega) hx
      have vj : vp_in (nI j) 10 := vp_in_nI hlt (by omega)
      rw [clp (by omega)]
      refine ⟨vj, vj, vj, vj, hP _ hlt ⟨upd f j (μ (o1 + 1) j), upd g j (μ (o1 + 2) j), ?_, fun i hi => ?_⟩⟩
      · have a1 : qr (qr (qu μ o 0 (nI n)) (o + 1) f) (o + 2) g (o1 + 1) = μ (o1 + 1) := by
          rw [qr_n (by omega), qr_n (by omega), qu_n (by omega)]
        have a2 : qr (qr (qu μ o 0 (nI n)) (o + 1) f) (o + 2) g (o1 + 2) = μ (o1 + 2) := by
          rw [qr_n (by omega), qr_n (by omega), qu_n (by omega)]
        have a3 : qu (qr (qr (qu μ o 0 (nI n)) (o + 1) f) (o + 2) g) (o + 1) j (μ (o1 + 1) j) (o1 + 2) = μ (o1 + 2) := by
          rw [qu_n (by omega)]; exact a2
        rw [a1, a3]
        funext i
        by_cases e2 : i = o + 2
        · subst e2
          rw [qu_s, qu_n (by omega), qr_s, qr_s]
        · rw [qu_n e2, qr_n e2]
          by_cases e1 : i = o + 1
          · subst e1
            rw [qu_s, qr_s, qr_n (by omega), qr_s]
          · rw [qu_n e1, qr_n e2, qr_n e1, qr_n e1]
      · by_cases e : i = j
        · subst e; rw [pk_us, pk_us]; exact ⟨rfl, rfl⟩
        · rw [pk_un e, pk_un e]; exact hfg i (by omega)
  · funext i
    by_cases e2 : i = o + 2
    · subst e2; rw [qr_s]
    · rw [qr_n e2]
      by_cases e1 : i = o + 1
      · subst e1; rw [qr_s]
      · rw [qr_n e1]
theorem HX.copy {μ : qM} {o o1 n : Nat} {kd lt f g : Nat → Int32} (h : HX μ o1 n kd lt) (hfg : ∀ i, i < 10 → f i = μ (o1 + 1) i ∧ g i = μ (o1 + 2) i) : HX (qr (qr (qu μ o 0 (nI n)) (o + 1) f) (o + 2) g) o n kd lt := by
  refine ⟨?_, h.2.1, fun j hj => ?_⟩
  · rw [qr_n (by omega), qr_n (by omega), qu_s, pk_us]
  · have h10 := h.2.1
    rw [qr_n (show o + 1 ≠ o + 2 by omega), qr_s, qr_s, (hfg j (by omega)).1, (hfg j (by omega)).2]
    exact h.2.2 j hj
theorem sa_copy16 {μ : qM} {x : Int32} {f g : Nat → Int32} : SA μ (qr (qr (qu μ 16 0 x) (16 + 1) f) (16 + 2) g) := ((SA.qr rfl).trans (SA.qr rfl)).trans (SA.qr rfl)
theorem kindFor_sp {μ : qM} {n : Nat} {kd lt : Nat → Int32} (hX : HX μ 16 n kd lt) {j : Nat} (hj : j < n) (post : Int32 → qM → Prop) (hp' : ∀ μ', SA μ μ' → post (am (fun k => cntB (fun v => fb n (upd kd j (nI k)) lt (nI v)) 144) 7).1 μ') : q_X10_kindFor_48 (nI j) post 0 (-1) 0 μ := by
  unfold q_X10_kindFor_48 q_X10_kindFor_82
  refine for3 7 (fun k x y μ' => SA μ μ' ∧ (∃ k0, HX μ' 16 n (upd kd j k0) lt) ∧ (x, y) = am (fun k => cntB (fun v => fb n (upd kd j (nI k)) lt (nI v)) 144) k) ?_ 0 (Nat.zero_le _) ⟨SA.refl μ, ⟨kd j, by rw [upd_id]; exact hX⟩, rfl⟩
  rintro P k x y μ' hk ⟨hS, ⟨k0, hX'⟩, hxy⟩ hP
  refine ⟨fun hx => ?_, fun hx => ?_⟩
  · have : 7 ≤ k := pn_le (by omega) (by omega) hx
    have hk7 : k = 7 := by omega
    subst hk7
    have := hp' μ' hS
    rw [← hxy] at this
    exact this
  · have hlt : k < 7 := pn_nle (by omega) (by omega) hx
    refine become_sp hX' hj _ _ ?_
    have hX2 := hX'.become (j := j) (nI k)
    rw [upd_upd] at hX2
    refine countFree_sp hX2 _ (fun g => ?_)
    have hS2 : SA μ (qr (qu μ' (16 + 1) j (nI k)) (16 + 3) g) := (hS.trans (SA.qr rfl)).trans (SA.qr rfl)
    have e1 : x = (am (fun k => cntB (fun v => fb n (upd kd j (nI k)) lt (nI v)) 144) k).1 := by rw [← hxy]
    have e2 : y = (am (fun k => cntB (fun v => fb n (upd kd j (nI k)) lt (nI v)) 144) k).2 := by rw [← hxy]
    refine ⟨fun q => hP _ _ _ hlt ⟨hS2, ⟨nI k, hX2.fars g⟩, ?_⟩, fun q => hP _ _ _ hlt ⟨hS2, ⟨nI k, hX2.fars g⟩, ?_⟩⟩
    · rw [e2] at q
      rw [am, if_pos q, ← hxy]
    · rw [e2] at q
      rw [am, if_neg q]
theorem mkindFor_sp {μ : qM} {n : Nat} {kd lt : Nat → Int32} (hM : HM μ n kd lt) {j : Nat} (hj : j < n) (post : Int32 → qM → Prop) (hp' : ∀ μ', SA μ μ' → post (am (fun k => cntB (fun v => fb n (upd kd j (nI k)) lt (nI v)) 144) 7).1 μ') : q_X11_kindFor_29 (nI j) (kd j) post 0 (-1) 0 μ := by
  have h154 := hM.2.1
  have vj : vp_in (nI j) 154 := vp_in_nI (by omega) (by omega)
  unfold q_X11_kindFor_29 q_X11_kindFor_64
  refine for3 7 (fun k x y μ' => (∃ k0 f, μ' = qr (qu μ 47 j k0) 57 f) ∧ (x, y) = am (fun k => cntB (fun v => fb n (upd kd j (nI k)) lt (nI v)) 144) k) ?_ 0 (Nat.zero_le _) ⟨⟨kd j, μ 57, ?_⟩, rfl⟩
  · rintro P k x y μ' hk ⟨⟨k0, f, rfl⟩, hxy⟩ hP
    rw [clp (by omega)]
    refine ⟨fun hx => ⟨vj, ?_⟩, fun hx => ⟨vj, ?_⟩⟩
    · have : 7 ≤ k := pn_le (by omega) (by omega) hx
      have hk7 : k = 7 := by omega
      subst hk7
      have := hp' (qu (qr (qu μ 47 j k0) 57 f) 47 j (kd j)) ⟨fun i a b c d => ?_, fun _ _ => rfl, fun i hi => ⟨?_, rfl⟩⟩
      · rw [← hxy] at this
        exact this
      · have e57 : i ≠ 57 := fun e => by subst e; exact absurd a (by decide)
        rw [qu_n c, qr_n e57, qu_n c]
      · rw [hM.1, clp (by omega)] at hi
        show upd (upd (μ 47) j k0) j (kd j) i = μ 47 i
        rw [upd_upd, ← (hM.arr hj).1, upd_id]
    · have hlt : k < 7 := pn_nle (by omega) (by omega) hx
      have hM2 : HM (qu (qr (qu μ 47 j k0) 57 f) 47 j (nI k)) n (upd kd j (nI k)) lt := by
        have := (((hM.become (j := j) k0).away f).become (j := j) (nI k))
        rw [upd_upd] at this
        exact this
      refine mfreeLots_sp hM2 _ (fun g => ?_)
      have em : qr (qu (qr (qu μ 47 j k0) 57 f) 47 j (nI k)) 57 g = qr (qu μ 47 j (nI k)) 57 g := by
        funext i
        by_cases e57 : i = 57
        · subst e57; rw [qr_s, qr_s]
        · rw [qr_n e57, qr_n e57]
          by_cases e47 : i = 47
          · subst e47; rw [qu_s, qu_s, qr_n (by omega), qu_s, upd_upd]
          · rw [qu_n e47, qu_n e47, qr_n e57, qu_n e47]
      rw [em]
      have e1 : x = (am (fun k => cntB (fun v => fb n (upd kd j (nI k)) lt (nI v)) 144) k).1 := by rw [← hxy]
      have e2 : y = (am (fun k => cntB (fun v => fb n (upd kd j (nI k)) lt (nI v)) 144) k).2 := by rw [← hxy]
      refine ⟨fun q => hP _ _ _ hlt ⟨⟨_, _, rfl⟩, ?_⟩, fun q => hP _ _ _ hlt ⟨⟨_, _, rfl⟩, ?_⟩⟩
      · rw [e2] at q
        rw [am, if_pos q, ← hxy]
      · rw [e2] at q
        rw [am, if_neg q]
  · rw [← (hM.arr hj).1]
    funext i
    by_cases e57 : i = 57
    · subst e57; rw [qr_s]
    · rw [qr_n e57]
      by_cases e47 : i = 47
      · subst e47; rw [qu_s, upd_id]
      · rw [qu_n e47]
theorem op_kindFor (v1 : Int32) : OP (w_X10_kindFor v1) (w_X11_kindFor v1) := by
  intro μ h
  obtain ⟨n, kd, lt, hX, hM, hW⟩ := h.1.1
  have h10 := hX.2.1
  unfold w_X10_kindFor w_X11_kindFor w_X9_houses
  refine ⟨rfl, ?_⟩
  rw [has_eq hX]
  simp only [xf0, mf0, pt_if, pt_if']
  cases hh : hasB n v1
  · refine misHouse_sp (n := n) (kd := kd) (lt := lt) (by exact hM) _ _ ?_
    rw [hh]
    exact ⟨fun q => absurd rfl q, fun _ => ⟨by trivial, h.fnd0 (by omega)⟩⟩
  · obtain ⟨j, hj, rfl⟩ := hasB_t (by omega) hh
    simp only [if_true]
    refine ⟨by trivial, by trivial, becomeAs_sp hX (by omega) _ (fun f g hfg => ?_)⟩
    refine kindFor_sp (hX.copy hfg) hj _ (fun μ1 hS => ?_)
    have h1 : RI μ1 := (h.sa sa_copy16).sa hS
    have hS1 : SA μ μ1 := sa_copy16.trans hS
    have hM1 : HM μ1 n kd lt := ⟨(hS1.2.1 0 rfl).trans hM.1, hM.2.1, fun i hi => by
      have := hS1.2.2 i (by rw [hM.1, clp (by omega)]; exact hi)
      rw [this.1, this.2]; exact hM.2.2 i hi⟩
    refine misHouse_sp hM1 _ _ ?_
    rw [hh, clp (by omega), (hM1.arr hj).1]
    refine ⟨fun _ => ⟨vp_in_nI (by omega) (by omega), ?_⟩, fun q => absurd q (by decide)⟩
    exact mkindFor_sp hM1 hj _ (fun μ2 hS2 => ⟨rfl, h1.sa hS2⟩)
theorem SA.hm {μ μ1 : qM} {n : Nat} {kd lt : Nat → Int32} (hS : SA μ μ1) (hM : HM μ n kd lt) : HM μ1 n kd lt := ⟨(hS.2.1 0 rfl).trans hM.1, hM.2.1, fun i hi => by
  have h154 := hM.2.1
  have := hS.2.2 i (by rw [hM.1, clp (by omega)]; exact hi)
  rw [this.1, this.2]; exact hM.2.2 i hi⟩
theorem allBecome_sp {μ : qM} {o n : Nat} {kd lt : Nat → Int32} (h : HX μ o n kd lt) (k : Int32) (post : qM → Prop) (hp' : ∀ f, (∀ i, i < n → f i = k) → post (qr μ (o + 1) f)) : w_X1_allBecome o k post μ := by
  have h10 := h.2.1
  unfold w_X1_allBecome q_X1_allBecome_2
  refine for1 n (fun j μ' => ∃ f, μ' = qr μ (o + 1) f ∧ ∀ i, i < j → f i = k) ?_ 0 (Nat.zero_le _) ⟨_, qr_id.symm, fun _ q => absurd q (Nat.not_lt_zero _)⟩
  rintro P j μ' hjn ⟨f, rfl, hf⟩ hP
  have e0 : qr μ (o + 1) f o 0 = nI n := by rw [qr_n (by omega)]; exact h.1
  rw [e0]
  refine ⟨fun hx => ?_, fun hx => ?_⟩
  · have : n ≤ j := pn_le (by omega) (by omega) hx
    exact hp' f (fun i hi => hf i (by omega))
  · have hlt : j < n := pn_nle (by omega) (by omega) hx
    rw [clp (by omega)]
    refine ⟨vp_in_nI (by omega) (by omega), hP _ hlt ⟨upd f j k, qu_qr, fun i hi => ?_⟩⟩
    by_cases e : i = j
    · subst e; exact pk_us
    · rw [pk_un e]; exact hf i (by omega)
theorem HX.all {μ : qM} {o n : Nat} {kd lt f : Nat → Int32} {k : Int32} (h : HX μ o n kd lt) (hf : ∀ i, i < n → f i = k) : HX (qr μ (o + 1) f) o n (fun _ => k) lt := by
  refine ⟨by rw [qr_n (by omega)]; exact h.1, h.2.1, fun j hj => ?_⟩
  rw [qr_s, qr_n (by omega)]
  exact ⟨hf j hj, (h.2.2 j hj).2⟩
theorem law_sp {μ : qM} {n : Nat} {kd lt : Nat → Int32} (hX : HX μ 16 n kd lt) (post : Int32 → qM → Prop) (hp' : ∀ μ', SA μ μ' → post (am (fun k => cntB (fun v => fb n (fun _ => nI k) lt (nI v)) 144) 7).1 μ') : q_X10_law_26 post 0 (-1) 0 μ := by
  unfold q_X10_law_26 q_X10_law_57
  refine for3 7 (fun k x y μ' => SA μ μ' ∧ (∃ kd', HX μ' 16 n kd' lt) ∧ (x, y) = am (fun k => cntB (fun v => fb n (fun _ => nI k) lt (nI v)) 144) k) ?_ 0 (Nat.zero_le _) ⟨SA.refl μ, ⟨kd, hX⟩, rfl⟩
  rintro P k x y μ' hk ⟨hS, ⟨kd', hX'⟩, hxy⟩ hP
  refine ⟨fun hx => ?_, fun hx => ?_⟩
  · have : 7 ≤ k := pn_le (by omega) (by omega) hx
    have hk7 : k = 7 := by omega
    subst hk7
    have := hp' μ' hS
    rw [← hxy] at this
    exact this
  · have hlt : k < 7 := pn_nle (by omega) (by omega) hx
    refine allBecome_sp hX' _ _ (fun f hf => ?_)
    have hX2 := hX'.all hf
    refine countFree_sp hX2 _ (fun g => ?_)
    have hS2 : SA μ (qr (qr μ' (16 + 1) f) (16 + 3) g) := (hS.trans (SA.qr rfl)).trans (SA.qr rfl)
    have e2 : y = (am (fun k => cntB (fun v => fb n (fun _ => nI k) lt (nI v)) 144) k).2 := by rw [← hxy]
    refine ⟨fun q => hP _ _ _ hlt ⟨hS2, ⟨_, hX2.fars g⟩, ?_⟩, fun q => hP _ _ _ hlt ⟨hS2, ⟨_, hX2.fars g⟩, ?_⟩⟩
    · rw [e2] at q
      rw [am, if_pos q, ← hxy]
    · rw [e2] at q
      rw [am, if_neg q]
theorem mlaw_sp {μ : qM} {n : Nat} {kd lt : Nat → Int32} (hM : HM μ n kd lt) (hn : n ≤ 10) (post : Int32 → qM → Prop) (hp' : ∀ μ', SA μ μ' → post (am (fun k => cntB (fun v => fb n (fun _ => nI k) lt (nI v)) 144) 7).1 μ') : w_X11_law post μ := by
  unfold w_X11_law q_X11_law_2
  refine for1 n (fun j μ' => ∃ f, μ' = qr μ 59 f ∧ ∀ i, i < j → f i = kd i) ?_ 0 (Nat.zero_le _) ⟨_, qr_id.symm, fun _ q => absurd q (Nat.not_lt_zero _)⟩
  rintro P j μ' hjn ⟨f, rfl, hf⟩ hP
  have hM' : HM (qr μ 59 f) n kd lt := hM
  rw [hM'.1]
  refine ⟨fun hx => ?_, fun hx => ?_⟩
  · have hnj : n ≤ j := pn_le (by omega) (by omega) hx
    have hf' : ∀ i, i < n → f i = kd i := fun i hi => hf i (by omega)
    clear hP hf
    unfold q_X11_law_34
    refine for3 7 (fun k x y μ' => (∃ a b, μ' = qr (qr (qr μ 59 f) 47 a) 57 b) ∧ (x, y) = am (fun k => cntB (fun v => fb n (fun _ => nI k) lt (nI v)) 144) k) ?_ 0 (Nat.zero_le _) ⟨⟨(qr μ 59 f) 47, (qr μ 59 f) 57, ?_⟩, rfl⟩
    · rintro P k x y μ' hk ⟨⟨a, b, rfl⟩, hxy⟩ hP
      refine ⟨fun hx => ?_, fun hx => ?_⟩
      · have : 7 ≤ k := pn_le (by omega) (by omega) hx
        have hk7 : k = 7 := by omega
        subst hk7
        unfold q_X11_law_91
        refine for1 n (fun j μ' => ∃ a', μ' = qr (qr (qr μ 59 f) 47 a') 57 b ∧ ∀ i, i < j → a' i = kd i) ?_ 0 (Nat.zero_le _) ⟨a, rfl, fun _ q => absurd q (Nat.not_lt_zero _)⟩
        rintro P2 i μ' hin ⟨a', rfl, ha'⟩ hP2
        have e0 : qr (qr (qr μ 59 f) 47 a') 57 b 46 0 = nI n := hM.1
        rw [e0]
        refine ⟨fun hx => ?_, fun hx => ?_⟩
        · have : n ≤ i := pn_le (by omega) (by omega) hx
          have := hp' (qr (qr (qr μ 59 f) 47 a') 57 b) ⟨fun i' p q r s => ?_, fun _ _ => rfl, fun i' hi' => ⟨?_, rfl⟩⟩
          · rw [← hxy] at this
            exact this
          · have e57 : i' ≠ 57 := fun e => by subst e; exact absurd p (by decide)
            have e59 : i' ≠ 59 := fun e => by subst e; exact absurd p (by decide)
            rw [qr_n e57, qr_n r, qr_n e59]
          · rw [hM.1, clp (by omega)] at hi'
            show a' i' = μ 47 i'
            rw [ha' i' (by omega), (hM.arr hi').1]
        · have hlt : i < n := pn_nle (by omega) (by omega) hx
          rw [clp (by omega)]
          refine ⟨vp_in_nI (by omega) (by omega), vp_in_nI (by omega) (by omega), hP2 _ hlt ⟨upd a' i (kd i), ?_, fun i' hi' => ?_⟩⟩
          · have ee : qr (qr (qr μ 59 f) 47 a') 57 b 59 i = kd i := hf' i hlt
            rw [ee]
            funext z
            by_cases z47 : z = 47
            · subst z47; rw [qu_s, qr_n (by omega), qr_s, qr_n (by omega), qr_s]
            · rw [qu_n z47]
              by_cases z57 : z = 57
              · subst z57; rw [qr_s, qr_s]
              · rw [qr_n z57, qr_n z57, qr_n z47, qr_n z47]
          · by_cases e : i' = i
            · subst e; exact pk_us
            · rw [pk_un e]; exact ha' i' (by omega)
      · have hlt : k < 7 := pn_nle (by omega) (by omega) hx
        unfold q_X11_law_43 q_X11_law_83
        refine for1 n (fun j μ' => ∃ a', μ' = qr (qr (qr μ 59 f) 47 a') 57 b ∧ ∀ i, i < j → a' i = nI k) ?_ 0 (Nat.zero_le _) ⟨a, rfl, fun _ q => absurd q (Nat.not_lt_zero _)⟩
        rintro P2 i μ' hin ⟨a', rfl, ha'⟩ hP2
        have e0 : qr (qr (qr μ 59 f) 47 a') 57 b 46 0 = nI n := hM.1
        rw [e0]
        refine ⟨fun hx => ?_, fun hx => ?_⟩
        · have hni : n ≤ i := pn_le (by omega) (by omega) hx
          have hM2 : HM (qr (qr (qr μ 59 f) 47 a') 57 b) n (fun _ => nI k) lt := ⟨hM.1, hM.2.1, fun z hz => ⟨ha' z (by omega), (hM.arr hz).2⟩⟩
          refine mfreeLots_sp hM2 _ (fun g => ?_)
          rw [qr_qr]
          have e2 : y = (am (fun k => cntB (fun v => fb n (fun _ => nI k) lt (nI v)) 144) k).2 := by rw [← hxy]
          refine ⟨fun q => hP _ _ _ hlt ⟨⟨_, _, rfl⟩, ?_⟩, fun q => hP _ _ _ hlt ⟨⟨_, _, rfl⟩, ?_⟩⟩
          · rw [e2] at q
            rw [am, if_pos q, ← hxy]
          · rw [e2] at q
            rw [am, if_neg q]
        · have hil : i < n := pn_nle (by omega) (by omega) hx
          rw [clp (by omega)]
          refine ⟨vp_in_nI (by omega) (by omega), hP2 _ hil ⟨upd a' i (nI k), ?_, fun i' hi' => ?_⟩⟩
          · funext z
            by_cases z47 : z = 47
            · subst z47; rw [qu_s, qr_n (by omega), qr_s, qr_n (by omega), qr_s]
            · rw [qu_n z47]
              by_cases z57 : z = 57
              · subst z57; rw [qr_s, qr_s]
              · rw [qr_n z57, qr_n z57, qr_n z47, qr_n z47]
          · by_cases e : i' = i
            · subst e; exact pk_us
            · rw [pk_un e]; exact ha' i' (by omega)
    · rw [qr_id, qr_id]
  · have hlt : j < n := pn_nle (by omega) (by omega) hx
    rw [clp (by omega), (hM'.arr hlt).1]
    refine ⟨vp_in_nI (by omega) (by omega), vp_in_nI (by omega) (by omega), hP _ hlt ⟨upd f j (kd j), qu_qr, fun i hi => ?_⟩⟩
    by_cases e : i = j
    · subst e; exact pk_us
    · rw [pk_un e]; exact hf i (by omega)
theorem op_law : OP w_X10_law w_X11_law := by
  intro μ h
  obtain ⟨n, kd, lt, hX, hM, hW⟩ := h.1.1
  have h10 := hX.2.1
  unfold w_X10_law w_X9_houses
  refine ⟨rfl, rfl, becomeAs_sp hX (by omega) _ (fun f g hfg => ?_)⟩
  refine law_sp (hX.copy hfg) _ (fun μ1 hS => ?_)
  have hS1 : SA μ μ1 := sa_copy16.trans hS
  exact mlaw_sp (hS1.hm hM) h10 _ (fun μ2 hS2 => ⟨rfl, (h.sa hS1).sa hS2⟩)
