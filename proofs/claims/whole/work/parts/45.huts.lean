theorem opens_both {μ : qM} (h : RI μ) (v1 : Int32) (sel : qM → Int32) (wm : (Int32 → qM → Prop) → qM → Prop) (fx : (Int32 → qM → Prop) → Int32 → qM → Prop)
    (hx : ∀ (n : Nat) (kd lt : Nat → Int32) (k : Int32) (μ' : qM) (post : Int32 → qM → Prop), μ' 40 2 = (os n kd lt k 144).2 → post (if sel (fun _ _ => 0) = 0 then (os n kd lt k 144).1 else (os n kd lt k 144).2) μ' → fx post (os n kd lt k 144).1 μ')
    (hm : ∀ (μ' : qM) (post : Int32 → qM → Prop), w_X11_lacksToOpen v1 (fun r2 μ2 => ((r2 < 0 → w_X11_opensFor v1 (fun r20 μ20 => post (if sel (fun _ _ => 0) = 0 then r20 else μ20 46 25) μ20) μ2) ∧ (¬ r2 < 0 → w_X11_finding r2 (fun r12 μ12 => post r12 μ12) μ2))) μ' → wm post μ') :
    w_X10_isKind v1 (fun r1 μ1 => ((¬ r1 = 0 → w_X9_houses 1 (fun r22 μ22 => r22 = 2 ∧ w_X4_find 40 2 v1 (fun r26 μ26 => ((0 ≤ r26 → w_X9_houses 1 (fun r45 μ45 => r45 = 2 ∧ w_X1_isFull 2 (fun r48 μ48 => ((r48 = 0 → fx (fun r μ1 => wm (fun r' μ2 => r = r' ∧ RI μ2) μ1) r26 μ48) ∧ (¬ r48 = 0 → w_X10_finding (-1000002 : Int32) (fun r57 μ57 => wm (fun r' μ2 => r57 = r' ∧ RI μ2) μ57) μ48))) μ45) μ26) ∧ (¬ 0 ≤ r26 → w_X10_finding (-1000004 : Int32) (fun r37 μ37 => wm (fun r' μ2 => r37 = r' ∧ RI μ2) μ37) μ26))) μ22) μ1) ∧ (r1 = 0 → w_X10_finding (-1000001 : Int32) (fun r10 μ10 => wm (fun r' μ2 => r10 = r' ∧ RI μ2) μ10) μ1))) μ := by
  obtain ⟨n, kd, lt, hX, hM, hW⟩ := h.1.1
  have h10 := hX.2.1
  unfold w_X9_houses
  rw [isKind_eq, pt_if']
  cases hk : inB v1 0 6
  · simp only [Bool.false_eq_true, if_false]
    rw [xf0]
    refine hm _ _ (lacksToOpen_sp (n := n) (kd := kd) (lt := lt) (by exact hM) h10 _ _ (fun _ => ⟨fun q => absurd q (by decide), fun _ => ?_⟩) (fun q => by rw [hk] at q; cases q))
    rw [mf0]; exact ⟨rfl, h.fnd0 (by omega)⟩
  · simp only [if_true]
    refine ⟨by trivial, find4_sp hX _ (fun μ1 g hb => ?_)⟩
    have gS : SA μ μ1 := g.sa rfl
    have hX1 := g.hx (by omega) (by omega) (by omega) hX
    rcases os_some (n := n) (kd := kd) (lt := lt) (k := v1) (Nat.le_refl 144) with ⟨a1, a2⟩ | ⟨a1, v, hv, a2⟩
    · have e : (os n kd lt v1 144).1 = -1 := by rw [a2]
      rw [e]
      refine ⟨fun q => absurd q (by decide), fun _ => ?_⟩
      rw [xf3]
      have hM1 : HM (qu μ1 33 3 (μ1 33 3 + 1)) n kd lt := gS.hm hM
      refine hm _ _ (lacksToOpen_sp hM1 h10 _ _ (fun q => by rw [hk] at q; cases q) (fun _ f => ⟨fun _ => ⟨fun q => absurd q (by decide), fun _ => ?_⟩, fun ⟨v, hv, hf⟩ => ?_⟩))
      · rw [mf3]; exact ⟨rfl, (h.sa gS).fnd (by omega) (SA.qr rfl)⟩
      · rw [a1 v hv] at hf; cases hf
    · have no : (∀ v, v < 144 → fb n kd lt (nI v) = false) → False := fun q => by
        obtain ⟨u, hu, hf⟩ := a1
        rw [q u hu] at hf; cases hf
      refine ⟨fun _ => ⟨by trivial, ?_⟩, fun q => absurd (by rw [a2]; exact nI_pos' (by omega)) q⟩
      rw [isFull_eq hX1, pt_if]
      by_cases e : n = 10
      · simp only [e, decide_true, if_true]
        rw [xf1]
        have hM1 : HM (qu μ1 33 1 (μ1 33 1 + 1)) n kd lt := gS.hm hM
        refine hm _ _ (lacksToOpen_sp hM1 h10 _ _ (fun q => by rw [hk] at q; cases q) (fun _ f => ⟨fun q => (no q).elim, fun _ => ⟨fun _ => ⟨fun q => absurd q (by decide), fun _ => ?_⟩, fun q => absurd e q⟩⟩))
        rw [mf1]; exact ⟨rfl, (h.sa gS).fnd (by omega) (SA.qr rfl)⟩
      · simp only [e, decide_false, Bool.false_eq_true, if_false]
        refine hx n kd lt v1 μ1 _ hb ?_
        have hM1 := gS.hm hM
        refine hm _ _ (lacksToOpen_sp hM1 h10 _ _ (fun q => by rw [hk] at q; cases q) (fun _ f => ⟨fun q => (no q).elim, fun _ => ⟨fun q => absurd q e, fun _ => ⟨fun _ => ?_, fun q => absurd (by decide) q⟩⟩⟩))
        refine mopens_sp (hM1.away f) (by omega) _ (fun μ2 g2 b2 => ⟨?_, ((h.sa gS).sa (SA.qr rfl)).sa g2⟩)
        rw [b2]
theorem op_opens (v1 : Int32) : OP (w_X10_opens v1) (w_X11_opens v1) := by
  intro μ h
  unfold w_X10_opens
  exact opens_both h v1 (fun _ => 0) (w_X11_opens v1) (fun post r μ => post r μ) (fun n kd lt k μ' post hb hp => by rw [if_pos rfl] at hp; exact hp) (fun μ' post hp => by
    unfold w_X11_opens
    simp only [if_true] at hp
    exact hp)
theorem op_opened (v1 : Int32) : OP (w_X10_opened v1) (w_X11_opened v1) := by
  intro μ h
  unfold w_X10_opened
  have n10 : ¬ (1 : Int32) = 0 := by decide
  exact opens_both h v1 (fun _ => 1) (w_X11_opened v1) (fun post r μ => w_X4_most 40 (fun r67 μ67 => post r67 μ67) μ) (fun n kd lt k μ' post hb hp => by
    rw [if_neg n10] at hp
    unfold w_X4_most
    rw [hb]; exact hp) (fun μ' post hp => by
    unfold w_X11_opened
    simp only [if_neg n10] at hp
    exact hp)
/-! how many huts -/
def p1 (n : Nat) (kd lt : Nat → Int32) (g v : Nat) : Bool := !(v == g) && (fb n kd lt (nI v) && fb (n + 1) (upd kd n 0) (upd lt n (nI v)) (nI g))
def p2 (n : Nat) (kd lt : Nat → Int32) (g v u : Nat) : Bool := p1 (n + 1) (upd kd n 0) (upd lt n (nI v)) g u
def HS (n : Nat) (kd lt : Nat → Int32) (g : Nat) (r a b : Int32) : Prop := (fb n kd lt (nI g) = true ∧ r = 0) ∨ (fb n kd lt (nI g) = false ∧ ∃ v, v < 144 ∧ p1 n kd lt g v = true ∧ (∀ u, u < v → p1 n kd lt g u = false) ∧ r = 1 ∧ a = nI v) ∨ (fb n kd lt (nI g) = false ∧ (∀ u, u < 144 → p1 n kd lt g u = false) ∧ ∃ v, v < 144 ∧ (v ≠ g ∧ fb n kd lt (nI v) = true ∧ ∃ u, u < 144 ∧ p2 n kd lt g v u = true) ∧ (∀ x, x < v → ¬ (x ≠ g ∧ fb n kd lt (nI x) = true ∧ ∃ u, u < 144 ∧ p2 n kd lt g x u = true)) ∧ r = 2 ∧ a = nI v ∧ ∃ u, u < 144 ∧ p2 n kd lt g v u = true ∧ (∀ x, x < u → p2 n kd lt g v x = false) ∧ b = nI u) ∨ (fb n kd lt (nI g) = false ∧ (∀ u, u < 144 → p1 n kd lt g u = false) ∧ (∀ x, x < 144 → ¬ (x ≠ g ∧ fb n kd lt (nI x) = true ∧ ∃ u, u < 144 ∧ p2 n kd lt g x u = true)) ∧ r = -1)
theorem first_eq {P : Nat → Bool} {v v' : Nat} (h1 : P v = true) (h2 : ∀ u, u < v → P u = false) (h1' : P v' = true) (h2' : ∀ u, u < v' → P u = false) : v = v' := by
  rcases Nat.lt_trichotomy v v' with q | q | q
  · rw [h2' v q] at h1; cases h1
  · exact q
  · rw [h2 v' q] at h1'; cases h1'
theorem HS_eq {n : Nat} {kd lt : Nat → Int32} {g : Nat} {r a b r' a' b' : Int32} (h : HS n kd lt g r a b) (h' : HS n kd lt g r' a' b') : r = r' ∧ (r = 1 → a = a') ∧ (r = 2 → a = a' ∧ b = b') := by
  have n12 : ¬ (1 : Int32) = 2 := by decide
  have n21 : ¬ (2 : Int32) = 1 := by decide
  have n01 : ¬ (0 : Int32) = 1 := by decide
  have n02 : ¬ (0 : Int32) = 2 := by decide
  have m1 : ¬ (-1 : Int32) = 1 := by decide
  have m2 : ¬ (-1 : Int32) = 2 := by decide
  rcases h with ⟨f, rfl⟩ | ⟨f, v, hv, h1, h2, rfl, rfl⟩ | ⟨f, h1, v, hv, h2, h3, rfl, rfl, u, hu, h4, h5, rfl⟩ | ⟨f, h1, h2, rfl⟩
  · rcases h' with ⟨f', rfl⟩ | ⟨f', _⟩ | ⟨f', _⟩ | ⟨f', _⟩
    · exact ⟨rfl, fun q => absurd q n01, fun q => absurd q n02⟩
    all_goals rw [f] at f'; cases f'
  · rcases h' with ⟨f', _⟩ | ⟨f', v', hv', h1', h2', rfl, rfl⟩ | ⟨f', h1', _⟩ | ⟨f', h1', _⟩
    · rw [f] at f'; cases f'
    · have := first_eq h1 h2 h1' h2'
      subst this
      exact ⟨rfl, fun _ => rfl, fun q => absurd q n12⟩
    · rw [h1' v hv] at h1; cases h1
    · rw [h1' v hv] at h1; cases h1
  · rcases h' with ⟨f', _⟩ | ⟨f', v', hv', h1', h2', rfl, rfl⟩ | ⟨f', h1', v', hv', h2', h3', rfl, rfl, u', hu', h4', h5', rfl⟩ | ⟨f', h1', h2', _⟩
    · rw [f] at f'; cases f'
    · rw [h1 v' hv'] at h1'; cases h1'
    · have e : v = v' := by
        rcases Nat.lt_trichotomy v v' with q | q | q
        · exact absurd h2 (h3' v q)
        · exact q
        · exact absurd h2' (h3 v' q)
      subst e
      have := first_eq h4 h5 h4' h5'
      subst this
      exact ⟨rfl, fun q => absurd q n21, fun _ => ⟨rfl, rfl⟩⟩
    · exact absurd h2 (h2' v hv)
  · rcases h' with ⟨f', _⟩ | ⟨f', v', hv', h1', h2', rfl, rfl⟩ | ⟨f', h1', v', hv', h2', _⟩ | ⟨f', h1', h2', rfl⟩
    · rw [f] at f'; cases f'
    · rw [h1 v' hv'] at h1'; cases h1'
    · exact absurd h2' (h2 v' hv')
    · exact ⟨rfl, fun q => absurd q m1, fun q => absurd q m2⟩
theorem byOne_sp {μ : qM} {n : Nat} {kd lt : Nat → Int32} {g : Nat} (hg : g < 144) (hM : HM μ n kd lt) (hn : n < 154) (post : Int32 → qM → Prop) (h1 : ∀ v, v < 144 → p1 n kd lt g v = true → (∀ u, u < v → p1 n kd lt g u = false) → ∀ μ', SA μ μ' → μ' 46 23 = μ 46 23 → μ' 46 24 = nI v → post 1 μ') (h0 : (∀ u, u < 144 → p1 n kd lt g u = false) → ∀ μ', SA μ μ' → post 0 μ') : w_X11_isFreeByOne (nI g) post μ := by
  unfold w_X11_isFreeByOne q_X11_isFreeByOne_2 q_X11_isFreeByOne_55
  refine for1 144 (fun j μ' => SA μ μ' ∧ μ' 46 23 = μ 46 23 ∧ ∀ u, u < j → p1 n kd lt g u = false) ?_ 0 (Nat.zero_le _) ⟨SA.refl _, rfl, fun _ q => absurd q (Nat.not_lt_zero _)⟩
  rintro P j μ' hjn ⟨gS, b, hno⟩ hP
  refine ⟨fun hx => ⟨Or.inl rfl, ?_⟩, fun hx => ?_⟩
  · have : 144 ≤ j := pn_le (by omega) (by omega) hx
    exact h0 (fun u hu => hno u (by omega)) μ' gS
  · have hlt : j < 144 := pn_nle (by omega) (by omega) hx
    have no : p1 n kd lt g j = false → ∀ μ2, SA μ μ2 → μ2 46 23 = μ 46 23 → P (nI j + 1) μ2 := fun hb μ2 g2 b2 => hP _ hlt ⟨g2, b2, fun u hu => by
      by_cases e : u = j
      · subst e; exact hb
      · exact hno u (by omega)⟩
    refine ⟨fun q => no ?_ μ' gS b, fun q => ?_⟩
    · have := pn_eq (by omega) (by omega) q
      subst this; simp [p1]
    · have hjg : (j == g) = false := by
        rw [beq_eq_false_iff_ne]; intro e; exact q (by rw [e])
      refine misFree_sp (gS.hm hM) _ _ (fun f => pb_if (fun hf => no (by rw [p1, hf]; simp) _ (gS.trans (SA.qr rfl)) b) (fun hf => ?_))
      have g1 : SA μ (qr μ' 57 f) := gS.trans (SA.qr rfl)
      have hM1 := g1.hm hM
      refine mput_sp hM1 hn _ _ _ ?_
      have hM2 := hM1.put hn 0 (nI j)
      refine misFree_sp hM2 _ _ (fun f2 => ?_)
      have g2 := SA.unput (k := 0) (l := nI j) hM1 hn (SA.qr (i := 57) (f := f2) rfl)
      have b2 : (qu (qr (qu (qu (qu (qr μ' 57 f) 47 n 0) 48 n (nI j)) 46 0 (nI n + 1)) 57 f2) 46 0 ((qr (qu (qu (qu (qr μ' 57 f) 47 n 0) 48 n (nI j)) 46 0 (nI n + 1)) 57 f2) 46 0 - 1)) 46 23 = μ 46 23 := b
      generalize (qu (qr (qu (qu (qu (qr μ' 57 f) 47 n 0) 48 n (nI j)) 46 0 (nI n + 1)) 57 f2) 46 0 ((qr (qu (qu (qu (qr μ' 57 f) 47 n 0) 48 n (nI j)) 46 0 (nI n + 1)) 57 f2) 46 0 - 1)) = ν at g2 b2
      have g3 := g1.trans g2
      refine pb_if (fun hb => no (by rw [p1, hb]; simp) ν g3 b2) (fun hb => ⟨Or.inr rfl, ?_⟩)
      refine h1 j hlt (by rw [p1, hjg, hf, hb]; rfl) hno _ (g3.trans ⟨fun i _ b _ _ => qu_n b, fun q hq => ?_, fun _ _ => ⟨rfl, rfl⟩⟩) ?_ qu_ss
      · rw [qu_s]
        exact pk_un (fun e => by subst e; exact absurd hq (by decide))
      · rw [qu_s, pk_un (by omega)]; exact b2
theorem SA_f {μ : qM} {k : Nat} {x : Int32} (h : scrF k = true) : SA μ (qu μ 46 k x) := ⟨fun i _ b _ _ => qu_n b, fun q hq => by
  rw [qu_s]
  exact pk_un (fun e => by subst e; rw [hq] at h; cases h), fun _ _ => ⟨rfl, rfl⟩⟩
theorem hutsFor_sp {μ : qM} {n : Nat} {kd lt : Nat → Int32} {g : Nat} (hg : g < 144) (hM : HM μ n kd lt) (hn : n < 153) (post : Int32 → qM → Prop) (hp' : ∀ r μ', SA μ μ' → HS n kd lt g r (μ' 46 23) (μ' 46 24) → post r μ') : w_X11_hutsFor (nI g) post μ := by
  unfold w_X11_hutsFor
  refine misFree_sp hM _ _ (fun f0 => pb_if (fun hf0 => ?_) (fun hf0 => hp' 0 _ (SA.qr rfl) (Or.inl ⟨hf0, rfl⟩)))
  have gA : SA μ (qr μ 57 f0) := SA.qr rfl
  refine byOne_sp hg (hM.away f0) (by omega) _ (fun v hv a1 a2 μ1 g1 _ b1 => ⟨fun q => absurd q (by decide), fun _ => ?_⟩) (fun a1 μ1 g1 => ⟨fun _ => ?_, fun q => absurd rfl q⟩)
  · refine hp' 1 _ ((gA.trans g1).trans (SA_f rfl)) (Or.inr (Or.inl ⟨hf0, v, hv, a1, a2, rfl, ?_⟩))
    rw [qu_ss]; exact b1
  · unfold q_X11_hutsFor_30 q_X11_hutsFor_83
    refine for1 144 (fun j μ' => SA μ μ' ∧ ∀ x, x < j → ¬ (x ≠ g ∧ fb n kd lt (nI x) = true ∧ ∃ u, u < 144 ∧ p2 n kd lt g x u = true)) ?_ 0 (Nat.zero_le _) ⟨gA.trans g1, fun _ q => absurd q (Nat.not_lt_zero _)⟩
    rintro P j μ' hjn ⟨gS, hno⟩ hP
    refine ⟨fun hx => ?_, fun hx => ?_⟩
    · have : 144 ≤ j := pn_le (by omega) (by omega) hx
      exact hp' (-1) μ' gS (Or.inr (Or.inr (Or.inr ⟨hf0, a1, fun x hx => hno x (by omega), rfl⟩)))
    · have hlt : j < 144 := pn_nle (by omega) (by omega) hx
      have no : ¬ (j ≠ g ∧ fb n kd lt (nI j) = true ∧ ∃ u, u < 144 ∧ p2 n kd lt g j u = true) → ∀ μ2, SA μ μ2 → P (nI j + 1) μ2 := fun hb μ2 g2 => hP _ hlt ⟨g2, fun u hu => by
        by_cases e : u = j
        · subst e; exact hb
        · exact hno u (by omega)⟩
      refine ⟨fun q => no (fun p => p.1 (pn_eq (by omega) (by omega) q)) μ' gS, fun q => ?_⟩
      have hjg : j ≠ g := fun e => q (by rw [e])
      refine misFree_sp (gS.hm hM) _ _ (fun f => pb_if (fun hf => no (fun p => by rw [hf] at p; cases p.2.1) _ (gS.trans (SA.qr rfl))) (fun hf => ?_))
      have g1 : SA μ (qr μ' 57 f) := gS.trans (SA.qr rfl)
      have hM1 := g1.hm hM
      refine mput_sp hM1 (by omega) _ _ _ ?_
      have hM2 := hM1.put (by omega) 0 (nI j)
      refine byOne_sp hg hM2 (by omega) _ (fun u hu c1 c2 μ2 g2 _ b2 => ⟨fun q => absurd q (by decide), fun _ => ?_⟩) (fun c1 μ2 g2 => ⟨fun _ => ?_, fun q => absurd rfl q⟩)
      · have g3 := g1.trans (SA.unput (k := 0) (l := nI j) hM1 (by omega) g2)
        refine hp' 2 _ (g3.trans (SA_f rfl)) (Or.inr (Or.inr (Or.inl ⟨hf0, a1, j, hlt, ⟨hjg, hf, u, hu, c1⟩, hno, rfl, qu_ss, u, hu, c1, c2, ?_⟩)))
        rw [qu_s, pk_un (by omega), qu_s, pk_un (by omega)]; exact b2
      · have g3 := g1.trans (SA.unput (k := 0) (l := nI j) hM1 (by omega) g2)
        refine no (fun p => ?_) _ g3
        obtain ⟨_, _, u, hu, hp⟩ := p
        have := c1 u hu
        rw [p2, this] at hp; cases hp
