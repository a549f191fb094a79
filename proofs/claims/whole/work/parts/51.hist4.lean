def m2 (n : Nat) : Nat := if n < 2 then n else 2
def sm (n : Nat) (kd lt : Nat → Int32) (w : Nat → Nat) (s h : Nat) : Nat := if s.testBit h && (decide (pcn 10 s < 3) || ftB n kd lt h (s - 2 ^ h)) then w (s - 2 ^ h) else 0
def WM (n : Nat) (kd lt : Nat → Int32) (ok : Nat → Bool) (N : Nat) (w : Nat → Nat) : Prop := (0 < N → w 0 = 1) ∧ ∀ s, s < N → 0 < s → w s = if pcn 10 s = m2 n ∧ ok s = false then 0 else sumN (sm n kd lt w s) n
def OKD (n : Nat) (v : Int32) (ok : Nat → Bool) : Prop := (v < 0 ∧ ∀ s, ok s = true) ∨ ∃ f, f < n ∧ v = nI f ∧ ∀ s, ok s = s.testBit f
theorem OKD.x {n : Nat} {v : Int32} {ok : Nat → Bool} (hn : n ≤ 10) (h : OKD n v ok) : ∀ s, s < 1024 → ∀ A B : Prop, (ok s = true → A) → (ok s = false → B) → ((v < 0 → A) ∧ (¬ v < 0 → (((nI s >>> (v &&& 31)) &&& 1 = 0 → B) ∧ (¬ (nI s >>> (v &&& 31)) &&& 1 = 0 → A)))) := by
  intro s hs A B a b
  rcases h with ⟨h1, h2⟩ | ⟨f, hf, rfl, h2⟩
  · exact ⟨fun _ => a (h2 s), fun q => absurd h1 q⟩
  · refine ⟨fun q => absurd q (nI_pos (by omega)), fun _ => ?_⟩
    rw [T1 s hs f (by omega)]
    exact pb_if (fun q => b (by rw [h2]; exact q)) (fun q => a (by rw [h2]; exact q))
theorem sm_cong {n : Nat} {kd lt : Nat → Int32} {w w' : Nat → Nat} {s : Nat} (hs : s < 1024) (hn : n ≤ 10) (h : ∀ x, x < s → w x = w' x) : sumN (sm n kd lt w s) n = sumN (sm n kd lt w' s) n := sumN_cong (fun j hj => by
  unfold sm
  cases hb : s.testBit j
  · rfl
  · rw [h _ (T4 s hs j (by omega) hb).1])
theorem WM_ext {n : Nat} {kd lt : Nat → Int32} {ok : Nat → Bool} {N : Nat} {w : Nat → Nat} (hn : n ≤ 10) (hN : N < 1024) (h0 : 0 < N) (h : WM n kd lt ok N w) {x : Nat} (h1 : x = if pcn 10 N = m2 n ∧ ok N = false then 0 else sumN (sm n kd lt w N) n) : WM n kd lt ok (N + 1) (updN w N x) := by
  have u : ∀ j, j < N → updN w N x j = w j := fun j hj => updN_n hj
  have uN : updN w N x N = x := if_pos rfl
  refine ⟨fun _ => by rw [u 0 h0]; exact h.1 h0, fun s hs hs0 => ?_⟩
  have sc : sumN (sm n kd lt (updN w N x) s) n = sumN (sm n kd lt w s) n := sm_cong (by omega) hn (fun y hy => u y (by omega))
  rw [sc]
  by_cases e : s = N
  · subst e; rw [uN]; exact h1
  · rw [u s (by omega)]; exact h.2 s (by omega) hs0
theorem findWays_sp {μ : qM} {n : Nat} {kd lt : Nat → Int32} {ok : Nat → Bool} {v1 : Int32} (hok : OKD n v1 ok) (hn : n ≤ 10) (hM : HM μ n kd lt) (post : qM → Prop) (hp' : ∀ μ' w, SA μ μ' → WM n kd lt ok (2 ^ n) w → (∀ x, x < 2 ^ n → μ' 60 x = nI (w x)) → post μ') : w_X11_findWays v1 post μ := by
  have l10 : (2 : Nat) ^ n ≤ 2 ^ 10 := Nat.pow_le_pow_right (by omega) hn
  have lp : 0 < 2 ^ n := Nat.two_pow_pos n
  unfold w_X11_findWays q_X11_findWays_9
  refine ⟨vp_in_nI (n := 0) (by omega) (by omega), ?_⟩
  refine for1 (2 ^ n) (fun s μ' => 0 < s ∧ ∃ w, SA μ μ' ∧ WM n kd lt ok s w ∧ ∀ x, x < s → μ' 60 x = nI (w x)) ?_ 1 (by omega) ⟨by omega, fun _ => 1, SA.qr rfl, ⟨fun _ => rfl, fun s h1 h2 => by omega⟩, fun x hx => ?_⟩
  · rintro P s μ' hs ⟨hs0, w, g, hW, hw⟩ hP
    rw [(g.hm hM).1, shl_tab n (by omega)]
    refine ⟨fun hx => ?_, fun hx => ?_⟩
    · have : 2 ^ n ≤ s := pn_le (by omega) (by omega) hx
      have hsn : s = 2 ^ n := by omega
      subst hsn
      exact hp' μ' w g hW hw
    · have hlt : s < 2 ^ n := pn_nle (by omega) (by omega) hx
      have vs : vp_in (nI s) 1024 := vp_in_nI (by omega) (by omega)
      have cs' : (nI s).toNatClampNeg = s := clp (by omega)
      have t3 := T3 s (by omega)
      refine ⟨vs, bits_sp (by omega) _ _ ?_⟩
      rw [cs']
      unfold q_X11_findWays_34 q_X11_findWays_75 q_X11_findWays_91 q_X11_findWays_128
      refine for1 n (fun h ν => SA μ ν ∧ (∀ x, x < s → ν 60 x = nI (w x)) ∧ ν 60 s = nI (sumN (sm n kd lt w s) h)) ?_ 0 (Nat.zero_le _) ⟨g.trans (SA.qr rfl), fun x hx => ?_, qu_ss⟩
      · rintro P2 h ν hh ⟨g2, hw2, hv2⟩ hP2
        rw [(g2.hm hM).1, cs']
        have fin : ∀ x ν', SA μ ν' → (∀ y, y < s → ν' 60 y = nI (w y)) → ν' 60 s = nI x → (x = if pcn 10 s = m2 n ∧ ok s = false then 0 else sumN (sm n kd lt w s) n) → P (nI s + 1) ν' := fun x ν' g' hw' hv' hx => hP _ hlt ⟨by omega, updN w s x, g', WM_ext hn (by omega) hs0 hW hx, fun y hy => by
          unfold updN
          by_cases e : y = s
          · subst e; rw [if_pos rfl]; exact hv'
          · rw [if_neg e]; exact hw' y (by omega)⟩
        refine ⟨fun hx => ?_, fun hx => ?_⟩
        · have hnh : n ≤ h := pn_le (by omega) (by omega) hx
          have hhn : h = n := by omega
          subst hhn
          have em : (if nI h < 2 then nI h else 2) = nI (m2 h) := by
            unfold m2
            by_cases q : h < 2
            · rw [if_pos q]; exact if_pos (nI_lt (b := 2) q (by omega))
            · rw [if_neg q]; exact if_neg (fun p => q (pn_lt (b := 2) (by omega) (by omega) p))
          have lm : m2 h ≤ 2 := by unfold m2; split <;> omega
          rw [em]
          rcases hok with ⟨h1, h2⟩ | ⟨f, hf, rfl, h2⟩
          · exact ⟨fun _ => fin _ ν g2 hw2 hv2 (by rw [if_neg (fun q => by rw [h2] at q; cases q.2)]), fun q => absurd h1 q⟩
          · refine ⟨fun q => absurd q (nI_pos (by omega)), fun _ => ⟨fun q => ?_, fun q => ?_⟩⟩
            · exact fin _ ν g2 hw2 hv2 (by rw [if_neg (fun p => q (by rw [p.1]))])
            · have hpm : pcn 10 s = m2 h := pn_eq (by omega) (by omega) q
              rw [T1 s (by omega) f (by omega)]
              refine pb_if' (fun hb => ?_) (fun hb => ⟨vs, ?_⟩)
              · exact fin _ ν g2 hw2 hv2 (by rw [if_neg (fun p => by rw [h2, hb] at p; cases p.2)])
              · refine fin 0 _ (g2.trans (SA.qr rfl)) (fun y hy => ?_) qu_ss (by rw [if_pos ⟨hpm, by rw [h2]; exact hb⟩])
                rw [qu_s, pk_un (by omega)]; exact hw2 y hy
        · have hlh : h < n := pn_nle (by omega) (by omega) hx
          rw [T2 s (by omega) h (by omega)]
          have no : sm n kd lt w s h = 0 → ∀ ν', SA μ ν' → (∀ y, y < s → ν' 60 y = nI (w y)) → ν' 60 s = ν 60 s → P2 (nI h + 1) ν' := fun hb ν' g' hw' hv' => hP2 _ hlh ⟨g', hw', by rw [sumN, hb, Nat.add_zero, hv', hv2]⟩
          cases hb : s.testBit h
          · have er : rmv s h = s := by rw [rmv, hb]; rfl
            rw [er]
            exact ⟨fun _ => no (by rw [sm, hb]; rfl) ν g2 hw2 rfl, fun q => absurd rfl q⟩
          · obtain ⟨g1', g2'⟩ := T4 s (by omega) h (by omega) hb
            have er : rmv s h = s - 2 ^ h := by rw [rmv, hb]; rfl
            have v1' : vp_in (nI (s - 2 ^ h)) 1024 := vp_in_nI (by omega) (by omega)
            rw [er]
            refine ⟨fun q => by have := pn_eq (by omega) (by omega) q; omega, fun _ => ?_⟩
            have yes : sm n kd lt w s h = w (s - 2 ^ h) → vp_in (nI s) 1024 ∧ (vp_in (nI (s - 2 ^ h)) 1024 ∧ (vp_in (nI s) 1024 ∧ P2 (nI h + 1) (qu ν 60 s (ν 60 s + ν 60 (nI (s - 2 ^ h)).toNatClampNeg)))) := fun hb' => ⟨vs, v1', vs, hP2 _ hlh ⟨g2.trans (SA.qr rfl), fun y hy => by rw [qu_s, pk_un (by omega)]; exact hw2 y hy, by
              rw [qu_ss, clp (by omega), hv2, hw2 _ g1', nI_add, sumN, hb']⟩⟩
            refine ⟨fun q => ?_, fun q => ?_⟩
            · have hp : pcn 10 s < 3 := pn_lt (b := 3) (by omega) (by omega) q
              have := yes (by rw [sm, hb, decide_eq_true hp]; rfl)
              exact this
            · have hp : ¬ pcn 10 s < 3 := by have := pn_nlt (b := 3) (by omega) (by omega) q; omega
              refine mfits_sp hn (g2.hm hM) hlh (by omega) _ (pb_if (fun hf => no (by rw [sm, hf, decide_eq_false hp, hb]; rfl) ν g2 hw2 rfl) (fun hf => ?_))
              have := yes (by rw [sm, hf, hb, Bool.or_true]; rfl)
              exact this
      · rw [qu_s, pk_un (by omega)]; exact hw x hx
  · have : x = 0 := by omega
    subst this
    exact qu_ss
theorem cnt_n {s n : Nat} (hs : s < 2 ^ n) (hn : n ≤ 10) : cntB (fun h => s.testBit h) n = cntB (fun h => s.testBit h) 10 := by
  have key : ∀ m, n ≤ m → cntB (fun h => s.testBit h) m = cntB (fun h => s.testBit h) n := by
    intro m
    induction m with
    | zero => intro h; have : n = 0 := by omega
              subst this; rfl
    | succ m ih =>
      intro h
      by_cases e : n = m + 1
      · subst e; rfl
      · have hb : s.testBit m = false := Nat.testBit_lt_two_pow (Nat.lt_of_lt_of_le hs (Nat.pow_le_pow_right (by omega) (by omega)))
        rw [cntB, ih (by omega), hb]; rfl
  exact (key 10 hn).symm
theorem WM_one {n : Nat} {kd lt : Nat → Int32} {w : Nat → Nat} {s : Nat} (hs : s < 2 ^ n) (hn : n ≤ 10) (hp : pcn 10 s < 3) (h : ∀ j, j < n → s.testBit j = true → w (s - 2 ^ j) = 1) : sumN (sm n kd lt w s) n = pcn 10 s := by
  have l10 : (2 : Nat) ^ n ≤ 2 ^ 10 := Nat.pow_le_pow_right (by omega) hn
  have key : ∀ m, m ≤ n → sumN (sm n kd lt w s) m = cntB (fun h => s.testBit h) m := by
    intro m
    induction m with
    | zero => intro _; rfl
    | succ m ih =>
      intro hm
      rw [sumN, cntB, ih (by omega), sm, decide_eq_true hp]
      cases hb : s.testBit m
      · rfl
      · rw [h m (by omega) hb]; rfl
  rw [key n (Nat.le_refl _), cnt_n hs hn, (T3 s (by omega)).1]
theorem WM_1 {n : Nat} {kd lt : Nat → Int32} {ok : Nat → Bool} {w : Nat → Nat} {s : Nat} (hn : n ≤ 10) (h : WM n kd lt ok (2 ^ n) w) (h1 : 2 ≤ n ∨ ok s = true) (hs : s < 2 ^ n) (hp : pcn 10 s = 1) : w s = 1 := by
  have l10 : (2 : Nat) ^ n ≤ 2 ^ 10 := Nat.pow_le_pow_right (by omega) hn
  have s0 : 0 < s := by
    rcases Nat.eq_zero_or_pos s with e | e
    · subst e; exact absurd hp (by decide)
    · exact e
  have hno : ¬ (pcn 10 s = m2 n ∧ ok s = false) := by
    rintro ⟨a, b⟩
    rcases h1 with q | q
    · unfold m2 at a; rw [if_neg (by omega)] at a; omega
    · rw [q] at b; cases b
  rw [h.2 s hs s0, if_neg hno, WM_one hs hn (by omega) (fun j hj hb => ?_), hp]
  obtain ⟨g1, g2⟩ := T4 s (by omega) j (by omega) hb
  have : s - 2 ^ j = 0 := by
    rcases Nat.eq_zero_or_pos (s - 2 ^ j) with e | e
    · exact e
    · have := (T3 (s - 2 ^ j) (by omega)).2.2 (by omega)
      omega
  rw [this]; exact h.1 (by omega)
theorem pcn_n {s n : Nat} (hs : s < 2 ^ n) (hn : n ≤ 10) : pcn 10 s ≤ n := by
  have l10 : (2 : Nat) ^ n ≤ 2 ^ 10 := Nat.pow_le_pow_right (by omega) hn
  rw [← (T3 s (by omega)).1, ← cnt_n hs hn]; exact cntB_le
theorem WXM {n : Nat} {kd lt : Nat → Int32} {ok : Nat → Bool} {w w' : Nat → Nat} (hn : n ≤ 10) (h : WX n kd lt ok (2 ^ n) w) (h' : WM n kd lt ok (2 ^ n) w') : ∀ s, s < 2 ^ n → 2 ≤ pcn 10 s → w s = w' s := by
  have l10 : (2 : Nat) ^ n ≤ 2 ^ 10 := Nat.pow_le_pow_right (by omega) hn
  intro s
  induction s using Nat.strongRecOn with
  | _ s ih =>
    intro hs hp
    have s0 : 0 < s := by
      rcases Nat.eq_zero_or_pos s with e | e
      · subst e; exact absurd hp (by decide)
      · exact e
    have hpn := pcn_n hs hn
    have em : m2 n = 2 := by unfold m2; rw [if_neg (by omega)]
    rw [h'.2 s hs s0, em]
    by_cases q : pcn 10 s = 2
    · rw [(h.2 s hs s0).1 (by omega), q]
      cases ho : ok s
      · simp
      · have hno : ¬ (2 = 2 ∧ true = false) := fun p => by cases p.2
        rw [if_pos rfl, if_neg hno, WM_one hs hn (by omega) (fun j hj hb => ?_), q]
        obtain ⟨g1, g2⟩ := T4 s (by omega) j (by omega) hb
        exact WM_1 hn h' (Or.inl (by omega)) (by omega) (by omega)
    · rw [(h.2 s hs s0).2 (by omega), if_neg (fun p => q p.1)]
      refine sumN_cong (fun j hj => ?_)
      unfold sq sm
      cases hb : s.testBit j
      · rfl
      · obtain ⟨g1, g2⟩ := T4 s (by omega) j (by omega) hb
        rw [decide_eq_false (by omega), ih _ g1 (by omega) (by omega)]; rfl
theorem T5 : ∀ n, n ≤ 10 → pcn 10 (2 ^ n - 1) = n := by decide
theorem WXM_all {n : Nat} {kd lt : Nat → Int32} {ok : Nat → Bool} {w w' : Nat → Nat} (hn : n ≤ 10) (h : WX n kd lt ok (2 ^ n) w) (h' : WM n kd lt ok (2 ^ n) w') (h1 : n = 1 → ok 1 = true) : w (2 ^ n - 1) = w' (2 ^ n - 1) := by
  have lp : 0 < 2 ^ n := Nat.two_pow_pos n
  by_cases q : 2 ≤ n
  · exact WXM hn h h' _ (by omega) (by rw [T5 n hn]; exact q)
  · have : n = 0 ∨ n = 1 := by omega
    rcases this with rfl | rfl
    · exact (h.1 (by omega)).trans (h'.1 (by omega)).symm
    · have a := (h.2 1 (by omega) (by omega)).1 (by decide)
      rw [h1 rfl] at a
      have b := WM_1 hn h' (Or.inr (h1 rfl)) (by omega) (by decide : pcn 10 1 = 1)
      show w 1 = w' 1
      rw [a, b]; rfl
