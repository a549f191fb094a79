theorem prepare_sp {μ : qM} {n : Nat} {kd lt : Nat → Int32} (hX : HX μ 2 n kd lt) (post : qM → Prop) (hp' : ∀ μ', YK 43 44 45 45 μ μ' → E0 μ' n kd lt → post μ') : w_X0_prepare 43 2 post μ := by
  have h10 := hX.2.1
  unfold w_X0_prepare w_X1_size
  rw [hX.1]
  show q_X0_prepare_15 43 2 post 0 (qu μ 43 2 (if 10 < nI n then 10 else nI n))
  rw [if_neg (fun q => by have := pn_lt (a := 10) (by omega) (by omega) q; omega)]
  have l10 : (2 : Nat) ^ n ≤ 2 ^ 10 := Nat.pow_le_pow_right (by omega) h10
  unfold q_X0_prepare_15
  refine for1 n (fun h μ' => ∃ e, μ' = qr (qu μ 43 2 (nI n)) 45 e ∧ ∀ h' a, h' < h → a < n → e (10 * h' + a) = nI (setN (evB kd lt h' a) n)) ?_ 0 (Nat.zero_le _) ⟨_, qr_id.symm, fun _ _ q => absurd q (Nat.not_lt_zero _)⟩
  rintro P h μ' hh ⟨e, rfl, he⟩ hP
  have s2 : ∀ e, (qr (qu μ 43 2 (nI n)) 45 e) 43 2 = nI n := fun e => by
    rw [qr_n (by omega)]; exact qu_ss
  rw [s2]
  refine ⟨fun hx => ?_, fun hx => ?_⟩
  · have : n ≤ h := pn_le (by omega) (by omega) hx
    refine hp' _ (fun i a b c _ => by rw [qr_n c, qu_n a]) ⟨s2 e, fun h a hh' ha => ?_⟩
    rw [qr_s]; exact he h a (by omega) ha
  · have hlt : h < n := pn_nle (by omega) (by omega) hx
    have hXe : ∀ e, HX (qr (qu μ 43 2 (nI n)) 45 e) 2 n kd lt := fun e => hX
    refine homeOf_sp (hXe e) hlt _ ?_
    unfold q_X0_prepare_32
    refine for1 n (fun a μ' => ∃ e, μ' = qr (qu μ 43 2 (nI n)) 45 e ∧ (∀ h' a, h' < h → a < n → e (10 * h' + a) = nI (setN (evB kd lt h' a) n)) ∧ ∀ a', a' < a → e (10 * h + a') = nI (setN (evB kd lt h a') n)) ?_ 0 (Nat.zero_le _) ⟨e, rfl, he, fun _ q => absurd q (Nat.not_lt_zero _)⟩
    rintro P2 a μ' ha ⟨e, rfl, he, he2⟩ hP2
    rw [s2]
    refine ⟨fun hx2 => ?_, fun hx2 => ?_⟩
    · have : n ≤ a := pn_le (by omega) (by omega) hx2
      refine hP _ hlt ⟨e, rfl, fun h' a' hh' ha' => ?_⟩
      by_cases q : h' = h
      · subst q; exact he2 a' (by omega)
      · exact he h' a' (by omega) ha'
    · have hla : a < n := pn_nle (by omega) (by omega) hx2
      unfold q_X0_prepare_47 q_X0_prepare_93
      refine for2 n (fun b x μ' => μ' = qr (qu μ 43 2 (nI n)) 45 e ∧ x = setI (evB kd lt h a) b) ?_ 0 (Nat.zero_le _) ⟨rfl, rfl⟩
      rintro P3 b x μ' hb ⟨rfl, rfl⟩ hP3
      rw [s2]
      refine ⟨fun hx3 => ?_, fun hx3 => ?_⟩
      · have hnb : n ≤ b := pn_le (by omega) (by omega) hx3
        have hbn : b = n := by omega
        subst hbn
        have e10 : (10 : Int32) * nI h + nI a = nI (10 * h + a) := by rw [show (10 : Int32) = nI 10 from rfl, pk_mul, nI_add]
        rw [e10, clp (by omega), setI_N _ (by omega)]
        refine ⟨vp_in_nI (by omega) (by omega), hP2 _ hla ⟨upd e (10 * h + a) (nI (setN (evB kd lt h a) b)), qu_qr, fun h' a' hh' ha' => ?_, fun a' ha' => ?_⟩⟩
        · rw [pk_un (by omega)]; exact he h' a' hh' ha'
        · by_cases q : a' = a
          · subst q; exact pk_us
          · rw [pk_un (by omega)]; exact he2 a' (by omega)
      · have hlb : b < n := pn_nle (by omega) (by omega) hx3
        refine farOf_sp (hXe e) hla _ _ (farOf_sp (hXe e) hlb _ _ ?_)
        rw [arePair_eq (hXe e) hla hlb]
        refine ⟨fun q => hP3 _ _ hlb ⟨rfl, ?_⟩, fun q => pb_if (fun hb' => hP3 _ _ hlb ⟨rfl, ?_⟩) (fun hb' => hP3 _ _ hlb ⟨rfl, ?_⟩)⟩
        · have : evB kd lt h a b = false := by
            have q' : (fr (kd a) (lt a) (lt h) == fr (kd b) (lt b) (lt h)) = false := by rw [beq_eq_false_iff_ne]; exact q
            rw [evB, q', Bool.false_and]
          simp only [setI, this, Bool.false_eq_true, if_false]
        · have : evB kd lt h a b = false := by rw [evB, hb', Bool.and_false]
          simp only [setI, this, Bool.false_eq_true, if_false]
        · have : evB kd lt h a b = true := by rw [evB, hb', q]; simp
          simp only [setI, this, if_true]
theorem sq_cong {n : Nat} {kd lt : Nat → Int32} {w w' : Nat → Nat} {s : Nat} (hs : s < 1024) (hn : n ≤ 10) (h : ∀ x, x < s → w x = w' x) : sumN (sq n kd lt w s) n = sumN (sq n kd lt w' s) n := sumN_cong (fun j hj => by
  unfold sq
  cases hb : s.testBit j
  · rfl
  · rw [h _ (T4 s hs j (by omega) hb).1])
theorem WX_ext {n : Nat} {kd lt : Nat → Int32} {ok : Nat → Bool} {N : Nat} {w : Nat → Nat} (hn : n ≤ 10) (hN : N < 1024) (h0 : 0 < N) (h : WX n kd lt ok N w) {x : Nat} (h1 : pcn 10 N ≤ 2 → x = if ok N then pcn 10 N else 0) (h2 : 2 < pcn 10 N → x = sumN (sq n kd lt w N) n) : WX n kd lt ok (N + 1) (updN w N x) := by
  have u : ∀ j, j < N → updN w N x j = w j := fun j hj => updN_n hj
  have uN : updN w N x N = x := if_pos rfl
  refine ⟨fun _ => by rw [u 0 h0]; exact h.1 h0, fun s hs hs0 => ?_⟩
  have sc : sumN (sq n kd lt (updN w N x) s) n = sumN (sq n kd lt w s) n := sq_cong (by omega) hn (fun y hy => u y (by omega))
  rw [sc]
  by_cases e : s = N
  · subst e; rw [uN]; exact ⟨h1, h2⟩
  · rw [u s (by omega)]; exact h.2 s (by omega) hs0
theorem waysOf_sp {μ : qM} {n : Nat} {kd lt : Nat → Int32} {ok : Nat → Bool} {s : Nat} {w : Nat → Nat} (v2 : Int32) (hok : ∀ s, s < 1024 → ∀ A B : Prop, (ok s = true → A) → (ok s = false → B) → ((v2 < 0 → A) ∧ (¬ v2 < 0 → (((nI s >>> (v2 &&& 31)) &&& 1 = 0 → B) ∧ (¬ (nI s >>> (v2 &&& 31)) &&& 1 = 0 → A))))) (hn : n ≤ 10) (hE : E0 μ n kd lt) (hs : s < 1024) (hW : WX n kd lt ok s w) (hw : ∀ x, x < s → μ 44 x = nI (w x)) (post : Int32 → qM → Prop) (hp' : ∀ x, (pcn 10 s ≤ 2 → x = if ok s then pcn 10 s else 0) → (2 < pcn 10 s → x = sumN (sq n kd lt w s) n) → post (nI x) μ) : w_X0_waysOf 43 (nI s) v2 post μ := by
  have t3 := T3 s hs
  unfold w_X0_waysOf
  refine bitCount_sp hs _ _ ⟨fun q => ?_, fun q => ?_⟩
  · have hp : 2 < pcn 10 s := pn_lt (a := 2) (by omega) (by omega) q
    unfold q_X0_waysOf_34 q_X0_waysOf_92
    refine for2 n (fun j x μ' => μ' = μ ∧ x = nI (sumN (sq n kd lt w s) j)) ?_ 0 (Nat.zero_le _) ⟨rfl, rfl⟩
    rintro P j x μ' hj ⟨rfl, rfl⟩ hP
    rw [hE.1]
    refine ⟨fun hx => ?_, fun hx => ?_⟩
    · have : n ≤ j := pn_le (by omega) (by omega) hx
      rw [show j = n by omega]
      exact hp' _ (fun q => by omega) (fun _ => rfl)
    · have hlt : j < n := pn_nle (by omega) (by omega) hx
      rw [T2 s hs j (by omega)]
      have no : sq n kd lt w s j = 0 → P (nI (sumN (sq n kd lt w s) j)) (nI j + 1) μ' := fun hb => hP _ _ hlt ⟨rfl, by rw [sumN, hb, Nat.add_zero]⟩
      cases hb : s.testBit j
      · have er : rmv s j = s := by rw [rmv, hb]; rfl
        rw [er]
        exact ⟨fun _ => no (by rw [sq, hb]; rfl), fun q => absurd rfl q⟩
      · obtain ⟨g1, g2⟩ := T4 s hs j (by omega) hb
        have er : rmv s j = s - 2 ^ j := by rw [rmv, hb]; rfl
        rw [er, clp (by omega), show μ' (43 + 1) (s - 2 ^ j) = nI (w (s - 2 ^ j)) from hw _ g1]
        have wl := WX_lt hn (by omega) hW g1
        have v1 : vp_in (nI (s - 2 ^ j)) 1024 := vp_in_nI (by omega) (by omega)
        refine ⟨fun q => by have := pn_eq (by omega) (by omega) q; omega, fun _ => ⟨v1, fun q => no ?_, fun q => ?_⟩⟩
        · have : w (s - 2 ^ j) = 0 := by have := pn_le (b := 0) wl (by omega) q; omega
          rw [sq, this]; split <;> rfl
        · refine fits_sp hn hE hlt (by omega) _ (pb_if (fun hf => no (by rw [sq, hf, Bool.and_false]; rfl)) (fun hf => ⟨v1, ?_⟩))
          rintro x rfl
          rw [show μ' (43 + 1) (s - 2 ^ j) = nI (w (s - 2 ^ j)) from hw _ g1, nI_add]
          refine hP _ _ hlt ⟨rfl, ?_⟩
          rw [sumN, sq, hb, hf]; rfl
  · have hp : pcn 10 s ≤ 2 := pn_nlt (a := 2) (by omega) (by omega) q
    unfold q_X0_waysOf_22
    refine hok s hs _ _ (fun q => hp' _ (fun _ => by rw [q]; rfl) (fun q => by omega)) (fun q => hp' 0 (fun _ => by rw [q]; rfl) (fun q => by omega))
theorem tell_sp {μ : qM} {n : Nat} {kd lt : Nat → Int32} {ok : Nat → Bool} (v2 : Int32) (hok : ∀ s, s < 1024 → ∀ A B : Prop, (ok s = true → A) → (ok s = false → B) → ((v2 < 0 → A) ∧ (¬ v2 < 0 → (((nI s >>> (v2 &&& 31)) &&& 1 = 0 → B) ∧ (¬ (nI s >>> (v2 &&& 31)) &&& 1 = 0 → A))))) (hX : HX μ 2 n kd lt) (post : Int32 → qM → Prop) (hp' : ∀ μ' w, YK 43 44 45 45 μ μ' → E0 μ' n kd lt → WX n kd lt ok (2 ^ n) w → (∀ x, x < 2 ^ n → μ' 44 x = nI (w x)) → post (nI (w (2 ^ n - 1))) μ') : w_X0_tell 43 2 v2 post μ := by
  have hn := hX.2.1
  have l10 : (2 : Nat) ^ n ≤ 2 ^ 10 := Nat.pow_le_pow_right (by omega) hn
  have lp : 0 < 2 ^ n := Nat.two_pow_pos n
  unfold w_X0_tell
  refine prepare_sp hX _ (fun μ1 g hE => ⟨vp_in_nI (n := 0) (by omega) (by omega), ?_⟩)
  rw [hE.1, shl_tab n (by omega), show (nI (2 ^ n) - 1 : Int32) = nI (2 ^ n - 1) from pk_sub (b := 1) (by omega)]
  unfold q_X0_tell_24
  refine for1 (2 ^ n) (fun s μ' => 0 < s ∧ ∃ w, YK 43 44 45 45 μ μ' ∧ E0 μ' n kd lt ∧ WX n kd lt ok s w ∧ ∀ x, x < s → μ' 44 x = nI (w x)) ?_ 1 (by omega) ⟨by omega, fun _ => 1, g.trans (fun i _ b _ _ => qu_n b), ⟨hE.1, hE.2⟩, ⟨fun _ => rfl, fun s h1 h2 => by omega⟩, fun x hx => ?_⟩
  · rintro P s μ' hs ⟨hs0, w, g, hE, hW, hw⟩ hP
    refine ⟨fun hx => ?_, fun hx => ?_⟩
    · have : 2 ^ n - 1 < s := pn_lt (by omega) (by omega) hx
      have hsn : s = 2 ^ n := by omega
      subst hsn
      rw [clp (by omega)]
      refine ⟨vp_in_nI (by omega) (by omega), ?_⟩
      rw [show μ' (43 + 1) (2 ^ n - 1) = nI (w (2 ^ n - 1)) from hw _ (by omega)]
      exact hp' μ' w g hE hW hw
    · have hlt : s ≤ 2 ^ n - 1 := pn_nlt (by omega) (by omega) hx
      refine waysOf_sp v2 hok hn hE (by omega) hW hw _ (fun x h1 h2 => ⟨vp_in_nI (by omega) (by omega), ?_⟩)
      rw [clp (by omega)]
      refine hP _ (by omega) ⟨by omega, updN w s x, g.trans (fun i _ b _ _ => qu_n b), ⟨hE.1, hE.2⟩, WX_ext hn (by omega) hs0 hW h1 h2, fun y hy => ?_⟩
      show upd (μ' 44) s (nI x) y = nI (updN w s x y)
      unfold updN
      by_cases e : y = s
      · subst e; rw [pk_us, if_pos rfl]
      · rw [pk_un e, if_neg e]; exact hw y (by omega)
  · have : x = 0 := by omega
    subst this
    exact qu_ss
