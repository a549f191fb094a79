/-- what the reference's text does, told by txt -/
theorem mtext_sp {μ : qM} {T : Nat} {b : Nat → Nat} {n : Nat} {kd lt w : Nat → Int32} {c : Int32} (hM : HM μ n kd lt) (h10 : n ≤ 10) (hT : MT μ T b) (hb : ∀ j, b j < 256) (hc : μ 46 5 = c) (hw : ∀ L, L < 144 → μ 49 L = w L) (post : Int32 → qM → Prop) (h1 : ∀ m st' μ', txt b T 200 1 (tks b T 0) (n, kd, lt, c, w) = (true, m, st') → (∀ i, scrB i = false → i ≠ 46 → i ≠ 47 → i ≠ 48 → i ≠ 49 → μ' i = μ i) → (∀ k, k ≠ 0 → k ≠ 5 → k ≠ 18 → scrF k = false → μ' 46 k = μ 46 k) → MS μ' st' → μ' 46 18 = 0 → post (nI m) μ') (h0 : ∀ s st' μ', txt b T 200 1 (tks b T 0) (n, kd, lt, c, w) = (false, s, st') → (∀ i, scrB i = false → i ≠ 46 → i ≠ 47 → i ≠ 48 → i ≠ 49 → μ' i = μ i) → (∀ k, k ≠ 18 → scrF k = false → μ' 46 k = μ 46 k) → HM μ' n kd lt → (∀ L, L < 144 → μ' 49 L = w L) → μ' 46 18 = 0 → post (-1 - nI s) μ') : w_X11_text post μ := by
  have n1 : (1 : Int32) ≠ 0 := by decide
  unfold w_X11_text q_X11_text_2
  refine for1 144 (fun j μ' => ∃ f, μ' = qr μ 61 f ∧ ∀ i, i < j → f i = μ 49 i) ?_ 0 (Nat.zero_le _) ⟨_, qr_id.symm, fun _ q => absurd q (Nat.not_lt_zero _)⟩
  rintro P j μ' hj ⟨f, rfl, hf⟩ hP
  refine ⟨fun hx => ?_, fun hx => ?_⟩
  · have : 144 ≤ j := pn_le (a := 144) (by omega) (by omega) hx
    have hf' : ∀ i, i < 144 → f i = μ 49 i := fun i hi => hf i (by omega)
    clear hP hx hj hf
    refine marks_sp _ (fun ρ k => ⟨Or.inl rfl, ?_⟩)
    obtain ⟨k27, k28, k29, k30, ki, kk⟩ := k
    have r46 : ∀ q, q ≠ 27 → q ≠ 28 → q ≠ 29 → q ≠ 30 → ρ 46 q = μ 46 q := fun q a b' c' d => (kk q a b' c' d).trans rfl
    have ri : ∀ i, i ≠ 46 → i ≠ 61 → ρ i = μ i := fun i a b' => (ki i a).trans (qr_n b')
    have r61 : ∀ L, L < 144 → ρ 61 L = w L := fun L hL => by
      rw [ki 61 (by omega), qr_s, hf' L hL]; exact hw L hL
    generalize hν : (qu (qu ρ 46 33 0) 46 32 0) = ν
    have ν46 : ∀ q, q ≠ 32 → q ≠ 33 → ν 46 q = ρ 46 q := fun q a c' => by
      rw [← hν, qu_s, pk_un a, qu_s, pk_un c']
    have νi : ∀ i, i ≠ 46 → ν i = ρ i := fun i a => by rw [← hν, qu_n a, qu_n a]
    have hTν : MT ν T b := by
      unfold MT
      rw [ν46 18 (by omega) (by omega), r46 18 (by omega) (by omega) (by omega) (by omega), νi 55 (by omega), ri 55 (by omega) (by omega)]
      exact hT
    have e32 : ν 46 32 = nI 0 := by rw [← hν]; exact qu_ss
    have e33 : ν 46 33 = 0 := by rw [← hν]; rfl
    have hSν : MS ν (n, kd, lt, c, w) := by
      refine ⟨⟨?_, hM.2.1, fun j hj => ⟨?_, ?_⟩⟩, ?_, fun L hL => ?_⟩
      · rw [ν46 0 (by omega) (by omega), r46 0 (by omega) (by omega) (by omega) (by omega)]; exact hM.1
      · rw [νi 47 (by omega), ri 47 (by omega) (by omega)]; exact (hM.2.2 j hj).1
      · rw [νi 48 (by omega), ri 48 (by omega) (by omega)]; exact (hM.2.2 j hj).2
      · rw [ν46 5 (by omega) (by omega), r46 5 (by omega) (by omega) (by omega) (by omega)]; exact hc
      · rw [νi 49 (by omega), ri 49 (by omega) (by omega)]; exact hw L hL
    have hs0 := tks_le (b := b) (Nat.zero_le T)
    refine next_sp hTν e32 (Nat.zero_le _) _ (fun ν1 g1 a1 a2 => ?_)
    have X1 : MTK ν1 T b (tks b T 0) := ⟨g1.mt hTν, hs0.2, a1, a2⟩
    have f1 : ν1 46 33 = 0 := (g1.2 33 (by omega) (by omega)).trans e33
    have P0 : PX n kd lt (n, kd, lt, c, w) := ⟨Nat.le_refl _, h10, fun _ _ => ⟨rfl, rfl⟩⟩
    refine mitem_sp X1 f1 hb (g1.uf.ms hSν) h10 _ (fun ν2 g2 E2 => ?_)
    have K2 : KI ν ν2 := g1.uf.ki.trans g2
    have A : ∀ ν3, KI ν ν3 → (∀ i, scrB i = false → i ≠ 46 → i ≠ 47 → i ≠ 48 → i ≠ 49 → ν3 i = μ i) := fun ν3 K3 i a b' c' d e => by
      have i61 : i ≠ 61 := fun q => by subst q; exact absurd a (by decide)
      rw [K3.1 i b' c' d e, νi i b', ri i b' i61]
    have B : ∀ ν3, KI ν ν3 → ∀ q, q ≠ 0 → q ≠ 5 → scrF q = false → ν3 46 q = μ 46 q := fun ν3 K3 q q0 q5 hq => by
      have ne : ∀ z, scrF z = true → q ≠ z := fun z hz e => by subst e; rw [hq] at hz; cases hz
      rw [K3.2 q q0 q5 (ne 31 rfl) (ne 32 rfl) (ne 33 rfl), ν46 q (ne 32 rfl) (ne 33 rfl), r46 q (ne 27 rfl) (ne 28 rfl) (ne 29 rfl) (ne 30 rfl)]
    refine mread_sp (μ := ν) hT.1 hb hs0.2 rfl P0 K2 E2 _ (fun ν3 m st' hR K3 S3 P3 => ?_) (fun ν3 v t st0 st' hR K3 S3 P3 e31 => ?_)
    · unfold q_X11_text_106
      refine ⟨Or.inl rfl, fun q => absurd rfl q, fun _ => ?_⟩
      refine h1 m st' _ hR (fun i a b' c' d e => by rw [qu_n b', qu_n b']; exact A ν3 K3 i a b' c' d e) (fun q q0 q5 q18 hq => ?_) S3 qu_ss
      have q33 : q ≠ 33 := fun e => by subst e; exact absurd hq (by decide)
      rw [qu_s, pk_un q18, qu_s, pk_un q33]
      exact B ν3 K3 q q0 q5 hq
    · unfold q_X11_text_106
      refine ⟨Or.inr rfl, fun _ => ?_, fun q => absurd q n1⟩
      generalize hσ : (qu (qu ν3 46 33 1) 46 18 0) = σ
      have σi : ∀ i, i ≠ 46 → σ i = ν3 i := fun i a => by rw [← hσ, qu_n a, qu_n a]
      have σ46 : ∀ q, q ≠ 18 → q ≠ 33 → σ 46 q = ν3 46 q := fun q a c' => by rw [← hσ, qu_s, pk_un a, qu_s, pk_un c']
      have σ18 : σ 46 18 = 0 := by rw [← hσ]; exact qu_ss
      unfold q_X11_text_125
      refine for1 144 (fun j μ' => ∃ f, μ' = qr σ 49 f ∧ ∀ i, i < j → f i = w i) ?_ 0 (Nat.zero_le _) ⟨_, qr_id.symm, fun _ q => absurd q (Nat.not_lt_zero _)⟩
      rintro P j μ' hj ⟨f, rfl, hf2⟩ hP
      have m46 : ∀ q, 27 ≤ q → q ≤ 30 → (qr σ 49 f) 46 q = ρ 46 q := fun q a c' => by
        rw [qr_n (by omega), σ46 q (by omega) (by omega), K3.2 q (by omega) (by omega) (by omega) (by omega) (by omega), ν46 q (by omega) (by omega)]
      refine ⟨fun hx => ?_, fun hx => ?_⟩
      · have : 144 ≤ j := pn_le (a := 144) (by omega) (by omega) hx
        unfold w_X11_goesBack
        have e31' : (qr σ 49 f) 46 31 = nI t := by rw [qr_n (by omega), σ46 31 (by omega) (by omega)]; exact e31
        have val : ∀ q, q ≠ 18 → scrF q = false → upd (upd (upd (upd ((qr σ 49 f) 46) 0 ((qr σ 49 f) 46 27)) 5 ((qr σ 49 f) 46 28)) 6 ((qr σ 49 f) 46 29)) 7 ((qr σ 49 f) 46 30) q = μ 46 q := fun q q18 hq => by
          rw [m46 27 (by omega) (by omega), m46 28 (by omega) (by omega), m46 29 (by omega) (by omega), m46 30 (by omega) (by omega), k27, k28, k29, k30]
          have z : ∀ i, (qr μ 61 f) 46 i = μ 46 i := fun i => rfl
          by_cases i7 : q = 7
          · subst i7; rw [pk_us]; rfl
          · rw [pk_un i7]
            by_cases i6 : q = 6
            · subst i6; rw [pk_us]; rfl
            · rw [pk_un i6]
              by_cases i5 : q = 5
              · subst i5; rw [pk_us]; rfl
              · rw [pk_un i5]
                by_cases i0 : q = 0
                · subst i0; rw [pk_us]; rfl
                · have q33 : q ≠ 33 := fun e => by subst e; exact absurd hq (by decide)
                  rw [pk_un i0, qr_n (by omega), σ46 q q18 q33]
                  exact B ν3 K3 q i0 i5 hq
        show post (-1 - (qr σ 49 f) 46 31) _
        rw [e31']
        refine h0 t st0 _ hR (fun i a b' c' d e => ?_) (fun q q18 hq => val q q18 hq) ⟨?_, hM.2.1, fun i hi => ⟨?_, ?_⟩⟩ (fun L hL => hf2 L (by omega)) ?_
        · rw [qu_n b', qu_n b', qu_n b', qu_n b', qr_n e, σi i b']; exact A ν3 K3 i a b' c' d e
        · exact (val 0 (by omega) rfl).trans hM.1
        · show (qr σ 49 f) 47 i = kd i
          rw [qr_n (by omega), σi 47 (by omega)]
          exact (S3.1.2.2 i (Nat.lt_of_lt_of_le hi P3.1)).1.trans (P3.2.2 i hi).1
        · show (qr σ 49 f) 48 i = lt i
          rw [qr_n (by omega), σi 48 (by omega)]
          exact (S3.1.2.2 i (Nat.lt_of_lt_of_le hi P3.1)).2.trans (P3.2.2 i hi).2
        · exact σ18
      · have hlt : j < 144 := pn_nle (a := 144) (by omega) (by omega) hx
        rw [clp (by omega)]
        have e61 : (qr σ 49 f) 61 j = w j := by
          rw [qr_n (by omega), σi 61 (by omega), K3.1 61 (by omega) (by omega) (by omega) (by omega), νi 61 (by omega)]; exact r61 j hlt
        rw [e61]
        refine ⟨vp_in_nI hlt (by omega), vp_in_nI hlt (by omega), hP _ hlt ⟨upd f j (w j), qu_qr, fun i hi => ?_⟩⟩
        by_cases e : i = j
        · subst e; exact pk_us
        · rw [pk_un e]; exact hf2 i (by omega)
  · have hlt : j < 144 := pn_nle (a := 144) (by omega) (by omega) hx
    rw [clp (by omega), qr_n (by omega)]
    refine ⟨vp_in_nI hlt (by omega), vp_in_nI hlt (by omega), hP _ hlt ⟨upd f j (μ 49 j), qu_qr, fun i hi => ?_⟩⟩
    by_cases e : i = j
    · subst e; exact pk_us
    · rw [pk_un e]; exact hf i (by omega)
