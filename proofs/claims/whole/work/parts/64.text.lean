/-- houses of kinds and lots, worths under 100 -/
def WT (st : (Nat × (Nat → Int32) × (Nat → Int32) × Int32 × (Nat → Int32))) : Prop := st.1 ≤ 10 ∧ WF st.1 st.2.1 st.2.2.1 ∧ ∀ L, L < 144 → ∃ k, k < 100 ∧ st.2.2.2.2 L = nI k
theorem itm_wt {b : Nat → Nat} {T s : Nat} {st : (Nat × (Nat → Int32) × (Nat → Int32) × Int32 × (Nat → Int32))} (h : WT st) : WT (itm b T s st).2.2 := by
  obtain ⟨h1, h2, h3⟩ := id h
  unfold itm
  split
  · rename_i k hk
    rw [List.find?_range_eq_some] at hk
    have hk7 : k < 7 := List.mem_range.mp hk.2.1
    unfold ith
    by_cases h10 : st.1 = 10
    · rw [if_pos h10]; exact h
    · rw [if_neg h10]
      by_cases c1 : wB b T 9 (nxS b T s) = false
      · rw [if_pos c1]; exact h
      · rw [if_neg c1]
        by_cases c2 : rdB b T 11 (nxS b T (nxS b T s)) = false
        · rw [if_pos c2]; exact h
        · rw [if_neg c2]
          by_cases c3 : rdB b T 11 (nxS b T (nxS b T (nxS b T s))) = false
          · rw [if_pos c3]; exact h
          · rw [if_neg c3]
            have l2 := (rdB_iff.mp (by simpa using c2)).2
            have l3 := (rdB_iff.mp (by simpa using c3)).2
            split
            · exact h
            · exact ⟨(show st.1 + 1 ≤ 10 by omega), h2.put hk7 (by omega), h3⟩
  · split
    · unfold itw
      by_cases c1 : rdB b T 99 (nxS b T s) = false
      · rw [if_pos c1]; exact h
      · rw [if_neg c1]
        have l1 := (rdB_iff.mp (by simpa using c1)).2
        split
        · exact h
        · split
          · exact h
          · split
            · exact h
            · refine ⟨h1, h2, fun L hL => ?_⟩
              show ∃ k, k < 100 ∧ upd st.2.2.2.2 _ _ L = nI k
              by_cases e : L = 12 * vlB b T (nxS b T (nxS b T (nxS b T (nxS b T s)))) + vlB b T (nxS b T (nxS b T (nxS b T s)))
              · rw [e, pk_us]; exact ⟨_, by omega, rfl⟩
              · rw [pk_un e]; exact h3 L hL
    · split
      · unfold itc
        split
        · exact h
        · exact ⟨h1, h2, h3⟩
      · exact h
theorem txt_wt {b : Nat → Nat} {T : Nat} : ∀ (k m s : Nat) (st : (Nat × (Nat → Int32) × (Nat → Int32) × Int32 × (Nat → Int32))), WT st → ∀ m' st', txt b T k m s st = (true, m', st') → WT st' := by
  intro k
  induction k with
  | zero => intro m s st _ m' st' h; rw [txt] at h; cases h
  | succ k ih =>
    intro m s st hW m' st' h
    rw [txt] at h
    by_cases c1 : (itm b T s st).1 = false
    · rw [if_pos c1] at h; cases h
    · rw [if_neg c1] at h
      by_cases c2 : T ≤ nxS b T (itm b T s st).2.1
      · rw [if_pos c2] at h
        have e : (itm b T s st).2.2 = st' := by injection h with _ h; injection h
        rw [← e]; exact itm_wt hW
      · rw [if_neg c2] at h
        by_cases c3 : wB b T 11 (nxS b T (itm b T s st).2.1) = false
        · rw [if_pos c3] at h; cases h
        · rw [if_neg c3] at h
          exact ih _ _ _ (itm_wt hW) _ _ h
def w_X10_text (post : Int32 → qM → Prop) (μ : qM) : Prop := w_X9_becomeAs 15 1 (fun μ1 => ∀ f : Nat → Int32, f 2 = 0 → f 3 = 0 → f 4 = 0 → f 5 = 0 → w_X5_read (fun r μ2 => w_X8_empty 22 (fun μ3 => ((r < 0 → post r μ3) ∧ (¬ r < 0 → w_X9_becomeAs 1 15 (fun μ4 => post r μ4) μ3))) μ2) (qr μ1 66 f)) μ
/-- what the class's text does, told by txt -/
theorem xtext_sp {μ : qM} {T : Nat} {b : Nat → Nat} {n : Nat} {kd lt : Nat → Int32} (hX : HX μ 2 n kd lt) (hT : TX μ T b) (hb : ∀ j, b j < 256) (post : Int32 → qM → Prop) (h1 : ∀ m st' μ', txt b T 200 1 (tks b T 0) (n, kd, lt, μ 1 3, μ 6) = (true, m, st') → m ≤ 200 → (∀ i, scrB i = false → i ≠ 1 → i ≠ 2 → i ≠ 3 → i ≠ 4 → i ≠ 6 → i ≠ 7 → i ≠ 22 → μ' i = μ i) → HX μ' 2 st'.1 st'.2.1 st'.2.2.1 → (∀ L, L < 144 → μ' 6 L = st'.2.2.2.2 L) → (∀ j, j < 10 → μ' 7 j = μ 7 j) → μ' 1 3 = st'.2.2.2.1 → μ' 1 4 = μ 1 4 → μ' 1 5 = μ 1 5 → μ' 22 1 = 0 → post (nI m) μ') (h0 : ∀ s st' μ', txt b T 200 1 (tks b T 0) (n, kd, lt, μ 1 3, μ 6) = (false, s, st') → s ≤ 200 → SA (qu μ 22 1 0) μ' → post (-1 - nI s) μ') : w_X10_text post μ := by
  have h10 := hX.2.1
  unfold w_X10_text w_X8_empty
  refine copyT_15_1 hX _ (fun f g w s' hfg hw hs fr f2 f3 f4 f5 => ?_)
  generalize hν : (qr (qu (qu (qu (qr (qr (qr (qr (qu μ 16 0 (nI n)) 17 f) 18 g) 20 w) 21 s') 15 3 (μ 1 3)) 15 4 (μ 1 4)) 15 5 (μ 1 5)) 66 fr) = ν
  have out : ∀ i, i ≠ 15 → i ≠ 16 → i ≠ 17 → i ≠ 18 → i ≠ 20 → i ≠ 21 → i ≠ 66 → ν i = μ i := fun i a b' c d e k l => by
    rw [← hν, qr_n l, qu_n a, qu_n a, qu_n a, qr_n k, qr_n e, qr_n d, qr_n c, qu_n b']
  have hT' : TX ν T b := by
    unfold TX
    rw [out 22 (by omega) (by omega) (by omega) (by omega) (by omega) (by omega) (by omega), out 23 (by omega) (by omega) (by omega) (by omega) (by omega) (by omega) (by omega)]
    exact hT
  have hS : XS ν (n, kd, lt, μ 1 3, μ 6) := by
    refine ⟨⟨?_, h10, fun j hj => ⟨?_, ?_⟩⟩, ?_, fun L hL => ?_⟩
    · rw [← hν]; rfl
    · rw [← hν]; show f j = kd j; rw [(hfg j (by omega)).1]; exact (hX.2.2 j hj).1
    · rw [← hν]; show g j = lt j; rw [(hfg j (by omega)).2]; exact (hX.2.2 j hj).2
    · rw [← hν]; rfl
    · rw [← hν]; exact hw L hL
  have e21 : ∀ j, j < 10 → ν 21 j = μ 7 j := fun j hj => by rw [← hν]; exact hs j hj
  have e154 : ν 15 4 = μ 1 4 := by rw [← hν]; rfl
  have e155 : ν 15 5 = μ 1 5 := by rw [← hν]; rfl
  have e66 : ν 66 3 = nI 0 := by rw [← hν]; exact f3
  refine xread_sp hT' e66 hb hS _ (fun μ2 m st' hR hm K S => ?_) (fun μ2 s st' hR hs200 K => ?_)
  · refine ⟨fun q => absurd q (nI_pos (by omega)), fun _ => ?_⟩
    have hX2 : HX (qu μ2 22 1 0) 16 st'.1 st'.2.1 st'.2.2.1 := S.1
    refine copyT_1_15 hX2 _ (fun f g w s' hfg hw hs => ?_)
    have n10 := hX2.2.1
    refine h1 m st' _ hR hm (fun i a1 a2 a3 a4 a5 a6 a7 a8 => ?_) ⟨rfl, hX2.2.1, fun j hj => ⟨?_, ?_⟩⟩ (fun L hL => ?_) (fun j hj => ?_) ?_ ?_ ?_ ?_
    · have ne : ∀ z, scrB z = true → i ≠ z := fun z hz e => by subst e; rw [a1] at hz; cases hz
      rw [qu_n a2, qu_n a2, qu_n a2, qr_n a7, qr_n a6, qr_n a5, qr_n a4, qu_n a3, qu_n a8, K.1 i (ne 15 rfl) (ne 16 rfl) (ne 17 rfl) (ne 18 rfl) (ne 20 rfl) (ne 66 rfl), out i (ne 15 rfl) (ne 16 rfl) (ne 17 rfl) (ne 18 rfl) (ne 20 rfl) (ne 21 rfl) (ne 66 rfl)]
    · show f j = st'.2.1 j
      rw [(hfg j (by omega)).1]; exact (hX2.2.2 j hj).1
    · show g j = st'.2.2.1 j
      rw [(hfg j (by omega)).2]; exact (hX2.2.2 j hj).2
    · show w L = _
      rw [hw L hL]; exact S.2.2 L hL
    · show s' j = _
      rw [hs j hj]
      show μ2 21 j = _
      rw [K.1 21 (by omega) (by omega) (by omega) (by omega) (by omega) (by omega)]; exact e21 j hj
    · show μ2 15 3 = _
      exact S.2.1
    · show μ2 15 4 = _
      rw [K.2 4 (by omega)]; exact e154
    · show μ2 15 5 = _
      rw [K.2 5 (by omega)]; exact e155
    · show (qu μ2 22 1 0) 22 1 = 0
      exact qu_ss
  · have en : (-1 - nI s : Int32) < 0 := by
      rw [show (-1 - nI s : Int32) = -nI (s + 1) from by rw [← nI_1]; grind, Int32.lt_iff_toInt_lt, sb_negT (by omega)]
      have : (0 : Int32).toInt = 0 := by decide
      omega
    refine ⟨fun _ => h0 s st' _ hR hs200 ⟨fun i a b' c d => ?_, fun k _ => ?_, fun j _ => ?_⟩, fun q => absurd en q⟩
    · have ne : ∀ z, scrB z = true → i ≠ z := fun z hz e => by subst e; rw [a] at hz; cases hz
      by_cases e : i = 22
      · subst e
        rw [qu_s, qu_s, K.1 22 (by omega) (by omega) (by omega) (by omega) (by omega) (by omega), out 22 (by omega) (by omega) (by omega) (by omega) (by omega) (by omega) (by omega)]
      · rw [qu_n e, qu_n e, K.1 i (ne 15 rfl) (ne 16 rfl) (ne 17 rfl) (ne 18 rfl) (ne 20 rfl) (ne 66 rfl), out i (ne 15 rfl) (ne 16 rfl) (ne 17 rfl) (ne 18 rfl) (ne 20 rfl) (ne 21 rfl) (ne 66 rfl)]
    · rw [qu_n (by omega), qu_n (by omega), K.1 46 (by omega) (by omega) (by omega) (by omega) (by omega) (by omega), out 46 (by omega) (by omega) (by omega) (by omega) (by omega) (by omega) (by omega)]
    · refine ⟨?_, ?_⟩
      · rw [qu_n (by omega), qu_n (by omega), K.1 47 (by omega) (by omega) (by omega) (by omega) (by omega) (by omega), out 47 (by omega) (by omega) (by omega) (by omega) (by omega) (by omega) (by omega)]
      · rw [qu_n (by omega), qu_n (by omega), K.1 48 (by omega) (by omega) (by omega) (by omega) (by omega) (by omega), out 48 (by omega) (by omega) (by omega) (by omega) (by omega) (by omega) (by omega)]
