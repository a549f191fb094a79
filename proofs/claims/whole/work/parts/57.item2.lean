def XS (μ : qM) (s : (Nat × (Nat → Int32) × (Nat → Int32) × Int32 × (Nat → Int32))) : Prop := HX μ 16 s.1 s.2.1 s.2.2.1 ∧ μ 15 3 = s.2.2.2.1 ∧ ∀ L, L < 144 → μ 20 L = s.2.2.2.2 L
def KT (μ μ' : qM) : Prop := (∀ i, i ≠ 15 → i ≠ 16 → i ≠ 17 → i ≠ 18 → i ≠ 20 → i ≠ 66 → μ' i = μ i) ∧ ∀ k, k ≠ 3 → μ' 15 k = μ 15 k
theorem KT.refl (μ : qM) : KT μ μ := ⟨fun _ _ _ _ _ _ _ => rfl, fun _ _ => rfl⟩
theorem KT.trans {μ μ1 μ2 : qM} (h : KT μ μ1) (g : KT μ1 μ2) : KT μ μ2 := ⟨fun i a b c d e f => (g.1 i a b c d e f).trans (h.1 i a b c d e f), fun k a => (g.2 k a).trans (h.2 k a)⟩
theorem UK.kt {μ μ' : qM} (g : UK μ μ') : KT μ μ' := ⟨fun i _ _ _ _ _ f => g i f, fun k _ => by rw [g 15 (by omega)]⟩
theorem UK.xs {μ μ' : qM} {s : (Nat × (Nat → Int32) × (Nat → Int32) × Int32 × (Nat → Int32))} (g : UK μ μ') (h : XS μ s) : XS μ' s := by
  obtain ⟨⟨h1, h2, h3⟩, h4, h5⟩ := h
  refine ⟨⟨by rw [g 16 (by omega)]; exact h1, h2, fun j hj => ?_⟩, by rw [g 15 (by omega)]; exact h4, fun L hL => by rw [g 20 (by omega)]; exact h5 L hL⟩
  rw [g (16 + 1) (by omega), g (16 + 2) (by omega)]; exact h3 j hj
theorem KT.xt {μ μ' : qM} {T s : Nat} {b : Nat → Nat} (g : KT μ μ') (g66 : μ' 66 = μ 66) (h : XT μ T b s) : XT μ' T b s := by
  unfold XT TX
  rw [g66, g.1 22 (by omega) (by omega) (by omega) (by omega) (by omega) (by omega), g.1 23 (by omega) (by omega) (by omega) (by omega) (by omega) (by omega)]
  exact h
/-- a house, a worth, a coin, once the first word is read -/
def ith (b : Nat → Nat) (T s k : Nat) (st : (Nat × (Nat → Int32) × (Nat → Int32) × Int32 × (Nat → Int32))) : Bool × Nat × (Nat × (Nat → Int32) × (Nat → Int32) × Int32 × (Nat → Int32)) :=
  if st.1 = 10 then (false, s, st)
  else if wB b T 9 (nxS b T s) = false then (false, nxS b T s, st)
  else if rdB b T 11 (nxS b T (nxS b T s)) = false then (false, nxS b T (nxS b T s), st)
  else if rdB b T 11 (nxS b T (nxS b T (nxS b T s))) = false then (false, nxS b T (nxS b T (nxS b T s)), st)
  else if stn st.2.2.1 (nI (12 * vlB b T (nxS b T (nxS b T (nxS b T s))) + vlB b T (nxS b T (nxS b T s)))) st.1 = true then (false, nxS b T (nxS b T (nxS b T s)), st)
  else (true, nxS b T (nxS b T (nxS b T s)), (st.1 + 1, upd st.2.1 st.1 (nI k), upd st.2.2.1 st.1 (nI (12 * vlB b T (nxS b T (nxS b T (nxS b T s))) + vlB b T (nxS b T (nxS b T s)))), st.2.2.2.1, st.2.2.2.2))
def itw (b : Nat → Nat) (T s : Nat) (st : (Nat × (Nat → Int32) × (Nat → Int32) × Int32 × (Nat → Int32))) : Bool × Nat × (Nat × (Nat → Int32) × (Nat → Int32) × Int32 × (Nat → Int32)) :=
  if rdB b T 99 (nxS b T s) = false then (false, nxS b T s, st)
  else if wB b T 10 (nxS b T (nxS b T s)) = false then (false, nxS b T (nxS b T s), st)
  else if rdB b T 11 (nxS b T (nxS b T (nxS b T s))) = false then (false, nxS b T (nxS b T (nxS b T s)), st)
  else if rdB b T 11 (nxS b T (nxS b T (nxS b T (nxS b T s)))) = false then (false, nxS b T (nxS b T (nxS b T (nxS b T s))), st)
  else (true, nxS b T (nxS b T (nxS b T (nxS b T s))), (st.1, st.2.1, st.2.2.1, st.2.2.2.1, upd st.2.2.2.2 (12 * vlB b T (nxS b T (nxS b T (nxS b T (nxS b T s)))) + vlB b T (nxS b T (nxS b T (nxS b T s)))) (nI (vlB b T (nxS b T s)))))
def itc (b : Nat → Nat) (T s : Nat) (st : (Nat × (Nat → Int32) × (Nat → Int32) × Int32 × (Nat → Int32))) : Bool × Nat × (Nat × (Nat → Int32) × (Nat → Int32) × Int32 × (Nat → Int32)) :=
  if rdB b T 99999 (nxS b T s) = false then (false, nxS b T s, st)
  else (true, nxS b T s, (st.1, st.2.1, st.2.2.1, nI (vlB b T (nxS b T s)), st.2.2.2.2))
def itm (b : Nat → Nat) (T s : Nat) (st : (Nat × (Nat → Int32) × (Nat → Int32) × Int32 × (Nat → Int32))) : Bool × Nat × (Nat × (Nat → Int32) × (Nat → Int32) × Int32 × (Nat → Int32)) :=
  match (List.range 7).find? (fun k => wB b T k s) with
  | some k => ith b T s k st
  | none => if wB b T 7 s then itw b T s st else if wB b T 8 s then itc b T s st else (false, s, st)
section
variable {μ : qM} {T s : Nat} {b : Nat → Nat} {st : (Nat × (Nat → Int32) × (Nat → Int32) × Int32 × (Nat → Int32))}
theorem xhouse_sp (h : XT μ T b s) (hb : ∀ j, b j < 256) (hS : XS μ st) (h10 : ¬ st.1 = 10) (k : Nat) (post : Int32 → qM → Prop) (hp' : ∀ μ', KT μ μ' → XT μ' T b (ith b T s k st).2.1 → XS μ' (ith b T s k st).2.2 → post (tb (ith b T s k st).1) μ') : w_X5_isHouseItem (nI k) post μ := by
  unfold w_X5_isHouseItem q_X5_isHouseItem_18 q_X5_isHouseItem_55 w_X9_houses w_X10_lotOf
  rw [ith, if_neg h10] at hp'
  refine h.nword (by omega) _ (fun μ1 g1 X1 => pb_if (fun hw => ⟨Or.inl rfl, ?_⟩) (fun hw => ?_))
  · rw [if_pos hw] at hp'
    exact hp' μ1 g1.kt X1 (g1.xs hS)
  · rw [if_neg (by rw [hw]; decide)] at hp'
    refine X1.nnum hb (m := 11) (by omega) _ (fun μ2 g2 X2 => pb_if' (fun hr => ?_) (fun hr => ⟨Or.inl rfl, ?_⟩))
    · rw [if_neg (by rw [hr]; decide)] at hp'
      have r2 := rdB_iff.mp hr
      have e2 := X2.2.2.2.2.2 r2.1
      refine X2.nnum hb (m := 11) (by omega) _ (fun μ3 g3 X3 => pb_if (fun hr3 => ⟨Or.inl rfl, ?_⟩) (fun hr3 => ⟨rfl, ?_⟩))
      · rw [if_pos hr3] at hp'
        exact hp' μ3 ((g1.kt.trans g2.kt).trans g3.kt) X3 (g3.xs (g2.xs (g1.xs hS)))
      · rw [if_neg (by rw [hr3]; decide)] at hp'
        have r3 := rdB_iff.mp hr3
        have e3 := X3.2.2.2.2.2 r3.1
        have S3 := g3.xs (g2.xs (g1.xs hS))
        have K3 := (g1.kt.trans g2.kt).trans g3.kt
        rw [e2, e3, lot_nI]
        refine stands_sp S3.1 _ _ (pb_if (fun hs => ⟨rfl, ?_⟩) (fun hs => ⟨Or.inl rfl, ?_⟩))
        · rw [if_neg (by rw [hs]; decide)] at hp'
          rw [e3, lot_nI]
          have hn : st.1 < 10 := by have := S3.1.2.1; omega
          refine put_sp S3.1 hn _ _ _ ⟨Or.inr rfl, ?_⟩
          refine hp' _ (K3.trans ⟨fun i _ c d e _ _ => by rw [qu_n c, qu_n e, qu_n d], fun _ _ => rfl⟩) ?_ ⟨S3.1.put hn _ _, S3.2.1, S3.2.2⟩
          exact KT.xt (μ := μ3) ⟨fun i _ c d e _ _ => by rw [qu_n c, qu_n e, qu_n d], fun _ _ => rfl⟩ rfl X3
        · rw [if_pos hs] at hp'
          exact hp' μ3 K3 X3 S3
    · rw [if_pos hr] at hp'
      exact hp' μ2 (g1.kt.trans g2.kt) X2 (g2.xs (g1.xs hS))
theorem xworth_sp (h : XT μ T b s) (hb : ∀ j, b j < 256) (hS : XS μ st) (post : Int32 → qM → Prop) (hp' : ∀ μ', KT μ μ' → XT μ' T b (itw b T s st).2.1 → XS μ' (itw b T s st).2.2 → post (tb (itw b T s st).1) μ') : w_X5_isWorthItem post μ := by
  unfold w_X5_isWorthItem q_X5_isWorthItem_34 w_X10_lotOf
  rw [itw] at hp'
  refine h.nnum hb (m := 99) (by omega) _ (fun μ1 g1 X1 => pb_if' (fun hr1 => ?_) (fun hr1 => ⟨Or.inl rfl, ?_⟩))
  · rw [if_neg (by rw [hr1]; decide)] at hp'
    have e1 := X1.2.2.2.2.2 (rdB_iff.mp hr1).1
    refine X1.nword (by omega) _ (fun μ2 g2 X2 => pb_if (fun hw => ⟨Or.inl rfl, ?_⟩) (fun hw => ?_))
    · rw [if_pos hw] at hp'
      exact hp' μ2 (g1.kt.trans g2.kt) X2 (g2.xs (g1.xs hS))
    · rw [if_neg (by rw [hw]; decide)] at hp'
      refine X2.nnum hb (m := 11) (by omega) _ (fun μ3 g3 X3 => pb_if' (fun hr3 => ?_) (fun hr3 => ⟨Or.inl rfl, ?_⟩))
      · rw [if_neg (by rw [hr3]; decide)] at hp'
        have e3 := X3.2.2.2.2.2 (rdB_iff.mp hr3).1
        have K3 := (g1.kt.trans g2.kt).trans g3.kt
        have S3 := g3.xs (g2.xs (g1.xs hS))
        refine X3.nnum hb (m := 11) (by omega) _ (fun μ4 g4 X4 => pb_if' (fun hr4 => ?_) (fun hr4 => ⟨Or.inl rfl, ?_⟩))
        · rw [if_neg (by rw [hr4]; decide)] at hp'
          have e4 := X4.2.2.2.2.2 (rdB_iff.mp hr4).1
          have S4 := g4.xs S3
          have K4 := K3.trans g4.kt
          have l3 := (rdB_iff.mp hr3).2
          have l4 := (rdB_iff.mp hr4).2
          rw [e3, e4, lot_nI, e1]
          have hL : 12 * vlB b T (nxS b T (nxS b T (nxS b T (nxS b T s)))) + vlB b T (nxS b T (nxS b T (nxS b T s))) < 144 := by omega
          refine setWorth_sp hL _ _ ⟨Or.inr rfl, ?_⟩
          refine hp' _ (K4.trans ⟨fun i _ _ _ _ e _ => qu_n e, fun _ _ => rfl⟩) ?_ ⟨S4.1, S4.2.1, fun L hL' => ?_⟩
          · exact KT.xt (μ := μ4) ⟨fun i _ _ _ _ e _ => qu_n e, fun _ _ => rfl⟩ rfl X4
          · show upd (μ4 20) _ _ L = upd st.2.2.2.2 _ _ L
            by_cases q : L = 12 * vlB b T (nxS b T (nxS b T (nxS b T (nxS b T s)))) + vlB b T (nxS b T (nxS b T (nxS b T s)))
            · rw [q, pk_us, pk_us]
            · rw [pk_un q, pk_un q]; exact S4.2.2 L hL'
        · rw [if_pos hr4] at hp'
          exact hp' μ4 (K3.trans g4.kt) X4 (g4.xs S3)
      · rw [if_pos hr3] at hp'
        exact hp' μ3 ((g1.kt.trans g2.kt).trans g3.kt) X3 (g3.xs (g2.xs (g1.xs hS)))
  · rw [if_pos hr1] at hp'
    exact hp' μ1 g1.kt X1 (g1.xs hS)
theorem xcoin_sp (h : XT μ T b s) (hb : ∀ j, b j < 256) (hS : XS μ st) (post : Int32 → qM → Prop) (hp' : ∀ μ', KT μ μ' → XT μ' T b (itc b T s st).2.1 → XS μ' (itc b T s st).2.2 → post (tb (itc b T s st).1) μ') : w_X5_isCoinItem post μ := by
  unfold w_X5_isCoinItem w_X9_setPurse
  rw [itc] at hp'
  refine h.nnum hb (m := 99999) (by omega) _ (fun μ1 g1 X1 => pb_if' (fun hr1 => ⟨Or.inr rfl, ?_⟩) (fun hr1 => ⟨Or.inl rfl, ?_⟩))
  · rw [if_neg (by rw [hr1]; decide)] at hp'
    have e1 := X1.2.2.2.2.2 (rdB_iff.mp hr1).1
    have S1 := g1.xs hS
    rw [e1]
    refine hp' _ (g1.kt.trans ⟨fun i a _ _ _ _ _ => qu_n a, fun k hk => by rw [qu_s, pk_un hk]⟩) ?_ ⟨S1.1, qu_ss, S1.2.2⟩
    exact KT.xt (μ := μ1) ⟨fun i a _ _ _ _ _ => qu_n a, fun k hk => by rw [qu_s, pk_un hk]⟩ rfl X1
  · rw [if_pos hr1] at hp'
    exact hp' μ1 g1.kt X1 (g1.xs hS)
end
