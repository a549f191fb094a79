def MS (μ : qM) (s : (Nat × (Nat → Int32) × (Nat → Int32) × Int32 × (Nat → Int32))) : Prop := HM μ s.1 s.2.1 s.2.2.1 ∧ μ 46 5 = s.2.2.2.1 ∧ ∀ L, L < 144 → μ 49 L = s.2.2.2.2 L
/-- what an item may change on the reference's side -/
def KI (μ μ' : qM) : Prop := (∀ i, i ≠ 46 → i ≠ 47 → i ≠ 48 → i ≠ 49 → μ' i = μ i) ∧ ∀ k, k ≠ 0 → k ≠ 5 → k ≠ 31 → k ≠ 32 → k ≠ 33 → μ' 46 k = μ 46 k
theorem KI.refl (μ : qM) : KI μ μ := ⟨fun _ _ _ _ _ => rfl, fun _ _ _ _ _ _ => rfl⟩
theorem KI.trans {μ μ1 μ2 : qM} (h : KI μ μ1) (g : KI μ1 μ2) : KI μ μ2 := ⟨fun i a b c d => (g.1 i a b c d).trans (h.1 i a b c d), fun k a b c d e => (g.2 k a b c d e).trans (h.2 k a b c d e)⟩
theorem UF.ki {μ μ' : qM} (g : UF μ μ') : KI μ μ' := ⟨fun i a _ _ _ => g.1 i a, fun k _ _ c d e => g.2 k c d e⟩
theorem UF.ms {μ μ' : qM} {s : (Nat × (Nat → Int32) × (Nat → Int32) × Int32 × (Nat → Int32))} (g : UF μ μ') (h : MS μ s) : MS μ' s := by
  obtain ⟨⟨h1, h2, h3⟩, h4, h5⟩ := h
  refine ⟨⟨by rw [g.2 0 (by omega) (by omega) (by omega)]; exact h1, h2, fun j hj => ?_⟩, by rw [g.2 5 (by omega) (by omega) (by omega)]; exact h4, fun L hL => by rw [g.1 49 (by omega)]; exact h5 L hL⟩
  rw [g.1 47 (by omega), g.1 48 (by omega)]; exact h3 j hj
/-- how an item ends on the reference's side -/
def ME (μ : qM) (T : Nat) (b : Nat → Nat) (r : Bool × Nat × (Nat × (Nat → Int32) × (Nat → Int32) × Int32 × (Nat → Int32))) : Prop := (r.1 = true → μ 46 33 = 0 ∧ MTK μ T b (nxS b T r.2.1)) ∧ (r.1 = false → μ 46 33 = 1 ∧ MTK μ T b r.2.1) ∧ MS μ r.2.2
section
variable {μ : qM} {T s : Nat} {b : Nat → Nat} {st : (Nat × (Nat → Int32) × (Nat → Int32) × Int32 × (Nat → Int32))}
theorem ME.ok {s' : Nat} {st' : (Nat × (Nat → Int32) × (Nat → Int32) × Int32 × (Nat → Int32))} (h0 : μ 46 33 = 0) (h : MTK μ T b (nxS b T s')) (hS : MS μ st') : ME μ T b (true, s', st') := ⟨fun _ => ⟨h0, h⟩, (fun q => by cases q), hS⟩
theorem ME.no {s' : Nat} {st' : (Nat × (Nat → Int32) × (Nat → Int32) × Int32 × (Nat → Int32))} (h0 : μ 46 33 = 1) (h : MTK μ T b s') (hS : MS μ st') : ME μ T b (false, s', st') := ⟨(fun q => by cases q), fun _ => ⟨h0, h⟩, hS⟩
theorem mworth_sp (h : MTK μ T b s) (h0 : μ 46 33 = 0) (hb : ∀ j, b j < 256) (hS : MS μ st) (post : qM → Prop) (hp' : ∀ μ', KI μ μ' → ∀ s0, nxS b T s0 = s → ME μ' T b (itw b T s0 st) → post μ') (s0 : Nat) (hs0 : nxS b T s0 = s) : w_X11_worthTold post μ := by
  unfold w_X11_worthTold
  obtain ⟨R, hR0⟩ : ∃ R, R = itw b T s0 st := ⟨_, rfl⟩
  have tail : ∀ (μ' : qM) (t : Nat), KI μ μ' → MTK μ' T b t → μ' 46 33 = 1 → MS μ' st → R = (false, t, st) → post μ' := fun μ' t K X f S e => hp' μ' K s0 hs0 (by rw [← hR0, e]; exact ME.no f X S)
  have n1 : (1 : Int32) ≠ 0 := by decide
  have e0 := hR0
  rw [itw, hs0] at e0
  refine number_sp hb (m := 99) (by omega) h h0 _ (fun hr1 μ1 g1 f1 X1 => ?_) (fun hr1 μ1 g1 f1 X1 => ?_)
  · rw [if_neg (by rw [hr1]; decide)] at e0
    refine wants_sp (by omega) X1 f1 _ (fun hw μ2 g2 f2 X2 => ?_) (fun hw μ2 g2 f2 X2 => ?_)
    · rw [if_neg (by rw [hw]; decide)] at e0
      refine number_sp hb (m := 11) (by omega) X2 f2 _ (fun hr3 μ3 g3 f3 X3 => ?_) (fun hr3 μ3 g3 f3 X3 => ?_)
      · rw [if_neg (by rw [hr3]; decide)] at e0
        refine number_sp hb (m := 11) (by omega) X3 f3 _ (fun hr4 μ4 g4 f4 X4 => ?_) (fun hr4 μ4 g4 f4 X4 => ?_)
        · rw [if_neg (by rw [hr4]; decide)] at e0
          have l3 := (rdB_iff.mp hr3).2
          have l4 := (rdB_iff.mp hr4).2
          have g := ((g1.trans g2).trans g3).trans g4
          have S4 := g.ms hS
          refine ⟨fun q => absurd f4 q, fun _ => ?_⟩
          rw [lot_nI, clp (by omega)]
          refine ⟨vp_in_nI (by omega) (by omega), ?_⟩
          refine hp' _ (g.ki.trans ⟨fun i _ _ _ d => qu_n d, fun _ _ _ _ _ _ => rfl⟩) s0 hs0 ?_
          rw [← hR0, e0]
          refine ME.ok f4 X4 ⟨S4.1, S4.2.1, fun L hL => ?_⟩
          show upd (μ4 49) _ _ L = upd st.2.2.2.2 _ _ L
          by_cases q : L = 12 * vlB b T (nxS b T (nxS b T (nxS b T s))) + vlB b T (nxS b T (nxS b T s))
          · rw [q, pk_us, pk_us]
          · rw [pk_un q, pk_un q]; exact S4.2.2 L hL
        · rw [if_pos hr4] at e0
          have g := ((g1.trans g2).trans g3).trans g4
          refine ⟨fun _ => tail μ4 _ g.ki X4 f4 (g.ms hS) e0, fun q => absurd (f4.symm.trans q) n1⟩
      · rw [if_pos hr3] at e0
        have g := (g1.trans g2).trans g3
        refine number_f X3 f3 _ (fun r μ4 g4 f4 X4 => ⟨fun _ => tail μ4 _ (g.trans g4).ki X4 f4 ((g.trans g4).ms hS) e0, fun q => absurd (f4.symm.trans q) n1⟩)
    · rw [if_pos hw] at e0
      have g := g1.trans g2
      refine number_f X2 f2 _ (fun r μ3 g3 f3 X3 => number_f X3 f3 _ (fun r μ4 g4 f4 X4 => ⟨fun _ => tail μ4 _ ((g.trans g3).trans g4).ki X4 f4 (((g.trans g3).trans g4).ms hS) e0, fun q => absurd (f4.symm.trans q) n1⟩))
  · rw [if_pos hr1] at e0
    refine wants_f X1 f1 _ (fun μ2 g2 f2 X2 => number_f X2 f2 _ (fun r μ3 g3 f3 X3 => number_f X3 f3 _ (fun r μ4 g4 f4 X4 => ⟨fun _ => tail μ4 _ (((g1.trans g2).trans g3).trans g4).ki X4 f4 ((((g1.trans g2).trans g3).trans g4).ms hS) e0, fun q => absurd (f4.symm.trans q) n1⟩)))
end
