section
variable {μ : qM} {T s : Nat} {b : Nat → Nat} {st : (Nat × (Nat → Int32) × (Nat → Int32) × Int32 × (Nat → Int32))}
theorem mhouse_sp (h : MTK μ T b s) (h0 : μ 46 33 = 0) (hb : ∀ j, b j < 256) (hS : MS μ st) (hn : st.1 ≤ 10) (k : Nat) (post : qM → Prop) (hp' : ∀ μ', KI μ μ' → ME μ' T b (ith b T s k st) → post μ') : w_X11_houseTold (nI k) post μ := by
  unfold w_X11_houseTold q_X11_houseTold_15
  obtain ⟨R, hR0⟩ : ∃ R, R = ith b T s k st := ⟨_, rfl⟩
  have n1 : (1 : Int32) ≠ 0 := by decide
  have tail : ∀ (μ' : qM) (t : Nat), KI μ μ' → MTK μ' T b t → μ' 46 33 = 1 → MS μ' st → R = (false, t, st) → post μ' := fun μ' t K X f S e => hp' μ' K (by rw [← hR0, e]; exact ME.no f X S)
  have e0 := hR0
  rw [ith] at e0
  refine many10_x hS.1 (fun h10 => ⟨Or.inl rfl, fun _ => ?_, fun q => absurd qu_ss q⟩) (fun h10 => ⟨Or.inr rfl, fun q => ?_, fun _ => ?_⟩)
  · rw [if_neg h10] at e0
    refine h.f.next _ (fun μ1 g1 f1 X1 => ?_)
    have G1 : UF μ μ1 := UF.f.trans g1
    have f1' : μ1 46 33 = 0 := f1.trans qu_ss
    have c91 : ∀ (v3 : Int32) (t : Nat) (v2 : Int32) (μ' : qM), KI μ μ' → MTK μ' T b t → MS μ' st → R = (false, t, st) → q_X11_houseTold_91 post (nI k) v2 v3 μ' := fun v3 t v2 μ' K X S e => by
      unfold q_X11_houseTold_91 q_X11_houseTold_96
      refine ⟨Or.inr rfl, fun _ => tail _ t (K.trans UF.f.ki) X.f qu_ss (UF.f.ms S) e, fun q => ?_⟩
      rw [qu_ss] at q; exact absurd q n1
    refine wants_sp (by omega) X1 f1' _ (fun hw μ2 g2 f2 X2 => ?_) (fun hw μ2 g2 f2 X2 => ?_)
    · rw [if_neg (by rw [hw]; decide)] at e0
      refine number_sp hb (m := 11) (by omega) X2 f2 _ (fun hr3 μ3 g3 f3 X3 => ?_) (fun hr3 μ3 g3 f3 X3 => ?_)
      · rw [if_neg (by rw [hr3]; decide)] at e0
        have G3 := (G1.trans g2).trans g3
        refine ⟨fun _ => ?_, fun q => absurd f3 q⟩
        refine numberHere_sp X3.1 X3.2.1 X3.2.2.1 X3.2.2.2 _ ?_
        unfold q_X11_houseTold_59
        refine ⟨fun q => absurd f3 q, fun _ => ?_⟩
        rw [within_eq, show (11 : Int32) = nI 11 from rfl, nmB_in hb (by omega)]
        refine pb_if (fun hr4 => ?_) (fun hr4 => ?_)
        · rw [if_pos hr4] at e0
          exact c91 _ _ _ μ3 G3.ki X3 (G3.ms hS) e0
        · rw [if_neg (by rw [hr4]; decide)] at e0
          have en : nmB b T (nxS b T (nxS b T (nxS b T s))) = nI (vlB b T (nxS b T (nxS b T (nxS b T s)))) := by rw [nmB, (rdB_iff.mp hr4).1]; rfl
          rw [en, lot_nI]
          have S3 := G3.ms hS
          have n154 := S3.1.2.1
          refine houseOn_sp S3.1 _ _ (fun hs => ⟨fun _ => ?_, fun q => absurd (by decide) q⟩) (fun j hj he _ => ⟨fun q => absurd q (nI_pos (by omega)), fun _ => ?_⟩)
          · rw [if_neg (by rw [hs]; decide)] at e0
            unfold q_X11_houseTold_96
            refine ⟨Or.inl rfl, fun q => absurd qu_ss q, fun _ => ?_⟩
            refine X3.f.next _ (fun μ4 g4 f4 X4 => ?_)
            have G4 : UF μ μ4 := (G3.trans UF.f).trans g4
            have S4 := G4.ms hS
            rw [lot_nI]
            refine mput_sp S4.1 (by omega) _ _ _ ?_
            refine hp' _ (G4.ki.trans ⟨fun i a c d _ => by rw [qu_n a, qu_n d, qu_n c], fun q a _ _ _ _ => by rw [qu_s]; exact pk_un a⟩) ?_
            rw [← hR0, e0]
            exact ME.ok (f4.trans qu_ss) X4 ⟨S4.1.put (by omega) _ _, S4.2.1, S4.2.2⟩
          · have hs : stn st.2.2.1 (nI (12 * vlB b T (nxS b T (nxS b T (nxS b T s))) + vlB b T (nxS b T (nxS b T s)))) st.1 = true := stn_iff.mpr ⟨j, hj, he⟩
            rw [if_pos hs] at e0
            have := c91 (nI (vlB b T (nxS b T (nxS b T (nxS b T s))))) _ (nI (vlB b T (nxS b T (nxS b T s)))) μ3 G3.ki X3 S3 e0
            exact this
      · rw [if_pos hr3] at e0
        have G3 := (G1.trans g2).trans g3
        refine ⟨fun q => absurd (f3.symm.trans q) n1, fun _ => ?_⟩
        unfold q_X11_houseTold_59
        exact ⟨fun _ => c91 _ _ _ μ3 G3.ki X3 (G3.ms hS) e0, fun q => absurd (f3.symm.trans q) n1⟩
    · rw [if_pos hw] at e0
      have G2 := G1.trans g2
      refine number_f X2 f2 _ (fun r μ3 g3 f3 X3 => ⟨fun q => absurd (f3.symm.trans q) n1, fun _ => ?_⟩)
      unfold q_X11_houseTold_59
      exact ⟨fun _ => c91 _ _ _ μ3 (G2.trans g3).ki X3 ((G2.trans g3).ms hS) e0, fun q => absurd (f3.symm.trans q) n1⟩
  · rw [qu_ss] at q; exact absurd q n1
  · rw [if_pos h10] at e0
    exact tail _ s UF.f.ki h.f qu_ss (UF.f.ms hS) e0
theorem takes_sp {w : Nat} (hw : w < 12) (h : MTK μ T b s) (h0 : μ 46 33 = 0) (post : Int32 → qM → Prop) (h1 : wB b T w s = true → ∀ μ', UF μ μ' → μ' 46 33 = 0 → MTK μ' T b (nxS b T s) → post 1 μ') (h2 : wB b T w s = false → post 0 μ) : w_X11_takes w post μ := by
  unfold w_X11_takes q_X11_takes_14
  refine mWord_sp hw h.1 h.2.1 h0 h.2.2.1 h.2.2.2 _ (pb_if (fun hb => ⟨tb_01 _, ?_⟩) (fun hb => ?_))
  · rw [hb]; exact h2 hb
  · refine h.next _ (fun μ' g f X => ⟨tb_01 _, ?_⟩)
    rw [hb]; exact h1 hb μ' g (f.trans h0) X
theorem mitem_sp (h : MTK μ T b s) (h0 : μ 46 33 = 0) (hb : ∀ j, b j < 256) (hS : MS μ st) (hn : st.1 ≤ 10) (post : qM → Prop) (hp' : ∀ μ', KI μ μ' → ME μ' T b (itm b T s st) → post μ') : w_X11_item post μ := by
  have n1 : (1 : Int32) ≠ 0 := by decide
  unfold w_X11_item q_X11_item_67
  refine kindHere_sp h h0 _ (fun k hk hf => ⟨fun q => absurd q (nI_pos (by omega)), fun _ => ?_⟩) (fun hf => ⟨fun _ => ?_, fun q => absurd (by decide) q⟩)
  · rw [itm, hf] at hp'
    exact mhouse_sp h h0 hb hS hn k _ hp'
  · rw [itm, hf] at hp'
    refine takes_sp (by omega) h h0 _ (fun hw μ1 g1 f1 X1 => ⟨fun q => absurd q n1, fun _ => ?_⟩) (fun hw => ⟨fun _ => ?_, fun q => absurd rfl q⟩)
    · simp only [hw, if_true] at hp'
      refine mworth_sp X1 f1 hb (g1.ms hS) _ (fun μ' K s0' hs' hE => ?_) s rfl
      have e : itw b T s0' st = itw b T s st := by unfold itw; rw [hs']
      rw [e] at hE
      exact hp' μ' (g1.ki.trans K) hE
    · simp only [hw, Bool.false_eq_true, if_false] at hp'
      refine takes_sp (by omega) h h0 _ (fun hw2 μ1 g1 f1 X1 => ⟨fun q => absurd q n1, fun _ => ?_⟩) (fun hw2 => ⟨fun _ => ⟨Or.inr rfl, ?_⟩, fun q => absurd rfl q⟩)
      · simp only [hw2, if_true] at hp'
        rw [itc] at hp'
        refine number_sp hb (m := 99999) (by omega) X1 f1 _ (fun hr μ2 g2 f2 X2 => ⟨fun _ => ?_, fun q => absurd f2 q⟩) (fun hr μ2 g2 f2 X2 => ⟨fun q => absurd (f2.symm.trans q) n1, fun _ => ?_⟩)
        · rw [if_neg (by rw [hr]; decide)] at hp'
          have G := g1.trans g2
          have S := G.ms hS
          refine hp' _ (G.ki.trans ⟨fun i a _ _ _ => qu_n a, fun k _ c _ _ _ => by rw [qu_s]; exact pk_un c⟩) (ME.ok f2 X2 ⟨S.1, qu_ss, S.2.2⟩)
        · rw [if_pos hr] at hp'
          have G := g1.trans g2
          have S := G.ms hS
          refine hp' _ (G.ki.trans ⟨fun i a _ _ _ => qu_n a, fun k _ c _ _ _ => by rw [qu_s]; exact pk_un c⟩) (ME.no f2 X2 ⟨S.1, by rw [qu_ss]; exact S.2.1, S.2.2⟩)
      · simp only [hw2, Bool.false_eq_true, if_false] at hp'
        exact hp' _ UF.f.ki (ME.no qu_ss h.f (UF.f.ms hS))
end
