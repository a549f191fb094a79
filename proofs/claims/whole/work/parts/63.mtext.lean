/-- the items of a text, on the reference's side -/
def PX (n : Nat) (kd lt : Nat → Int32) (st : (Nat × (Nat → Int32) × (Nat → Int32) × Int32 × (Nat → Int32))) : Prop := n ≤ st.1 ∧ st.1 ≤ 10 ∧ ∀ j, j < n → st.2.1 j = kd j ∧ st.2.2.1 j = lt j
theorem ith_px {b : Nat → Nat} {T s k : Nat} {n : Nat} {kd lt : Nat → Int32} {st : (Nat × (Nat → Int32) × (Nat → Int32) × Int32 × (Nat → Int32))} (h : PX n kd lt st) : PX n kd lt (ith b T s k st).2.2 := by
  unfold ith
  by_cases h10 : st.1 = 10
  · rw [if_pos h10]; exact h
  · rw [if_neg h10]
    repeat' split
    all_goals first | exact h | skip
    obtain ⟨h1, h2, h3⟩ := h
    exact ⟨Nat.le_succ_of_le h1, (show st.1 + 1 ≤ 10 by omega), fun j hj => by
      have := h3 j hj
      exact ⟨(pk_un (by omega)).trans this.1, (pk_un (by omega)).trans this.2⟩⟩
theorem itw_px {b : Nat → Nat} {T s : Nat} {n : Nat} {kd lt : Nat → Int32} {st : (Nat × (Nat → Int32) × (Nat → Int32) × Int32 × (Nat → Int32))} (h : PX n kd lt st) : PX n kd lt (itw b T s st).2.2 := by
  unfold itw
  repeat' split
  all_goals exact h
theorem itc_px {b : Nat → Nat} {T s : Nat} {n : Nat} {kd lt : Nat → Int32} {st : (Nat × (Nat → Int32) × (Nat → Int32) × Int32 × (Nat → Int32))} (h : PX n kd lt st) : PX n kd lt (itc b T s st).2.2 := by
  unfold itc
  split
  all_goals exact h
theorem itm_px {b : Nat → Nat} {T s : Nat} {n : Nat} {kd lt : Nat → Int32} {st : (Nat × (Nat → Int32) × (Nat → Int32) × Int32 × (Nat → Int32))} (h : PX n kd lt st) : PX n kd lt (itm b T s st).2.2 := by
  unfold itm
  split
  · exact ith_px h
  · split
    · exact itw_px h
    · split
      · exact itc_px h
      · exact h
theorem mread_sp {μ ν : qM} {T s : Nat} {b : Nat → Nat} {n : Nat} {kd lt : Nat → Int32} {st : (Nat × (Nat → Int32) × (Nat → Int32) × Int32 × (Nat → Int32))} {R : Bool × Nat × (Nat × (Nat → Int32) × (Nat → Int32) × Int32 × (Nat → Int32))} (hT : T ≤ 120) (hb : ∀ j, b j < 256) (hs : s ≤ T) (hR : R = txt b T 200 1 s st) (hP0 : PX n kd lt st) (hK : KI μ ν) (hE : ME ν T b (itm b T s st)) (post : Int32 → qM → Prop) (h1 : ∀ μ' m st', R = (true, m, st') → KI μ μ' → MS μ' st' → PX n kd lt st' → q_X11_text_106 post (nI m) 0 μ') (h0 : ∀ μ' v t st0 st', R = (false, t, st0) → KI μ μ' → MS μ' st' → PX n kd lt st' → μ' 46 31 = nI t → q_X11_text_106 post v 1 μ') : q_X11_text_51 post 1 ν := by
  have n1 : (1 : Int32) ≠ 0 := by decide
  unfold q_X11_text_51
  refine for1 121 (fun m μ' => ∃ k s st', 1 ≤ m ∧ s ≤ T ∧ KI μ μ' ∧ ME μ' T b (itm b T s st') ∧ PX n kd lt st' ∧ 2 * (m - 1) ≤ s ∧ T < k + 1 + s ∧ R = txt b T (k + 1) m s st') ?_ 1 (by omega) ⟨199, s, st, Nat.le_refl _, hs, hK, hE, hP0, by omega, by omega, hR⟩
  rintro P m μ' hm ⟨k, s, st', m1, hs, hK, hE, hP0, h2m, hk, htx⟩ hP
  rw [txt] at htx
  have il := itm_le (b := b) (st := st') hs
  have hPX := itm_px (b := b) (T := T) (s := s) hP0
  obtain ⟨hE1, hE2, hES⟩ := hE
  unfold q_X11_text_82 q_X11_text_101
  cases hi : (itm b T s st').1
  · rw [if_pos hi] at htx
    obtain ⟨f, X⟩ := hE2 hi
    refine ⟨fun _ => ⟨fun _ => ?_, fun q => absurd (f.symm.trans q) n1⟩, fun q => absurd (f.symm.trans q) n1⟩
    exact h0 μ' _ _ _ _ htx hK hES hPX X.2.2.1
  · rw [if_neg (by rw [hi]; decide)] at htx
    obtain ⟨f, X⟩ := hE1 hi
    have il2 := il.2 hi
    generalize (itm b T s st').2.1 = t at htx il il2 X
    generalize (itm b T s st').2.2 = st2 at htx hES hPX
    have lt' := nxS_le (b := b) il.1
    have gt := nxS_ge (b := b) il.1
    refine ⟨fun q => absurd f q, fun _ => ?_⟩
    refine mWord_sp (by omega) X.1 X.2.1 f X.2.2.1 X.2.2.2 _ (pb_if (fun hw => ⟨fun q => absurd f q, fun _ => ?_⟩) (fun hw => ?_))
    · rw [X.1.2.1, X.2.2.1]
      refine ⟨fun q => ?_, fun q => ?_⟩
      · have : T ≤ nxS b T t := pn_le (by omega) (by omega) q
        rw [if_pos this] at htx
        exact h1 μ' _ _ htx hK hES hPX
      · have : ¬ T ≤ nxS b T t := fun p => q (nI_le p (by omega))
        rw [if_neg this, if_pos hw] at htx
        exact h0 μ' _ _ _ _ htx hK hES hPX X.2.2.1
    · have hlt := wB_lt (by omega) lt' hw
      rw [if_neg (by omega), if_neg (by rw [hw]; decide)] at htx
      have g2 := nxS_ge (b := b) lt'
      have l2 := nxS_le (b := b) lt'
      have := g2.2 hlt
      refine X.next _ (fun μ3 g3 f3 X3 => ?_)
      refine mitem_sp X3 (f3.trans f) hb (g3.ms hES) hPX.2.1 _ (fun μ4 g4 hE4 => ?_)
      obtain ⟨k, rfl⟩ : ∃ k', k = k' + 1 := ⟨k - 1, by omega⟩
      exact hP _ (by omega) ⟨k, _, st2, by omega, l2, (hK.trans g3.ki).trans g4, hE4, hPX, by omega, by omega, htx⟩
