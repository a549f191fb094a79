theorem word_sp {μ : qM} {k : Nat} (hk : k < 7) (post : Nat → qM → Prop) (hp' : post k μ) : w_X2_word (nI k) post μ := by
  unfold w_X2_word
  have : k = 0 ∨ k = 1 ∨ k = 2 ∨ k = 3 ∨ k = 4 ∨ k = 5 ∨ k = 6 := by omega
  rcases this with rfl | rfl | rfl | rfl | rfl | rfl | rfl
  · exact ⟨fun _ => hp', fun q => absurd rfl q⟩
  · exact ⟨fun q => absurd q (by decide), fun _ => ⟨fun _ => hp', fun q => absurd rfl q⟩⟩
  · exact ⟨fun q => absurd q (by decide), fun _ => ⟨fun q => absurd q (by decide), fun _ => ⟨fun _ => hp', fun q => absurd rfl q⟩⟩⟩
  · exact ⟨fun q => absurd q (by decide), fun _ => ⟨fun q => absurd q (by decide), fun _ => ⟨fun q => absurd q (by decide), fun _ => ⟨fun _ => hp', fun q => absurd rfl q⟩⟩⟩⟩
  · exact ⟨fun q => absurd q (by decide), fun _ => ⟨fun q => absurd q (by decide), fun _ => ⟨fun q => absurd q (by decide), fun _ => ⟨fun q => absurd q (by decide), fun _ => ⟨fun _ => hp', fun q => absurd rfl q⟩⟩⟩⟩⟩
  · exact ⟨fun q => absurd q (by decide), fun _ => ⟨fun q => absurd q (by decide), fun _ => ⟨fun q => absurd q (by decide), fun _ => ⟨fun q => absurd q (by decide), fun _ => ⟨fun q => absurd q (by decide), fun _ => ⟨fun _ => hp', fun q => absurd rfl q⟩⟩⟩⟩⟩⟩
  · exact ⟨fun q => absurd q (by decide), fun _ => ⟨fun q => absurd q (by decide), fun _ => ⟨fun q => absurd q (by decide), fun _ => ⟨fun q => absurd q (by decide), fun _ => ⟨fun q => absurd q (by decide), fun _ => ⟨fun q => absurd q (by decide), fun _ => hp'⟩⟩⟩⟩⟩⟩
theorem find_s {p : Nat → Bool} {j : Nat} (hj : j < 7) (h : p j = true) (hno : ∀ i, i < j → p i = false) : (List.range 7).find? p = some j := by
  rw [List.find?_range_eq_some]
  exact ⟨h, List.mem_range.mpr hj, fun i hi => by rw [hno i hi]; rfl⟩
theorem find_n {p : Nat → Bool} (hno : ∀ i, i < 7 → p i = false) : (List.range 7).find? p = none := by
  rw [List.find?_eq_none]
  intro i hi
  rw [hno i (List.mem_range.mp hi)]
  decide
section
variable {μ : qM} {T s : Nat} {b : Nat → Nat} {st : (Nat × (Nat → Int32) × (Nat → Int32) × Int32 × (Nat → Int32))}
theorem xitem_sp (h : XT μ T b s) (hb : ∀ j, b j < 256) (hS : XS μ st) (post : Int32 → qM → Prop) (hp' : ∀ μ', KT μ μ' → XT μ' T b (itm b T s st).2.1 → XS μ' (itm b T s st).2.2 → post (tb (itm b T s st).1) μ') : w_X5_isItem post μ := by
  unfold w_X5_isItem q_X5_isItem_2 q_X5_isItem_86 q_X5_isItem_44 w_X9_houses
  refine for1 7 (fun j μ' => μ' = μ ∧ ∀ i, i < j → wB b T i s = false) ?_ 0 (Nat.zero_le _) ⟨rfl, fun _ q => absurd q (Nat.not_lt_zero _)⟩
  rintro P j μ' hj ⟨rfl, hno⟩ hP
  refine ⟨fun hx => ?_, fun hx => ?_⟩
  · have : 7 ≤ j := pn_le (a := 7) (by omega) (by omega) hx
    rw [itm, find_n (fun i hi => hno i (by omega))] at hp'
    refine h.word (by omega) _ (pb_if (fun hw => ?_) (fun hw => ?_))
    · simp only [hw, Bool.false_eq_true, if_false] at hp'
      refine h.word (by omega) _ (pb_if (fun hw2 => ⟨Or.inl rfl, ?_⟩) (fun hw2 => ?_))
      · simp only [hw2, Bool.false_eq_true, if_false] at hp'
        exact hp' μ' (KT.refl _) h hS
      · simp only [hw2, if_true] at hp'
        refine xcoin_sp h hb hS _ (fun μ1 g X S => ?_)
        have := hp' μ1 g X S
        refine pb_if (fun q => ⟨Or.inl rfl, ?_⟩) (fun q => ⟨Or.inr rfl, ?_⟩)
        · rw [q] at this; exact this
        · rw [q] at this; exact this
    · simp only [hw, if_true] at hp'
      exact xworth_sp h hb hS _ (fun μ1 g X S => ⟨tb_01 _, hp' μ1 g X S⟩)
  · have hlt : j < 7 := pn_nle (a := 7) (by omega) (by omega) hx
    refine word_sp hlt _ ⟨by omega, h.word (by omega) _ (pb_if (fun hw => ?_) (fun hw => ⟨rfl, ?_⟩))⟩
    · exact hP _ hlt ⟨rfl, fun i hi => by
        by_cases e : i = j
        · subst e; exact hw
        · exact hno i (by omega)⟩
    · rw [itm, find_s (p := fun k => wB b T k s) hlt hw hno] at hp'
      simp only at hp'
      rw [isFull_eq hS.1, pt_if']
      by_cases h10 : st.1 = 10
      · simp only [h10, decide_true, if_true]
        rw [ith, if_pos h10] at hp'
        exact ⟨by decide, hp' μ' (KT.refl _) h hS⟩
      · simp only [h10, decide_false, Bool.false_eq_true, if_false]
        refine xhouse_sp h hb hS h10 j _ (fun μ1 g X S => ?_)
        have := hp' μ1 g X S
        refine pb_if (fun q => ⟨by decide, ?_⟩) (fun q => ⟨by decide, ?_⟩)
        · rw [q] at this; exact this
        · rw [q] at this; exact this
end
theorem nxS_ge {b : Nat → Nat} {T s : Nat} (h : s ≤ T) : s ≤ nxS b T s ∧ (s < T → s < nxS b T s) := by
  have a := tke_le (b := b) h
  have c := tks_le (b := b) a.2.1
  unfold nxS
  refine ⟨by omega, fun q => ?_⟩
  have := a.2.2 q
  omega
theorem wB_lt {b : Nat → Nat} {T w s : Nat} (hw : w < 12) (hs : s ≤ T) (h : wB b T w s = true) : s < T := by
  have a := (wB_iff.mp h).1
  have c := (wl_tab w hw).1
  have d := tke_le (b := b) hs
  omega
theorem itm_le {b : Nat → Nat} {T s : Nat} {st : (Nat × (Nat → Int32) × (Nat → Int32) × Int32 × (Nat → Int32))} (hs : s ≤ T) : (itm b T s st).2.1 ≤ T ∧ ((itm b T s st).1 = true → s < (itm b T s st).2.1) := by
  have g1 := nxS_ge (b := b) hs
  have l1 := nxS_le (b := b) hs
  have g2 := nxS_ge (b := b) l1
  have l2 := nxS_le (b := b) l1
  have g3 := nxS_ge (b := b) l2
  have l3 := nxS_le (b := b) l2
  have g4 := nxS_ge (b := b) l3
  have l4 := nxS_le (b := b) l3
  have H : ∀ k, wB b T k s = true → k < 12 → s < T := fun k h hk => wB_lt hk hs h
  unfold itm
  split
  · rename_i k hk
    rw [List.find?_range_eq_some] at hk
    have := H k hk.1 (by have := List.mem_range.mp hk.2.1; omega)
    unfold ith
    repeat' split
    all_goals
      refine ⟨by first | exact hs | exact l1 | exact l2 | exact l3, fun q => ?_⟩
      first | (cases q; done) | (show s < nxS b T (nxS b T (nxS b T s)); omega)
  · split
    · rename_i hw
      have := H 7 hw (by omega)
      unfold itw
      repeat' split
      all_goals
        refine ⟨by first | exact l1 | exact l2 | exact l3 | exact l4, fun q => ?_⟩
        first | (cases q; done) | (show s < nxS b T (nxS b T (nxS b T (nxS b T s))); omega)
    · split
      · rename_i hw
        have := H 8 hw (by omega)
        unfold itc
        split
        · exact ⟨l1, fun q => by cases q⟩
        · exact ⟨l1, fun _ => by show s < nxS b T s; omega⟩
      · exact ⟨hs, fun q => by cases q⟩
