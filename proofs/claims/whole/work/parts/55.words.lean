def wl (w : Nat) : Nat := qLn.getD w 0
def wc (w i : Nat) : Int32 := (qBy.getD w []).getD i 0
def wB (b : Nat → Nat) (T w s : Nat) : Bool := (tke b T s - s == wl w) && (List.range (wl w)).all (fun i => atB b T (s + i) == wc w i)
theorem wB_iff {b : Nat → Nat} {T w s : Nat} : wB b T w s = true ↔ tke b T s - s = wl w ∧ ∀ i, i < wl w → atB b T (s + i) = wc w i := by
  unfold wB
  rw [Bool.and_eq_true, beq_iff_eq, List.all_eq_true]
  constructor
  · rintro ⟨h1, h2⟩
    exact ⟨h1, fun i hi => by have := h2 i (List.mem_range.mpr hi); simpa using this⟩
  · rintro ⟨h1, h2⟩
    exact ⟨h1, fun i hi => by have := h2 i (List.mem_range.mp hi); simpa using this⟩
theorem wl_tab : ∀ w, w < 12 → 0 < wl w ∧ wl w ≤ 8 := by decide
theorem wc_tab : ∀ w, w < 11 → inB (wc w 0) 97 122 = true := by decide
theorem xWord_sp {μ : qM} {T s w : Nat} {b : Nat → Nat} (hw : w < 11) (h : TX μ T b) (hs : s ≤ T) (f2 : μ 66 2 = nI s) (f3 : μ 66 3 = nI (tke b T s)) (f4 : μ 66 4 = tyB b T s) (post : Int32 → qM → Prop) (hp' : post (tb (wB b T w s)) μ) : w_X5_isWord w post μ := by
  have hT := h.1
  have ht := tke_le (b := b) hs
  have wt := wl_tab w (by omega)
  unfold w_X5_isWord q_X5_isWord_24 w_J0_length_8abf5
  rw [f2, f3, f4, pk_sub (by omega)]
  have no : wB b T w s = false → ((0 : Int32) = 0 ∨ (0 : Int32) = 1) ∧ post 0 μ := fun hb => by
    rw [hb] at hp'; exact ⟨Or.inl rfl, hp'⟩
  refine ⟨fun q => no ?_, fun q => ⟨fun q2 => ?_, fun q2 => no ?_⟩⟩
  · cases e : wB b T w s
    · rfl
    · have a := (wB_iff.mp e).2 0 wt.1
      have c := wc_tab w hw
      rw [← a] at c
      exact absurd (by rw [tyB, show leB b T s = true from c]; rfl) q
  · have el : tke b T s - s = wl w := pn_eq (by omega) (b := wl w) (by omega) q2
    unfold q_X5_isWord_28 w_J0_length_8abf5 w_J0_charAt_5068e
    refine for1 (wl w) (fun j μ' => μ' = μ ∧ ∀ i, i < j → atB b T (s + i) = wc w i) ?_ 0 (Nat.zero_le _) ⟨rfl, fun _ q => absurd q (Nat.not_lt_zero _)⟩
    rintro P j μ' hj ⟨rfl, hok⟩ hP
    dsimp only
    refine ⟨fun hx => ?_, fun hx => ?_⟩
    · have : wl w ≤ j := pn_le (b := j) (by omega) (by omega) hx
      rw [wB_iff.mpr ⟨el, fun i hi => hok i (by omega)⟩] at hp'
      exact ⟨Or.inr rfl, hp'⟩
    · have hlt : j < wl w := pn_nle (a := wl w) (by omega) (by omega) hx
      rw [f2, nI_add, at_eq h (by omega)]
      have vj : vp_in (nI j) (wl w) := vp_in_nI hlt (by omega)
      refine ⟨vj, ?_⟩
      rw [clp (by omega)]
      refine ⟨fun q => hP _ hlt ⟨rfl, fun i hi => ?_⟩, fun q => ?_⟩
      · by_cases e : i = j
        · subst e; exact q
        · exact hok i (by omega)
      · refine no ?_
        cases e : wB b T w s
        · rfl
        · exact absurd ((wB_iff.mp e).2 j hlt) q
  · cases e : wB b T w s
    · rfl
    · exact absurd (congrArg nI (wB_iff.mp e).1) q2
theorem mWord_sp {μ : qM} {T s w : Nat} {b : Nat → Nat} (hw : w < 12) (h : MT μ T b) (hs : s ≤ T) (f0 : μ 46 33 = 0) (f2 : μ 46 31 = nI s) (f3 : μ 46 32 = nI (tke b T s)) (post : Int32 → qM → Prop) (hp' : post (tb (wB b T w s)) μ) : w_X11_isWord w post μ := by
  have hT := h.1
  have ht := tke_le (b := b) hs
  have wt := wl_tab w (by omega)
  unfold w_X11_isWord q_X11_isWord_27 q_X11_isWord_28 w_J0_length_8abf5
  rw [f2, f3, pk_sub (by omega)]
  have loop0 : wB b T w s = false → q_X11_isWord_31 w post 0 0 μ := fun hb => by
    rw [hb] at hp'
    unfold q_X11_isWord_31 q_X11_isWord_74
    refine for2 0 (fun j x μ' => μ' = μ ∧ x = 0) ?_ 0 (Nat.zero_le _) ⟨rfl, rfl⟩
    rintro P j x μ' hj ⟨rfl, rfl⟩ hP
    exact ⟨fun _ => ⟨Or.inl rfl, hp'⟩, fun q => absurd rfl q⟩
  refine ⟨fun q => absurd f0 q, fun q => ⟨fun q2 => loop0 ?_, fun q2 => ?_⟩⟩
  · cases e : wB b T w s
    · rfl
    · exact absurd (congrArg nI (wB_iff.mp e).1) q2
  · have el : tke b T s - s = wl w := pn_eq (by omega) (b := wl w) (by omega) q2
    unfold q_X11_isWord_31 q_X11_isWord_74 q_X11_isWord_67 w_J0_length_8abf5 w_J0_charAt_5068e
    refine for2 (wl w) (fun j x μ' => μ' = μ ∧ ∃ c : Bool, x = tb c ∧ (c = true → ∀ i, i < j → atB b T (s + i) = wc w i) ∧ (c = false → wB b T w s = false)) ?_ 0 (Nat.zero_le _) ⟨rfl, true, rfl, fun _ _ q => absurd q (Nat.not_lt_zero _), fun q => by cases q⟩
    rintro P j x μ' hj ⟨rfl, c, rfl, hc1, hc0⟩ hP
    dsimp only
    refine pb_if (fun hc => ⟨tb_01 _, ?_⟩) (fun hc => ⟨fun hx => ⟨tb_01 _, ?_⟩, fun hx => ?_⟩)
    · rw [hc]; rw [hc0 hc] at hp'; exact hp'
    · have : wl w ≤ j := pn_le (a := wl w) (b := j) (by omega) (by omega) hx
      rw [wB_iff.mpr ⟨el, fun i hi => hc1 hc i (by omega)⟩] at hp'
      rw [hc]; exact hp'
    · have hlt : j < wl w := pn_nle (a := wl w) (by omega) (by omega) hx
      rw [f2, nI_add, clp (by omega)]
      have vj : vp_in (nI j) (wl w) := vp_in_nI hlt (by omega)
      refine ⟨vp_in_nI (by omega) (by omega), vj, ?_⟩
      rw [clp (by omega)]
      have ea : μ' 55 (s + j) = atB b T (s + j) := by
        rw [(h.2.2 (s + j) (by omega)).1, atB, if_pos (by omega)]
      rw [ea]
      refine ⟨fun q => hP _ _ hlt ⟨rfl, false, rfl, (fun p => by cases p), fun _ => ?_⟩, fun q => hP _ _ hlt ⟨rfl, true, rfl, fun _ i hi => ?_, (fun p => by cases p)⟩⟩
      · cases e : wB b T w s
        · rfl
        · exact absurd ((wB_iff.mp e).2 j hlt) q
      · by_cases e : i = j
        · subst e; exact q
        · exact hc1 hc i (by omega)
theorem mWord_fault {μ : qM} {w : Nat} (f0 : ¬ μ 46 33 = 0) (post : Int32 → qM → Prop) (hp' : post 0 μ) : w_X11_isWord w post μ := by
  unfold w_X11_isWord q_X11_isWord_27 q_X11_isWord_28
  refine ⟨fun _ => ?_, fun q => absurd q f0⟩
  unfold q_X11_isWord_31 q_X11_isWord_74
  refine for2 0 (fun j x μ' => μ' = μ ∧ x = 0) ?_ 0 (Nat.zero_le _) ⟨rfl, rfl⟩
  rintro P j x μ' hj ⟨rfl, rfl⟩ hP
  exact ⟨fun _ => ⟨Or.inl rfl, hp'⟩, fun q => absurd rfl q⟩
/-- the number of a token, or nothing -/
def nmB (b : Nat → Nat) (T s : Nat) : Int32 := if diB b T s then nI (vn b s (tke b T s - s)) else -1
theorem nx_all {p : Nat → Bool} {T s : Nat} : ∀ j, s ≤ j → j < nx p T s → p j = true := by
  unfold nx
  generalize T - s = k
  induction k generalizing s with
  | zero => intro j h1 h2; rw [fw] at h2; omega
  | succ k ih =>
    intro j h1 h2
    rw [fw] at h2
    cases hp : p s
    · rw [hp] at h2; simp only [Bool.false_eq_true, if_false] at h2; omega
    · rw [hp] at h2
      simp only [if_true] at h2
      by_cases e : j = s
      · subst e; exact hp
      · exact ih j (by omega) h2
theorem vn_lt {b : Nat → Nat} {s : Nat} (hb : ∀ j, b (s + j) < 256) (j : Nat) : vn b s j < 2000000 := by
  induction j with
  | zero => show (0 : Nat) < 2000000; decide
  | succ j ih =>
    have := hb j
    rw [vn]
    split <;> omega
theorem numberHere_sp {μ : qM} {T s : Nat} {b : Nat → Nat} (h : MT μ T b) (hs : s ≤ T) (f2 : μ 46 31 = nI s) (f3 : μ 46 32 = nI (tke b T s)) (post : Int32 → qM → Prop) (hp' : post (nmB b T s) μ) : w_X11_numberHere post μ := by
  have hT := h.1
  have ht := tke_le (b := b) hs
  unfold w_X11_numberHere q_X11_numberHere_20
  rw [f2, isByte_eq h (by omega) (by decide)]
  refine pb_if (fun hd => ?_) (fun hd => ?_)
  · have e : nmB b T s = -1 := by rw [nmB, show diB b T s = false from hd]; rfl
    rw [e] at hp'
    unfold q_X11_numberHere_26 q_X11_numberHere_69
    rw [f2]
    refine for2 s (fun j x μ' => μ' = μ ∧ x = -1) ?_ s (Nat.le_refl _) ⟨rfl, rfl⟩
    rintro P j x μ' hj ⟨rfl, rfl⟩ hP
    exact ⟨fun _ => hp', fun _ => ⟨fun _ => hp', fun q => absurd (by decide) q⟩⟩
  · have hd' : diB b T s = true := hd
    have e : nmB b T s = nI (vn b s (tke b T s - s)) := by rw [nmB, hd']; rfl
    rw [e] at hp'
    have el : leB b T s = false := by
      cases q : leB b T s
      · rfl
      · have a := (of_decide_eq_true q).1
        have c := (of_decide_eq_true hd').2
        exact absurd (Int32.lt_of_lt_of_le (show (57 : Int32) < 97 by decide) (Int32.not_lt.mp a)) c
    have et : tke b T s = nx (diB b T) T s := by rw [tke, el, hd']; rfl
    unfold q_X11_numberHere_26 q_X11_numberHere_69 q_X11_numberHere_62
    rw [f2]
    refine for2 (tke b T s) (fun j x μ' => μ' = μ ∧ s ≤ j ∧ x = nI (vn b s (j - s)) ∧ vn b s (j - s) < 2000000) ?_ s ht.1 ⟨rfl, Nat.le_refl _, by rw [Nat.sub_self]; rfl, by rw [Nat.sub_self]; exact (show (0 : Nat) < 2000000 by decide)⟩
    rintro P j x μ' hj ⟨rfl, hsj, rfl, hv⟩ hP
    rw [f3]
    refine ⟨fun hx => ?_, fun hx => ⟨fun q => absurd q (nI_pos (by omega)), fun _ => ?_⟩⟩
    · have : tke b T s ≤ j := pn_le (by omega) (by omega) hx
      rw [show j = tke b T s by omega]; exact hp'
    · have hlt : j < tke b T s := pn_nle (by omega) (by omega) hx
      have hb := h.2.2 j (by omega)
      have hdj : diB b T j = true := nx_all j hsj (by rw [← et]; exact hlt)
      have b48 : 48 ≤ b j := by
        have := (of_decide_eq_true hdj).1
        rw [atB, if_pos (show j < T by omega)] at this
        exact pn_nlt (b := 48) (by omega) (by omega) this
      have vstep : vn b s (j + 1 - s) = if vn b s (j - s) ≤ 99999 then 10 * vn b s (j - s) + b j - 48 else vn b s (j - s) := by
        rw [show j + 1 - s = (j - s) + 1 by omega, vn, show s + (j - s) = j by omega]
      rw [clp (by omega), hb.1]
      refine ⟨fun q => ⟨vp_in_nI (by omega) (by omega), hP _ _ hlt ⟨rfl, by omega, ?_, ?_⟩⟩, fun q => hP _ _ hlt ⟨rfl, by omega, ?_, ?_⟩⟩
      · have q' : vn b s (j - s) ≤ 99999 := pn_le (b := 99999) (by omega) (by omega) q
        rw [vstep, if_pos q', show (10 : Int32) * nI (vn b s (j - s)) = nI (10 * vn b s (j - s)) from by rw [show (10 : Int32) = nI 10 from rfl, pk_mul], nI_add]
        exact pk_sub (b := 48) (by omega)
      · have q' : vn b s (j - s) ≤ 99999 := pn_le (b := 99999) (by omega) (by omega) q
        rw [vstep, if_pos q']; omega
      · have q' : ¬ vn b s (j - s) ≤ 99999 := fun p => q (nI_le (b := 99999) p (by omega))
        rw [vstep, if_neg q']
      · have q' : ¬ vn b s (j - s) ≤ 99999 := fun p => q (nI_le (b := 99999) p (by omega))
        rw [vstep, if_neg q']; exact hv
