/-! the class's ladder -/
def nr (n : Nat) (kd lt : Nat → Int32) (g v : Nat) : Bool := !(v == g) && (!stn lt (nI v) n && evW n kd lt 0 (nI v) (nI g))
theorem p1_nr {n : Nat} {kd lt : Nat → Int32} {g v : Nat} (hg : g < 144) (hv : v < 144) (hf : fb n kd lt (nI g) = false) (hs : stn lt (nI g) n = false) : p1 n kd lt g v = (fb n kd lt (nI v) && nr n kd lt g v) := by
  have hb := fb_put (n := n) (kd := kd) (lt := lt) (k := 0) hv hg
  rw [p1, nr, hb, hf, hs]
  have e : (g == v) = (v == g) := Bool.beq_comm
  rw [e, fb]
  cases stn lt (nI v) n <;> cases hp (ev kd lt (nI v)) n <;> cases evW n kd lt 0 (nI v) (nI g) <;> cases (v == g) <;> rfl
theorem evW_put {n : Nat} {kd lt : Nat → Int32} {l l' U : Int32} : evW (n + 1) (upd kd n 0) (upd lt n l) 0 l' U = (evW n kd lt 0 l' U || fr 0 l U == fr 0 l' U) := by
  rw [Bool.eq_iff_iff, Bool.or_eq_true, evW_iff, evW_iff, beq_iff_eq]
  constructor
  · rintro ⟨j, hj, h1, h2, h3⟩
    by_cases e : j = n
    · subst e
      rw [pk_us, pk_us] at h1
      exact Or.inr h1
    · rw [pk_un e, pk_un e] at h1 h2 h3
      exact Or.inl ⟨j, by omega, h1, h2, h3⟩
  · rintro (⟨j, hj, h1, h2, h3⟩ | h)
    · refine ⟨j, by omega, ?_⟩
      rw [pk_un (by omega), pk_un (by omega)]
      exact ⟨h1, h2, h3⟩
    · refine ⟨n, by omega, ?_⟩
      rw [pk_us, pk_us]
      exact ⟨h, cn0, cn0⟩
def x2 (n : Nat) (kd lt : Nat → Int32) (g s u : Nat) : Bool := (nr n kd lt g u || fr 0 (nI u) (nI g) == fr 0 (nI s) (nI g)) && (!(u == g) && (!(u == s) && (!stn lt (nI u) n && (fb n kd lt (nI u) || evW n kd lt 0 (nI s) (nI u)))))
theorem p2_x2 {n : Nat} {kd lt : Nat → Int32} {g s u : Nat} (hg : g < 144) (hs : s < 144) (hu : u < 144) (hf : fb n kd lt (nI g) = false) (hsg : stn lt (nI g) n = false) (hfs : fb n kd lt (nI s) = true) (hne : s ≠ g) (hp1 : p1 n kd lt g s = false) : p2 n kd lt g s u = x2 n kd lt g s u := by
  have e1 : fb (n + 1) (upd kd n 0) (upd lt n (nI s)) (nI g) = false := by
    rw [p1, hfs] at hp1
    have : (s == g) = false := by simpa using hne
    rw [this] at hp1
    simpa using hp1
  have e2 : stn (upd lt n (nI s)) (nI g) (n + 1) = false := by
    rw [stn_put, hsg]
    have : (nI s == nI g) = false := by
      rw [beq_eq_false_iff_ne]
      exact fun q => hne (pn_eq (by omega) (by omega) q)
    rw [this]; rfl
  rw [p2, p1_nr hg hu e1 e2, nr, x2, nr, fb_put hs hu, evW_put, stn_put]
  have e3 : (nI s == nI u) = (u == s) := by
    rw [Bool.eq_iff_iff, beq_iff_eq, beq_iff_eq]
    exact ⟨fun q => (pn_eq (by omega) (by omega) q).symm, fun q => by rw [q]⟩
  have e4 : (fr 0 (nI s) (nI g) == fr 0 (nI u) (nI g)) = (fr 0 (nI u) (nI g) == fr 0 (nI s) (nI g)) := Bool.beq_comm
  rw [e3, e4, fb]
  cases stn lt (nI u) n <;> cases hp (ev kd lt (nI u)) n <;> cases evW n kd lt 0 (nI u) (nI g) <;> cases evW n kd lt 0 (nI s) (nI u) <;> cases (u == g) <;> cases (u == s) <;> cases (fr 0 (nI u) (nI g) == fr 0 (nI s) (nI g)) <;> rfl
theorem findSecond_sp {μ : qM} {n : Nat} {kd lt : Nat → Int32} {g s : Nat} (hX : HX μ 2 n kd lt) (hg : g < 144) (hs : s < 144) (m1 : ∀ v, v < 144 → μ 38 v = tb (fb n kd lt (nI v))) (m2 : ∀ v, v < 144 → μ 39 v = tb (nr n kd lt g v)) (post : Int32 → qM → Prop) (h1 : ∀ u, u < 144 → x2 n kd lt g s u = true → (∀ x, x < u → x2 n kd lt g s x = false) → post 1 (qu μ 37 3 (nI u))) (h0 : (∀ u, u < 144 → x2 n kd lt g s u = false) → post 0 μ) : w_X3_findSecond 37 2 (nI g) (nI s) post μ := by
  unfold w_X3_findSecond
  rw [measure_eq]
  unfold q_X3_findSecond_11
  refine for1 144 (fun j μ' => μ' = μ ∧ ∀ x, x < j → x2 n kd lt g s x = false) ?_ 0 (Nat.zero_le _) ⟨rfl, fun _ q => absurd q (Nat.not_lt_zero _)⟩
  rintro P j μ' hjn ⟨rfl, hno⟩ hP
  refine ⟨fun hx => ⟨Or.inl rfl, ?_⟩, fun hx => ?_⟩
  · have : 144 ≤ j := pn_le (by omega) (by omega) hx
    exact h0 (fun u hu => hno u (by omega))
  · have hlt : j < 144 := pn_nle (by omega) (by omega) hx
    have vj : vp_in (nI j) 144 := vp_in_nI (by omega) (by omega)
    have no : x2 n kd lt g s j = false → P (nI j + 1) μ' := fun hb => hP _ hlt ⟨rfl, fun u hu => by
      by_cases e : u = j
      · subst e; exact hb
      · exact hno u (by omega)⟩
    have c46 : (nr n kd lt g j || fr 0 (nI j) (nI g) == fr 0 (nI s) (nI g)) = true → q_X3_findSecond_46 37 2 P post (nI g) (nI s) (fr 0 (nI s) (nI g)) (nI j) 1 μ' := fun hh => by
      unfold q_X3_findSecond_46 q_X3_findSecond_103 q_X3_findSecond_95
      refine ⟨fun q => absurd q (by decide), fun _ => ⟨fun q => no ?_, fun q1 => ⟨fun q => no ?_, fun q2 => ?_⟩⟩⟩
      · have := pn_eq (by omega) (by omega) q
        subst this; simp [x2]
      · have := pn_eq (by omega) (by omega) q
        subst this; simp [x2]
      · have hjg : (j == g) = false := by rw [beq_eq_false_iff_ne]; intro e; exact q1 (by rw [e])
        have hjs : (j == s) = false := by rw [beq_eq_false_iff_ne]; intro e; exact q2 (by rw [e])
        refine stands_sp hX _ _ (pb_if' (fun hst => no (by rw [x2, hst]; simp)) (fun hst => ?_))
        rw [clp (by omega)]
        have e1 : μ' (37 + 1) j = tb (fb n kd lt (nI j)) := m1 j hlt
        rw [e1]
        have yes : (fb n kd lt (nI j) || evW n kd lt 0 (nI s) (nI j)) = true → post 1 (qu μ' 37 3 (nI j)) := fun hw => h1 j hlt (by rw [x2, hh, hjg, hjs, hst, hw]; rfl) hno
        refine ⟨vj, pb_if' (fun hb => ⟨Or.inr rfl, yes (by rw [hb]; rfl)⟩) (fun hb => ?_)⟩
        refine isEvenWith_sp hX _ _ _ _ (pb_if (fun he => no (by rw [x2, hb, he]; simp)) (fun he => ⟨Or.inr rfl, yes (by rw [he, Bool.or_true])⟩))
    rw [clp (by omega)]
    have e2 : μ' (37 + 2) j = tb (nr n kd lt g j) := m2 j hlt
    rw [e2]
    unfold q_X3_findSecond_41
    refine ⟨vj, pb_if' (fun hb => c46 (by rw [hb]; rfl)) (fun hb => ?_)⟩
    rw [measure_eq]
    refine ⟨fun q => ?_, fun q => c46 (by rw [hb, q]; simp)⟩
    unfold q_X3_findSecond_46 q_X3_findSecond_103
    refine ⟨fun _ => no ?_, fun q => absurd rfl q⟩
    have : (fr 0 (nI j) (nI g) == fr 0 (nI s) (nI g)) = false := by rw [beq_eq_false_iff_ne]; exact q
    rw [x2, hb, this]; rfl
