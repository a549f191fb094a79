def RV (n : Nat) (kd lt : Nat → Int32) (μ μ' : qM) (k : Nat) (p : Nat → Nat) (f : Nat → Bool) (i : Nat) : Prop := XK μ μ' ∧ PI n kd lt k p f ∧ XM μ' k p f 144 ∧ (∀ u, u < 144 → fb n kd lt (nI u) = true → f u = true) ∧ ∀ i', i' < i → i' < k → ∀ u, u < 144 → stn lt (nI u) n = false → opn n kd lt p i' u → f u = true
theorem addB_t {f : Nat → Bool} {v u : Nat} (h : f u = true) : addB f v u = true := by simp [addB, h]
theorem addB_s {f : Nat → Bool} {v : Nat} : addB f v v = true := by simp [addB]
theorem updN_n {p : Nat → Nat} {k v j : Nat} (h : j < k) : updN p k v j = p j := by unfold updN; rw [if_neg (by omega)]
theorem RV_add {n : Nat} {kd lt : Nat → Int32} {μ μ' μ2 : qM} {k : Nat} {p : Nat → Nat} {f : Nat → Bool} {i v : Nat} (h : RV n kd lt μ μ' k p f i) (hi : i ≤ k) (hv : v < 144) (hf : f v = false) (hE : EV n kd lt v) (g : XK μ' μ2) (gM : XM μ2 (k + 1) (updN p k v) (addB f v) 144) : RV n kd lt μ μ2 (k + 1) (updN p k v) (addB f v) i := by
  obtain ⟨h1, h2, h3, h4, h5⟩ := h
  refine ⟨h1.trans g, h2.add hv hf hE, gM, fun u hu hb => addB_t (h4 u hu hb), fun i' hi' _ u hu hs ho => addB_t (h5 i' hi' (by omega) u hu hs ?_)⟩
  exact opn_congr (fun j hj => updN_n (by omega)) ho
theorem reach2_sp {μ ν : qM} {n : Nat} {kd lt : Nat → Int32} {k : Nat} {p : Nat → Nat} {f : Nat → Bool} (hX : HX μ 2 n kd lt) (h : RV n kd lt μ ν k p f 0) (post : Int32 → qM → Prop) (hp' : ∀ μ' k p f, XK μ μ' → PI n kd lt k p f → XM μ' k p f 144 → CL n kd lt f → post (nI k) μ') : q_X7_reach_42 34 2 post 0 ν := by
  unfold q_X7_reach_42 q_X7_reach_110
  refine for1 144 (fun i μ' => ∃ k p f, RV n kd lt μ μ' k p f i) ?_ 0 (Nat.zero_le _) ⟨k, p, f, h⟩
  rintro P i μ' hi ⟨k, p, f, hR⟩ hP
  obtain ⟨h1, h2, h3, h4, h5⟩ := id hR
  have hk := h2.le
  have fin : k ≤ i → post (nI k) μ' := fun q => hp' μ' k p f h1 h2 h3 (PI_cl h2 h4 (fun i' hi' u hu hs ho => h5 i' (by omega) hi' u hu hs ho))
  rw [h3.1]
  refine ⟨fun hx => fin (pn_le (by omega) (by omega) hx), fun hx => ⟨fun hx2 => fin ?_, fun hx2 => ?_⟩⟩
  · have : 144 ≤ i := pn_le (a := 144) (by omega) (by omega) hx2
    omega
  · have hik : i < k := pn_nle (by omega) (by omega) hx
    have hlt : i < 144 := by omega
    unfold q_X7_reach_59 q_X7_reach_98
    refine for1 144 (fun v μ' => ∃ k p f, i < k ∧ RV n kd lt μ μ' k p f i ∧ ∀ u, u < v → stn lt (nI u) n = false → opn n kd lt p i u → f u = true) ?_ 0 (Nat.zero_le _) ⟨k, p, f, hik, hR, fun _ q => absurd q (Nat.not_lt_zero _)⟩
    rintro P' v μ2 hv ⟨k, p, f, hik, hR, hU⟩ hP'
    obtain ⟨h1, h2, h3, h4, h5⟩ := id hR
    have hk := h2.le
    refine ⟨fun hx3 => ?_, fun hx3 => ?_⟩
    · have : 144 ≤ v := pn_le (a := 144) (by omega) (by omega) hx3
      refine hP _ hlt ⟨k, p, f, h1, h2, h3, h4, fun i' hi' hk' u hu hs ho => ?_⟩
      by_cases e : i' = i
      · subst e; exact hU u (by omega) hs ho
      · exact h5 i' (by omega) hk' u hu hs ho
    · have hv144 : v < 144 := pn_nle (a := 144) (by omega) (by omega) hx3
      have ef : μ2 (34 + 1) v = tb (f v) := h3.2.2 v hv144
      have go : (stn lt (nI v) n = false → opn n kd lt p i v → f v = true) → ∀ μ3, XK μ2 μ3 → XM μ3 k p f 144 → P' (nI v + 1) μ3 := fun hh μ3 g gM => hP' _ hv144 ⟨k, p, f, hik, ⟨h1.trans g, h2, gM, h4, h5⟩, fun u hu hs ho => by
        by_cases e : u = v
        · subst e; exact hh hs ho
        · exact hU u (by omega) hs ho⟩
      rw [clp (by omega), ef]
      refine ⟨vp_in_nI hv144 (by omega), pb_if' (fun hb => go (fun _ _ => hb) μ2 (XK.refl _) h3) (fun hb => ?_)⟩
      refine stands_sp (h1.hx hX) _ _ (pb_if' (fun hs => go (fun q => by rw [hs] at q; cases q) μ2 (XK.refl _) h3) (fun hs => ?_))
      refine isOpenedBy_sp (h1.hx hX) hk h3.2.1 hik _ (fun ho => ⟨fun q => absurd q (by decide), fun _ => ?_⟩) (fun ho => ⟨fun _ => go (fun _ q => absurd q ho) μ2 (XK.refl _) h3, fun q => absurd rfl q⟩)
      have hE := PI_opn h2 hik hv144 hs ho
      refine xadd_sp h3 (h2.lt hv144 hb) hv144 _ (fun μ3 g gM _ _ => ?_)
      refine hP' _ hv144 ⟨k + 1, updN p k v, addB f v, by omega, RV_add hR (by omega) hv144 hb hE g gM, fun u hu hs' ho' => ?_⟩
      by_cases e : u = v
      · subst e; exact addB_s
      · exact addB_t (hU u (by omega) hs' (opn_congr (fun j hj => updN_n (by omega)) ho'))
theorem reach_sp {μ : qM} {n : Nat} {kd lt : Nat → Int32} (hX : HX μ 2 n kd lt) (post : Int32 → qM → Prop) (hp' : ∀ μ' k p f, XK μ μ' → PI n kd lt k p f → XM μ' k p f 144 → CL n kd lt f → post (nI k) μ') : w_X7_reach 34 2 post μ := by
  unfold w_X7_reach q_X7_reach_7 q_X7_reach_34
  refine for1 144 (fun v μ' => ∃ k p f, XK μ μ' ∧ PI n kd lt k p f ∧ XM μ' k p f v ∧ (∀ u, u < v → fb n kd lt (nI u) = true → f u = true) ∧ ∀ u, v ≤ u → f u = false) ?_ 0 (Nat.zero_le _) ⟨0, id, fun _ => false, fun i _ b _ _ => qu_n b, PI.nil _, ⟨rfl, fun i hi => absurd hi (Nat.not_lt_zero _), fun i hi => absurd hi (Nat.not_lt_zero _)⟩, fun i hi => absurd hi (Nat.not_lt_zero _), fun _ _ => rfl⟩
  rintro P v μ' hv ⟨k, p, f, h1, h2, h3, h4, h5⟩ hP
  refine ⟨fun hx => ?_, fun hx => ?_⟩
  · have : 144 ≤ v := pn_le (a := 144) (by omega) (by omega) hx
    have hv : v = 144 := by omega
    subst hv
    exact reach2_sp hX ⟨h1, h2, h3, h4, fun i' hi' => absurd hi' (Nat.not_lt_zero _)⟩ _ hp'
  · have hv144 : v < 144 := pn_nle (a := 144) (by omega) (by omega) hx
    have hf := h5 v (Nat.le_refl _)
    rw [clp (by omega)]
    refine ⟨vp_in_nI hv144 (by omega), Or.inl rfl, ?_⟩
    have g1 : XK μ (qu μ' (34 + 1) v 0) := h1.trans (fun i _ _ c _ => qu_n c)
    refine isFree_sp (g1.hx hX) _ _ (fun g => ?_)
    have g2 : XK μ (qr (qu μ' (34 + 1) v 0) (2 + 3) g) := g1.trans (fun i a _ _ _ => qr_n a)
    have m2 : XM (qr (qu μ' (34 + 1) v 0) (2 + 3) g) k p f (v + 1) := ⟨h3.1, h3.2.1, fun x hx => by
      show upd (μ' 35) v 0 x = tb (f x)
      by_cases e : x = v
      · subst e; rw [pk_us, hf]; rfl
      · rw [pk_un e]; exact h3.2.2 x (by omega)⟩
    refine pb_if (fun hb => ?_) (fun hb => ?_)
    · refine hP _ hv144 ⟨k, p, f, g2, h2, m2, fun u hu hb' => ?_, fun u hu => h5 u (by omega)⟩
      by_cases e : u = v
      · subst e; rw [hb] at hb'; cases hb'
      · exact h4 u (by omega) hb'
    · have hb' := hb
      rw [fb, Bool.and_eq_true, Bool.not_eq_true'] at hb'
      have hE : EV n kd lt v := EV.step hv144 hb'.1 (Or.inl hb'.2)
      refine xadd_sp m2 (h2.lt hv144 hf) hv144 _ (fun μ3 g3 m3 _ _ => ?_)
      refine hP _ hv144 ⟨k + 1, updN p k v, addB f v, g2.trans g3, h2.add hv144 hf hE, m3, fun u hu hb2 => ?_, fun u hu => ?_⟩
      · by_cases e : u = v
        · subst e; exact addB_s
        · exact addB_t (h4 u (by omega) hb2)
      · have e : (u == v) = false := by simpa using (show ¬ u = v by omega)
        unfold addB
        rw [h5 u (by omega), e]; rfl
/-! the reference's way -/
def kdp (n : Nat) (kd : Nat → Int32) : Nat → Int32 := fun j => if j < n then kd j else 0
def ltp (n : Nat) (lt : Nat → Int32) (p : Nat → Nat) : Nat → Int32 := fun j => if j < n then lt j else nI (p (j - n))
theorem kdp_l {n : Nat} {kd : Nat → Int32} {j : Nat} (h : j < n) : kdp n kd j = kd j := if_pos h
theorem kdp_r {n : Nat} {kd : Nat → Int32} {i : Nat} : kdp n kd (n + i) = 0 := if_neg (by omega)
theorem ltp_l {n : Nat} {lt : Nat → Int32} {p : Nat → Nat} {j : Nat} (h : j < n) : ltp n lt p j = lt j := if_pos h
theorem ltp_r {n : Nat} {lt : Nat → Int32} {p : Nat → Nat} {i : Nat} : ltp n lt p (n + i) = nI (p i) := by
  unfold ltp
  rw [if_neg (by omega), show n + i - n = i by omega]
theorem cn0 {a b c : Int32} : cn 0 a b c = true := by
  unfold cn
  rw [if_neg (by decide), if_neg (by decide), if_neg (by decide), if_neg (by decide)]
theorem hp_ext {n k : Nat} {kd lt : Nat → Int32} {p : Nat → Nat} {U : Int32} : hp (ev (kdp n kd) (ltp n lt p) U) (n + k) = true ↔ hp (ev kd lt U) n = true ∨ (∃ i, i < k ∧ evW n kd lt 0 (nI (p i)) U = true) ∨ ∃ i j, i < j ∧ j < k ∧ fr 0 (nI (p i)) U = fr 0 (nI (p j)) U := by
  constructor
  · intro h
    obtain ⟨a, b, hab, hb, he⟩ := hp_iff.mp h
    simp only [ev, prB, Bool.and_eq_true, beq_iff_eq] at he
    by_cases hbn : b < n
    · refine Or.inl (hp_iff.mpr ⟨a, b, hab, hbn, ?_⟩)
      simp only [ev, prB, Bool.and_eq_true, beq_iff_eq]
      rw [kdp_l (show a < n by omega), ltp_l (show a < n by omega), kdp_l hbn, ltp_l hbn] at he
      exact he
    · obtain ⟨j, rfl⟩ : ∃ j, b = n + j := ⟨b - n, by omega⟩
      by_cases han : a < n
      · refine Or.inr (Or.inl ⟨j, by omega, evW_iff.mpr ⟨a, han, ?_⟩⟩)
        rw [kdp_l han, ltp_l han, kdp_r, ltp_r] at he
        exact ⟨he.1, he.2.1, he.2.2⟩
      · obtain ⟨i, rfl⟩ : ∃ i, a = n + i := ⟨a - n, by omega⟩
        refine Or.inr (Or.inr ⟨i, j, by omega, by omega, ?_⟩)
        rw [kdp_r, ltp_r, kdp_r, ltp_r] at he
        exact he.1
  · rintro (h | ⟨i, hi, h⟩ | ⟨i, j, hij, hj, h⟩)
    · obtain ⟨a, b, hab, hb, he⟩ := hp_iff.mp h
      refine hp_iff.mpr ⟨a, b, hab, by omega, ?_⟩
      simp only [ev, prB] at he ⊢
      rw [kdp_l (show a < n by omega), ltp_l (show a < n by omega), kdp_l hb, ltp_l hb]
      exact he
    · obtain ⟨a, ha, h1, h2, h3⟩ := evW_iff.mp h
      refine hp_iff.mpr ⟨a, n + i, by omega, by omega, ?_⟩
      simp only [ev, prB, Bool.and_eq_true, beq_iff_eq]
      rw [kdp_l ha, ltp_l ha, kdp_r, ltp_r]
      exact ⟨h1, h2, h3⟩
    · refine hp_iff.mpr ⟨n + i, n + j, by omega, by omega, ?_⟩
      simp only [ev, prB, Bool.and_eq_true, beq_iff_eq]
      rw [kdp_r, ltp_r, kdp_r, ltp_r]
      exact ⟨h, cn0, cn0⟩
theorem stn_ext {n k : Nat} {lt : Nat → Int32} {p : Nat → Nat} {U : Int32} : stn (ltp n lt p) U (n + k) = true ↔ stn lt U n = true ∨ ∃ i, i < k ∧ nI (p i) = U := by
  rw [stn_iff, stn_iff]
  constructor
  · rintro ⟨j, hj, e⟩
    by_cases hn : j < n
    · rw [ltp_l hn] at e; exact Or.inl ⟨j, hn, e⟩
    · obtain ⟨i, rfl⟩ : ∃ i, j = n + i := ⟨j - n, by omega⟩
      rw [ltp_r] at e
      exact Or.inr ⟨i, by omega, e⟩
  · rintro (⟨j, hj, e⟩ | ⟨i, hi, e⟩)
    · exact ⟨j, by omega, by rw [ltp_l hj]; exact e⟩
    · exact ⟨n + i, by omega, by rw [ltp_r]; exact e⟩
theorem fb_ext {n k : Nat} {kd lt : Nat → Int32} {p : Nat → Nat} {f : Nat → Bool} (h : PI n kd lt k p f) {v : Nat} (hv : v < 144) : fb (n + k) (kdp n kd) (ltp n lt p) (nI v) = true ↔ stn lt (nI v) n = false ∧ f v = false ∧ EE n kd lt v (fun s => f s = true) := by
  rw [fb, Bool.and_eq_true, Bool.not_eq_true', hp_ext]
  have st : stn (ltp n lt p) (nI v) (n + k) = false ↔ stn lt (nI v) n = false ∧ f v = false := by
    constructor
    · intro hs
      constructor
      · cases e : stn lt (nI v) n
        · rfl
        · rw [stn_ext.mpr (Or.inl e)] at hs; cases hs
      · cases e : f v
        · rfl
        · obtain ⟨i, hi, e'⟩ := h.2.2.1 v hv e
          rw [stn_ext.mpr (Or.inr ⟨i, hi, by rw [e']⟩)] at hs; cases hs
    · rintro ⟨h1, h2⟩
      cases e : stn (ltp n lt p) (nI v) (n + k)
      · rfl
      · rcases stn_ext.mp e with q | ⟨i, hi, q⟩
        · rw [h1] at q; cases q
        · have hpi := h.2.1 i hi
          have : p i = v := pn_eq (by omega) (by omega) q
          rw [this, h2] at hpi
          cases hpi.2.1
  rw [st]
  constructor
  · rintro ⟨⟨h1, h2⟩, h3⟩
    refine ⟨h1, h2, ?_⟩
    rcases h3 with q | ⟨i, hi, q⟩ | ⟨i, j, hij, hj, q⟩
    · exact Or.inl q
    · exact Or.inr (Or.inl ⟨p i, (h.2.1 i hi).1, (h.2.1 i hi).2.1, q⟩)
    · refine Or.inr (Or.inr ⟨p i, p j, (h.2.1 i (by omega)).1, (h.2.1 j hj).1, fun e => ?_, (h.2.1 i (by omega)).2.1, (h.2.1 j hj).2.1, q⟩)
      have := h.2.2.2 i j (by omega) hj e
      omega
  · rintro ⟨h1, h2, h3⟩
    refine ⟨⟨h1, h2⟩, ?_⟩
    rcases h3 with q | ⟨s, hs, hc, q⟩ | ⟨s, s', hs, hs', hn, hc, hc', q⟩
    · exact Or.inl q
    · obtain ⟨i, hi, e⟩ := h.2.2.1 s hs hc
      exact Or.inr (Or.inl ⟨i, hi, by rw [e]; exact q⟩)
    · obtain ⟨i, hi, e⟩ := h.2.2.1 s hs hc
      obtain ⟨j, hj, e'⟩ := h.2.2.1 s' hs' hc'
      rcases Nat.lt_trichotomy i j with r | r | r
      · exact Or.inr (Or.inr ⟨i, j, r, hj, by rw [e, e']; exact q⟩)
      · subst r; exact absurd (e.symm.trans e') hn
      · exact Or.inr (Or.inr ⟨j, i, r, hi, by rw [e, e']; exact q.symm⟩)
def FM (n : Nat) (kd lt : Nat → Int32) (μ μ' : qM) (k : Nat) (p : Nat → Nat) (f : Nat → Bool) : Prop := ((∀ z, z ≠ 46 → z ≠ 47 → z ≠ 48 → z ≠ 57 → μ' z = μ z) ∧ ∀ q, q ≠ 0 → μ' 46 q = μ 46 q) ∧ PI n kd lt k p f ∧ HM μ' (n + k) (kdp n kd) (ltp n lt p)
theorem HM.congr {μ : qM} {n : Nat} {kd lt kd' lt' : Nat → Int32} (h : HM μ n kd lt) (g : ∀ j, j < n → kd j = kd' j ∧ lt j = lt' j) : HM μ n kd' lt' := ⟨h.1, h.2.1, fun j hj => ⟨(h.2.2 j hj).1.trans (g j hj).1, (h.2.2 j hj).2.trans (g j hj).2⟩⟩
theorem ext_put {n k v : Nat} {kd lt : Nat → Int32} {p : Nat → Nat} : ∀ j, j < n + k + 1 → upd (kdp n kd) (n + k) 0 j = kdp n kd j ∧ upd (ltp n lt p) (n + k) (nI v) j = ltp n lt (updN p k v) j := by
  intro j hj
  by_cases e : j = n + k
  · subst e
    rw [pk_us, pk_us, kdp_r, ltp_r]
    refine ⟨rfl, ?_⟩
    unfold updN
    rw [if_pos rfl]
  · rw [pk_un e, pk_un e]
    refine ⟨rfl, ?_⟩
    by_cases hn : j < n
    · rw [ltp_l hn, ltp_l hn]
    · obtain ⟨i, rfl⟩ : ∃ i, j = n + i := ⟨j - n, by omega⟩
      rw [ltp_r, ltp_r, updN_n (by omega)]
theorem findEver_sp {μ : qM} {n : Nat} {kd lt : Nat → Int32} (hM : HM μ n kd lt) (h10 : n ≤ 10) (post : qM → Prop) (hp' : ∀ μ' k p f, SA μ μ' → PI n kd lt k p f → (∀ v, v < 144 → μ' 58 v = tb (f v)) → CL n kd lt f → post μ') : w_X11_findEver post μ := by
  unfold w_X11_findEver q_X11_findEver_7
  rw [hM.1]
  have hM0 : HM μ (n + 0) (kdp n kd) (ltp n lt id) := hM.congr (fun j hj => ⟨(kdp_l hj).symm, (ltp_l hj).symm⟩)
  refine qL1_rule (fun x μ' => ∃ k p f, FM n kd lt μ μ' k p f ∧ (x = -1 ∨ ∃ k0, x = nI (n + k0) ∧ k0 ≤ k ∧ (k0 = k → CL n kd lt f))) (fun x _ => 400 - (x + 1).toNatClampNeg) ?_ _ _ ⟨0, id, fun _ => false, ⟨⟨fun _ _ _ _ _ => rfl, fun _ _ => rfl⟩, PI.nil _, hM0⟩, Or.inl rfl⟩
  rintro P x μ' ⟨k, p, f, hF, hx⟩ hP
  obtain ⟨⟨fz, fk⟩, hI, hM'⟩ := id hF
  have hk := hI.le
  rw [hM'.1]
  refine ⟨fun he => ?_, fun hne => ?_⟩
  · have hC : CL n kd lt f := by
      rcases hx with q | ⟨k0, q, hk0, hc⟩
      · rw [q] at he; exact absurd he.symm (nI_m1 (by omega))
      · exact hc (by have := pn_eq (by omega) (by omega) (q.symm.trans he); omega)
    unfold q_X11_findEver_54 q_X11_findEver_80
    refine for1 144 (fun v μ2 => ∃ g, μ2 = qr μ' 58 g ∧ ∀ u, u < v → g u = tb (f u)) ?_ 0 (Nat.zero_le _) ⟨_, qr_id.symm, fun _ q => absurd q (Nat.not_lt_zero _)⟩
    rintro P' v μ2 hv ⟨g, rfl, hg⟩ hP'
    refine ⟨fun hx3 => ?_, fun hx3 => ?_⟩
    · have : 144 ≤ v := pn_le (a := 144) (by omega) (by omega) hx3
      refine hp' _ k p f ⟨fun z a b c d => ?_, fun q _ => ?_, fun j hj => ?_⟩ hI (fun u hu => ?_) hC
      · have z57 : z ≠ 57 := fun q => by subst q; exact absurd a (by decide)
        have z58 : z ≠ 58 := fun q => by subst q; exact absurd a (by decide)
        rw [qu_n b, qr_n z58]; exact fz z b c d z57
      · show upd (μ' 46) 0 (nI n) q = μ 46 q
        by_cases e : q = 0
        · subst e; rw [pk_us]; exact hM.1.symm
        · rw [pk_un e]; exact fk q e
      · rw [hM.1, clp (by omega)] at hj
        show μ' 47 j = μ 47 j ∧ μ' 48 j = μ 48 j
        have a := hM'.2.2 j (by omega)
        have b := hM.2.2 j hj
        rw [a.1, a.2, b.1, b.2, kdp_l hj, ltp_l hj]
        exact ⟨rfl, rfl⟩
      · show g u = tb (f u)
        exact hg u (by omega)
    · have hv144 : v < 144 := pn_nle (a := 144) (by omega) (by omega) hx3
      have hM2 : HM (qr μ' 58 g) (n + k) (kdp n kd) (ltp n lt p) := hM'
      have vv : vp_in (nI v) 144 := vp_in_nI hv144 (by omega)
      have go : ∀ b : Bool, f v = b → P' (nI v + 1) (qu (qr μ' 58 g) 58 v (tb b)) := fun b hb => hP' _ hv144 ⟨upd g v (tb b), qu_qr, fun u hu => by
        by_cases e : u = v
        · subst e; rw [pk_us, hb]
        · rw [pk_un e]; exact hg u (by omega)⟩
      rw [clp (by omega)]
      have nm : (-1 : Int32) < nI n := by
        rw [Int32.lt_iff_toInt_lt, nI_toInt (by omega)]
        have : (-1 : Int32).toInt = -1 := by decide
        omega
      refine houseOn_sp hM2 _ _ (fun hs => ⟨fun _ => ⟨vv, Or.inl rfl, go false ?_⟩, fun q => absurd nm q⟩) (fun j hj he hlast => ⟨fun q => ⟨vv, Or.inl rfl, go false ?_⟩, fun q => ⟨vv, Or.inr rfl, go true ?_⟩⟩)
      · cases e : f v
        · rfl
        · obtain ⟨i, hi, e'⟩ := hI.2.2.1 v hv144 e
          rw [stn_ext.mpr (Or.inr ⟨i, hi, by rw [e']⟩)] at hs; cases hs
      · have hjn : j < n := pn_lt (by omega) (by omega) q
        cases e : f v
        · rfl
        · obtain ⟨i, hi, e'⟩ := hI.2.2.1 v hv144 e
          exact absurd (by rw [ltp_r, e']) (hlast (n + i) (by omega) (by omega))
      · have hjn : n ≤ j := pn_nlt (by omega) (by omega) q
        obtain ⟨i, rfl⟩ : ∃ i, j = n + i := ⟨j - n, by omega⟩
        rw [ltp_r] at he
        have hpi := hI.2.1 i (by omega)
        have : p i = v := pn_eq (by omega) (by omega) he
        rw [← this]; exact hpi.2.1
  · unfold q_X11_findEver_22 q_X11_findEver_43
    refine for1 144 (fun v μ2 => ∃ k' p f, k ≤ k' ∧ FM n kd lt μ μ2 k' p f ∧ (k' = k → ∀ u, u < v → stn lt (nI u) n = false → EE n kd lt u (fun s => f s = true) → f u = true)) ?_ 0 (Nat.zero_le _) ⟨k, p, f, Nat.le_refl _, hF, fun _ _ q => absurd q (Nat.not_lt_zero _)⟩
    rintro P' v μ2 hv ⟨k', p', f', hkk, hF', hU⟩ hP'
    obtain ⟨⟨fz', fk'⟩, hI', hM2⟩ := id hF'
    have hk' := hI'.le
    refine ⟨fun hx3 => ?_, fun hx3 => ?_⟩
    · have : 144 ≤ v := pn_le (a := 144) (by omega) (by omega) hx3
      refine hP _ _ ⟨k', p', f', hF', Or.inr ⟨k, rfl, hkk, fun e u hu hs hE => hU e.symm u (by omega) hs hE⟩⟩ ?_
      show 400 - (nI (n + k) + 1).toNatClampNeg < 400 - (x + 1).toNatClampNeg
      rw [nI_1, clp (by omega)]
      rcases hx with q | ⟨k0, q, hk0, _⟩
      · rw [q, show ((-1 : Int32) + 1).toNatClampNeg = 0 by decide]; omega
      · rw [q, nI_1, clp (by omega)]
        have : k0 ≠ k := fun e => hne (by rw [q, e])
        omega
    · have hv144 : v < 144 := pn_nle (a := 144) (by omega) (by omega) hx3
      refine misFree_sp hM2 _ _ (fun g => pb_if (fun hb => ?_) (fun hb => ?_))
      · refine hP' _ hv144 ⟨k', p', f', hkk, ⟨⟨fun z a b c d => by rw [qr_n d]; exact fz' z a b c d, fk'⟩, hI', hM2.away g⟩, fun e u hu hs hE => ?_⟩
        by_cases q : u = v
        · subst q
          cases e' : f' u
          · rw [(fb_ext hI' hv144).mpr ⟨hs, e', hE⟩] at hb; cases hb
          · rfl
        · exact hU e u (by omega) hs hE
      · obtain ⟨hs, hf, hE⟩ := (fb_ext hI' hv144).mp hb
        have hlt := hI'.lt hv144 hf
        have hEV : EV n kd lt v := EV.step hv144 hs (hE.mono (fun s hs' hc => by
          obtain ⟨i, hi, e⟩ := hI'.2.2.1 s hs' hc
          rw [← e]; exact (hI'.2.1 i hi).2.2))
        refine mput_sp (hM2.away g) (by omega) _ _ _ ?_
        refine hP' _ hv144 ⟨k' + 1, updN p' k' v, addB f' v, by omega, ⟨⟨fun z a b c d => ?_, fun q hq => ?_⟩, hI'.add hv144 hf hEV, ?_⟩, fun e => by omega⟩
        · rw [qu_n a, qu_n c, qu_n b, qr_n d]; exact fz' z a b c d
        · show upd (μ2 46) 0 _ q = μ 46 q
          rw [pk_un hq]; exact fk' q hq
        · exact ((hM2.away g).put (by omega) 0 (nI v)).congr ext_put
