theorem prs_len {e : Nat → Nat → Bool} {n : Nat} : (prs e n).length ≤ n * n := by
  have h1 : ∀ a m b, (rowl e a m b).length ≤ m := by
    intro a m
    induction m with
    | zero => intro b; exact Nat.le_refl _
    | succ m ih => intro b; rw [rowl, List.length_append]; have := ih (b + 1); split <;> simp <;> omega
  have h2 : ∀ m a, (rws e n m a).length ≤ m * n := by
    intro m
    induction m with
    | zero => intro a; simp [rws]
    | succ m ih =>
      intro a
      rw [rws, List.length_append, Nat.succ_mul]
      have := ih (a + 1)
      have h3 : (rl e n a (a + 1)).length ≤ n := Nat.le_trans (h1 a _ _) (by omega)
      omega
  exact h2 n 0
theorem prs_mem {e : Nat → Nat → Bool} {n : Nat} {p : Nat × Nat} (h : p ∈ prs e n) : p.1 < p.2 ∧ p.2 < n ∧ e p.1 p.2 = true := ((rr_mem 0).mp h).2
theorem pick_nI {n a b : Nat} (ha : a < 154) (hb : b < 154) : (154 : Int32) * nI a + nI b = nI (154 * a + b) := by
  rw [show (154 : Int32) = nI 154 from rfl, pk_mul, nI_add]
theorem pick_neg {e : Nat → Nat → Bool} {n w : Nat} (hn : n ≤ 154) : (pick (prs e n) w < 0) = ((prs e n).length ≤ w) := by
  by_cases h : (prs e n).length ≤ w
  · simp only [pick, List.getElem?_eq_none h, h, eq_iff_iff, iff_true]
    decide
  · have hlt : w < (prs e n).length := Nat.not_le.mp h
    simp only [h, eq_iff_iff, iff_false]
    have hm := prs_mem (List.getElem_mem hlt)
    simp only [pick, List.getElem?_eq_getElem hlt]
    rw [pick_nI (n := 0) (by omega) (by omega)]
    exact nI_pos (by omega)
theorem aw_m1 {kd lt : Nat → Int32} {v : Int32} {j : Nat} (hj : j < 2 ^ 31) : aw kd lt v (-1) j = fr (kd j) (lt j) v := if_neg (nI_m1 hj)
theorem ea_m1 {kd lt : Nat → Int32} {v : Int32} {n : Nat} (hn : n ≤ 154) : prs (ea kd lt v (-1)) n = prs (ev kd lt v) n := prs_congr (fun a b hab hb => by
  unfold ea ev
  rw [aw_m1 (by omega), aw_m1 (by omega)])
section MH2
variable {μ : qM} {n : Nat} {kd lt : Nat → Int32}
theorem misFree_sp (h : HM μ n kd lt) (v : Int32) (post : Int32 → qM → Prop) (hp' : ∀ f : Nat → Int32, post (tb (fb n kd lt v)) (qr μ 57 f)) : w_X11_isFree v post μ := by
  have h154 := h.2.1
  unfold w_X11_isFree q_X11_isFree_22
  simp only [q01, q11, true_or, or_true, true_and]
  refine houseOn_sp h v _ (fun hs => ?_) (fun j hj he _ => ?_)
  · refine ⟨fun hx => absurd hx (by decide), fun _ => ?_⟩
    refine pairBy_sp h v (-1) 0 (by omega) _ (fun f => ?_)
    rw [ea_m1 h154, pick_neg h154]
    have h1 := hp' f
    unfold fb at h1
    rw [hs, hp_len] at h1
    refine ⟨fun e => ?_, fun e => ?_⟩
    · have : ¬ 0 < (prs (ev kd lt v) n).length := by omega
      simpa [this, tb] using h1
    · have : 0 < (prs (ev kd lt v) n).length := by omega
      simpa [this, tb] using h1
  · refine ⟨fun _ => ?_, fun hx => absurd (nI_pos' (by omega)) hx⟩
    have hs : stn lt v n = true := stn_iff.mpr ⟨j, hj, he⟩
    have h1 := hp' (μ 57)
    rw [qr_id] at h1
    simpa [fb, hs, tb] using h1
theorem ea_ew (h154 : n ≤ 154) {v : Int32} {w : Nat} (hw : w < n) (hnn : ∀ j, j < n → 0 ≤ fr (kd j) (lt j) v) : prs (ea kd lt v (nI w)) n = prs (ew kd lt v (nI w)) n := prs_congr (fun a b hab hb => by
  have neg : ∀ x : Int32, 0 ≤ x → (-1 - nI w == x) = false := fun x hx => by
    rw [beq_eq_false_iff_ne]
    intro e
    rw [← e] at hx
    have h1 := Int32.le_iff_toInt_le.mp hx
    have e2 : (-1 - nI w : Int32) = -nI (w + 1) := by rw [← nI_1]; grind
    rw [e2, sb_negT (by omega)] at h1
    have h0 : (0 : Int32).toInt = 0 := by decide
    omega
  have ne : ∀ i, i < n → (nI i == nI w) = (i == w) := fun i hi => by
    by_cases e : i = w
    · subst e; simp
    · have : ¬ nI i = nI w := fun q => e (pn_eq (by omega) (by omega) q)
      rw [beq_eq_false_iff_ne.mpr this, beq_eq_false_iff_ne.mpr e]
  unfold ea ew ev aw
  rw [ne a (by omega), ne b hb]
  by_cases ha : a = w
  · subst ha
    have hb' : ¬ nI b = nI a := fun q => by have := pn_eq (by omega) (by omega) q; omega
    rw [if_pos rfl, if_neg hb', neg _ (hnn b hb)]
    simp
  · have ha' : ¬ nI a = nI w := fun q => ha (pn_eq (by omega) (by omega) q)
    rw [if_neg ha']
    by_cases hb' : b = w
    · subst hb'
      rw [if_pos rfl, show (fr (kd a) (lt a) v == -1 - nI b) = (-1 - nI b == fr (kd a) (lt a) v) from Bool.beq_comm, neg _ (hnn a (by omega))]
      simp
    · have hb2 : ¬ nI b = nI w := fun q => hb' (pn_eq (by omega) (by omega) q)
      rw [if_neg hb2]
      simp [ha, hb'])
theorem misFreeWithout_sp (h : HM μ n kd lt) (v : Int32) {w : Nat} (hw : w < n) (hs : stn lt v n = false) (hnn : ∀ j, j < n → 0 ≤ fr (kd j) (lt j) v) (post : Int32 → qM → Prop) (hp' : ∀ f : Nat → Int32, post (tb (hp (ew kd lt v (nI w)) n)) (qr μ 57 f)) : w_X11_isFreeWithout v (nI w) post μ := by
  have h154 := h.2.1
  unfold w_X11_isFreeWithout q_X11_isFreeWithout_17 q_X11_isFreeWithout_31
  simp only [q01, q11, true_or, or_true, true_and]
  refine houseOn_sp h v _ (fun _ => ?_) (fun j hj he _ => ?_)
  · refine ⟨fun _ => ?_, fun hx => absurd (by decide) hx⟩
    refine pairBy_sp h v (nI w) 0 (by omega) _ (fun f => ?_)
    rw [ea_ew h154 hw hnn, pick_neg h154]
    have h1 := hp' f
    rw [hp_len] at h1
    refine ⟨fun e => ?_, fun e => ?_⟩
    · have : ¬ 0 < (prs (ew kd lt v (nI w)) n).length := by omega
      simpa [this, tb] using h1
    · have : 0 < (prs (ew kd lt v (nI w)) n).length := by omega
      simpa [this, tb] using h1
  · exact absurd he (stn_false.mp hs j hj)
theorem mfreeLots_sp (h : HM μ n kd lt) (post : Int32 → qM → Prop) (hp' : ∀ f : Nat → Int32, post (nI (cntB (fun j => fb n kd lt (nI j)) 144)) (qr μ 57 f)) : w_X11_freeLots post μ := by
  unfold w_X11_freeLots q_X11_freeLots_4 q_X11_freeLots_25
  refine for2 144 (fun j x μ' => (∃ f, μ' = qr μ 57 f) ∧ x = nI (cntB (fun j => fb n kd lt (nI j)) j)) ?_ 0 (Nat.zero_le _) ⟨⟨_, qr_id.symm⟩, rfl⟩
  rintro P j x μ' hjn ⟨⟨f, rfl⟩, rfl⟩ hP
  refine ⟨fun hx => ?_, fun hx => ?_⟩
  · have : 144 ≤ j := pn_le (by omega) (by omega) hx
    rw [show j = 144 by omega]; exact hp' f
  · have hlt : j < 144 := pn_nle (by omega) (by omega) hx
    refine misFree_sp (h.away f) _ _ (fun g => pb_if (fun hb => ?_) (fun hb => ?_))
    · refine hP _ _ hlt ⟨⟨g, qr_qr⟩, ?_⟩
      simp only [cntB, hb, Bool.false_eq_true, if_false, Nat.add_zero]
      exact Int32.add_zero _
    · refine hP _ _ hlt ⟨⟨g, qr_qr⟩, ?_⟩
      simp [cntB, hb, nI_1]
theorem howMany_sp (h : HM μ n kd lt) (v : Int32) (post : Int32 → qM → Prop) (hp' : ∀ f : Nat → Int32, post (if stn lt v n then 0 else nI (prs (ev kd lt v) n).length) (qr μ 57 f)) : w_X11_howManyPairs v post μ := by
  have h154 := h.2.1
  have hL : (prs (ev kd lt v) n).length ≤ 154 * 154 := Nat.le_trans prs_len (Nat.mul_le_mul h154 h154)
  unfold w_X11_howManyPairs q_X11_howManyPairs_2
  refine for1 (prs (ev kd lt v) n).length (fun j μ' => ∃ f, μ' = qr μ 57 f) ?_ 0 (Nat.zero_le _) ⟨_, qr_id.symm⟩
  rintro P j μ' hjn ⟨f, rfl⟩ hP
  refine pairBy_sp (h.away f) v (-1) j (by omega) _ (fun g => ?_)
  rw [ea_m1 h154, pick_neg h154, qr_qr]
  refine ⟨fun e => ?_, fun e => hP _ (by omega) ⟨g, rfl⟩⟩
  have h1 := hp' g
  refine houseOn_sp (h.away g) v _ (fun hs => ?_) (fun j hj he _ => ?_)
  · refine ⟨fun hx => absurd hx (by decide), fun _ => ?_⟩
    rw [hs] at h1
    rw [show j = (prs (ev kd lt v) n).length by omega]
    exact h1
  · have hs : stn lt v n = true := stn_iff.mpr ⟨j, hj, he⟩
    rw [hs] at h1
    exact ⟨fun _ => h1, fun hx => absurd (nI_pos' (by omega)) hx⟩
theorem or0 (x : Int32) : x ||| 0 = x := by
  apply Int32.toBitVec_inj.mp
  simp
theorem mpairsOf_sp (h : HM μ n kd lt) {a : Nat} (ha : a < n) (post : Int32 → qM → Prop) (hp' : post (ptn n kd lt a) μ) : w_X11_pairsOf (nI a) post μ := by
  have h154 := h.2.1
  unfold w_X11_pairsOf q_X11_pairsOf_4 q_X11_pairsOf_29
  refine for2 n (fun j x μ' => μ' = μ ∧ x = setI (fun b => !(a == b) && prB kd lt a b) j) ?_ 0 (Nat.zero_le _) ⟨rfl, rfl⟩
  rintro P j x μ' hjn ⟨rfl, rfl⟩ hP
  simp only [h.1]
  refine ⟨fun hx => ?_, fun hx => ?_⟩
  · have : n ≤ j := pn_le (by omega) (by omega) hx
    rw [show j = n by omega]; exact hp'
  · have hlt : j < n := pn_nle (by omega) (by omega) hx
    rw [marePair_eq h ha hlt]
    refine pb_if (fun hb => ?_) (fun hb => ?_)
    · refine hP _ _ hlt ⟨rfl, ?_⟩
      simp only [setI, hb, Bool.false_eq_true, if_false]
      exact or0 _
    · refine hP _ _ hlt ⟨rfl, ?_⟩
      simp only [setI, hb, if_true]
end MH2
/-! a lot is some way off another one -/
theorem rm12_nI {l : Nat} (h : l < 2 ^ 31) : rm12 (nI l) = nI (l % 12) := by
  unfold rm12
  exact pk_rem h (d := 12) (by omega) (by omega)
theorem dv12_nI {l : Nat} (h : l < 2 ^ 31) : nI l / 12 = nI (l / 12) := pk_div h (d := 12) (by omega) (by omega)
theorem ab_nI {x y : Nat} (hx : x < 2 ^ 30) (hy : y < 2 ^ 30) : ab (nI x - nI y) = nI (if y ≤ x then x - y else y - x) := by
  unfold ab
  by_cases h : y ≤ x
  · rw [if_pos h, pk_sub h, if_pos (nI_pos' (by omega))]
  · rw [if_neg h]
    have hn : nI x - nI y < 0 := pk_sneg hy (by omega)
    rw [if_neg (fun q => Int32.lt_irrefl (Int32.lt_of_le_of_lt q hn)), show (0 : Int32) - (nI x - nI y) = nI y - nI x by grind, pk_sub (by omega)]
theorem fr_tab : ∀ k, k < 7 → ∀ x, x < 12 → ∀ y, y < 12 → (x = 0 ∧ y = 0) ∨ 0 ≤ (if nI k = 4 then nI x * nI x + nI y * nI y + 1 else if nI k = 5 then (nI x + nI y) * (nI x + nI y) else if nI k = 6 then (nI x + nI y) * (nI x + nI y) - 1 else nI x * nI x + nI y * nI y) := by decide +kernel
theorem fr_nn {k l v : Nat} (hk : k < 7) (hl : l < 144) (hv : v < 144) (hne : l ≠ v) : 0 ≤ fr (nI k) (nI l) (nI v) := by
  unfold fr
  rw [rm12_nI (by omega), rm12_nI (by omega), dv12_nI (by omega), dv12_nI (by omega), ab_nI (by omega) (by omega), ab_nI (by omega) (by omega)]
  rcases fr_tab k hk (if v % 12 ≤ l % 12 then l % 12 - v % 12 else v % 12 - l % 12) (by split <;> omega) (if v / 12 ≤ l / 12 then l / 12 - v / 12 else v / 12 - l / 12) (by split <;> omega) with h | h
  · exfalso
    apply hne
    obtain ⟨h1, h2⟩ := h
    split at h1 <;> split at h2 <;> omega
  · exact h
def WF (n : Nat) (kd lt : Nat → Int32) : Prop := ∀ j, j < n → (∃ k, k < 7 ∧ kd j = nI k) ∧ ∃ l, l < 144 ∧ lt j = nI l
theorem WF.nn {n : Nat} {kd lt : Nat → Int32} (h : WF n kd lt) {v : Nat} (hv : v < 144) (hs : stn lt (nI v) n = false) : ∀ j, j < n → 0 ≤ fr (kd j) (lt j) (nI v) := by
  intro j hj
  obtain ⟨⟨k, hk, ek⟩, l, hl, el⟩ := h j hj
  rw [ek, el]
  refine fr_nn hk hl hv (fun e => stn_false.mp hs j hj ?_)
  rw [el, e]
