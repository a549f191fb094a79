theorem op_undo : OP w_X10_undo w_X11_undo := by
  intro μ h
  obtain ⟨⟨r1, r2, r3, r4, r5, r6, r7⟩, r8⟩ := id h
  unfold w_X10_undo w_X11_undo
  have e08 : μ 46 8 = μ 0 2 := r5.1.symm
  by_cases h0 : μ 0 2 = 0
  · refine ⟨fun q => absurd h0 q, fun _ => ?_⟩
    rw [xf3]
    refine ⟨fun q => absurd (e08.trans h0) q, fun _ => ?_⟩
    rw [mf3]
    exact ⟨rfl, h.fnd0 (by omega)⟩
  · refine ⟨fun _ => ?_, fun q => absurd q h0⟩
    have h1 : μ 0 2 = 1 := r5.2.1.resolve_left h0
    obtain ⟨n, kd, lt, hX, ⟨hM9, hMj⟩, hW, k2, k3, k4, ⟨y, hy, y1, y2⟩, k5⟩ := r5.2.2 h1
    have h10 := hX.2.1
    refine copyT_1_8 hX _ (fun f g w s' hfg hw hs => ?_)
    unfold w_X9_age
    generalize hν : (qu (qu (qu (qr (qr (qr (qr (qu μ (1 + 1) 0 (nI n)) (1 + 2) f) (1 + 3) g) (1 + 5) w) (1 + 6) s') 1 3 (μ 8 3)) 1 4 (μ 8 4)) 1 5 (μ 8 5)) = ν
    have hν' : (qu (qu (qu (qr (qr (qr (qr (qu μ 2 0 (nI n)) 3 f) 4 g) 6 w) 7 s') 1 3 (μ 8 3)) 1 4 (μ 8 4)) 1 5 (μ 8 5)) = ν := hν
    have hi46 : ∀ i, 46 ≤ i → ν i = μ i := fun i hi => by
      rw [← hν', qu_n (by omega), qu_n (by omega), qu_n (by omega), qr_n (by omega), qr_n (by omega), qr_n (by omega), qr_n (by omega), qu_n (by omega)]
    have a46 : ν 46 = μ 46 := hi46 46 (by omega)
    show (¬ ν 46 8 = 0 → _) ∧ (ν 46 8 = 0 → _)
    refine ⟨fun _ => ?_, fun q => absurd (by rw [a46, e08] at q; exact q) h0⟩
    have e1 : (qu ν 46 0 (ν 46 9)) 46 0 = nI n := by show ν 46 9 = nI n; rw [a46]; exact hM9
    show w_X11_row_ 51 47 11 19 ((qu ν 46 0 (ν 46 9)) 46 0) _ _
    rw [e1]
    refine rows_sp (by decide) (by show n ≤ 10; omega) (by show n ≤ 154; omega) (by omega) _ (fun f1 hf1 => ?_)
    have e2 : (qr (qu ν 46 0 (ν 46 9)) 47 f1) 46 0 = nI n := e1
    rw [e2]
    refine rows_sp (by decide) (by show n ≤ 10; omega) (by show n ≤ 154; omega) (by omega) _ (fun f2 hf2 => ?_)
    refine rows_sp (n := 144) (by decide) (by show 144 ≤ 144; omega) (by show 144 ≤ 144; omega) (by omega) _ (fun f3 hf3 => ?_)
    refine rows_sp (n := 10) (by decide) (by show 10 ≤ 10; omega) (by show 10 ≤ 10; omega) (by omega) _ (fun f4 hf4 => ?_)
    show ν 1 4 = ν 46 15 ∧ RI (qu (qu (qu (qr (qr (qr (qr (qu ν 46 0 (ν 46 9)) 47 f1) 48 f2) 49 f3) 50 f4) 46 5 (ν 46 14)) 46 6 (ν 46 15)) 46 7 (ν 46 16))
    refine ⟨by rw [a46, y2, ← hν']; exact y1, ?_⟩
    generalize hρ : (qu (qu (qu (qr (qr (qr (qr (qu ν 46 0 (ν 46 9)) 47 f1) 48 f2) 49 f3) 50 f4) 46 5 (ν 46 14)) 46 6 (ν 46 15)) 46 7 (ν 46 16)) = ρ
    have A : ∀ i, i < 46 → ρ i = ν i := fun i hi => by
      rw [← hρ, qu_n (by omega), qu_n (by omega), qu_n (by omega), qr_n (by omega), qr_n (by omega), qr_n (by omega), qr_n (by omega), qu_n (by omega)]
    have C : ∀ i, (Nat.blt i 46 && !(i == 2 || (i == 3 || (i == 4 || (i == 6 || (i == 7 || i == 1)))))) = true → ρ i = μ i := fun i hi => by
      simp only [Bool.and_eq_true, Bool.not_eq_true', Bool.or_eq_false_iff, beq_eq_false_iff_ne] at hi
      obtain ⟨hi0, b1, b2, b3, b4, b5, b6⟩ := hi
      rw [A i (by simpa using hi0), ← hν', qu_n b6, qu_n b6, qu_n b6, qr_n b5, qr_n b4, qr_n b3, qr_n b2, qu_n b1]
    have b46 : ∀ k, k ≠ 0 → k ≠ 5 → k ≠ 6 → k ≠ 7 → ρ 46 k = μ 46 k := fun k k0 k5' k6 k7 => by
      rw [← hρ, qu_s, pk_un k7, qu_s, pk_un k6, qu_s, pk_un k5', qr_n (by omega), qr_n (by omega), qr_n (by omega), qr_n (by omega), qu_s, pk_un k0, a46]
    have D : ∀ i, 50 < i → ρ i = μ i := fun i hi => by
      rw [← hρ, qu_n (by omega), qu_n (by omega), qu_n (by omega), qr_n (by omega), qr_n (by omega), qr_n (by omega), qr_n (by omega), qu_n (by omega)]
      exact hi46 i (by omega)
    refine ⟨⟨⟨n, kd, lt, ⟨?_, h10, fun j hj => ⟨?_, ?_⟩⟩, ⟨?_, by omega, fun j hj => ⟨?_, ?_⟩⟩, hW⟩, fun j hj => ?_, fun j hj => ?_, ⟨?_, ⟨y, hy, ?_, ?_⟩, ?_⟩, r5.keep (C 0 rfl) (C 8 rfl) (C 9 rfl) (C 10 rfl) (C 11 rfl) (C 13 rfl) (C 14 rfl) (b46 8 (by decide) (by decide) (by decide) (by decide)) (b46 9 (by decide) (by decide) (by decide) (by decide)) (b46 14 (by decide) (by decide) (by decide) (by decide)) (b46 15 (by decide) (by decide) (by decide) (by decide)) (b46 16 (by decide) (by decide) (by decide) (by decide)) (D 51 (by omega)) (D 52 (by omega)) (D 53 (by omega)) (D 54 (by omega)), r6.keep (C 22 rfl) (C 23 rfl) (b46 18 (by decide) (by decide) (by decide) (by decide)) (D 55 (by omega)), r7.keep (s8 ⟨C 25 rfl, C 26 rfl, C 27 rfl, C 28 rfl, C 29 rfl, C 30 rfl, C 31 rfl, C 32 rfl⟩) (D 62 (by omega)) (D 63 (by omega)) (D 64 (by omega))⟩, r8.keep (C 33 rfl) (D 56 (by omega))⟩
    · rw [A 2 (by omega), ← hν']; rfl
    · show ρ 3 j = kd j
      rw [A 3 (by omega), ← hν']; show f j = kd j; rw [(hfg j (by omega)).1]; exact (hX.2.2 j hj).1
    · show ρ 4 j = lt j
      rw [A 4 (by omega), ← hν']; show g j = lt j; rw [(hfg j (by omega)).2]; exact (hX.2.2 j hj).2
    · rw [← hρ]; show ν 46 9 = nI n; rw [a46]; exact hM9
    · rw [← hρ]; show f1 j = kd j; rw [hf1 j hj]; show ν 51 j = kd j; rw [hi46 51 (by omega)]; exact (hMj j hj).1
    · rw [← hρ]; show f2 j = lt j; rw [hf2 j hj]; show ν 52 j = lt j; rw [hi46 52 (by omega)]; exact (hMj j hj).2
    · rw [A 6 (by omega), ← hρ, ← hν']
      show w j = f3 j ∧ ∃ k, k < 100 ∧ w j = nI k
      rw [hw j hj, hf3 j hj]
      show μ 13 j = ν 53 j ∧ _
      rw [hi46 53 (by omega)]; exact k2 j hj
    · rw [A 7 (by omega), ← hρ, ← hν']
      show s' j = f4 j ∧ (s' j = -1 ∨ 0 ≤ s' j)
      rw [hs j hj, hf4 j hj]
      show μ 14 j = ν 54 j ∧ _
      rw [hi46 54 (by omega)]; exact k3 j hj
    · rw [A 1 (by omega), ← hρ]
      show ν 1 3 = ν 46 14
      rw [a46, ← hν']; exact k4
    · rw [A 1 (by omega), ← hν']; exact y1
    · rw [← hρ]; show ν 46 15 = nI y; rw [a46]; exact y2
    · rw [A 1 (by omega), ← hρ]
      show ν 1 5 = ν 46 16
      rw [a46, ← hν']; exact k5
/-! copy -/
def hdB (m : Nat) (f n : Int32) : Bool := decide (¬ f < 0 ∧ ¬ n < 0 ∧ f.toInt + n.toInt ≤ m)
theorem hdB_t {m : Nat} {f n : Int32} (hm : m ≤ 40) (h : hdB m f n = true) : ∃ a c, f = nI a ∧ n = nI c ∧ a + c ≤ m := by
  obtain ⟨h1, h2, h3⟩ := of_decide_eq_true h
  obtain ⟨a, ha, rfl⟩ := nI_of h1
  obtain ⟨c, hc, rfl⟩ := nI_of h2
  rw [nI_toInt ha, nI_toInt hc] at h3
  exact ⟨a, c, rfl, rfl, by omega⟩
theorem holds_eq {μ : qM} {o m : Nat} (hm : μ o 1 = nI m) (hm40 : m ≤ 40) (f n : Int32) (post : Int32 → qM → Prop) : w_X6_holds o f n post μ = post (tb (hdB m f n)) μ := by
  unfold w_X6_holds q_X6_holds_22 hdB
  simp only [q01, q11, true_or, or_true, true_and, pc_if, hm]
  by_cases h1 : f < 0
  · simp [h1, tb]
  · by_cases h2 : n < 0
    · simp [h1, h2, tb]
    · obtain ⟨a, ha, rfl⟩ := nI_of h1
      obtain ⟨c, hc, rfl⟩ := nI_of h2
      have e : (nI m - nI c < nI a) = ¬ ((nI a).toInt + (nI c).toInt ≤ m) := by
        have d : (nI m - nI c).toInt = (m : Int) - c := by
          rw [Int32.toInt_sub, nI_toInt (by omega), nI_toInt hc]
          apply Int.bmod_eq_of_le <;> omega
        rw [eq_iff_iff, Int32.lt_iff_toInt_lt, d, nI_toInt ha, nI_toInt hc]
        omega
      by_cases h3 : (nI a).toInt + (nI c).toInt ≤ m
      · have h4 : ¬ (nI m - nI c < nI a) := by rw [e]; simpa using h3
        simp [h1, h2, h3, h4, tb]
      · have h4 : nI m - nI c < nI a := by rw [e]; exact h3
        simp [h1, h2, h3, h4, tb]
theorem lgc (f n : Int32) {m : Nat} (hm : m ≤ 40) (hf : ¬ f < 0) (hn : ¬ n < 0) : (0 < lg_cmp (f.toInt64 + n.toInt64) (nI m).toInt64) = (hdB m f n = false) := by
  obtain ⟨a, ha, rfl⟩ := nI_of hf
  obtain ⟨c, hc, rfl⟩ := nI_of hn
  rw [eq_iff_iff, lg_cmp_gt, nI_l ha, nI_l hc, nI_l (by omega), lN_add, pk_lLT (by omega) (by omega)]
  unfold hdB
  rw [nI_toInt ha, nI_toInt hc, decide_eq_false_iff_not]
  constructor
  · intro h q; have := q.2.2; omega
  · intro h
    rcases Nat.lt_or_ge m (a + c) with q | q
    · exact q
    · exact absurd ⟨hf, hn, by omega⟩ h
theorem mcp_if {f t n : Int32} {m m' : Nat} (hm : m ≤ 40) (hm' : m' ≤ 40) {A B V V' : Prop} (hV : V) (hV' : V') {x y : Int32} (hx : x = nI m) (hy : y = nI m') (a : (hdB m f n && hdB m' t n) = true → A) (b : (hdB m f n && hdB m' t n) = false → B) : (n < 0 → B) ∧ (¬ n < 0 → ((f < 0 → B) ∧ (¬ f < 0 → ((t < 0 → B) ∧ (¬ t < 0 → V ∧ ((0 < lg_cmp (f.toInt64 + n.toInt64) x.toInt64 → B) ∧ (¬ 0 < lg_cmp (f.toInt64 + n.toInt64) x.toInt64 → V' ∧ ((0 < lg_cmp (t.toInt64 + n.toInt64) y.toInt64 → B) ∧ (¬ 0 < lg_cmp (t.toInt64 + n.toInt64) y.toInt64 → A)))))))) ) := by
  subst hx; subst hy
  refine ⟨fun hn => b ?_, fun hn => ⟨fun hf => b ?_, fun hf => ⟨fun ht => b ?_, fun ht => ⟨hV, ?_⟩⟩⟩⟩
  · have : hdB m f n = false := decide_eq_false (fun q => q.2.1 hn)
    rw [this, Bool.false_and]
  · have : hdB m f n = false := decide_eq_false (fun q => q.1 hf)
    rw [this, Bool.false_and]
  · have : hdB m' t n = false := decide_eq_false (fun q => q.1 ht)
    rw [this, Bool.and_false]
  · rw [lgc f n hm hf hn, lgc t n hm' ht hn]
    refine ⟨fun h1 => b (by rw [h1, Bool.false_and]), fun h1 => ⟨hV', fun h2 => b (by rw [h2, Bool.and_false]), fun h2 => a ?_⟩⟩
    rw [Bool.not_eq_false] at h1 h2
    rw [h1, h2]; rfl
theorem mcopy_sp {μ : qM} {i k a b c : Nat} (hi : i < 4) (hk : k < 4) (ha : a + c ≤ 40) (hb : b + c ≤ 40) (post : Int32 → qM → Prop) (hp' : ∀ f g, (∀ j, j < c → g (40 * k + b + j) = μ 64 (40 * i + a + j)) → (∀ z, (z < 40 * k + b ∨ 40 * k + b + c ≤ z) → g z = μ 64 z) → post (nI c) (qr (qr μ 65 f) 64 g)) : q_X11_copy_135 (nI i) (nI a) (nI k) (nI b) (nI c) post 0 μ := by
  have e40 : ∀ x y z : Nat, (40 : Int32) * nI x + nI y + nI z = nI (40 * x + y + z) := fun x y z => by rw [show (40 : Int32) = nI 40 from rfl, pk_mul, nI_add, nI_add]
  unfold q_X11_copy_135
  refine for1 c (fun j μ' => ∃ f, μ' = qr μ 65 f ∧ ∀ z, z < j → f z = μ 64 (40 * i + a + z)) ?_ 0 (Nat.zero_le _) ⟨_, qr_id.symm, fun _ q => absurd q (Nat.not_lt_zero _)⟩
  rintro P j μ' hjc ⟨f, rfl, hf⟩ hP
  refine ⟨fun hx => ?_, fun hx => ?_⟩
  · have hcj : c ≤ j := pn_le (by omega) (by omega) hx
    have hf' : ∀ z, z < c → f z = μ 64 (40 * i + a + z) := fun z hz => hf z (by omega)
    unfold q_X11_copy_172
    refine for1 c (fun j μ' => ∃ g, μ' = qr (qr μ 65 f) 64 g ∧ (∀ z, z < j → g (40 * k + b + z) = μ 64 (40 * i + a + z)) ∧ ∀ z, (z < 40 * k + b ∨ 40 * k + b + c ≤ z) → g z = μ 64 z) ?_ 0 (Nat.zero_le _) ⟨(qr μ 65 f) 64, qr_id.symm, fun _ q => absurd q (Nat.not_lt_zero _), fun _ _ => rfl⟩
    rintro P2 j2 μ' hj2 ⟨g, rfl, hg, hg2⟩ hP2
    refine ⟨fun hx => ?_, fun hx => ?_⟩
    · have : c ≤ j2 := pn_le (by omega) (by omega) hx
      exact hp' f g (fun z hz => hg z (by omega)) hg2
    · have hlt : j2 < c := pn_nle (by omega) (by omega) hx
      rw [e40, clp (by omega), clp (by omega)]
      refine ⟨vp_in_nI (by omega) (by omega), vp_in_nI (by omega) (by omega), hP2 _ hlt ⟨upd g (40 * k + b + j2) (f j2), qu_qr, fun z hz => ?_, fun z hz => ?_⟩⟩
      · by_cases e : z = j2
        · subst e; rw [pk_us]; exact hf' z hlt
        · rw [pk_un (by omega)]; exact hg z (by omega)
      · rw [pk_un (by omega)]; exact hg2 z hz
  · have hlt : j < c := pn_nle (by omega) (by omega) hx
    rw [e40, clp (by omega), clp (by omega)]
    refine ⟨vp_in_nI (by omega) (by omega), vp_in_nI (by omega) (by omega), hP _ hlt ⟨upd f j (μ 64 (40 * i + a + j)), qu_qr, fun z hz => ?_⟩⟩
    by_cases e : z = j
    · subst e; exact pk_us
    · rw [pk_un e]; exact hf z (by omega)
theorem op_copy (v1 v2 v3 v4 v5 : Int32) : OP (w_X10_copy v1 v2 v3 v4 v5) (w_X11_copy v1 v2 v3 v4 v5) := by
  intro μ h
  unfold w_X10_copy w_X11_copy q_X10_copy_24 q_X10_copy_47 q_X10_copy_99 q_X11_copy_14 q_X11_copy_38 q_X11_copy_118 q_X11_copy_119 w_X6_bits
  simp only [sheetIf, misSheet_eq, isMissing_eq, xf0, mf0, xf5, mf5, xf2, mf2, pt_if, pt_if']
  cases hs : inB v1 0 3
  · cases ht : inB v3 0 3
    · exact ⟨by trivial, h.fnd0 (by omega)⟩
    · exact ⟨inB_vp4 ht, by trivial, h.fnd0 (by omega)⟩
  · cases ht : inB v3 0 3
    · exact ⟨inB_vp4 hs, by trivial, h.fnd0 (by omega)⟩
    · obtain ⟨i, hi, rfl⟩ := inB_t (m := 3) (by decide) hs
      obtain ⟨k, hk, rfl⟩ := inB_t (m := 3) (by decide) ht
      have vi : vp_in (nI i) 4 := vp_in_nI (by omega) (by omega)
      have vk : vp_in (nI k) 4 := vp_in_nI (by omega) (by omega)
      obtain ⟨g1, g2, ⟨m, hm, g3, g3'⟩, g4⟩ := h.1.2.2.2.2.2.2 i (by omega)
      obtain ⟨k1, k2, ⟨m', hm', k3, k3'⟩, k4⟩ := h.1.2.2.2.2.2.2 k (by omega)
      simp only [if_true, clp (show i < 2 ^ 31 by omega), clp (show k < 2 ^ 31 by omega)]
      refine ⟨vi, vk, ?_⟩
      have t1 : ¬ (1 : Int32) = 0 := by decide
      by_cases hz : μ 62 i = 0
      · have hz' : (μ (25 + 2 * i) 0 == 0) = true := by rw [g1]; simpa using hz
        rw [hz']
        simp only [if_true]
        exact ⟨vi, fun _ => ⟨by trivial, h.fnd0 (by omega)⟩, fun q => absurd hz q⟩
      · have hz' : (μ (25 + 2 * i) 0 == 0) = false := by rw [g1]; simpa using hz
        rw [hz']
        simp only [Bool.false_eq_true, if_false]
        by_cases hy : μ 62 k = 0
        · have hy' : (μ (25 + 2 * k) 0 == 0) = true := by rw [k1]; simpa using hy
          rw [hy']
          simp only [if_true]
          exact ⟨vi, fun q => absurd q hz, fun _ => ⟨vk, fun q => absurd hy q, fun _ => ⟨by trivial, h.fnd0 (by omega)⟩⟩⟩
        · have hy' : (μ (25 + 2 * k) 0 == 0) = false := by rw [k1]; simpa using hy
          rw [hy']
          simp only [Bool.false_eq_true, if_false]
          rw [g1, k1]
          by_cases hb : μ 62 i = μ 62 k
          · refine ⟨fun _ => ?_, fun q => absurd hb q⟩
            rw [holds_eq g3 hm, pt_if]
            have bad : (hdB m v2 v5 && hdB m' v4 v5) = false → ∀ ν, SA (qu μ 33 0 (μ 33 0 + 1)) ν → True := fun _ _ _ => trivial
            cases hA : hdB m v2 v5
            · simp only [Bool.false_eq_true, if_false]
              refine ⟨vi, fun q => absurd q hz, fun _ => ⟨vk, fun _ => ⟨vi, vk, fun _ => ?_, fun q => absurd hb q⟩, fun q => absurd q hy⟩⟩
              exact mcp_if hm hm' vi vk (by exact g3') (by exact k3') (fun q => by rw [hA, Bool.false_and] at q; cases q) (fun _ => ⟨fun q => absurd (by trivial) q, fun _ => ⟨by trivial, h.fnd0 (by omega)⟩⟩)
            · simp only [if_true]
              rw [holds_eq k3 hm', pt_if']
              cases hB : hdB m' v4 v5
              · simp only [Bool.false_eq_true, if_false]
                refine ⟨vi, fun q => absurd q hz, fun _ => ⟨vk, fun _ => ⟨vi, vk, fun _ => ?_, fun q => absurd hb q⟩, fun q => absurd q hy⟩⟩
                exact mcp_if hm hm' vi vk (by exact g3') (by exact k3') (fun q => by rw [hB, Bool.and_false] at q; cases q) (fun _ => ⟨fun q => absurd (by trivial) q, fun _ => ⟨by trivial, h.fnd0 (by omega)⟩⟩)
              · simp only [if_true]
                obtain ⟨a, c, rfl, rfl, hac⟩ := hdB_t hm hA
                obtain ⟨b, c', rfl, ec, hbc⟩ := hdB_t hm' hB
                unfold w_X6_take
                rw [holds_eq k3 hm', hB]
                refine ⟨fun q => absurd q (by decide), fun _ => ?_⟩
                rw [holds_eq g3 hm, hA]
                refine ⟨fun q => absurd q (by decide), fun _ => ?_⟩
                have hA2 := of_decide_eq_true hA
                have hB2 := of_decide_eq_true hB
                have hc31 : c < 2 ^ 31 := by
                  rcases Nat.lt_or_ge c (2 ^ 31) with q | q
                  · exact q
                  · omega
                have hbc2 : b + c ≤ m' := by
                  have h3 := hB2.2.2
                  rw [nI_toInt (by omega), nI_toInt hc31] at h3
                  omega
                rw [clp (by omega), clp (by omega), clp (by omega)]
                refine ⟨hA2.1, hB2.1, hA2.2.1, by omega, by omega, ?_⟩
                generalize hcp : va_cpy (μ (25 + 2 * i + 1)) (μ (25 + 2 * k + 1)) a b c = cp
                have e62 : ∀ z, (z < 25 ∨ 32 < z) → (qr μ (25 + 2 * k + 1) cp) z = μ z := fun z hz => qr_n (by omega)
                rw [e62 62 (by omega)]
                refine ⟨vi, fun q => absurd q hz, fun _ => ⟨vk, fun _ => ⟨vi, vk, fun _ => ?_, fun q => absurd hb q⟩, fun q => absurd q hy⟩⟩
                rw [e62 63 (by omega)]
                refine mcp_if hm hm' vi vk (by exact g3') (by exact k3') (fun _ => ⟨fun _ => ?_, fun q => absurd q t1⟩) (fun q => by rw [hA, hB] at q; cases q)
                refine mcopy_sp (by omega) (by omega) (by omega) (by omega) _ (fun f g hg1 hg2 => ⟨rfl, ?_⟩)
                rw [e62 64 (by omega)] at hg1 hg2
                refine h.sh (fun z za zb => ?_) (h.1.2.2.2.2.2.2.at (i := k) (by omega) (fun s hs hsi => ?_) ?_)
                · have z2 : z ≠ 25 + 2 * k + 1 := fun e => by subst e; rw [b32 (by omega) (by omega)] at za; cases za
                  simp only [Bool.or_eq_false_iff, beq_eq_false_iff_ne] at zb
                  rw [qr_n zb.2.2.1, qr_n zb.2.2.2, qr_n z2]
                · refine ⟨?_, ?_, ?_, ?_, fun j hj => ?_⟩
                  · rw [qr_n (by omega), qr_n (by omega), qr_n (by omega)]
                  · rw [qr_n (by omega), qr_n (by omega), qr_n (by omega)]
                  · rw [qr_n (by omega), qr_n (by omega), qr_n (by omega)]
                  · rw [qr_n (by omega), qr_n (by omega), qr_n (by omega)]
                  · rw [qr_s, hg2 _ (by omega)]
                · refine ⟨?_, ?_, ⟨m', hm', ?_, ?_⟩, fun j hj => ?_⟩
                  · rw [qr_n (by omega), qr_n (by omega), qr_n (by omega), qr_n (by omega), qr_n (by omega), qr_n (by omega)]; exact k1
                  · rw [qr_n (by omega), qr_n (by omega), qr_n (by omega)]; exact k2
                  · rw [qr_n (by omega), qr_n (by omega), qr_n (by omega)]; exact k3
                  · rw [qr_n (by omega), qr_n (by omega), qr_n (by omega)]; exact k3'
                  · rw [show 26 + 2 * k = 25 + 2 * k + 1 by omega, qr_n (by omega), qr_n (by omega), qr_s, qr_s, ← hcp]
                    by_cases q : b ≤ j ∧ j < b + c
                    · rw [pk_cpy_in q.1 q.2]
                      obtain ⟨z, rfl⟩ : ∃ z, j = b + z := ⟨j - b, by omega⟩
                      have := hg1 z (by omega)
                      rw [show 40 * k + (b + z) = 40 * k + b + z by omega, this, show a + (b + z - b) = a + z by omega, show 25 + 2 * i + 1 = 26 + 2 * i by omega, g4 (a + z) (by omega), show 40 * i + (a + z) = 40 * i + a + z by omega]
                    · rw [pk_cpy_out (by omega), hg2 _ (by omega), show 25 + 2 * k + 1 = 26 + 2 * k by omega]
                      exact k4 j hj
          · refine ⟨fun q => absurd q hb, fun _ => ?_⟩
            exact ⟨vi, fun q => absurd q hz, fun _ => ⟨vk, fun _ => ⟨vi, vk, fun q => absurd q hb, fun _ => ⟨by trivial, h.fnd0 (by omega)⟩⟩, fun q => absurd q hy⟩⟩
