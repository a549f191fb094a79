/-! class and reference side by side: what is scratch, what must agree -/
def scrB (i : Nat) : Bool := i == 5 || (i == 12 || ((Nat.ble 15 i && Nat.ble i 21) || ((Nat.ble 34 i && Nat.ble i 45) || ((Nat.ble 57 i && Nat.ble i 61) || (i == 65 || i == 66)))))
def scrF (k : Nat) : Bool := (Nat.ble 23 k && Nat.ble k 25) || (Nat.ble 27 k && Nat.ble k 33)
def SA (μ μ' : qM) : Prop := (∀ i, scrB i = false → i ≠ 46 → i ≠ 47 → i ≠ 48 → μ' i = μ i) ∧ (∀ k, scrF k = false → μ' 46 k = μ 46 k) ∧ ∀ j, j < (μ 46 0).toNatClampNeg → μ' 47 j = μ 47 j ∧ μ' 48 j = μ 48 j
theorem SA.refl (μ : qM) : SA μ μ := ⟨fun _ _ _ _ _ => rfl, fun _ _ => rfl, fun _ _ => ⟨rfl, rfl⟩⟩
theorem SA.trans {μ μ1 μ2 : qM} (h : SA μ μ1) (g : SA μ1 μ2) : SA μ μ2 := by
  refine ⟨fun i a b c d => (g.1 i a b c d).trans (h.1 i a b c d), fun k a => (g.2.1 k a).trans (h.2.1 k a), fun j hj => ?_⟩
  have e : μ1 46 0 = μ 46 0 := h.2.1 0 rfl
  have g' := g.2.2 j (by rw [e]; exact hj)
  have h' := h.2.2 j hj
  exact ⟨g'.1.trans h'.1, g'.2.trans h'.2⟩
theorem SA.qr {μ : qM} {i : Nat} {f : Nat → Int32} (h : scrB i = true) : SA μ (qr μ i f) := by
  have h46 : i ≠ 46 := fun e => by subst e; exact absurd h (by decide)
  have h47 : i ≠ 47 := fun e => by subst e; exact absurd h (by decide)
  have h48 : i ≠ 48 := fun e => by subst e; exact absurd h (by decide)
  refine ⟨fun j a _ _ _ => qr_n (fun e => ?_), fun k _ => ?_, fun j _ => ⟨?_, ?_⟩⟩
  · subst e; rw [a] at h; cases h
  · rw [qr_n (fun e => h46 e.symm)]
  · rw [qr_n (fun e => h47 e.symm)]
  · rw [qr_n (fun e => h48 e.symm)]
/-- the houses agree -/
def R1 (μ : qM) : Prop := ∃ (n : Nat) (kd lt : Nat → Int32), HX μ 2 n kd lt ∧ HM μ n kd lt ∧ WF n kd lt
def R2 (μ : qM) : Prop := ∀ j, j < 144 → μ 6 j = μ 49 j ∧ ∃ k, k < 100 ∧ μ 6 j = nI k
def R3 (μ : qM) : Prop := ∀ j, j < 10 → μ 7 j = μ 50 j ∧ (μ 7 j = -1 ∨ 0 ≤ μ 7 j)
def R4 (μ : qM) : Prop := μ 1 3 = μ 46 5 ∧ (∃ y, y ≤ 9999 ∧ μ 1 4 = nI y ∧ μ 46 6 = nI y) ∧ μ 1 5 = μ 46 7
def R5 (μ : qM) : Prop := μ 0 2 = μ 46 8 ∧ (μ 0 2 = 0 ∨ μ 0 2 = 1) ∧ (μ 0 2 = 1 → ∃ (n : Nat) (kd lt : Nat → Int32), HX μ 9 n kd lt ∧ (μ 46 9 = nI n ∧ ∀ j, j < n → μ 51 j = kd j ∧ μ 52 j = lt j) ∧ WF n kd lt ∧ (∀ j, j < 144 → μ 13 j = μ 53 j ∧ ∃ k, k < 100 ∧ μ 13 j = nI k) ∧ (∀ j, j < 10 → μ 14 j = μ 54 j ∧ (μ 14 j = -1 ∨ 0 ≤ μ 14 j)) ∧ μ 8 3 = μ 46 14 ∧ (∃ y, y ≤ 9999 ∧ μ 8 4 = nI y ∧ μ 46 15 = nI y) ∧ μ 8 5 = μ 46 16)
def R6 (μ : qM) : Prop := ∃ m, m ≤ 120 ∧ μ 22 1 = nI m ∧ μ 46 18 = nI m ∧ ∀ j, j < m → μ 23 j &&& 255 = μ 55 j ∧ ∃ b, b < 256 ∧ μ 55 j = nI b
def R7 (μ : qM) : Prop := ∀ s, s < 4 → μ (25 + 2 * s) 0 = μ 62 s ∧ (μ 62 s = 0 ∨ μ 62 s = 8 ∨ μ 62 s = 16 ∨ μ 62 s = 32) ∧ (∃ m, m ≤ 40 ∧ μ (25 + 2 * s) 1 = nI m ∧ μ 63 s = nI m) ∧ ∀ j, j < 40 → μ (26 + 2 * s) j = μ 64 (40 * s + j)
def R8 (μ : qM) : Prop := ∀ j, j < 7 → μ 33 j = μ 56 j
def RI7 (μ : qM) : Prop := R1 μ ∧ R2 μ ∧ R3 μ ∧ R4 μ ∧ R5 μ ∧ R6 μ ∧ R7 μ
def RI (μ : qM) : Prop := RI7 μ ∧ R8 μ
theorem R1.keep {μ μ' : qM} (h : R1 μ) (h1 : μ' 2 0 = μ 2 0) (h3 : μ' 3 = μ 3) (h4 : μ' 4 = μ 4) (h5 : μ' 46 0 = μ 46 0) (h6 : ∀ j, j < (μ 46 0).toNatClampNeg → μ' 47 j = μ 47 j ∧ μ' 48 j = μ 48 j) : R1 μ' := by
  obtain ⟨n, kd, lt, hX, hM, hW⟩ := h
  refine ⟨n, kd, lt, ⟨h1.trans hX.1, hX.2.1, fun j hj => ?_⟩, ⟨h5.trans hM.1, hM.2.1, fun j hj => ?_⟩, hW⟩
  · show μ' 3 j = kd j ∧ μ' 4 j = lt j
    rw [h3, h4]; exact hX.2.2 j hj
  · have := h6 j (by rw [hM.1, clp (by have := hM.2.1; omega)]; exact hj)
    rw [this.1, this.2]; exact hM.2.2 j hj
theorem R2.keep {μ μ' : qM} (h : R2 μ) (h1 : μ' 6 = μ 6) (h2 : μ' 49 = μ 49) : R2 μ' := by
  unfold R2; rw [h1, h2]; exact h
theorem R3.keep {μ μ' : qM} (h : R3 μ) (h1 : μ' 7 = μ 7) (h2 : μ' 50 = μ 50) : R3 μ' := by
  unfold R3; rw [h1, h2]; exact h
theorem R4.keep {μ μ' : qM} (h : R4 μ) (h1 : μ' 1 = μ 1) (h2 : μ' 46 5 = μ 46 5) (h3 : μ' 46 6 = μ 46 6) (h4 : μ' 46 7 = μ 46 7) : R4 μ' := by
  unfold R4; rw [h1, h2, h3, h4]; exact h
theorem R5.keep {μ μ' : qM} (h : R5 μ) (h0 : μ' 0 = μ 0) (h8 : μ' 8 = μ 8) (h9 : μ' 9 = μ 9) (h10 : μ' 10 = μ 10) (h11 : μ' 11 = μ 11) (h13 : μ' 13 = μ 13) (h14 : μ' 14 = μ 14) (g8 : μ' 46 8 = μ 46 8) (g9 : μ' 46 9 = μ 46 9) (g14 : μ' 46 14 = μ 46 14) (g15 : μ' 46 15 = μ 46 15) (g16 : μ' 46 16 = μ 46 16) (h51 : μ' 51 = μ 51) (h52 : μ' 52 = μ 52) (h53 : μ' 53 = μ 53) (h54 : μ' 54 = μ 54) : R5 μ' := by
  unfold R5
  rw [h0, g8]
  refine ⟨h.1, h.2.1, fun e => ?_⟩
  obtain ⟨n, kd, lt, hX, hM, hW, r⟩ := h.2.2 e
  refine ⟨n, kd, lt, ⟨(by rw [h9]; exact hX.1), hX.2.1, fun j hj => ?_⟩, ⟨g9.trans hM.1, fun j hj => ?_⟩, hW, ?_⟩
  · show μ' 10 j = kd j ∧ μ' 11 j = lt j
    rw [h10, h11]; exact hX.2.2 j hj
  · rw [h51, h52]; exact hM.2 j hj
  · rw [h13, h14, h53, h54, h8, g14, g15, g16]; exact r
theorem R6.keep {μ μ' : qM} (h : R6 μ) (h1 : μ' 22 = μ 22) (h2 : μ' 23 = μ 23) (h3 : μ' 46 18 = μ 46 18) (h4 : μ' 55 = μ 55) : R6 μ' := by
  unfold R6; rw [h1, h2, h3, h4]; exact h
theorem R7.keep {μ μ' : qM} (h : R7 μ) (h1 : ∀ s, s < 8 → μ' (25 + s) = μ (25 + s)) (h62 : μ' 62 = μ 62) (h63 : μ' 63 = μ 63) (h64 : μ' 64 = μ 64) : R7 μ' := by
  intro s hs
  rw [h62, h63, h64, h1 (2 * s) (by omega), show 26 + 2 * s = 25 + (2 * s + 1) by omega, h1 (2 * s + 1) (by omega), show 25 + (2 * s + 1) = 26 + 2 * s by omega]
  exact h s hs
theorem R8.keep {μ μ' : qM} (h : R8 μ) (h1 : μ' 33 = μ 33) (h2 : μ' 56 = μ 56) : R8 μ' := by
  unfold R8; rw [h1, h2]; exact h
theorem s8 {P : Nat → Prop} (h : P 0 ∧ P 1 ∧ P 2 ∧ P 3 ∧ P 4 ∧ P 5 ∧ P 6 ∧ P 7) : ∀ s, s < 8 → P s := by
  obtain ⟨h0, h1, h2, h3, h4, h5, h6, h7⟩ := h
  intro s hs
  have : s = 0 ∨ s = 1 ∨ s = 2 ∨ s = 3 ∨ s = 4 ∨ s = 5 ∨ s = 6 ∨ s = 7 := by omega
  rcases this with rfl | rfl | rfl | rfl | rfl | rfl | rfl | rfl <;> assumption
/-- all but the findings stays, if only findings and scratch have changed -/
theorem RI7.sa {μ μ' : qM} (h : RI7 μ) (g : SA μ μ') : RI7 μ' := by
  obtain ⟨r1, r2, r3, r4, r5, r6, r7⟩ := h
  obtain ⟨a, b, c⟩ := g
  have A : ∀ i, scrB i = false → i ≠ 46 → i ≠ 47 → i ≠ 48 → μ' i = μ i := a
  refine ⟨r1.keep (by rw [a 2 rfl (by decide) (by decide) (by decide)]) (a 3 rfl (by decide) (by decide) (by decide)) (a 4 rfl (by decide) (by decide) (by decide)) (b 0 rfl) c, r2.keep (a 6 rfl (by decide) (by decide) (by decide)) (a 49 rfl (by decide) (by decide) (by decide)), r3.keep (a 7 rfl (by decide) (by decide) (by decide)) (a 50 rfl (by decide) (by decide) (by decide)), r4.keep (a 1 rfl (by decide) (by decide) (by decide)) (b 5 rfl) (b 6 rfl) (b 7 rfl), ?_, r6.keep (a 22 rfl (by decide) (by decide) (by decide)) (a 23 rfl (by decide) (by decide) (by decide)) (b 18 rfl) (a 55 rfl (by decide) (by decide) (by decide)), r7.keep (s8 ?_) (a 62 rfl (by decide) (by decide) (by decide)) (a 63 rfl (by decide) (by decide) (by decide)) (a 64 rfl (by decide) (by decide) (by decide))⟩
  · exact r5.keep (a 0 rfl (by decide) (by decide) (by decide)) (a 8 rfl (by decide) (by decide) (by decide)) (a 9 rfl (by decide) (by decide) (by decide)) (a 10 rfl (by decide) (by decide) (by decide)) (a 11 rfl (by decide) (by decide) (by decide)) (a 13 rfl (by decide) (by decide) (by decide)) (a 14 rfl (by decide) (by decide) (by decide)) (b 8 rfl) (b 9 rfl) (b 14 rfl) (b 15 rfl) (b 16 rfl) (a 51 rfl (by decide) (by decide) (by decide)) (a 52 rfl (by decide) (by decide) (by decide)) (a 53 rfl (by decide) (by decide) (by decide)) (a 54 rfl (by decide) (by decide) (by decide))
  · exact ⟨a 25 rfl (by decide) (by decide) (by decide), a 26 rfl (by decide) (by decide) (by decide), a 27 rfl (by decide) (by decide) (by decide), a 28 rfl (by decide) (by decide) (by decide), a 29 rfl (by decide) (by decide) (by decide), a 30 rfl (by decide) (by decide) (by decide), a 31 rfl (by decide) (by decide) (by decide), a 32 rfl (by decide) (by decide) (by decide)⟩
theorem RI.sa {μ μ' : qM} (h : RI μ) (g : SA μ μ') : RI μ' := ⟨h.1.sa g, h.2.keep (g.1 33 rfl (by decide) (by decide) (by decide)) (g.1 56 rfl (by decide) (by decide) (by decide))⟩
/-- a finding, on the one side; and on the other one, scratch between -/
theorem RI7.t33 {μ : qM} {k : Nat} {x : Int32} (h : RI7 μ) : RI7 (qu μ 33 k x) := by
  obtain ⟨r1, r2, r3, r4, r5, r6, r7⟩ := h
  exact ⟨r1.keep rfl rfl rfl rfl (fun _ _ => ⟨rfl, rfl⟩), r2.keep rfl rfl, r3.keep rfl rfl, r4.keep rfl rfl rfl rfl, r5.keep rfl rfl rfl rfl rfl rfl rfl rfl rfl rfl rfl rfl rfl rfl rfl rfl, r6.keep rfl rfl rfl rfl, r7.keep (s8 ⟨rfl, rfl, rfl, rfl, rfl, rfl, rfl, rfl⟩) rfl rfl rfl⟩
theorem RI7.t56 {μ : qM} {k : Nat} {x : Int32} (h : RI7 μ) : RI7 (qu μ 56 k x) := by
  obtain ⟨r1, r2, r3, r4, r5, r6, r7⟩ := h
  exact ⟨r1.keep rfl rfl rfl rfl (fun _ _ => ⟨rfl, rfl⟩), r2.keep rfl rfl, r3.keep rfl rfl, r4.keep rfl rfl rfl rfl, r5.keep rfl rfl rfl rfl rfl rfl rfl rfl rfl rfl rfl rfl rfl rfl rfl rfl, r6.keep rfl rfl rfl rfl, r7.keep (s8 ⟨rfl, rfl, rfl, rfl, rfl, rfl, rfl, rfl⟩) rfl rfl rfl⟩
theorem RI.fnd {μ ν : qM} {k : Nat} (hk : k < 7) (h : RI μ) (g : SA (qu μ 33 k (μ 33 k + 1)) ν) : RI (qu ν 56 k (ν 56 k + 1)) := by
  refine ⟨(h.1.t33.sa g).t56, fun j hj => ?_⟩
  have e33 : ν 33 = upd (μ 33) k (μ 33 k + 1) := g.1 33 rfl (by decide) (by decide) (by decide)
  have e56 : ν 56 = μ 56 := g.1 56 rfl (by decide) (by decide) (by decide)
  show ν 33 j = upd (ν 56) k (ν 56 k + 1) j
  rw [e33, e56]
  by_cases e : j = k
  · subst e; rw [pk_us, pk_us, h.2 j hj]
  · rw [pk_un e, pk_un e, h.2 j hj]
theorem RI.fnd0 {μ : qM} {k : Nat} (hk : k < 7) (h : RI μ) : RI (qu (qu μ 33 k (μ 33 k + 1)) 56 k ((qu μ 33 k (μ 33 k + 1)) 56 k + 1)) := h.fnd hk (SA.refl _)
/-! small methods of both sides -/
theorem le_lt {a b : Int32} (h : a.toInt = b.toInt + 1) (v : Int32) : (a ≤ v) = (b < v) := by
  rw [eq_iff_iff, Int32.le_iff_toInt_le, Int32.lt_iff_toInt_lt]
  omega
theorem inB_t {v : Int32} {m : Nat} {M : Int32} (hM : M.toInt = m) (h : inB v 0 M = true) : ∃ j, j ≤ m ∧ v = nI j := by
  have h' := of_decide_eq_true h
  exact nI_of2 hM h'.1 (Int32.not_lt.mp h'.2)
theorem inB_x (v a b : Int32) (h : a.toInt = b.toInt + 1) (post : Int32 → qM → Prop) (μ : qM) : ((v < 0 → post 0 μ) ∧ (¬ v < 0 → ((a ≤ v → post 0 μ) ∧ (¬ a ≤ v → post 1 μ)))) = post (tb (inB v 0 b)) μ := by
  unfold inB
  rw [le_lt h]
  by_cases h1 : v < 0
  · simp [h1, tb]
  · by_cases h2 : b < v
    · simp [h1, h2, tb]
    · simp [h1, h2, tb]
theorem isKind_eq (v : Int32) (post : Int32 → qM → Prop) (μ : qM) : w_X10_isKind v post μ = post (tb (inB v 0 6)) μ := by
  unfold w_X10_isKind q_X10_isKind_14
  simp only [q01, q11, true_or, or_true, true_and]
  exact inB_x v 7 6 (by decide) post μ
theorem isPlace_eq (v : Int32) (post : Int32 → qM → Prop) (μ : qM) : w_X10_isPlace v post μ = post (tb (inB v 0 11)) μ := by
  unfold w_X10_isPlace q_X10_isPlace_14
  simp only [q01, q11, true_or, or_true, true_and]
  exact inB_x v 12 11 (by decide) post μ
theorem isSpot_eq (v : Int32) (post : Int32 → qM → Prop) (μ : qM) : w_X10_isSpot v post μ = post (tb (inB v 0 9)) μ := by
  unfold w_X10_isSpot q_X10_isSpot_14
  simp only [q01, q11, true_or, or_true, true_and]
  exact inB_x v 10 9 (by decide) post μ
theorem sheetIf (v : Int32) (A B : qM → Prop) (μ : qM) : w_X10_sheetAt v (fun r μ => ((r = none → A μ) ∧ (¬ r = none → (r = some (25 + 2 * v.toNatClampNeg) ∧ vp_in v 4 ∧ B μ)))) μ = if inB v 0 3 = true then (vp_in v 4 ∧ B μ) else A μ := by
  unfold w_X10_sheetAt q_X10_sheetAt_18 inB
  rw [le_lt (a := 4) (b := 3) (by decide)]
  by_cases h1 : v < 0
  · simp [h1]
  · by_cases h2 : 3 < v
    · simp [h1, h2]
    · simp [h1, h2]
theorem isLot_eq (x y : Int32) (post : Int32 → qM → Prop) (μ : qM) : w_X10_isLot x y post μ = post (tb (inB x 0 11 && inB y 0 11)) μ := by
  unfold w_X10_isLot q_X10_isLot_18
  simp only [isPlace_eq, q01, q11, true_or, or_true, true_and, pc_if]
  cases inB x 0 11 <;> cases inB y 0 11 <;> simp [tb]
theorem misLot_eq (x y : Int32) (post : Int32 → qM → Prop) (μ : qM) : w_X11_isLot x y post μ = post (tb (inB x 0 11 && inB y 0 11)) μ := by
  unfold w_X11_isLot q_X11_isLot_24
  simp only [within_eq, q01, q11, true_or, or_true, true_and, pc_if]
  cases inB x 0 11 <;> cases inB y 0 11 <;> simp [tb]
theorem misKind_eq (v : Int32) (post : Int32 → qM → Prop) (μ : qM) : w_X11_isKind v post μ = post (tb (inB v 0 6)) μ := by
  unfold w_X11_isKind
  simp only [within_eq, tb_01, true_and]
theorem misSheet_eq (v : Int32) (post : Int32 → qM → Prop) (μ : qM) : w_X11_isSheet v post μ = post (tb (inB v 0 3)) μ := by
  unfold w_X11_isSheet
  simp only [within_eq, tb_01, true_and]
theorem misHouse_eq {μ : qM} {n : Nat} {kd lt : Nat → Int32} (h : HM μ n kd lt) (v : Int32) (post : Int32 → qM → Prop) : w_X11_isHouse v post μ = post (tb (hasB n v)) μ := by
  have h154 := h.2.1
  unfold w_X11_isHouse
  simp only [within_eq, tb_01, true_and, h.1]
  have : inB v 0 (nI n - 1) = hasB n v := by
    unfold inB hasB
    apply decide_eq_decide.mpr
    have e := le_lt (a := nI n) (b := nI n - 1) (by
      rw [nI_toInt (by omega), show nI n - 1 = nI n - nI 1 from rfl, pk_sub_toInt (by omega) (by omega)]
      omega) v
    rw [e]
  rw [this]
/-- the number of a lot -/
theorem lot_nI {a b : Nat} : (12 : Int32) * nI b + nI a = nI (12 * b + a) := by
  rw [show (12 : Int32) = nI 12 from rfl, pk_mul, nI_add]
theorem fin1 (v : Int32) (k : Nat) (hk : k < 7) (hv : (-1000001 : Int32) - v = nI k) (post : Int32 → qM → Prop) (μ : qM) : w_X10_finding v post μ = post v (qu μ 33 k (μ 33 k + 1)) := by
  unfold w_X10_finding q_X10_finding_25
  have h1 : ¬ nI k < 0 := nI_pos (by omega)
  have h2 : ¬ (7 : Int32) ≤ nI k := nI_ge (b := 7) hk (by omega)
  have h3 : vp_in (nI k) 7 := vp_in_nI hk (by omega)
  rw [hv, clp (by omega)]
  simp [h1, h2, h3]
theorem fin2 (v : Int32) (k : Nat) (hk : k < 7) (hv : v = nI k) (post : Int32 → qM → Prop) (μ : qM) : w_X11_finding v post μ = post (-1000001 - v) (qu μ 56 k (μ 56 k + 1)) := by
  subst hv
  unfold w_X11_finding
  have h3 : vp_in (nI k) 7 := vp_in_nI hk (by omega)
  rw [clp (by omega)]
  simp [h3]
theorem xf0 (post : Int32 → qM → Prop) (μ : qM) : w_X10_finding (-1000001) post μ = post (-1000001) (qu μ 33 0 (μ 33 0 + 1)) := fin1 _ 0 (by omega) (by decide) post μ
theorem xf1 (post : Int32 → qM → Prop) (μ : qM) : w_X10_finding (-1000002) post μ = post (-1000002) (qu μ 33 1 (μ 33 1 + 1)) := fin1 _ 1 (by omega) (by decide) post μ
theorem xf2 (post : Int32 → qM → Prop) (μ : qM) : w_X10_finding (-1000003) post μ = post (-1000003) (qu μ 33 2 (μ 33 2 + 1)) := fin1 _ 2 (by omega) (by decide) post μ
theorem xf3 (post : Int32 → qM → Prop) (μ : qM) : w_X10_finding (-1000004) post μ = post (-1000004) (qu μ 33 3 (μ 33 3 + 1)) := fin1 _ 3 (by omega) (by decide) post μ
theorem xf4 (post : Int32 → qM → Prop) (μ : qM) : w_X10_finding (-1000005) post μ = post (-1000005) (qu μ 33 4 (μ 33 4 + 1)) := fin1 _ 4 (by omega) (by decide) post μ
theorem xf5 (post : Int32 → qM → Prop) (μ : qM) : w_X10_finding (-1000006) post μ = post (-1000006) (qu μ 33 5 (μ 33 5 + 1)) := fin1 _ 5 (by omega) (by decide) post μ
theorem xf6 (post : Int32 → qM → Prop) (μ : qM) : w_X10_finding (-1000007) post μ = post (-1000007) (qu μ 33 6 (μ 33 6 + 1)) := fin1 _ 6 (by omega) (by decide) post μ
theorem mf0 (post : Int32 → qM → Prop) (μ : qM) : w_X11_finding 0 post μ = post (-1000001) (qu μ 56 0 (μ 56 0 + 1)) := fin2 0 0 (by omega) rfl post μ
theorem mf1 (post : Int32 → qM → Prop) (μ : qM) : w_X11_finding 1 post μ = post (-1000002) (qu μ 56 1 (μ 56 1 + 1)) := fin2 1 1 (by omega) rfl post μ
theorem mf2 (post : Int32 → qM → Prop) (μ : qM) : w_X11_finding 2 post μ = post (-1000003) (qu μ 56 2 (μ 56 2 + 1)) := fin2 2 2 (by omega) rfl post μ
theorem mf3 (post : Int32 → qM → Prop) (μ : qM) : w_X11_finding 3 post μ = post (-1000004) (qu μ 56 3 (μ 56 3 + 1)) := fin2 3 3 (by omega) rfl post μ
theorem mf4 (post : Int32 → qM → Prop) (μ : qM) : w_X11_finding 4 post μ = post (-1000005) (qu μ 56 4 (μ 56 4 + 1)) := fin2 4 4 (by omega) rfl post μ
theorem mf5 (post : Int32 → qM → Prop) (μ : qM) : w_X11_finding 5 post μ = post (-1000006) (qu μ 56 5 (μ 56 5 + 1)) := fin2 5 5 (by omega) rfl post μ
theorem mf6 (post : Int32 → qM → Prop) (μ : qM) : w_X11_finding 6 post μ = post (-1000007) (qu μ 56 6 (μ 56 6 + 1)) := fin2 6 6 (by omega) rfl post μ
/-- an act, on both sides -/
def OP (wx wm : (Int32 → qM → Prop) → qM → Prop) : Prop := ∀ μ, RI μ → wx (fun r μ1 => wm (fun r' μ2 => r = r' ∧ RI μ2) μ1) μ
