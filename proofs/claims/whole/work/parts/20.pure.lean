/-! PURE LEVEL: numbers, loops -/
theorem pn_le {a b : Nat} (ha : a < 2 ^ 31) (hb : b < 2 ^ 31) (h : nI a ≤ nI b) : a ≤ b := (nI_leI ha hb).mp h
theorem pn_nle {a b : Nat} (ha : a < 2 ^ 31) (hb : b < 2 ^ 31) (h : ¬ nI a ≤ nI b) : b < a := Nat.not_le.mp (fun q => h ((nI_leI ha hb).mpr q))
theorem pn_lt {a b : Nat} (ha : a < 2 ^ 31) (hb : b < 2 ^ 31) (h : nI a < nI b) : a < b := (nI_ltI ha hb).mp h
theorem pn_nlt {a b : Nat} (ha : a < 2 ^ 31) (hb : b < 2 ^ 31) (h : ¬ nI a < nI b) : b ≤ a := Nat.not_lt.mp (fun q => h ((nI_ltI ha hb).mpr q))
theorem pn_eq {a b : Nat} (ha : a < 2 ^ 31) (hb : b < 2 ^ 31) (h : nI a = nI b) : a = b := (nI_eq ha hb).mp h
theorem pn_inc (j : Nat) : nI j + 1 = nI (j + 1) := nI_1 j
/-- a loop that counts up to N: the counter alone; the counter behind one number; behind two; ahead of one -/
theorem for1 {F : (Int32 → qM → Prop) → Int32 → qM → Prop} (N : Nat) (I : Nat → qM → Prop) (h : ∀ (P : Int32 → qM → Prop) (j : Nat) (μ : qM), j ≤ N → I j μ → (∀ μ', j < N → I (j + 1) μ' → P (nI j + 1) μ') → F P (nI j) μ) {μ : qM} (s : Nat) (hs : s ≤ N) (h0 : I s μ) : qL1 F (nI s) μ := by
  intro P hP
  have key : ∀ (m j : Nat) (μ : qM), N - j < m → j ≤ N → I j μ → P (nI j) μ := by
    intro m
    induction m with
    | zero => intro j μ hm; omega
    | succ m ih =>
      intro j μ hm hj hI
      exact hP _ _ (h P j μ hj hI (fun μ' hlt hI' => by rw [nI_1]; exact ih (j + 1) μ' (by omega) (by omega) hI'))
  exact key _ s μ (Nat.lt_succ_self _) hs h0
theorem for2 {F : (Int32 → Int32 → qM → Prop) → Int32 → Int32 → qM → Prop} (N : Nat) (I : Nat → Int32 → qM → Prop) (h : ∀ (P : Int32 → Int32 → qM → Prop) (j : Nat) (a : Int32) (μ : qM), j ≤ N → I j a μ → (∀ a' μ', j < N → I (j + 1) a' μ' → P a' (nI j + 1) μ') → F P a (nI j) μ) {a : Int32} {μ : qM} (s : Nat) (hs : s ≤ N) (h0 : I s a μ) : qL2 F a (nI s) μ := by
  intro P hP
  have key : ∀ (m j : Nat) (a : Int32) (μ : qM), N - j < m → j ≤ N → I j a μ → P a (nI j) μ := by
    intro m
    induction m with
    | zero => intro j a μ hm; omega
    | succ m ih =>
      intro j a μ hm hj hI
      exact hP _ _ _ (h P j a μ hj hI (fun a' μ' hlt hI' => by rw [nI_1]; exact ih (j + 1) a' μ' (by omega) (by omega) hI'))
  exact key _ s a μ (Nat.lt_succ_self _) hs h0
theorem for2' {F : (Int32 → Int32 → qM → Prop) → Int32 → Int32 → qM → Prop} (N : Nat) (I : Nat → Int32 → qM → Prop) (h : ∀ (P : Int32 → Int32 → qM → Prop) (j : Nat) (a : Int32) (μ : qM), j ≤ N → I j a μ → (∀ a' μ', j < N → I (j + 1) a' μ' → P (nI j + 1) a' μ') → F P (nI j) a μ) {a : Int32} {μ : qM} (s : Nat) (hs : s ≤ N) (h0 : I s a μ) : qL2 F (nI s) a μ := by
  intro P hP
  have key : ∀ (m j : Nat) (a : Int32) (μ : qM), N - j < m → j ≤ N → I j a μ → P (nI j) a μ := by
    intro m
    induction m with
    | zero => intro j a μ hm; omega
    | succ m ih =>
      intro j a μ hm hj hI
      exact hP _ _ _ (h P j a μ hj hI (fun a' μ' hlt hI' => by rw [nI_1]; exact ih (j + 1) a' μ' (by omega) (by omega) hI'))
  exact key _ s a μ (Nat.lt_succ_self _) hs h0
theorem for3 {F : (Int32 → Int32 → Int32 → qM → Prop) → Int32 → Int32 → Int32 → qM → Prop} (N : Nat) (I : Nat → Int32 → Int32 → qM → Prop) (h : ∀ (P : Int32 → Int32 → Int32 → qM → Prop) (j : Nat) (a b : Int32) (μ : qM), j ≤ N → I j a b μ → (∀ a' b' μ', j < N → I (j + 1) a' b' μ' → P a' b' (nI j + 1) μ') → F P a b (nI j) μ) {a b : Int32} {μ : qM} (s : Nat) (hs : s ≤ N) (h0 : I s a b μ) : qL3 F a b (nI s) μ := by
  intro P hP
  have key : ∀ (m j : Nat) (a b : Int32) (μ : qM), N - j < m → j ≤ N → I j a b μ → P a b (nI j) μ := by
    intro m
    induction m with
    | zero => intro j a b μ hm; omega
    | succ m ih =>
      intro j a b μ hm hj hI
      exact hP _ _ _ _ (h P j a b μ hj hI (fun a' b' μ' hlt hI' => by rw [nI_1]; exact ih (j + 1) a' b' μ' (by omega) (by omega) hI'))
  exact key _ s a b μ (Nat.lt_succ_self _) hs h0
/-- a truth as a number -/
def tb (b : Bool) : Int32 := if b then 1 else 0
theorem tb_01 (b : Bool) : tb b = 0 ∨ tb b = 1 := by cases b <;> simp [tb]
theorem tb_0 {b : Bool} (h : tb b = 0) : b = false := by cases b; rfl; exact absurd h (by decide)
theorem tb_1 {b : Bool} (h : ¬ tb b = 0) : b = true := by cases b; exact absurd rfl h; rfl
theorem tb_t : tb true = 1 := rfl
theorem tb_f : tb false = 0 := rfl
/-- two ways by a truth -/
theorem pb_if {b : Bool} {A B : Prop} (hf : b = false → A) (ht : b = true → B) : (tb b = 0 → A) ∧ (¬ tb b = 0 → B) := ⟨fun h => hf (tb_0 h), fun h => ht (tb_1 h)⟩
theorem pb_if' {b : Bool} {A B : Prop} (ht : b = true → A) (hf : b = false → B) : (¬ tb b = 0 → A) ∧ (tb b = 0 → B) := ⟨fun h => ht (tb_1 h), fun h => hf (tb_0 h)⟩
theorem pc_if {c : Prop} [Decidable c] {A B : Prop} : ((c → A) ∧ (¬ c → B)) = (if c then A else B) := by by_cases h : c <;> simp [h]
theorem pc_if' {c : Prop} [Decidable c] {A B : Prop} : ((¬ c → A) ∧ (c → B)) = (if c then B else A) := by by_cases h : c <;> simp [h]
/-! kinds -/
def ab (x : Int32) : Int32 := if 0 ≤ x then x else 0 - x
def rm12 (x : Int32) : Int32 := x - x / 12 * 12
def fr (k a b : Int32) : Int32 :=
  if k = 4 then ab (rm12 a - rm12 b) * ab (rm12 a - rm12 b) + ab (a / 12 - b / 12) * ab (a / 12 - b / 12) + 1
  else if k = 5 then (ab (rm12 a - rm12 b) + ab (a / 12 - b / 12)) * (ab (rm12 a - rm12 b) + ab (a / 12 - b / 12))
  else if k = 6 then (ab (rm12 a - rm12 b) + ab (a / 12 - b / 12)) * (ab (rm12 a - rm12 b) + ab (a / 12 - b / 12)) - 1
  else ab (rm12 a - rm12 b) * ab (rm12 a - rm12 b) + ab (a / 12 - b / 12) * ab (a / 12 - b / 12)
def cn (k l k' l' : Int32) : Bool := if k = 1 then !(k' == 1) && !(k' == 3) else if k = 2 then decide (¬ 64 < fr k' l' l) else if k = 3 then false else if k = 4 then decide (¬ 64 < fr k' l' l) else true
def cs (k : Int32) : Int32 := if k = 1 then 3 else if k = 2 then 25 else if k = 3 then 4 else if k = 4 then 25 else if k = 5 then 10 else if k = 6 then 40 else 10
theorem ab_sq (x : Int32) : ab x * ab x = x * x := by
  unfold ab
  by_cases h : 0 ≤ x
  · rw [if_pos h]
  · rw [if_neg h]
    grind
theorem ab_neg (x : Int32) : (if 0 ≤ x then x else -x) = ab x := by
  unfold ab
  by_cases h : 0 ≤ x
  · rw [if_pos h, if_pos h]
  · rw [if_neg h, if_neg h]
    grind
theorem n12 : ¬ (12 : Int32) = 0 := by decide
theorem farOf_eq (k a b : Int32) (post : Int32 → qM → Prop) (μ : qM) : w_X11_farOf k a b post μ = post (fr k a b) μ := by
  unfold w_X11_farOf fr ab rm12
  simp only [n12, not_false_eq_true, true_and, forall_eq, pc_if]
  by_cases h4 : k = 4
  · simp only [h4, if_true, reduceIte]
  · by_cases h5 : k = 5
    · simp [h5]
    · by_cases h6 : k = 6
      · simp [h6]
      · simp [h4, h5, h6]
theorem measure_eq (k a b : Int32) (post : Int32 → qM → Prop) (μ : qM) : w_X2_measure k a b post μ = post (fr k a b) μ := by
  have key : ∀ (s1 s0 dx dy : Int32), s0 = ab dy → s1 = ab dx → q_X2_measure_44 post k dx dy s0 s1 μ = post (if k = 4 then ab dx * ab dx + ab dy * ab dy + 1 else if k = 5 then (ab dx + ab dy) * (ab dx + ab dy) else if k = 6 then (ab dx + ab dy) * (ab dx + ab dy) - 1 else ab dx * ab dx + ab dy * ab dy) μ := by
    intro s1 s0 dx dy e0 e1
    subst e0; subst e1
    unfold q_X2_measure_44
    simp only [pc_if]
    by_cases h4 : k = 4
    · simp [h4, ab_sq]
    · by_cases h5 : k = 5
      · simp [h5]
      · by_cases h6 : k = 6
        · simp [h6]
        · simp [h4, h5, h6, ab_sq]
  have key2 : ∀ (s0 dx dy : Int32), s0 = ab dx → q_X2_measure_31 post k dx dy s0 μ = post (if k = 4 then ab dx * ab dx + ab dy * ab dy + 1 else if k = 5 then (ab dx + ab dy) * (ab dx + ab dy) else if k = 6 then (ab dx + ab dy) * (ab dx + ab dy) - 1 else ab dx * ab dx + ab dy * ab dy) μ := by
    intro s0 dx dy e0
    unfold q_X2_measure_31
    simp only [pc_if]
    by_cases h : 0 ≤ dy
    · rw [if_pos h]; exact key s0 dy dx dy (by rw [← ab_neg, if_pos h]) e0
    · rw [if_neg h]; exact key s0 (-dy) dx dy (by rw [← ab_neg, if_neg h]) e0
  unfold w_X2_measure
  simp only [n12, not_false_eq_true, true_and, pc_if]
  by_cases h : 0 ≤ (a - a / 12 * 12) - (b - b / 12 * 12)
  · rw [if_pos h]
    rw [key2 _ _ _ (by rw [← ab_neg, if_pos h])]
    rfl
  · rw [if_neg h]
    rw [key2 _ _ _ (by rw [← ab_neg, if_neg h])]
    rfl
theorem q01 : (((0 : Int32) = 0 ∨ (0 : Int32) = 1) = True) := by simp
theorem q11 : (((1 : Int32) = 0 ∨ (1 : Int32) = 1) = True) := by simp
theorem accepts_eq (k l k' l' : Int32) (post : Int32 → qM → Prop) (μ : qM) : w_X2_accepts k l k' l' post μ = post (tb (cn k l k' l')) μ := by
  unfold w_X2_accepts q_X2_accepts_46 q_X2_accepts_50 cn
  simp only [measure_eq, q01, q11, true_or, or_true, true_and, pc_if]
  by_cases h1 : k = 1
  · subst h1
    by_cases ha : k' = 1
    · simp [ha, tb]
    · by_cases hb : k' = 3
      · simp [hb, tb]
      · simp [ha, hb, tb]
  · by_cases h2 : k = 2
    · subst h2
      by_cases hc : 64 < fr k' l' l
      · simp [hc, tb]
      · simp [hc, tb]
    · by_cases h3 : k = 3
      · subst h3; simp [tb]
      · by_cases h4 : k = 4
        · subst h4
          by_cases hc : 64 < fr k' l' l
          · simp [hc, tb]
          · simp [hc, tb]
        · simp [h1, h2, h3, h4, tb]
theorem isPair_eq (k l k' l' : Int32) (post : Int32 → qM → Prop) (μ : qM) : w_X2_isPair k l k' l' post μ = post (tb (cn k l k' l' && cn k' l' k l)) μ := by
  unfold w_X2_isPair q_X2_isPair_24
  simp only [accepts_eq, q01, q11, true_or, or_true, true_and, pc_if]
  cases cn k l k' l' <;> cases cn k' l' k l <;> simp [tb]
theorem costs_eq (k : Int32) (post : Int32 → qM → Prop) (μ : qM) : w_X2_costs k post μ = post (cs k) μ := by
  unfold w_X2_costs q_X2_costs_44 q_X2_costs_50 cs
  simp only [pc_if]
  repeat' split
  all_goals rfl
theorem mcosts_eq (k : Int32) (post : Int32 → qM → Prop) (μ : qM) : w_X11_costs k post μ = post (cs k) μ := by
  unfold w_X11_costs q_X11_costs_44 q_X11_costs_50 cs
  simp only [pc_if]
  repeat' split
  all_goals rfl
