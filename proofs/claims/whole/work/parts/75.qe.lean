theorem nb_l {a b : Cond} {args : Array Value} {s : State} (h : (Cond.and a b).before args s = true) : a.before args s = true := by
  rw [Cond.before_and, Bool.and_eq_true] at h
  exact h.1
theorem nb_r {a b : Cond} {args : Array Value} {s : State} (h : (Cond.and a b).before args s = true) : b.before args s = true := by
  rw [Cond.before_and, Bool.and_eq_true] at h
  exact h.2
def qTm : List (String × Nat) := [("EqualPlain$Kinds", 23), ("EqualPlain$Kinds", 25), ("EqualPlain$Kinds", 27), ("EqualPlain$Kinds", 29), ("EqualPlain$Kinds", 31), ("EqualPlain$Kinds", 33), ("EqualPlain$Kinds", 35), ("EqualPlain$Scribe", 64), ("EqualPlain$Scribe", 69), ("EqualPlain$Scribe", 74), ("EqualPlain$Scribe", 93), ("EqualPlainModel", 306)]
def qtm (i : Nat) : Term := Term.string (qTm.getD i ("", 0)).1 (qTm.getD i ("", 0)).2
theorem ne_ex {args : Array Value} {s : State} (h : narrow_1.before args s = true) : ∀ i : Nat, i < 12 → (Cond.exactly (qtm i) "java/lang/String").before args s = true := by
  intro i hi
  rcases (show i = 0 ∨ i = 1 ∨ i = 2 ∨ i = 3 ∨ i = 4 ∨ i = 5 ∨ i = 6 ∨ i = 7 ∨ i = 8 ∨ i = 9 ∨ i = 10 ∨ i = 11 by omega) with rfl | rfl | rfl | rfl | rfl | rfl | rfl | rfl | rfl | rfl | rfl | rfl
  · exact (nb_l (nb_r (nb_l (nb_r (nb_l (nb_l (nb_l (nb_l (nb_l h)))))))))
  · exact (nb_l (nb_l (nb_r (nb_l (nb_r (nb_l (nb_l (nb_l (nb_l h)))))))))
  · exact (nb_r (nb_l (nb_r (nb_r (nb_r (nb_l (nb_l (nb_l (nb_l h)))))))))
  · exact (nb_r (nb_r (nb_r (nb_l (nb_l (nb_r (nb_l (nb_l (nb_l h)))))))))
  · exact (nb_l (nb_l (nb_r (nb_l (nb_r (nb_r (nb_l (nb_l (nb_l h)))))))))
  · exact (nb_l (nb_l (nb_r (nb_l (nb_l (nb_l (nb_r (nb_l (nb_l h)))))))))
  · exact (nb_r (nb_r (nb_r (nb_l (nb_r (nb_l (nb_r (nb_l (nb_l h)))))))))
  · exact (nb_r (nb_r (nb_r (nb_l (nb_r (nb_r (nb_r (nb_l (nb_l h)))))))))
  · exact (nb_l (nb_l (nb_r (nb_r (nb_r (nb_l (nb_l (nb_r (nb_l h)))))))))
  · exact (nb_l (nb_l (nb_r (nb_l (nb_r (nb_r (nb_l (nb_l h))))))))
  · exact (nb_r (nb_r (nb_l (nb_r (nb_l (nb_l (nb_l (nb_r (nb_l h)))))))))
  · exact (nb_l (nb_r (nb_l (nb_l (nb_l (nb_r (nb_r (nb_r (nb_r h)))))))))
theorem ne_co {args : Array Value} {s : State} (h : narrow_1.before args s = true) : ∀ i : Nat, i < 12 → (Cond.eq (.field (qtm i) "java/lang/String" "coder" "B") (.int 0)).before args s = true := by
  intro i hi
  rcases (show i = 0 ∨ i = 1 ∨ i = 2 ∨ i = 3 ∨ i = 4 ∨ i = 5 ∨ i = 6 ∨ i = 7 ∨ i = 8 ∨ i = 9 ∨ i = 10 ∨ i = 11 by omega) with rfl | rfl | rfl | rfl | rfl | rfl | rfl | rfl | rfl | rfl | rfl | rfl
  · exact (nb_r (nb_r (nb_l (nb_r (nb_l (nb_l (nb_l (nb_l (nb_l h)))))))))
  · exact (nb_r (nb_l (nb_r (nb_l (nb_r (nb_l (nb_l (nb_l (nb_l h)))))))))
  · exact (nb_l (nb_r (nb_r (nb_r (nb_r (nb_l (nb_l (nb_l (nb_l h)))))))))
  · exact (nb_l (nb_l (nb_r (nb_l (nb_r (nb_l (nb_l (nb_l h))))))))
  · exact (nb_r (nb_l (nb_r (nb_l (nb_r (nb_r (nb_l (nb_l (nb_l h)))))))))
  · exact (nb_r (nb_l (nb_r (nb_l (nb_l (nb_l (nb_r (nb_l (nb_l h)))))))))
  · exact (nb_l (nb_l (nb_r (nb_r (nb_l (nb_r (nb_l (nb_l h))))))))
  · exact (nb_l (nb_l (nb_r (nb_r (nb_r (nb_r (nb_l (nb_l h))))))))
  · exact (nb_r (nb_l (nb_r (nb_r (nb_r (nb_l (nb_l (nb_r (nb_l h)))))))))
  · exact (nb_l (nb_r (nb_l (nb_r (nb_l (nb_r (nb_r (nb_l (nb_l h)))))))))
  · exact (nb_l (nb_l (nb_r (nb_r (nb_l (nb_l (nb_l (nb_r (nb_l h)))))))))
  · exact (nb_r (nb_r (nb_l (nb_l (nb_l (nb_r (nb_r (nb_r (nb_r h)))))))))
theorem ne_ar {args : Array Value} {s : State} (h : narrow_1.before args s = true) : ∀ i : Nat, i < 12 → (Cond.arrayOf (.field (qtm i) "java/lang/String" "value" "[B") .byte).before args s = true := by
  intro i hi
  rcases (show i = 0 ∨ i = 1 ∨ i = 2 ∨ i = 3 ∨ i = 4 ∨ i = 5 ∨ i = 6 ∨ i = 7 ∨ i = 8 ∨ i = 9 ∨ i = 10 ∨ i = 11 by omega) with rfl | rfl | rfl | rfl | rfl | rfl | rfl | rfl | rfl | rfl | rfl | rfl
  · exact (nb_l (nb_l (nb_r (nb_r (nb_l (nb_l (nb_l (nb_l (nb_l h)))))))))
  · exact (nb_l (nb_r (nb_r (nb_l (nb_r (nb_l (nb_l (nb_l (nb_l h)))))))))
  · exact (nb_r (nb_r (nb_r (nb_r (nb_r (nb_l (nb_l (nb_l (nb_l h)))))))))
  · exact (nb_l (nb_r (nb_l (nb_r (nb_l (nb_r (nb_l (nb_l (nb_l h)))))))))
  · exact (nb_l (nb_r (nb_r (nb_l (nb_r (nb_r (nb_l (nb_l (nb_l h)))))))))
  · exact (nb_l (nb_r (nb_r (nb_l (nb_l (nb_l (nb_r (nb_l (nb_l h)))))))))
  · exact (nb_l (nb_r (nb_l (nb_r (nb_r (nb_l (nb_r (nb_l (nb_l h)))))))))
  · exact (nb_l (nb_r (nb_l (nb_r (nb_r (nb_r (nb_r (nb_l (nb_l h)))))))))
  · exact (nb_l (nb_r (nb_r (nb_r (nb_r (nb_l (nb_l (nb_r (nb_l h)))))))))
  · exact (nb_r (nb_r (nb_l (nb_r (nb_l (nb_r (nb_r (nb_l (nb_l h)))))))))
  · exact (nb_r (nb_l (nb_r (nb_r (nb_l (nb_l (nb_l (nb_r (nb_l h)))))))))
  · exact (nb_l (nb_l (nb_r (nb_l (nb_l (nb_r (nb_r (nb_r (nb_r h)))))))))
theorem ne_le {args : Array Value} {s : State} (h : narrow_1.before args s = true) : ∀ i : Nat, i < 12 → (Cond.eq (.length (.field (qtm i) "java/lang/String" "value" "[B")) (.int (Int32.ofNat (qLn.getD i 0)))).before args s = true := by
  intro i hi
  rcases (show i = 0 ∨ i = 1 ∨ i = 2 ∨ i = 3 ∨ i = 4 ∨ i = 5 ∨ i = 6 ∨ i = 7 ∨ i = 8 ∨ i = 9 ∨ i = 10 ∨ i = 11 by omega) with rfl | rfl | rfl | rfl | rfl | rfl | rfl | rfl | rfl | rfl | rfl | rfl
  · exact (nb_r (nb_l (nb_r (nb_r (nb_l (nb_l (nb_l (nb_l (nb_l h)))))))))
  · exact (nb_r (nb_r (nb_r (nb_l (nb_r (nb_l (nb_l (nb_l (nb_l h)))))))))
  · exact (nb_l (nb_l (nb_l (nb_l (nb_r (nb_l (nb_l (nb_l h))))))))
  · exact (nb_r (nb_r (nb_l (nb_r (nb_l (nb_r (nb_l (nb_l (nb_l h)))))))))
  · exact (nb_r (nb_r (nb_r (nb_l (nb_r (nb_r (nb_l (nb_l (nb_l h)))))))))
  · exact (nb_r (nb_r (nb_r (nb_l (nb_l (nb_l (nb_r (nb_l (nb_l h)))))))))
  · exact (nb_r (nb_r (nb_l (nb_r (nb_r (nb_l (nb_r (nb_l (nb_l h)))))))))
  · exact (nb_r (nb_r (nb_l (nb_r (nb_r (nb_r (nb_r (nb_l (nb_l h)))))))))
  · exact (nb_r (nb_r (nb_r (nb_r (nb_r (nb_l (nb_l (nb_r (nb_l h)))))))))
  · exact (nb_l (nb_l (nb_r (nb_r (nb_l (nb_r (nb_r (nb_l (nb_l h)))))))))
  · exact (nb_l (nb_r (nb_r (nb_r (nb_l (nb_l (nb_l (nb_r (nb_l h)))))))))
  · exact (nb_r (nb_l (nb_r (nb_l (nb_l (nb_r (nb_r (nb_r (nb_r h)))))))))
theorem ne_el_0 {args : Array Value} {s : State} (h : narrow_1.before args s = true) : ∀ j : Nat, j < 5 → (Cond.eq (.elem (.field (qtm 0) "java/lang/String" "value" "[B") (.int (Int32.ofNat j))) (.int ((qBy.getD 0 []).getD j 0))).before args s = true := by
  intro j hj
  rcases (show j = 0 ∨ j = 1 ∨ j = 2 ∨ j = 3 ∨ j = 4 by omega) with rfl | rfl | rfl | rfl | rfl
  · exact (nb_l (nb_r (nb_r (nb_r (nb_l (nb_l (nb_l (nb_l (nb_l h)))))))))
  · exact (nb_r (nb_r (nb_r (nb_r (nb_l (nb_l (nb_l (nb_l (nb_l h)))))))))
  · exact (nb_l (nb_l (nb_l (nb_r (nb_l (nb_l (nb_l (nb_l h))))))))
  · exact (nb_l (nb_r (nb_l (nb_l (nb_r (nb_l (nb_l (nb_l (nb_l h)))))))))
  · exact (nb_r (nb_r (nb_l (nb_l (nb_r (nb_l (nb_l (nb_l (nb_l h)))))))))
theorem ne_el_1 {args : Array Value} {s : State} (h : narrow_1.before args s = true) : ∀ j : Nat, j < 3 → (Cond.eq (.elem (.field (qtm 1) "java/lang/String" "value" "[B") (.int (Int32.ofNat j))) (.int ((qBy.getD 1 []).getD j 0))).before args s = true := by
  intro j hj
  rcases (show j = 0 ∨ j = 1 ∨ j = 2 by omega) with rfl | rfl | rfl
  · exact (nb_l (nb_l (nb_r (nb_r (nb_l (nb_l (nb_l (nb_l h))))))))
  · exact (nb_l (nb_r (nb_l (nb_r (nb_r (nb_l (nb_l (nb_l (nb_l h)))))))))
  · exact (nb_r (nb_r (nb_l (nb_r (nb_r (nb_l (nb_l (nb_l (nb_l h)))))))))
theorem ne_el_2 {args : Array Value} {s : State} (h : narrow_1.before args s = true) : ∀ j : Nat, j < 3 → (Cond.eq (.elem (.field (qtm 2) "java/lang/String" "value" "[B") (.int (Int32.ofNat j))) (.int ((qBy.getD 2 []).getD j 0))).before args s = true := by
  intro j hj
  rcases (show j = 0 ∨ j = 1 ∨ j = 2 by omega) with rfl | rfl | rfl
  · exact (nb_l (nb_r (nb_l (nb_l (nb_l (nb_r (nb_l (nb_l (nb_l h)))))))))
  · exact (nb_r (nb_r (nb_l (nb_l (nb_l (nb_r (nb_l (nb_l (nb_l h)))))))))
  · exact (nb_l (nb_l (nb_r (nb_l (nb_l (nb_r (nb_l (nb_l (nb_l h)))))))))
theorem ne_el_3 {args : Array Value} {s : State} (h : narrow_1.before args s = true) : ∀ j : Nat, j < 4 → (Cond.eq (.elem (.field (qtm 3) "java/lang/String" "value" "[B") (.int (Int32.ofNat j))) (.int ((qBy.getD 3 []).getD j 0))).before args s = true := by
  intro j hj
  rcases (show j = 0 ∨ j = 1 ∨ j = 2 ∨ j = 3 by omega) with rfl | rfl | rfl | rfl
  · exact (nb_l (nb_l (nb_r (nb_r (nb_l (nb_r (nb_l (nb_l (nb_l h)))))))))
  · exact (nb_r (nb_l (nb_r (nb_r (nb_l (nb_r (nb_l (nb_l (nb_l h)))))))))
  · exact (nb_l (nb_r (nb_r (nb_r (nb_l (nb_r (nb_l (nb_l (nb_l h)))))))))
  · exact (nb_r (nb_r (nb_r (nb_r (nb_l (nb_r (nb_l (nb_l (nb_l h)))))))))
theorem ne_el_4 {args : Array Value} {s : State} (h : narrow_1.before args s = true) : ∀ j : Nat, j < 6 → (Cond.eq (.elem (.field (qtm 4) "java/lang/String" "value" "[B") (.int (Int32.ofNat j))) (.int ((qBy.getD 4 []).getD j 0))).before args s = true := by
  intro j hj
  rcases (show j = 0 ∨ j = 1 ∨ j = 2 ∨ j = 3 ∨ j = 4 ∨ j = 5 by omega) with rfl | rfl | rfl | rfl | rfl | rfl
  · exact (nb_l (nb_l (nb_r (nb_r (nb_r (nb_l (nb_l (nb_l h))))))))
  · exact (nb_l (nb_r (nb_l (nb_r (nb_r (nb_r (nb_l (nb_l (nb_l h)))))))))
  · exact (nb_r (nb_r (nb_l (nb_r (nb_r (nb_r (nb_l (nb_l (nb_l h)))))))))
  · exact (nb_l (nb_l (nb_r (nb_r (nb_r (nb_r (nb_l (nb_l (nb_l h)))))))))
  · exact (nb_r (nb_l (nb_r (nb_r (nb_r (nb_r (nb_l (nb_l (nb_l h)))))))))
  · exact (nb_l (nb_r (nb_r (nb_r (nb_r (nb_r (nb_l (nb_l (nb_l h)))))))))
theorem ne_el_5 {args : Array Value} {s : State} (h : narrow_1.before args s = true) : ∀ j : Nat, j < 8 → (Cond.eq (.elem (.field (qtm 5) "java/lang/String" "value" "[B") (.int (Int32.ofNat j))) (.int ((qBy.getD 5 []).getD j 0))).before args s = true := by
  intro j hj
  rcases (show j = 0 ∨ j = 1 ∨ j = 2 ∨ j = 3 ∨ j = 4 ∨ j = 5 ∨ j = 6 ∨ j = 7 by omega) with rfl | rfl | rfl | rfl | rfl | rfl | rfl | rfl
  · exact (nb_l (nb_l (nb_r (nb_l (nb_l (nb_r (nb_l (nb_l h))))))))
  · exact (nb_l (nb_r (nb_l (nb_r (nb_l (nb_l (nb_r (nb_l (nb_l h)))))))))
  · exact (nb_r (nb_r (nb_l (nb_r (nb_l (nb_l (nb_r (nb_l (nb_l h)))))))))
  · exact (nb_l (nb_l (nb_r (nb_r (nb_l (nb_l (nb_r (nb_l (nb_l h)))))))))
  · exact (nb_r (nb_l (nb_r (nb_r (nb_l (nb_l (nb_r (nb_l (nb_l h)))))))))
  · exact (nb_l (nb_r (nb_r (nb_r (nb_l (nb_l (nb_r (nb_l (nb_l h)))))))))
  · exact (nb_r (nb_r (nb_r (nb_r (nb_l (nb_l (nb_r (nb_l (nb_l h)))))))))
  · exact (nb_l (nb_l (nb_l (nb_r (nb_l (nb_r (nb_l (nb_l h))))))))
theorem ne_el_6 {args : Array Value} {s : State} (h : narrow_1.before args s = true) : ∀ j : Nat, j < 5 → (Cond.eq (.elem (.field (qtm 6) "java/lang/String" "value" "[B") (.int (Int32.ofNat j))) (.int ((qBy.getD 6 []).getD j 0))).before args s = true := by
  intro j hj
  rcases (show j = 0 ∨ j = 1 ∨ j = 2 ∨ j = 3 ∨ j = 4 by omega) with rfl | rfl | rfl | rfl | rfl
  · exact (nb_l (nb_l (nb_r (nb_r (nb_r (nb_l (nb_r (nb_l (nb_l h)))))))))
  · exact (nb_r (nb_l (nb_r (nb_r (nb_r (nb_l (nb_r (nb_l (nb_l h)))))))))
  · exact (nb_l (nb_r (nb_r (nb_r (nb_r (nb_l (nb_r (nb_l (nb_l h)))))))))
  · exact (nb_r (nb_r (nb_r (nb_r (nb_r (nb_l (nb_r (nb_l (nb_l h)))))))))
  · exact (nb_l (nb_l (nb_l (nb_l (nb_r (nb_r (nb_l (nb_l h))))))))
theorem ne_el_7 {args : Array Value} {s : State} (h : narrow_1.before args s = true) : ∀ j : Nat, j < 5 → (Cond.eq (.elem (.field (qtm 7) "java/lang/String" "value" "[B") (.int (Int32.ofNat j))) (.int ((qBy.getD 7 []).getD j 0))).before args s = true := by
  intro j hj
  rcases (show j = 0 ∨ j = 1 ∨ j = 2 ∨ j = 3 ∨ j = 4 by omega) with rfl | rfl | rfl | rfl | rfl
  · exact (nb_l (nb_l (nb_r (nb_r (nb_r (nb_r (nb_r (nb_l (nb_l h)))))))))
  · exact (nb_r (nb_l (nb_r (nb_r (nb_r (nb_r (nb_r (nb_l (nb_l h)))))))))
  · exact (nb_l (nb_r (nb_r (nb_r (nb_r (nb_r (nb_r (nb_l (nb_l h)))))))))
  · exact (nb_r (nb_r (nb_r (nb_r (nb_r (nb_r (nb_r (nb_l (nb_l h)))))))))
  · exact (nb_l (nb_l (nb_l (nb_l (nb_l (nb_l (nb_r (nb_l h))))))))
theorem ne_el_8 {args : Array Value} {s : State} (h : narrow_1.before args s = true) : ∀ j : Nat, j < 4 → (Cond.eq (.elem (.field (qtm 8) "java/lang/String" "value" "[B") (.int (Int32.ofNat j))) (.int ((qBy.getD 8 []).getD j 0))).before args s = true := by
  intro j hj
  rcases (show j = 0 ∨ j = 1 ∨ j = 2 ∨ j = 3 by omega) with rfl | rfl | rfl | rfl
  · exact (nb_l (nb_l (nb_l (nb_l (nb_r (nb_l (nb_r (nb_l h))))))))
  · exact (nb_l (nb_r (nb_l (nb_l (nb_l (nb_r (nb_l (nb_r (nb_l h)))))))))
  · exact (nb_r (nb_r (nb_l (nb_l (nb_l (nb_r (nb_l (nb_r (nb_l h)))))))))
  · exact (nb_l (nb_l (nb_r (nb_l (nb_l (nb_r (nb_l (nb_r (nb_l h)))))))))
theorem ne_el_9 {args : Array Value} {s : State} (h : narrow_1.before args s = true) : ∀ j : Nat, j < 2 → (Cond.eq (.elem (.field (qtm 9) "java/lang/String" "value" "[B") (.int (Int32.ofNat j))) (.int ((qBy.getD 9 []).getD j 0))).before args s = true := by
  intro j hj
  rcases (show j = 0 ∨ j = 1 by omega) with rfl | rfl
  · exact (nb_r (nb_l (nb_r (nb_r (nb_l (nb_r (nb_r (nb_l (nb_l h)))))))))
  · exact (nb_l (nb_r (nb_r (nb_r (nb_l (nb_r (nb_r (nb_l (nb_l h)))))))))
theorem ne_el_10 {args : Array Value} {s : State} (h : narrow_1.before args s = true) : ∀ j : Nat, j < 2 → (Cond.eq (.elem (.field (qtm 10) "java/lang/String" "value" "[B") (.int (Int32.ofNat j))) (.int ((qBy.getD 10 []).getD j 0))).before args s = true := by
  intro j hj
  rcases (show j = 0 ∨ j = 1 by omega) with rfl | rfl
  · exact (nb_r (nb_r (nb_r (nb_r (nb_l (nb_l (nb_l (nb_r (nb_l h)))))))))
  · exact (nb_l (nb_l (nb_l (nb_r (nb_l (nb_l (nb_r (nb_l h))))))))
theorem ne_el_11 {args : Array Value} {s : State} (h : narrow_1.before args s = true) : ∀ j : Nat, j < 1 → (Cond.eq (.elem (.field (qtm 11) "java/lang/String" "value" "[B") (.int (Int32.ofNat j))) (.int ((qBy.getD 11 []).getD j 0))).before args s = true := by
  intro j hj
  rcases (show j = 0 by omega) with rfl
  · exact (nb_l (nb_r (nb_r (nb_l (nb_l (nb_r (nb_r (nb_r (nb_r h)))))))))
theorem ne_el {args : Array Value} {s : State} (h : narrow_1.before args s = true) : ∀ i : Nat, i < 12 → ∀ j : Nat, j < qLn.getD i 0 → (Cond.eq (.elem (.field (qtm i) "java/lang/String" "value" "[B") (.int (Int32.ofNat j))) (.int ((qBy.getD i []).getD j 0))).before args s = true := by
  intro i hi
  rcases (show i = 0 ∨ i = 1 ∨ i = 2 ∨ i = 3 ∨ i = 4 ∨ i = 5 ∨ i = 6 ∨ i = 7 ∨ i = 8 ∨ i = 9 ∨ i = 10 ∨ i = 11 by omega) with rfl | rfl | rfl | rfl | rfl | rfl | rfl | rfl | rfl | rfl | rfl | rfl
  · exact ne_el_0 h
  · exact ne_el_1 h
  · exact ne_el_2 h
  · exact ne_el_3 h
  · exact ne_el_4 h
  · exact ne_el_5 h
  · exact ne_el_6 h
  · exact ne_el_7 h
  · exact ne_el_8 h
  · exact ne_el_9 h
  · exact ne_el_10 h
  · exact ne_el_11 h
theorem ne_ne {args : Array Value} {s : State} (h : narrow_1.before args s = true) : ∀ i j : Nat, i < j → j < 12 → (Cond.not (Cond.eq (qtm i) (qtm j))).before args s = true ∨ (Cond.not (Cond.eq (qtm j) (qtm i))).before args s = true := by
  intro i j hij hj
  rcases (show j = 0 ∨ j = 1 ∨ j = 2 ∨ j = 3 ∨ j = 4 ∨ j = 5 ∨ j = 6 ∨ j = 7 ∨ j = 8 ∨ j = 9 ∨ j = 10 ∨ j = 11 by omega) with rfl | rfl | rfl | rfl | rfl | rfl | rfl | rfl | rfl | rfl | rfl | rfl
  · exact absurd hij (Nat.not_lt_zero _)
  · rcases (show i = 0 by omega) with rfl
    · exact Or.inl (nb_l (nb_l (nb_r (nb_r (nb_r (nb_l (nb_l (nb_l (nb_l h)))))))))
  · rcases (show i = 0 ∨ i = 1 by omega) with rfl | rfl
    · exact Or.inl (nb_r (nb_l (nb_r (nb_l (nb_l (nb_r (nb_l (nb_l (nb_l h)))))))))
    · exact Or.inl (nb_l (nb_r (nb_r (nb_l (nb_l (nb_r (nb_l (nb_l (nb_l h)))))))))
  · rcases (show i = 0 ∨ i = 1 ∨ i = 2 by omega) with rfl | rfl | rfl
    · exact Or.inl (nb_l (nb_l (nb_l (nb_r (nb_r (nb_l (nb_l (nb_l h))))))))
    · exact Or.inl (nb_l (nb_r (nb_l (nb_l (nb_r (nb_r (nb_l (nb_l (nb_l h)))))))))
    · exact Or.inl (nb_r (nb_r (nb_l (nb_l (nb_r (nb_r (nb_l (nb_l (nb_l h)))))))))
  · rcases (show i = 0 ∨ i = 1 ∨ i = 2 ∨ i = 3 by omega) with rfl | rfl | rfl | rfl
    · exact Or.inl (nb_r (nb_r (nb_r (nb_r (nb_r (nb_r (nb_l (nb_l (nb_l h)))))))))
    · exact Or.inl (nb_l (nb_l (nb_l (nb_l (nb_l (nb_r (nb_l (nb_l h))))))))
    · exact Or.inl (nb_l (nb_r (nb_l (nb_l (nb_l (nb_l (nb_r (nb_l (nb_l h)))))))))
    · exact Or.inl (nb_r (nb_r (nb_l (nb_l (nb_l (nb_l (nb_r (nb_l (nb_l h)))))))))
  · rcases (show i = 0 ∨ i = 1 ∨ i = 2 ∨ i = 3 ∨ i = 4 by omega) with rfl | rfl | rfl | rfl | rfl
    · exact Or.inl (nb_l (nb_r (nb_l (nb_l (nb_r (nb_l (nb_r (nb_l (nb_l h)))))))))
    · exact Or.inl (nb_r (nb_r (nb_l (nb_l (nb_r (nb_l (nb_r (nb_l (nb_l h)))))))))
    · exact Or.inl (nb_l (nb_l (nb_r (nb_l (nb_r (nb_l (nb_r (nb_l (nb_l h)))))))))
    · exact Or.inl (nb_r (nb_l (nb_r (nb_l (nb_r (nb_l (nb_r (nb_l (nb_l h)))))))))
    · exact Or.inl (nb_l (nb_r (nb_r (nb_l (nb_r (nb_l (nb_r (nb_l (nb_l h)))))))))
  · rcases (show i = 0 ∨ i = 1 ∨ i = 2 ∨ i = 3 ∨ i = 4 ∨ i = 5 by omega) with rfl | rfl | rfl | rfl | rfl | rfl
    · exact Or.inl (nb_l (nb_r (nb_l (nb_l (nb_l (nb_r (nb_r (nb_l (nb_l h)))))))))
    · exact Or.inl (nb_r (nb_r (nb_l (nb_l (nb_l (nb_r (nb_r (nb_l (nb_l h)))))))))
    · exact Or.inl (nb_l (nb_l (nb_r (nb_l (nb_l (nb_r (nb_r (nb_l (nb_l h)))))))))
    · exact Or.inl (nb_r (nb_l (nb_r (nb_l (nb_l (nb_r (nb_r (nb_l (nb_l h)))))))))
    · exact Or.inl (nb_l (nb_r (nb_r (nb_l (nb_l (nb_r (nb_r (nb_l (nb_l h)))))))))
    · exact Or.inl (nb_r (nb_r (nb_r (nb_l (nb_l (nb_r (nb_r (nb_l (nb_l h)))))))))
  · rcases (show i = 0 ∨ i = 1 ∨ i = 2 ∨ i = 3 ∨ i = 4 ∨ i = 5 ∨ i = 6 by omega) with rfl | rfl | rfl | rfl | rfl | rfl | rfl
    · exact Or.inl (nb_l (nb_r (nb_l (nb_l (nb_l (nb_l (nb_l (nb_r (nb_l h)))))))))
    · exact Or.inl (nb_r (nb_r (nb_l (nb_l (nb_l (nb_l (nb_l (nb_r (nb_l h)))))))))
    · exact Or.inl (nb_l (nb_l (nb_r (nb_l (nb_l (nb_l (nb_l (nb_r (nb_l h)))))))))
    · exact Or.inl (nb_r (nb_l (nb_r (nb_l (nb_l (nb_l (nb_l (nb_r (nb_l h)))))))))
    · exact Or.inl (nb_l (nb_r (nb_r (nb_l (nb_l (nb_l (nb_l (nb_r (nb_l h)))))))))
    · exact Or.inl (nb_r (nb_r (nb_r (nb_l (nb_l (nb_l (nb_l (nb_r (nb_l h)))))))))
    · exact Or.inl (nb_l (nb_l (nb_r (nb_l (nb_l (nb_l (nb_r (nb_l h))))))))
  · rcases (show i = 0 ∨ i = 1 ∨ i = 2 ∨ i = 3 ∨ i = 4 ∨ i = 5 ∨ i = 6 ∨ i = 7 by omega) with rfl | rfl | rfl | rfl | rfl | rfl | rfl | rfl
    · exact Or.inl (nb_r (nb_l (nb_r (nb_l (nb_l (nb_r (nb_l (nb_r (nb_l h)))))))))
    · exact Or.inl (nb_l (nb_r (nb_r (nb_l (nb_l (nb_r (nb_l (nb_r (nb_l h)))))))))
    · exact Or.inl (nb_r (nb_r (nb_r (nb_l (nb_l (nb_r (nb_l (nb_r (nb_l h)))))))))
    · exact Or.inl (nb_l (nb_l (nb_r (nb_l (nb_r (nb_l (nb_r (nb_l h))))))))
    · exact Or.inl (nb_l (nb_r (nb_l (nb_r (nb_l (nb_r (nb_l (nb_r (nb_l h)))))))))
    · exact Or.inl (nb_r (nb_r (nb_l (nb_r (nb_l (nb_r (nb_l (nb_r (nb_l h)))))))))
    · exact Or.inl (nb_l (nb_l (nb_r (nb_r (nb_l (nb_r (nb_l (nb_r (nb_l h)))))))))
    · exact Or.inl (nb_l (nb_r (nb_r (nb_r (nb_l (nb_r (nb_l (nb_r (nb_l h)))))))))
  · rcases (show i = 0 ∨ i = 1 ∨ i = 2 ∨ i = 3 ∨ i = 4 ∨ i = 5 ∨ i = 6 ∨ i = 7 ∨ i = 8 by omega) with rfl | rfl | rfl | rfl | rfl | rfl | rfl | rfl | rfl
    · exact Or.inl (nb_r (nb_r (nb_r (nb_r (nb_l (nb_r (nb_r (nb_l (nb_l h)))))))))
    · exact Or.inl (nb_l (nb_l (nb_l (nb_r (nb_r (nb_r (nb_l (nb_l h))))))))
    · exact Or.inl (nb_l (nb_r (nb_l (nb_l (nb_r (nb_r (nb_r (nb_l (nb_l h)))))))))
    · exact Or.inl (nb_r (nb_r (nb_l (nb_l (nb_r (nb_r (nb_r (nb_l (nb_l h)))))))))
    · exact Or.inl (nb_l (nb_l (nb_r (nb_l (nb_r (nb_r (nb_r (nb_l (nb_l h)))))))))
    · exact Or.inl (nb_r (nb_l (nb_r (nb_l (nb_r (nb_r (nb_r (nb_l (nb_l h)))))))))
    · exact Or.inl (nb_l (nb_r (nb_r (nb_l (nb_r (nb_r (nb_r (nb_l (nb_l h)))))))))
    · exact Or.inr (nb_l (nb_r (nb_l (nb_r (nb_l (nb_l (nb_l (nb_r (nb_l h)))))))))
    · exact Or.inr (nb_r (nb_l (nb_r (nb_r (nb_l (nb_r (nb_l (nb_r (nb_l h)))))))))
  · rcases (show i = 0 ∨ i = 1 ∨ i = 2 ∨ i = 3 ∨ i = 4 ∨ i = 5 ∨ i = 6 ∨ i = 7 ∨ i = 8 ∨ i = 9 by omega) with rfl | rfl | rfl | rfl | rfl | rfl | rfl | rfl | rfl | rfl
    · exact Or.inl (nb_l (nb_r (nb_l (nb_l (nb_r (nb_l (nb_l (nb_r (nb_l h)))))))))
    · exact Or.inl (nb_r (nb_r (nb_l (nb_l (nb_r (nb_l (nb_l (nb_r (nb_l h)))))))))
    · exact Or.inl (nb_l (nb_l (nb_r (nb_l (nb_r (nb_l (nb_l (nb_r (nb_l h)))))))))
    · exact Or.inl (nb_r (nb_l (nb_r (nb_l (nb_r (nb_l (nb_l (nb_r (nb_l h)))))))))
    · exact Or.inl (nb_l (nb_r (nb_r (nb_l (nb_r (nb_l (nb_l (nb_r (nb_l h)))))))))
    · exact Or.inl (nb_r (nb_r (nb_r (nb_l (nb_r (nb_l (nb_l (nb_r (nb_l h)))))))))
    · exact Or.inl (nb_l (nb_l (nb_r (nb_r (nb_l (nb_l (nb_r (nb_l h))))))))
    · exact Or.inl (nb_r (nb_r (nb_l (nb_r (nb_r (nb_l (nb_l (nb_r (nb_l h)))))))))
    · exact Or.inr (nb_r (nb_r (nb_r (nb_r (nb_l (nb_r (nb_l (nb_r (nb_l h)))))))))
    · exact Or.inl (nb_l (nb_r (nb_l (nb_r (nb_r (nb_l (nb_l (nb_r (nb_l h)))))))))
  · rcases (show i = 0 ∨ i = 1 ∨ i = 2 ∨ i = 3 ∨ i = 4 ∨ i = 5 ∨ i = 6 ∨ i = 7 ∨ i = 8 ∨ i = 9 ∨ i = 10 by omega) with rfl | rfl | rfl | rfl | rfl | rfl | rfl | rfl | rfl | rfl | rfl
    · exact Or.inl (nb_r (nb_r (nb_r (nb_l (nb_l (nb_r (nb_r (nb_r (nb_r h)))))))))
    · exact Or.inl (nb_l (nb_l (nb_r (nb_l (nb_r (nb_r (nb_r (nb_r h))))))))
    · exact Or.inl (nb_l (nb_r (nb_l (nb_r (nb_l (nb_r (nb_r (nb_r (nb_r h)))))))))
    · exact Or.inl (nb_r (nb_r (nb_l (nb_r (nb_l (nb_r (nb_r (nb_r (nb_r h)))))))))
    · exact Or.inl (nb_l (nb_l (nb_r (nb_r (nb_l (nb_r (nb_r (nb_r (nb_r h)))))))))
    · exact Or.inl (nb_r (nb_l (nb_r (nb_r (nb_l (nb_r (nb_r (nb_r (nb_r h)))))))))
    · exact Or.inl (nb_l (nb_r (nb_r (nb_r (nb_l (nb_r (nb_r (nb_r (nb_r h)))))))))
    · exact Or.inl (nb_l (nb_l (nb_l (nb_r (nb_r (nb_r (nb_r (nb_r h))))))))
    · exact Or.inl (nb_r (nb_r (nb_l (nb_l (nb_r (nb_r (nb_r (nb_r (nb_r h)))))))))
    · exact Or.inl (nb_r (nb_r (nb_r (nb_r (nb_l (nb_r (nb_r (nb_r (nb_r h)))))))))
    · exact Or.inl (nb_l (nb_r (nb_l (nb_l (nb_r (nb_r (nb_r (nb_r (nb_r h)))))))))
set_option maxRecDepth 20000 in
theorem qE_start {s : State} {b : Nat} (hts : ∀ w ∈ lw_tbl, w.before #[Value.ref b] s = true) (h : narrow_1.before #[Value.ref b] s = true) : ∃ adK adV : Nat → Nat, ∀ (D : va_G) (a : Nat → Nat) (cl : Nat → ClassId) (n : Nat), qE (D, a, cl, s.heap.size, n, adK, adV) s s.heap := by
  have hA : ∀ a : Nat, a < s.heap.size → ¬ (fun q : Nat => s.heap.size ≤ q) a := fun a ha hq => Nat.not_le.mpr ha hq
  obtain ⟨adK, adV, hS, hv⟩ := vk_Sof (args := #[Value.ref b]) (s := s) (N := 12) (tm := qtm) (len := qLn) (byt := qBy) (A := fun q : Nat => s.heap.size ≤ q) (by decide +kernel) (ne_ex h) (ne_co h) (ne_ar h) (ne_le h) (ne_el h) (fun i j hi hj hne => by
    rcases Nat.lt_or_ge i j with q | q
    · exact ne_ne h i j q hj
    · rcases ne_ne h j i (by omega) hi with z | z
      · exact Or.inr z
      · exact Or.inl z) hA
  refine ⟨adK, adV, fun D a cl n => ⟨hS, ?_, ?_, fun t ht => ?_, fun t ht => ?_⟩⟩
  · exact va_Zof (hts _ (mt_4 (List.mem_of_getElem? (i := 19) rfl))) (hts _ (mt_1 (List.mem_of_getElem? (i := 17) rfl))) (va_eqi (nb_r (nb_r (nb_l (nb_l (nb_l (nb_l (nb_l (nb_l (nb_l h)))))))))) hA
  · exact va_Zqof (hts _ (mt_4 (List.mem_of_getElem? (i := 35) rfl))) (hts _ (mt_1 (List.mem_of_getElem? (i := 19) rfl))) (nb_l (nb_r (nb_l (nb_l (nb_l (nb_l (nb_l (nb_l h)))))))) hA
  · have hall : ∀ t ∈ qTx, vk_R t.1 t.2.1 t.2.2.1 (adK t.2.2.2) s := by
      unfold qTx
      exact List.forall_mem_cons.mpr ⟨vk_R.of (hts _ (mt_3 (List.mem_of_getElem? (i := 239) rfl))) (hv 0 (by decide)), List.forall_mem_cons.mpr ⟨vk_R.of (hts _ (mt_4 (List.mem_of_getElem? (i := 0) rfl))) (hv 1 (by decide)), List.forall_mem_cons.mpr ⟨vk_R.of (hts _ (mt_4 (List.mem_of_getElem? (i := 1) rfl))) (hv 2 (by decide)), List.forall_mem_cons.mpr ⟨vk_R.of (hts _ (mt_4 (List.mem_of_getElem? (i := 2) rfl))) (hv 3 (by decide)), List.forall_mem_cons.mpr ⟨vk_R.of (hts _ (mt_4 (List.mem_of_getElem? (i := 3) rfl))) (hv 4 (by decide)), List.forall_mem_cons.mpr ⟨vk_R.of (hts _ (mt_4 (List.mem_of_getElem? (i := 4) rfl))) (hv 5 (by decide)), List.forall_mem_cons.mpr ⟨vk_R.of (hts _ (mt_4 (List.mem_of_getElem? (i := 5) rfl))) (hv 6 (by decide)), List.forall_mem_cons.mpr ⟨vk_R.of (hts _ (mt_4 (List.mem_of_getElem? (i := 76) rfl))) (hv 7 (by decide)), List.forall_mem_cons.mpr ⟨vk_R.of (hts _ (mt_4 (List.mem_of_getElem? (i := 83) rfl))) (hv 8 (by decide)), List.forall_mem_cons.mpr ⟨vk_R.of (hts _ (mt_4 (List.mem_of_getElem? (i := 64) rfl))) (hv 9 (by decide)), List.forall_mem_cons.mpr ⟨vk_R.of (hts _ (mt_4 (List.mem_of_getElem? (i := 81) rfl))) (hv 10 (by decide)), List.forall_mem_cons.mpr ⟨vk_R.of (hts _ (mt_6 (List.mem_of_getElem? (i := 155) rfl))) (va_eqR (t := qtm 0) (nb_r (nb_r (nb_l (nb_r (nb_r (nb_r (nb_l (nb_r (nb_l h))))))))) (hv 0 (by decide))), List.forall_mem_cons.mpr ⟨vk_R.of (hts _ (mt_6 (List.mem_of_getElem? (i := 156) rfl))) (va_eqR (t := qtm 1) (nb_l (nb_l (nb_l (nb_r (nb_l (nb_r (nb_r (nb_l h)))))))) (hv 1 (by decide))), List.forall_mem_cons.mpr ⟨vk_R.of (hts _ (mt_6 (List.mem_of_getElem? (i := 157) rfl))) (va_eqR (t := qtm 2) (nb_r (nb_r (nb_r (nb_l (nb_l (nb_r (nb_r (nb_r (nb_l h))))))))) (hv 2 (by decide))), List.forall_mem_cons.mpr ⟨vk_R.of (hts _ (mt_6 (List.mem_of_getElem? (i := 158) rfl))) (va_eqR (t := qtm 3) (nb_l (nb_l (nb_l (nb_l (nb_l (nb_l (nb_l (nb_r h)))))))) (hv 3 (by decide))), List.forall_mem_cons.mpr ⟨vk_R.of (hts _ (mt_6 (List.mem_of_getElem? (i := 159) rfl))) (va_eqR (t := qtm 4) (nb_r (nb_l (nb_r (nb_r (nb_r (nb_l (nb_l (nb_l (nb_r h))))))))) (hv 4 (by decide))), List.forall_mem_cons.mpr ⟨vk_R.of (hts _ (mt_6 (List.mem_of_getElem? (i := 160) rfl))) (va_eqR (t := qtm 5) (nb_r (nb_l (nb_r (nb_r (nb_r (nb_r (nb_l (nb_l (nb_r h))))))))) (hv 5 (by decide))), List.forall_mem_cons.mpr ⟨vk_R.of (hts _ (mt_6 (List.mem_of_getElem? (i := 161) rfl))) (va_eqR (t := qtm 6) (nb_r (nb_r (nb_l (nb_r (nb_r (nb_l (nb_r (nb_l (nb_r h))))))))) (hv 6 (by decide))), List.forall_mem_cons.mpr ⟨vk_R.of (hts _ (mt_6 (List.mem_of_getElem? (i := 172) rfl))) (va_eqR (t := qtm 9) (nb_l (nb_r (nb_r (nb_l (nb_r (nb_r (nb_r (nb_l (nb_r h))))))))) (hv 9 (by decide))), List.forall_mem_cons.mpr ⟨vk_R.of (hts _ (mt_6 (List.mem_of_getElem? (i := 194) rfl))) (va_eqR (t := qtm 10) (nb_l (nb_l (nb_r (nb_l (nb_r (nb_r (nb_l (nb_r (nb_r h))))))))) (hv 10 (by decide))), List.forall_mem_cons.mpr ⟨vk_R.of (hts _ (mt_6 (List.mem_of_getElem? (i := 185) rfl))) (va_eqR (t := qtm 7) (nb_l (nb_r (nb_r (nb_l (nb_r (nb_l (nb_l (nb_r (nb_r h))))))))) (hv 7 (by decide))), List.forall_mem_cons.mpr ⟨vk_R.of (hts _ (mt_6 (List.mem_of_getElem? (i := 195) rfl))) (va_eqR (t := qtm 8) (nb_r (nb_l (nb_r (nb_l (nb_r (nb_l (nb_r (nb_r (nb_r h))))))))) (hv 8 (by decide))), List.forall_mem_cons.mpr ⟨vk_R.of (hts _ (mt_6 (List.mem_of_getElem? (i := 196) rfl))) (hv 11 (by decide)), fun _ h => absurd h List.not_mem_nil⟩⟩⟩⟩⟩⟩⟩⟩⟩⟩⟩⟩⟩⟩⟩⟩⟩⟩⟩⟩⟩⟩⟩
    exact hall t ht
  · have hall : ∀ t ∈ qNt, va_Nw (.methodLinkNest t.1 t.2.1 t.2.2.1 t.2.2.2) s := by
      unfold qNt
      exact List.forall_mem_cons.mpr ⟨va_Nw.of rfl (hts _ (mt_4 (List.mem_of_getElem? (i := 73) rfl))), List.forall_mem_cons.mpr ⟨va_Nw.of rfl (hts _ (mt_4 (List.mem_of_getElem? (i := 100) rfl))), List.forall_mem_cons.mpr ⟨va_Nw.of rfl (hts _ (mt_3 (List.mem_of_getElem? (i := 118) rfl))), fun _ h => absurd h List.not_mem_nil⟩⟩⟩
    exact hall t ht
theorem kE_start {s : State} {b : Nat} (hts : ∀ w ∈ lw_tbl, w.before #[Value.ref b] s = true) : kE true s := fun _ => ⟨va_AO.of (hts _ (mt_1 (List.mem_of_getElem? (i := 92) rfl))), by
  unfold kNt
  exact List.forall_mem_cons.mpr ⟨va_Nw.of rfl (hts _ (mt_1 (List.mem_of_getElem? (i := 37) rfl))), List.forall_mem_cons.mpr ⟨va_Nw.of rfl (hts _ (mt_1 (List.mem_of_getElem? (i := 79) rfl))), List.forall_mem_cons.mpr ⟨va_Nw.of rfl (hts _ (mt_1 (List.mem_of_getElem? (i := 95) rfl))), List.forall_mem_cons.mpr ⟨va_Nw.of rfl (hts _ (mt_1 (List.mem_of_getElem? (i := 112) rfl))), List.forall_mem_cons.mpr ⟨va_Nw.of rfl (hts _ (mt_1 (List.mem_of_getElem? (i := 131) rfl))), List.forall_mem_cons.mpr ⟨va_Nw.of rfl (hts _ (mt_1 (List.mem_of_getElem? (i := 147) rfl))), List.forall_mem_cons.mpr ⟨va_Nw.of rfl (hts _ (mt_1 (List.mem_of_getElem? (i := 162) rfl))), fun _ h => absurd h List.not_mem_nil⟩⟩⟩⟩⟩⟩⟩⟩
