/-! THE ABSTRACT MEMORY: an object or an array is a number (its id), a field or an element a place in it -/
abbrev qM : Type := Nat → Nat → Int32
def qr (μ : qM) (i : Nat) (f : Nat → Int32) : qM := fun a => if a = i then f else μ a
def qu (μ : qM) (i k : Nat) (x : Int32) : qM := qr μ i (upd (μ i) k x)
theorem qr_s {μ : qM} {i : Nat} {f : Nat → Int32} : qr μ i f i = f := if_pos rfl
theorem qr_n {μ : qM} {i j : Nat} {f : Nat → Int32} (h : j ≠ i) : qr μ i f j = μ j := if_neg h
/-- kinds by id: below 11 the place in vwCl, from 11 on arrays -/
def qkL : List Nat := [9, 8, 1, 11, 11, 11, 12, 11, 8, 1, 11, 11, 11, 12, 11, 8, 1, 11, 11, 11, 12, 11, 7, 14, 23, 5, 15, 5, 15, 5, 15, 5, 15, 16, 6, 13, 12, 2, 13, 13, 3, 13, 13, 0, 17, 18, 10, 19, 19, 12, 11, 11, 11, 12, 11, 20, 16, 19, 13, 11, 17, 12, 21, 21, 22, 15, 4]
def qk (i : Nat) : Nat := qkL.getD i 99
/-- of an object's kind: for each field 0, or how far behind its own id that stands to which it refers (of the scribe: that id) -/
def qfO : Nat → List Nat
  | 0 => [1, 2, 0]
  | 1 => [0, 1, 2, 3]
  | 2 => [1, 2, 0, 0]
  | 3 => [1, 2, 0]
  | 4 => [22, 15, 0, 0, 0, 0]
  | 5 => [0, 0, 1]
  | 6 => [1, 2, 0]
  | 7 => [1, 0]
  | 8 => [1, 5, 6, 0, 0, 0]
  | 9 => [1, 8, 0, 15, 22, 24, 33, 34, 37, 40, 43]
  | 10 => [0, 1, 2, 3, 4, 0, 0, 0, 0, 0, 5, 6, 7, 8, 0, 0, 0, 9, 0, 10, 11, 12, 13, 0, 0, 0, 14, 0, 0, 0, 0, 0, 0, 0, 15, 16, 17, 18, 19]
  | _ => []
def qtg (κ o j : Nat) : Nat := if κ = 4 then j else o + j
def qaT : Nat → Nat
  | 13 => 2
  | 14 => 1
  | 23 => 3
  | _ => 0
def qaN : Nat → Nat
  | 11 => 10
  | 12 => 144
  | 13 => 144
  | 14 => 120
  | 15 => 40
  | 16 => 7
  | 17 => 1024
  | 18 => 100
  | 19 => 154
  | 20 => 120
  | 21 => 4
  | 22 => 160
  | 23 => 4
  | _ => 0
/-- classes and slots, addresses of the ids, array classes, the least address, how many ids, addresses of the constants and of their bytes -/
abbrev qG : Type := va_G × (Nat → Nat) × (Nat → ClassId) × Nat × Nat × (Nat → Nat) × (Nat → Nat)
abbrev gD (G : qG) : va_G := G.1
abbrev ga (G : qG) : Nat → Nat := G.2.1
abbrev gC (G : qG) : Nat → ClassId := G.2.2.1
abbrev gb (G : qG) : Nat := G.2.2.2.1
abbrev gn (G : qG) : Nat := G.2.2.2.2.1
abbrev gK (G : qG) : Nat → Nat := G.2.2.2.2.2.1
abbrev gV (G : qG) : Nat → Nat := G.2.2.2.2.2.2
def qfV (G : qG) (μ : qM) (κ o k : Nat) : Value := if (qfO κ).getD k 0 = 0 then .int (μ o k) else .ref (ga G (qtg κ o ((qfO κ).getD k 0)))
def qfL (G : qG) (μ : qM) (κ o : Nat) : List Value := (List.range (qfO κ).length).map (qfV G μ κ o)
def qcK (G : qG) (μ : qM) (κ o : Nat) : va_E := if κ < 11 then .inr (κ, qfL G μ κ o) else .inl (gC G (qaT κ), qaN κ, if κ = 23 then .inr (.inr (.inr (.inr (fun j => some (ga G (25 + 2 * j)))))) else .inl (μ o))
def qW (G : qG) (μ : qM) : va_W := (List.range (gn G)).map (fun i => (ga G i, qcK G μ (qk i) i))
def qA (G : qG) : Nat → Prop := fun q => gb G ≤ q
def qty (G : qG) : List (ClassId × FieldType) := [(gC G 0, .int), (gC G 1, .byte), (gC G 2, .boolean), (gC G 3, .object "EqualPlain$Sheet")]
theorem qW_at {G : qG} {μ : qM} {o κ : Nat} (ho : o < gn G) (hk : qk o = κ) : (qW G μ)[o]? = some (ga G o, qcK G μ κ o) := by
  subst hk
  simp [qW, ho]
theorem qW_set {G : qG} {μ : qM} {o κ : Nat} {f : Nat → Int32} {e : va_E} (hk : qk o = κ) (he : qcK G (qr μ o f) κ o = e) : (qW G μ).set o (ga G o, e) = qW G (qr μ o f) := by
  subst hk
  subst he
  apply List.ext_getElem?
  intro j
  by_cases hj : j = o
  · subst hj
    by_cases hl : j < gn G
    · simp [qW, hl]
    · simp [qW, hl]
  · have hq : qr μ o f j = μ j := qr_n hj
    rw [List.getElem?_set_ne (fun h => hj h.symm)]
    by_cases hl : j < gn G
    · simp only [qW, List.getElem?_map, List.getElem?_range hl, Option.map_some, qcK, qfL, hq]
      have : qfV G (qr μ o f) (qk j) j = qfV G μ (qk j) j := by
        funext k
        simp only [qfV, hq]
      rw [this]
    · simp [qW, hl]
theorem qD_any {G : qG} {A : Nat → Prop} {μ μ' : qM} (h : va_D A (qW G μ)) : va_D A (qW G μ') := by
  have key : ∀ (i : Nat) (p : Nat × va_E), (qW G μ')[i]? = some p → ∃ q, (qW G μ)[i]? = some q ∧ q.1 = p.1 := by
    intro i p hp
    by_cases hl : i < gn G
    · simp only [qW, List.getElem?_map, List.getElem?_range hl, Option.map_some, Option.some.injEq] at hp ⊢
      subst hp
      exact ⟨_, rfl, rfl⟩
    · simp [qW, hl] at hp
  refine ⟨fun i j p q hp hq e => ?_, fun k q hq => ?_⟩
  · obtain ⟨p', h1, e1⟩ := key i p hp
    obtain ⟨q', h2, e2⟩ := key j q hq
    exact h.1 i j p' q' h1 h2 (by rw [e1, e2, e])
  · obtain ⟨q', h1, e1⟩ := key k q hq
    rw [← e1]
    exact h.2 k q' h1
theorem qfL_get {G : qG} {μ : qM} {κ o k : Nat} (h : k < (qfO κ).length) : (qfL G μ κ o)[k]? = some (qfV G μ κ o k) := by
  simp [qfL, h]
theorem qfL_len {G : qG} {μ : qM} {κ o : Nat} : (qfL G μ κ o).length = (qfO κ).length := by simp [qfL]
theorem qfL_set {G : qG} {μ : qM} {κ o k : Nat} {x : Int32} (h0 : (qfO κ).getD k 0 = 0) : (qfL G μ κ o).set k (.int x) = qfL G (qu μ o k x) κ o := by
  apply List.ext_getElem?
  intro j
  by_cases hj : j = k
  · subst hj
    by_cases hl : j < (qfO κ).length
    · rw [List.getElem?_set_self (by rw [qfL_len]; exact hl), qfL_get hl]
      unfold qfV
      rw [if_pos h0]
      show _ = some (Value.int ((qr μ o (upd (μ o) j x)) o j))
      rw [qr_s]
      simp [upd]
    · rw [List.getElem?_eq_none (by rw [List.length_set, qfL_len]; omega), List.getElem?_eq_none (by rw [qfL_len]; omega)]
  · rw [List.getElem?_set_ne (fun h => hj h.symm)]
    by_cases hl : j < (qfO κ).length
    · rw [qfL_get hl, qfL_get hl]
      unfold qfV
      show _ = some (if _ then Value.int ((qr μ o (upd (μ o) k x)) o j) else _)
      rw [qr_s]
      simp [upd, hj]
    · rw [List.getElem?_eq_none (by rw [qfL_len]; omega), List.getElem?_eq_none (by rw [qfL_len]; omega)]
/-! the texts: 12 constants -/
def qTx : List (String × Nat × String × Nat) := [("EqualPlain$Kinds", 23, "house", 0), ("EqualPlain$Kinds", 25, "hut", 1), ("EqualPlain$Kinds", 27, "inn", 2), ("EqualPlain$Kinds", 29, "ruin", 3), ("EqualPlain$Kinds", 31, "church", 4), ("EqualPlain$Kinds", 33, "streeted", 5), ("EqualPlain$Kinds", 35, "tower", 6), ("EqualPlain$Scribe", 64, "worth", 7), ("EqualPlain$Scribe", 69, "coin", 8), ("EqualPlain$Scribe", 74, "at", 9), ("EqualPlain$Scribe", 93, "on", 10), ("EqualPlainModel", 261, "house", 0), ("EqualPlainModel", 263, "hut", 1), ("EqualPlainModel", 265, "inn", 2), ("EqualPlainModel", 267, "ruin", 3), ("EqualPlainModel", 269, "church", 4), ("EqualPlainModel", 271, "streeted", 5), ("EqualPlainModel", 273, "tower", 6), ("EqualPlainModel", 279, "at", 9), ("EqualPlainModel", 287, "on", 10), ("EqualPlainModel", 295, "worth", 7), ("EqualPlainModel", 302, "coin", 8), ("EqualPlainModel", 306, ";", 11)]
def qBy : List (List Int32) := [[104, 111, 117, 115, 101], [104, 117, 116], [105, 110, 110], [114, 117, 105, 110], [99, 104, 117, 114, 99, 104], [115, 116, 114, 101, 101, 116, 101, 100], [116, 111, 119, 101, 114], [119, 111, 114, 116, 104], [99, 111, 105, 110], [97, 116], [111, 110], [59]]
def qLn : List Nat := [5, 3, 3, 4, 6, 8, 5, 5, 4, 2, 2, 1]
def qNt : List (String × Nat × MethodName × String) := [(RX5, 82, yX10_lotOf, RX10), (RX9, 49, yX10_isSpot, RX10), (RX9, 80, yX10_lotOf, RX10)]
def qE (G : qG) (U : State) (H : Heap) : Prop := vk_S 12 qLn qBy (gK G) (gV G) (qA G) U H ∧ va_Z "java/lang/String" "COMPACT_STRINGS" "Z" (.int 1) (qA G) U H ∧ va_Zq "jdk/internal/util/Preconditions" "SIOOBE_FORMATTER" "Ljava/util/function/BiFunction;" (qA G) U H ∧ (∀ t ∈ qTx, vk_R t.1 t.2.1 t.2.2.1 (gK G t.2.2.2) U) ∧ ∀ t ∈ qNt, va_Nw (.methodLinkNest t.1 t.2.1 t.2.2.1 t.2.2.2) U
theorem qE_kept {G : qG} {U : State} {H H1 : Heap} (h : qE G U H) (hq : ∀ a : Nat, a < H.size → ¬ qA G a → H1[a]? = H[a]?) : qE G U H1 := ⟨h.1.kept hq, h.2.1.kept hq, h.2.2.1.kept hq, h.2.2.2.1, h.2.2.2.2⟩
theorem qE_calling {G : qG} {U : State} {H : Heap} (g : JFrame) (mk : MethodId) (a : Array Value) (h : qE G U H) : qE G (U.calling g mk a) H := ⟨vk_S.moved (u := U) (U := U.calling g mk a) (Vm.Alike.refl U.vm) h.1, va_Z.moved (u := U) (U := U.calling g mk a) (Vm.Alike.refl U.vm) h.2.1, va_Zq.moved (u := U) (U := U.calling g mk a) (Vm.Alike.refl U.vm) h.2.2.1, fun t ht => vk_R.same (u := U) rfl (h.2.2.2.1 t ht), fun t ht => va_Nw.same (u := U) rfl rfl (h.2.2.2.2 t ht)⟩
theorem qE_warm {G : qG} {s U : State} {H : Heap} (hW : s.WarmedH U.vm) (h : qE G s H) : qE G U H := ⟨vk_S.moved hW.alike h.1, va_Z.moved hW.alike h.2.1, va_Zq.moved hW.alike h.2.2.1, fun t ht => vk_R.warm hW (h.2.2.2.1 t ht), fun t ht => va_Nw.warmM hW (h.2.2.2.2 t ht)⟩
/-! what holds of the world at a state -/
def qH (G : qG) (μ : qM) (H : Heap) : Prop := va_P (gD G) vwCl (qW G μ) H
def qP (G : qG) (μ : qM) (U : State) : Prop := qH G μ U.heap ∧ va_K (gD G) vwCl (qty G) U ∧ va_D (qA G) (qW G μ) ∧ gb G ≤ U.heap.size ∧ qE G U U.heap
theorem qP_calling {G : qG} {μ : qM} {U : State} (g : JFrame) (mk : MethodId) (a : Array Value) (h : qP G μ U) : qP G μ (U.calling g mk a) := ⟨h.1, va_K.moved (u := U) (U := U.calling g mk a) (Vm.Alike.refl U.vm) h.2.1, h.2.2.1, h.2.2.2.1, qE_calling g mk a h.2.2.2.2⟩
/-! the machine at a place of a method: all that stays through the method (Z), and what changes -/
abbrev qZ : Type := Program × Launch × Env × Room × State × MethodId × Array Value × List Frame × Method × Code × (State → Prop)
abbrev zs (Z : qZ) : State := Z.2.2.2.2.1
def qV (Z : qZ) (G : qG) (nL k n : Nat) (μ : qM) (pc : Nat) (L : List (Nat × Value)) (st : List Value) : Prop := ∀ (H : Heap) (locs : List Loc) (ls : Array Slot), qH G μ H → va_S (qA G) (zs Z).heap H locs → lv_has ls nL L → W Z.1 Z.2.1 Z.2.2.1 Z.2.2.2.1 Z.2.2.2.2.1 Z.2.2.2.2.2.1 Z.2.2.2.2.2.2.1 Z.2.2.2.2.2.2.2.1 Z.2.2.2.2.2.2.2.2.1 Z.2.2.2.2.2.2.2.2.2.1 H locs k n Z.2.2.2.2.2.2.2.2.2.2 (F0 Z.2.2.2.2.2.1 pc ls st)
def qX (Z : qZ) (G : qG) (own : String) (cc : ByteArray) (nL : Nat) (rm : Room) (ret : Option FieldType) : Prop :=
  Z.1.tables.exec = Jvm.exec ∧ Z.2.2.2.2.2.2.2.2.2.1.code = cc ∧ Z.2.2.2.2.2.2.2.2.2.1.maxLocals = nL ∧ (zs Z).vm.findClass own = some Z.2.2.2.2.2.1.cls ∧ (∀ w ∈ wsL_law, w.before Z.2.2.2.2.2.2.1 (zs Z) = true) ∧ Z.2.2.2.1 = rm ∧ Z.2.2.2.2.2.2.2.2.1.sig.returnType = ret ∧ Z.2.2.2.2.2.2.2.2.1.locks = false ∧ va_K (gD G) vwCl (qty G) (zs Z) ∧ va_D (qA G) (qW G (fun _ _ => 0)) ∧ gb G ≤ (zs Z).heap.size ∧ qE G (zs Z) (zs Z).heap
section CORE
variable {Z : qZ} {G : qG} {own : String} {cc : ByteArray} {nL k n : Nat} {rm : Room} {ret : Option FieldType} {μ : qM} {pc : Nat} {L L' : List (Nat × Value)} {st : List Value}
theorem qV_sub (is : List Nat) (hl : lv_pick L is = L') (h : qV Z G nL k n μ pc L' st) : qV Z G nL k n μ pc L st := fun H locs ls hP hS hL => h H locs ls hP hS (lv_sub hL is hl)
theorem x_iconst (C : qX Z G own cc nL rm ret) {i : Int} {v : Int32} (hd : decode cc pc = .ok (.iconst i, 1)) (hv : Int32.ofInt i = v) (h : qV Z G nL k n μ (pc + 1) L (.int v :: st)) : qV Z G nL k n μ pc L st := fun H locs ls hP hS hL => lv_iconst C.1 C.2.1 hd hv (h H locs ls hP hS hL)
theorem x_bipush (C : qX Z G own cc nL rm ret) {i : Int} {v : Int32} (hd : decode cc pc = .ok (.bipush i, 2)) (hv : (Int8.ofInt i).toInt32 = v) (h : qV Z G nL k n μ (pc + 2) L (.int v :: st)) : qV Z G nL k n μ pc L st := fun H locs ls hP hS hL => lv_bipush C.1 C.2.1 hd hv (h H locs ls hP hS hL)
theorem x_sipush (C : qX Z G own cc nL rm ret) {i : Int} {v : Int32} (hd : decode cc pc = .ok (.sipush i, 3)) (hv : (Int16.ofInt i).toInt32 = v) (h : qV Z G nL k n μ (pc + 3) L (.int v :: st)) : qV Z G nL k n μ pc L st := fun H locs ls hP hS hL => lv_sipush C.1 C.2.1 hd hv (h H locs ls hP hS hL)
theorem x_ldc (C : qX Z G own cc nL rm ret) {i : Nat} {v : Int32} (hw : Jvm.Cond.constant own i v ∈ wsL_law) (hd : decode cc pc = .ok (.ldc i, 2)) (h : qV Z G nL k n μ (pc + 2) L (.int v :: st)) : qV Z G nL k n μ pc L st := fun H locs ls hP hS hL => lv_ldc C.1 C.2.1 C.2.2.2.1 (C.2.2.2.2.1 _ hw) hd (h H locs ls hP hS hL)
theorem x_ldcw (C : qX Z G own cc nL rm ret) {i : Nat} {v : Int32} (hw : Jvm.Cond.constant own i v ∈ wsL_law) (hd : decode cc pc = .ok (.ldc_w i, 3)) (h : qV Z G nL k n μ (pc + 3) L (.int v :: st)) : qV Z G nL k n μ pc L st := fun H locs ls hP hS hL => lv_ldcw C.1 C.2.1 C.2.2.2.1 (C.2.2.2.2.1 _ hw) hd (h H locs ls hP hS hL)
theorem x_iload_n (C : qX Z G own cc nL rm ret) (q : Nat) {i : Nat} {f : Fin 4} {x : Int32} (hd : decode cc pc = .ok (.iload_n f, 1)) (hi : (f : Nat) = i) (hq : L[q]? = some (i, .int x)) (h : qV Z G nL k n μ (pc + 1) L (.int x :: st)) : qV Z G nL k n μ pc L st := fun H locs ls hP hS hL => lv_iload_n C.1 C.2.1 hd hi (lv_at hL q hq) (h H locs ls hP hS hL)
theorem x_iload (C : qX Z G own cc nL rm ret) (q : Nat) {i : Nat} {x : Int32} (hd : decode cc pc = .ok (.iload i, 2)) (hq : L[q]? = some (i, .int x)) (h : qV Z G nL k n μ (pc + 2) L (.int x :: st)) : qV Z G nL k n μ pc L st := fun H locs ls hP hS hL => lv_iload C.1 C.2.1 hd (lv_at hL q hq) (h H locs ls hP hS hL)
theorem x_aload_n (C : qX Z G own cc nL rm ret) (q : Nat) {i a : Nat} {f : Fin 4} (hd : decode cc pc = .ok (.aload_n f, 1)) (hi : (f : Nat) = i) (hq : L[q]? = some (i, .ref a)) (h : qV Z G nL k n μ (pc + 1) L (.ref a :: st)) : qV Z G nL k n μ pc L st := fun H locs ls hP hS hL => lv_aload_n C.1 C.2.1 hd hi (lv_at hL q hq) (h H locs ls hP hS hL)
theorem x_aload (C : qX Z G own cc nL rm ret) (q : Nat) {i a : Nat} (hd : decode cc pc = .ok (.aload i, 2)) (hq : L[q]? = some (i, .ref a)) (h : qV Z G nL k n μ (pc + 2) L (.ref a :: st)) : qV Z G nL k n μ pc L st := fun H locs ls hP hS hL => lv_aload C.1 C.2.1 hd (lv_at hL q hq) (h H locs ls hP hS hL)
theorem x_istore_n (C : qX Z G own cc nL rm ret) {i : Nat} {f : Fin 4} {x : Int32} (hd : decode cc pc = .ok (.istore_n f, 1)) (hi : (f : Nat) = i) (hn : i < nL) (hl : (i, Value.int x) :: L.filter (fun q => !(q.1 == i) && !(q.1 + 1 == i && q.2.category == 2)) = L') (h : qV Z G nL k n μ (pc + 1) L' st) : qV Z G nL k n μ pc L (.int x :: st) := fun H locs _ hP hS hL => lv_istore_n C.1 C.2.1 hd hi hL hn hl (fun ls' hL' => h H locs ls' hP hS hL')
theorem x_istore (C : qX Z G own cc nL rm ret) {i : Nat} {x : Int32} (hd : decode cc pc = .ok (.istore i, 2)) (hn : i < nL) (hl : (i, Value.int x) :: L.filter (fun q => !(q.1 == i) && !(q.1 + 1 == i && q.2.category == 2)) = L') (h : qV Z G nL k n μ (pc + 2) L' st) : qV Z G nL k n μ pc L (.int x :: st) := fun H locs _ hP hS hL => lv_istore C.1 C.2.1 hd hL hn hl (fun ls' hL' => h H locs ls' hP hS hL')
theorem x_astore_n (C : qX Z G own cc nL rm ret) {i a : Nat} {f : Fin 4} (hd : decode cc pc = .ok (.astore_n f, 1)) (hi : (f : Nat) = i) (hn : i < nL) (hl : (i, Value.ref a) :: L.filter (fun q => !(q.1 == i) && !(q.1 + 1 == i && q.2.category == 2)) = L') (h : qV Z G nL k n μ (pc + 1) L' st) : qV Z G nL k n μ pc L (.ref a :: st) := fun H locs _ hP hS hL => lv_astore_n C.1 C.2.1 hd hi hL hn hl (fun ls' hL' => h H locs ls' hP hS hL')
theorem x_astore (C : qX Z G own cc nL rm ret) {i a : Nat} (hd : decode cc pc = .ok (.astore i, 2)) (hn : i < nL) (hl : (i, Value.ref a) :: L.filter (fun q => !(q.1 == i) && !(q.1 + 1 == i && q.2.category == 2)) = L') (h : qV Z G nL k n μ (pc + 2) L' st) : qV Z G nL k n μ pc L (.ref a :: st) := fun H locs _ hP hS hL => lv_astore C.1 C.2.1 hd hL hn hl (fun ls' hL' => h H locs ls' hP hS hL')
theorem x_iinc (C : qX Z G own cc nL rm ret) (q : Nat) {i : Nat} {j : Int} {x v : Int32} (hd : decode cc pc = .ok (.iinc i j, 3)) (hq : L[q]? = some (i, .int x)) (hv : Int32.ofInt j = v) (hn : i < nL) (hl : (i, Value.int (x + v)) :: L.filter (fun q => !(q.1 == i) && !(q.1 + 1 == i && q.2.category == 2)) = L') (h : qV Z G nL k n μ (pc + 3) L' st) : qV Z G nL k n μ pc L st := fun H locs _ hP hS hL => lv_iinc C.1 C.2.1 hd hL hq (by rw [hv]) hn hl (fun ls' hL' => h H locs ls' hP hS hL')
theorem x_iadd (C : qX Z G own cc nL rm ret) {x y : Int32} (hd : decode cc pc = .ok (.iadd, 1)) (h : qV Z G nL k n μ (pc + 1) L (.int (x + y) :: st)) : qV Z G nL k n μ pc L (.int y :: .int x :: st) := fun H locs ls hP hS hL => lv_iadd C.1 C.2.1 hd (h H locs ls hP hS hL)
theorem x_isub (C : qX Z G own cc nL rm ret) {x y : Int32} (hd : decode cc pc = .ok (.isub, 1)) (h : qV Z G nL k n μ (pc + 1) L (.int (x - y) :: st)) : qV Z G nL k n μ pc L (.int y :: .int x :: st) := fun H locs ls hP hS hL => lv_isub C.1 C.2.1 hd (h H locs ls hP hS hL)
theorem x_imul (C : qX Z G own cc nL rm ret) {x y : Int32} (hd : decode cc pc = .ok (.imul, 1)) (h : qV Z G nL k n μ (pc + 1) L (.int (x * y) :: st)) : qV Z G nL k n μ pc L (.int y :: .int x :: st) := fun H locs ls hP hS hL => lv_imul C.1 C.2.1 hd (h H locs ls hP hS hL)
theorem x_iand (C : qX Z G own cc nL rm ret) {x y : Int32} (hd : decode cc pc = .ok (.iand, 1)) (h : qV Z G nL k n μ (pc + 1) L (.int (x &&& y) :: st)) : qV Z G nL k n μ pc L (.int y :: .int x :: st) := fun H locs ls hP hS hL => lv_iand C.1 C.2.1 hd (h H locs ls hP hS hL)
theorem x_ior (C : qX Z G own cc nL rm ret) {x y : Int32} (hd : decode cc pc = .ok (.ior, 1)) (h : qV Z G nL k n μ (pc + 1) L (.int (x ||| y) :: st)) : qV Z G nL k n μ pc L (.int y :: .int x :: st) := fun H locs ls hP hS hL => lv_ior C.1 C.2.1 hd (h H locs ls hP hS hL)
theorem x_ixor (C : qX Z G own cc nL rm ret) {x y : Int32} (hd : decode cc pc = .ok (.ixor, 1)) (h : qV Z G nL k n μ (pc + 1) L (.int (x ^^^ y) :: st)) : qV Z G nL k n μ pc L (.int y :: .int x :: st) := fun H locs ls hP hS hL => lv_ixor C.1 C.2.1 hd (h H locs ls hP hS hL)
theorem x_ishl (C : qX Z G own cc nL rm ret) {x y : Int32} (hd : decode cc pc = .ok (.ishl, 1)) (h : qV Z G nL k n μ (pc + 1) L (.int (x <<< (y &&& 31)) :: st)) : qV Z G nL k n μ pc L (.int y :: .int x :: st) := fun H locs ls hP hS hL => lv_ishl C.1 C.2.1 hd (h H locs ls hP hS hL)
theorem x_ishr (C : qX Z G own cc nL rm ret) {x y : Int32} (hd : decode cc pc = .ok (.ishr, 1)) (h : qV Z G nL k n μ (pc + 1) L (.int (x >>> (y &&& 31)) :: st)) : qV Z G nL k n μ pc L (.int y :: .int x :: st) := fun H locs ls hP hS hL => lv_ishr C.1 C.2.1 hd (h H locs ls hP hS hL)
theorem x_iushr (C : qX Z G own cc nL rm ret) {x y : Int32} (hd : decode cc pc = .ok (.iushr, 1)) (h : qV Z G nL k n μ (pc + 1) L (.int (x.toUInt32 >>> (y.toUInt32 &&& Int32.toUInt32 31)).toInt32 :: st)) : qV Z G nL k n μ pc L (.int y :: .int x :: st) := fun H locs ls hP hS hL => lv_iushr C.1 C.2.1 hd rfl (h H locs ls hP hS hL)
theorem x_ineg (C : qX Z G own cc nL rm ret) {x : Int32} (hd : decode cc pc = .ok (.ineg, 1)) (h : qV Z G nL k n μ (pc + 1) L (.int (-x) :: st)) : qV Z G nL k n μ pc L (.int x :: st) := fun H locs ls hP hS hL => lv_ineg C.1 C.2.1 hd (h H locs ls hP hS hL)
theorem x_i2b (C : qX Z G own cc nL rm ret) {x : Int32} (hd : decode cc pc = .ok (.i2b, 1)) (h : qV Z G nL k n μ (pc + 1) L (.int x.toInt8.toInt32 :: st)) : qV Z G nL k n μ pc L (.int x :: st) := fun H locs ls hP hS hL => lv_i2b C.1 C.2.1 hd rfl (h H locs ls hP hS hL)
theorem x_i2s (C : qX Z G own cc nL rm ret) {x : Int32} (hd : decode cc pc = .ok (.i2s, 1)) (h : qV Z G nL k n μ (pc + 1) L (.int x.toInt16.toInt32 :: st)) : qV Z G nL k n μ pc L (.int x :: st) := fun H locs ls hP hS hL => lv_i2s C.1 C.2.1 hd rfl (h H locs ls hP hS hL)
theorem x_i2l (C : qX Z G own cc nL rm ret) {x : Int32} (hd : decode cc pc = .ok (.i2l, 1)) (h : qV Z G nL k n μ (pc + 1) L (.long x.toInt64 :: st)) : qV Z G nL k n μ pc L (.int x :: st) := fun H locs ls hP hS hL => lv_i2l C.1 C.2.1 hd rfl (h H locs ls hP hS hL)
theorem x_ladd (C : qX Z G own cc nL rm ret) {x y : Int64} (hd : decode cc pc = .ok (.ladd, 1)) (h : qV Z G nL k n μ (pc + 1) L (.long (x + y) :: st)) : qV Z G nL k n μ pc L (.long y :: .long x :: st) := fun H locs ls hP hS hL => lv_ladd C.1 C.2.1 hd (h H locs ls hP hS hL)
theorem x_lcmp (C : qX Z G own cc nL rm ret) {x y : Int64} (hd : decode cc pc = .ok (.lcmp, 1)) (h : qV Z G nL k n μ (pc + 1) L (.int (lg_cmp x y) :: st)) : qV Z G nL k n μ pc L (.long y :: .long x :: st) := fun H locs ls hP hS hL => W.lcmp C.1 C.2.1 hd (h H locs ls hP hS hL)
theorem x_idiv (C : qX Z G own cc nL rm ret) {x y : Int32} {A : Prop} (hd : decode cc pc = .ok (.idiv, 1)) (hh : ¬ y = 0 ∧ A) (h : A → qV Z G nL k n μ (pc + 1) L (.int (x / y) :: st)) : qV Z G nL k n μ pc L (.int y :: .int x :: st) := fun H locs ls hP hS hL => lv_idiv C.1 C.2.1 hd hh.1 (h hh.2 H locs ls hP hS hL)
theorem x_irem (C : qX Z G own cc nL rm ret) {x y : Int32} {A : Prop} (hd : decode cc pc = .ok (.irem, 1)) (hh : ¬ y = 0 ∧ A) (h : A → qV Z G nL k n μ (pc + 1) L (.int (x - x / y * y) :: st)) : qV Z G nL k n μ pc L (.int y :: .int x :: st) := fun H locs ls hP hS hL => lv_irem C.1 C.2.1 hd hh.1 (h hh.2 H locs ls hP hS hL)
theorem x_dup (C : qX Z G own cc nL rm ret) {v : Value} (hd : decode cc pc = .ok (.dup, 1)) (hv : v.category = 1) (h : qV Z G nL k n μ (pc + 1) L (v :: v :: st)) : qV Z G nL k n μ pc L (v :: st) := fun H locs ls hP hS hL => lv_dup C.1 C.2.1 hd hv (h H locs ls hP hS hL)
theorem x_pop (C : qX Z G own cc nL rm ret) {v : Value} (hd : decode cc pc = .ok (.pop, 1)) (hv : v.category = 1) (h : qV Z G nL k n μ (pc + 1) L st) : qV Z G nL k n μ pc L (v :: st) := fun H locs ls hP hS hL => lv_pop C.1 C.2.1 hd hv (h H locs ls hP hS hL)
theorem x_dup2 (C : qX Z G own cc nL rm ret) {v w : Value} (hd : decode cc pc = .ok (.dup2, 1)) (hv : v.category = 1) (hw : w.category = 1) (h : qV Z G nL k n μ (pc + 1) L (v :: w :: v :: w :: st)) : qV Z G nL k n μ pc L (v :: w :: st) := fun H locs ls hP hS hL => lv_dup2_11 C.1 C.2.1 hd hv hw (h H locs ls hP hS hL)
theorem x_goto (C : qX Z G own cc nL rm ret) {off : Int} {tgt : Nat} (hd : decode cc pc = .ok (.goto off, 3)) (ht : (pc : Int) + off = (tgt : Int)) (h : qV Z G nL k n μ tgt L st) : qV Z G nL k n μ pc L st := fun H locs ls hP hS hL => lv_goto C.1 C.2.1 hd ht (h H locs ls hP hS hL)
theorem x_if_eq (C : qX Z G own cc nL rm ret) {x : Int32} {off : Int} {tgt : Nat} {A B : Prop} (hd : decode cc pc = .ok (.ifCond .eq off, 3)) (ht : (pc : Int) + off = (tgt : Int)) (hh : (x = 0 → A) ∧ (¬ x = 0 → B)) (kt : A → qV Z G nL k n μ tgt L st) (kf : B → qV Z G nL k n μ (pc + 3) L st) : qV Z G nL k n μ pc L (.int x :: st) := fun H locs ls hP hS hL => lv_if_eq C.1 C.2.1 hd ht (fun q => kt (hh.1 q) H locs ls hP hS hL) (fun q => kf (hh.2 q) H locs ls hP hS hL)
theorem x_if_ne (C : qX Z G own cc nL rm ret) {x : Int32} {off : Int} {tgt : Nat} {A B : Prop} (hd : decode cc pc = .ok (.ifCond .ne off, 3)) (ht : (pc : Int) + off = (tgt : Int)) (hh : (¬ x = 0 → A) ∧ (x = 0 → B)) (kt : A → qV Z G nL k n μ tgt L st) (kf : B → qV Z G nL k n μ (pc + 3) L st) : qV Z G nL k n μ pc L (.int x :: st) := fun H locs ls hP hS hL => lv_if_ne C.1 C.2.1 hd ht (fun q => kt (hh.1 q) H locs ls hP hS hL) (fun q => kf (hh.2 q) H locs ls hP hS hL)
theorem x_if_lt (C : qX Z G own cc nL rm ret) {x : Int32} {off : Int} {tgt : Nat} {A B : Prop} (hd : decode cc pc = .ok (.ifCond .lt off, 3)) (ht : (pc : Int) + off = (tgt : Int)) (hh : (x < 0 → A) ∧ (¬ x < 0 → B)) (kt : A → qV Z G nL k n μ tgt L st) (kf : B → qV Z G nL k n μ (pc + 3) L st) : qV Z G nL k n μ pc L (.int x :: st) := fun H locs ls hP hS hL => lv_if_lt C.1 C.2.1 hd ht (fun q => kt (hh.1 q) H locs ls hP hS hL) (fun q => kf (hh.2 q) H locs ls hP hS hL)
theorem x_if_ge (C : qX Z G own cc nL rm ret) {x : Int32} {off : Int} {tgt : Nat} {A B : Prop} (hd : decode cc pc = .ok (.ifCond .ge off, 3)) (ht : (pc : Int) + off = (tgt : Int)) (hh : (0 ≤ x → A) ∧ (¬ 0 ≤ x → B)) (kt : A → qV Z G nL k n μ tgt L st) (kf : B → qV Z G nL k n μ (pc + 3) L st) : qV Z G nL k n μ pc L (.int x :: st) := fun H locs ls hP hS hL => lv_if_ge C.1 C.2.1 hd ht (fun q => kt (hh.1 q) H locs ls hP hS hL) (fun q => kf (hh.2 q) H locs ls hP hS hL)
theorem x_if_gt (C : qX Z G own cc nL rm ret) {x : Int32} {off : Int} {tgt : Nat} {A B : Prop} (hd : decode cc pc = .ok (.ifCond .gt off, 3)) (ht : (pc : Int) + off = (tgt : Int)) (hh : (0 < x → A) ∧ (¬ 0 < x → B)) (kt : A → qV Z G nL k n μ tgt L st) (kf : B → qV Z G nL k n μ (pc + 3) L st) : qV Z G nL k n μ pc L (.int x :: st) := fun H locs ls hP hS hL => lv_if_gt C.1 C.2.1 hd ht (fun q => kt (hh.1 q) H locs ls hP hS hL) (fun q => kf (hh.2 q) H locs ls hP hS hL)
theorem x_if_le (C : qX Z G own cc nL rm ret) {x : Int32} {off : Int} {tgt : Nat} {A B : Prop} (hd : decode cc pc = .ok (.ifCond .le off, 3)) (ht : (pc : Int) + off = (tgt : Int)) (hh : (x ≤ 0 → A) ∧ (¬ x ≤ 0 → B)) (kt : A → qV Z G nL k n μ tgt L st) (kf : B → qV Z G nL k n μ (pc + 3) L st) : qV Z G nL k n μ pc L (.int x :: st) := fun H locs ls hP hS hL => lv_if_le C.1 C.2.1 hd ht (fun q => kt (hh.1 q) H locs ls hP hS hL) (fun q => kf (hh.2 q) H locs ls hP hS hL)
theorem x_icmp_eq (C : qX Z G own cc nL rm ret) {x y : Int32} {off : Int} {tgt : Nat} {A B : Prop} (hd : decode cc pc = .ok (.if_icmp .eq off, 3)) (ht : (pc : Int) + off = (tgt : Int)) (hh : (x = y → A) ∧ (¬ x = y → B)) (kt : A → qV Z G nL k n μ tgt L st) (kf : B → qV Z G nL k n μ (pc + 3) L st) : qV Z G nL k n μ pc L (.int y :: .int x :: st) := fun H locs ls hP hS hL => lv_icmp_eq C.1 C.2.1 hd ht (fun q => kt (hh.1 q) H locs ls hP hS hL) (fun q => kf (hh.2 q) H locs ls hP hS hL)
theorem x_icmp_ne (C : qX Z G own cc nL rm ret) {x y : Int32} {off : Int} {tgt : Nat} {A B : Prop} (hd : decode cc pc = .ok (.if_icmp .ne off, 3)) (ht : (pc : Int) + off = (tgt : Int)) (hh : (¬ x = y → A) ∧ (x = y → B)) (kt : A → qV Z G nL k n μ tgt L st) (kf : B → qV Z G nL k n μ (pc + 3) L st) : qV Z G nL k n μ pc L (.int y :: .int x :: st) := fun H locs ls hP hS hL => lv_icmp_ne C.1 C.2.1 hd ht (fun q => kt (hh.1 q) H locs ls hP hS hL) (fun q => kf (hh.2 q) H locs ls hP hS hL)
theorem x_icmp_lt (C : qX Z G own cc nL rm ret) {x y : Int32} {off : Int} {tgt : Nat} {A B : Prop} (hd : decode cc pc = .ok (.if_icmp .lt off, 3)) (ht : (pc : Int) + off = (tgt : Int)) (hh : (x < y → A) ∧ (¬ x < y → B)) (kt : A → qV Z G nL k n μ tgt L st) (kf : B → qV Z G nL k n μ (pc + 3) L st) : qV Z G nL k n μ pc L (.int y :: .int x :: st) := fun H locs ls hP hS hL => lv_icmp_lt C.1 C.2.1 hd ht (fun q => kt (hh.1 q) H locs ls hP hS hL) (fun q => kf (hh.2 q) H locs ls hP hS hL)
theorem x_icmp_ge (C : qX Z G own cc nL rm ret) {x y : Int32} {off : Int} {tgt : Nat} {A B : Prop} (hd : decode cc pc = .ok (.if_icmp .ge off, 3)) (ht : (pc : Int) + off = (tgt : Int)) (hh : (y ≤ x → A) ∧ (¬ y ≤ x → B)) (kt : A → qV Z G nL k n μ tgt L st) (kf : B → qV Z G nL k n μ (pc + 3) L st) : qV Z G nL k n μ pc L (.int y :: .int x :: st) := fun H locs ls hP hS hL => lv_icmp_ge C.1 C.2.1 hd ht (fun q => kt (hh.1 q) H locs ls hP hS hL) (fun q => kf (hh.2 q) H locs ls hP hS hL)
theorem x_icmp_gt (C : qX Z G own cc nL rm ret) {x y : Int32} {off : Int} {tgt : Nat} {A B : Prop} (hd : decode cc pc = .ok (.if_icmp .gt off, 3)) (ht : (pc : Int) + off = (tgt : Int)) (hh : (y < x → A) ∧ (¬ y < x → B)) (kt : A → qV Z G nL k n μ tgt L st) (kf : B → qV Z G nL k n μ (pc + 3) L st) : qV Z G nL k n μ pc L (.int y :: .int x :: st) := fun H locs ls hP hS hL => lv_icmp_gt C.1 C.2.1 hd ht (fun q => kt (hh.1 q) H locs ls hP hS hL) (fun q => kf (hh.2 q) H locs ls hP hS hL)
theorem x_icmp_le (C : qX Z G own cc nL rm ret) {x y : Int32} {off : Int} {tgt : Nat} {A B : Prop} (hd : decode cc pc = .ok (.if_icmp .le off, 3)) (ht : (pc : Int) + off = (tgt : Int)) (hh : (x ≤ y → A) ∧ (¬ x ≤ y → B)) (kt : A → qV Z G nL k n μ tgt L st) (kf : B → qV Z G nL k n μ (pc + 3) L st) : qV Z G nL k n μ pc L (.int y :: .int x :: st) := fun H locs ls hP hS hL => lv_icmp_le C.1 C.2.1 hd ht (fun q => kt (hh.1 q) H locs ls hP hS hL) (fun q => kf (hh.2 q) H locs ls hP hS hL)
/-! fields -/
theorem x_geti (C : qX Z G own cc nL rm ret) (o κ f : Nat) {C0 fn fd : String} {T : u_T} {N idx : Nat} (ho : o < gn G) (hk : qk o = κ) (h11 : κ < 11) (hc : vwCl[κ]? = some (C0, T, N)) (hf : f < N) (hT : T f = (C0, fn, fd, (T f).2.2.2)) (hin : ∀ w ∈ u_ws C0 T N, w ∈ wsL_law) (hlk : Cond.fieldLink own idx C0 fn fd ∈ wsL_law) (h0 : (qfO κ)[f]? = some 0) (hd : decode cc pc = .ok (.getfield idx, 3)) (h : qV Z G nL k n μ (pc + 3) L (.int (μ o f) :: st)) : qV Z G nL k n μ pc L (.ref (ga G o) :: st) := fun H locs ls hP hS hL => by
  have hq := qW_at (μ := μ) ho hk
  rw [qcK, if_pos h11] at hq
  have hg : (qfL G μ κ o)[f]? = some (.int (μ o f)) := by
    rw [qfL_get (List.getElem?_eq_some_iff.mp h0).1, qfV, List.getD_eq_getElem?_getD, h0]
    rfl
  exact va_get (ref := C0) C.1 C.2.1 C.2.2.2.2.1 hin C.2.2.2.1 C.2.2.2.2.2.2.2.2.1 hP o hq hc f hf (by rw [hT]; exact C.2.2.2.2.1 _ hlk) (by rw [hT]; exact fun _ h9 => h9) hg hd (h H locs ls hP hS hL)
theorem x_getr (C : qX Z G own cc nL rm ret) (o κ f j t : Nat) {C0 fn fd : String} {T : u_T} {N idx : Nat} (ho : o < gn G) (hk : qk o = κ) (h11 : κ < 11) (hc : vwCl[κ]? = some (C0, T, N)) (hf : f < N) (hT : T f = (C0, fn, fd, (T f).2.2.2)) (hin : ∀ w ∈ u_ws C0 T N, w ∈ wsL_law) (hlk : Cond.fieldLink own idx C0 fn fd ∈ wsL_law) (h0 : (qfO κ)[f]? = some j) (hj : (j == 0) = false) (ht : qtg κ o j = t) (hd : decode cc pc = .ok (.getfield idx, 3)) (h : qV Z G nL k n μ (pc + 3) L (.ref (ga G t) :: st)) : qV Z G nL k n μ pc L (.ref (ga G o) :: st) := fun H locs ls hP hS hL => by
  have hq := qW_at (μ := μ) ho hk
  rw [qcK, if_pos h11] at hq
  have hg : (qfL G μ κ o)[f]? = some (.ref (ga G t)) := by
    rw [qfL_get (List.getElem?_eq_some_iff.mp h0).1, qfV, List.getD_eq_getElem?_getD, h0, ← ht]
    rw [if_neg (by simpa using hj)]
    rfl
  exact va_get (ref := C0) C.1 C.2.1 C.2.2.2.2.1 hin C.2.2.2.1 C.2.2.2.2.2.2.2.2.1 hP o hq hc f hf (by rw [hT]; exact C.2.2.2.2.1 _ hlk) (by rw [hT]; exact fun _ h9 => h9) hg hd (h H locs ls hP hS hL)
theorem x_puti (C : qX Z G own cc nL rm ret) (o κ f : Nat) {C0 fn fd : String} {T : u_T} {N idx : Nat} {x : Int32} {ty : FieldType} {ty0 : Nat → FieldType} (ho : o < gn G) (hk : qk o = κ) (h11 : κ < 11) (hc : vwCl[κ]? = some (C0, T, N)) (hf : f < N) (hT : T f = (C0, fn, fd, false)) (hin : ∀ w ∈ u_ws C0 T N, w ∈ wsL_law) (hty : ∀ k, k < N → parseFieldDescriptor (T k).2.2.1 = some (ty0 k)) (hnm : ∀ a, a < N → ∀ b, b < N → a ≠ b → (T a).2.1 ≠ (T b).2.1) (hlk : Cond.fieldLink own idx C0 fn fd ∈ wsL_law) (h0 : (qfO κ)[f]? = some 0) (hdn : parseFieldDescriptor fd = some ty) (hn : narrow ty (.int x) = .int x) (hft : fits ty (.int x) = true) (hd : decode cc pc = .ok (.putfield idx, 3)) (h : qV Z G nL k n (qu μ o f x) (pc + 3) L st) : qV Z G nL k n μ pc L (.int x :: .ref (ga G o) :: st) := fun H locs ls hP hS hL => by
  have hq := qW_at (μ := μ) ho hk
  rw [qcK, if_pos h11] at hq
  have hl : f < (qfL G μ κ o).length := by rw [qfL_len]; exact (List.getElem?_eq_some_iff.mp h0).1
  have h00 : (qfO κ).getD f 0 = 0 := by rw [List.getD_eq_getElem?_getD, h0]; rfl
  have hD := qD_any (μ' := μ) C.2.2.2.2.2.2.2.2.2.1
  refine va_put (ref := C0) (v := .int x) C.1 C.2.1 C.2.2.2.2.1 hin ty0 hty hnm C.2.2.2.1 C.2.2.2.2.2.2.2.2.1 hP hD hS o hq hc f hf (by rw [hT]; exact C.2.2.2.2.1 _ hlk) (by rw [hT]; exact fun _ h9 => h9) (by rw [hT]) (by rw [hT]; exact hdn) hn hft hl hd (fun H1 locs1 hP1 _ hS1 => ?_)
  rw [qW_set (e := .inr (κ, (qfL G μ κ o).set f (.int x))) (f := upd (μ o) f x) hk (by rw [qcK, if_pos h11, qfL_set h00]; rfl)] at hP1
  exact h H1 locs1 ls hP1 hS1 hL
/-! arrays -/
theorem qW_arr {G : qG} {μ : qM} {o κ : Nat} (ho : o < gn G) (hk : qk o = κ) (h11 : 11 ≤ κ) (h23 : (κ == 23) = false) : (qW G μ)[o]? = some (ga G o, .inl (gC G (qaT κ), qaN κ, .inl (μ o))) := by
  have hq := qW_at (μ := μ) ho hk
  rw [qcK, if_neg (by omega), if_neg (by simpa using h23)] at hq
  exact hq
theorem qW_arrS {G : qG} {μ : qM} {o κ : Nat} {f : Nat → Int32} (hk : qk o = κ) (h11 : 11 ≤ κ) (h23 : (κ == 23) = false) : (qW G μ).set o (ga G o, .inl (gC G (qaT κ), qaN κ, .inl f)) = qW G (qr μ o f) := qW_set hk (by rw [qcK, if_neg (by omega), if_neg (by simpa using h23), qr_s])
theorem x_iald (C : qX Z G own cc nL rm ret) (o κ N : Nat) {i : Int32} {A : Prop} (ho : o < gn G) (hk : qk o = κ) (h11 : Nat.ble 11 κ = true) (h23 : (κ == 23) = false) (hT : qaT κ = 0) (hN : qaN κ = N) (hd : decode cc pc = .ok (.iaload, 1)) (hh : vp_in i N ∧ A) (h : A → qV Z G nL k n μ (pc + 1) L (.int (μ o i.toNatClampNeg) :: st)) : qV Z G nL k n μ pc L (.int i :: .ref (ga G o) :: st) := fun H locs ls hP hS hL => va_iald C.1 C.2.1 C.2.2.2.2.2.2.2.2.1 hP o 0 (by have := qW_arr (μ := μ) ho hk (Nat.le_of_ble_eq_true h11) h23; rw [hT, hN] at this; exact this) rfl hh.1 hd (h hh.2 H locs ls hP hS hL)
theorem x_bald (C : qX Z G own cc nL rm ret) (o κ N : Nat) {i : Int32} {A : Prop} (ho : o < gn G) (hk : qk o = κ) (h11 : Nat.ble 11 κ = true) (h23 : (κ == 23) = false) (hT : qaT κ = 1) (hN : qaN κ = N) (hd : decode cc pc = .ok (.baload, 1)) (hh : vp_in i N ∧ A) (h : A → qV Z G nL k n μ (pc + 1) L (.int (μ o i.toNatClampNeg) :: st)) : qV Z G nL k n μ pc L (.int i :: .ref (ga G o) :: st) := fun H locs ls hP hS hL => va_bald C.1 C.2.1 C.2.2.2.2.2.2.2.2.1 hP o 1 (by have := qW_arr (μ := μ) ho hk (Nat.le_of_ble_eq_true h11) h23; rw [hT, hN] at this; exact this) rfl hh.1 hd (h hh.2 H locs ls hP hS hL)
theorem x_zald (C : qX Z G own cc nL rm ret) (o κ N : Nat) {i : Int32} {A : Prop} (ho : o < gn G) (hk : qk o = κ) (h11 : Nat.ble 11 κ = true) (h23 : (κ == 23) = false) (hT : qaT κ = 2) (hN : qaN κ = N) (hd : decode cc pc = .ok (.baload, 1)) (hh : vp_in i N ∧ A) (h : A → qV Z G nL k n μ (pc + 1) L (.int (μ o i.toNatClampNeg) :: st)) : qV Z G nL k n μ pc L (.int i :: .ref (ga G o) :: st) := fun H locs ls hP hS hL => va_zald C.1 C.2.1 C.2.2.2.2.2.2.2.2.1 hP o 2 (by have := qW_arr (μ := μ) ho hk (Nat.le_of_ble_eq_true h11) h23; rw [hT, hN] at this; exact this) rfl hh.1 hd (h hh.2 H locs ls hP hS hL)
theorem x_iast (C : qX Z G own cc nL rm ret) (o κ N : Nat) {i x : Int32} {A : Prop} (ho : o < gn G) (hk : qk o = κ) (h11 : Nat.ble 11 κ = true) (h23 : (κ == 23) = false) (hT : qaT κ = 0) (hN : qaN κ = N) (hd : decode cc pc = .ok (.iastore, 1)) (hh : vp_in i N ∧ A) (h : A → qV Z G nL k n (qu μ o i.toNatClampNeg x) (pc + 1) L st) : qV Z G nL k n μ pc L (.int x :: .int i :: .ref (ga G o) :: st) := fun H locs ls hP hS hL => by
  refine va_iast C.1 C.2.1 C.2.2.2.2.2.2.2.2.1 hP (qD_any C.2.2.2.2.2.2.2.2.2.1) hS o 0 (by have := qW_arr (μ := μ) ho hk (Nat.le_of_ble_eq_true h11) h23; rw [hT, hN] at this; exact this) rfl hh.1 hd (fun H1 locs1 hP1 _ hS1 => ?_)
  have e := qW_arrS (G := G) (μ := μ) (f := upd (μ o) i.toNatClampNeg x) hk (Nat.le_of_ble_eq_true h11) h23
  rw [hT, hN] at e
  rw [e] at hP1
  exact h hh.2 H1 locs1 ls hP1 hS1 hL
theorem x_bast (C : qX Z G own cc nL rm ret) (o κ N : Nat) {i x : Int32} {A : Prop} (ho : o < gn G) (hk : qk o = κ) (h11 : Nat.ble 11 κ = true) (h23 : (κ == 23) = false) (hT : qaT κ = 1) (hN : qaN κ = N) (hd : decode cc pc = .ok (.bastore, 1)) (hh : vp_in i N ∧ A) (h : A → qV Z G nL k n (qu μ o i.toNatClampNeg x.toInt8.toInt32) (pc + 1) L st) : qV Z G nL k n μ pc L (.int x :: .int i :: .ref (ga G o) :: st) := fun H locs ls hP hS hL => by
  refine va_bast C.1 C.2.1 C.2.2.2.2.2.2.2.2.1 hP (qD_any C.2.2.2.2.2.2.2.2.2.1) hS o 1 (by have := qW_arr (μ := μ) ho hk (Nat.le_of_ble_eq_true h11) h23; rw [hT, hN] at this; exact this) rfl hh.1 hd (fun H1 locs1 hP1 _ hS1 => ?_)
  rw [vp_nar_byte] at hP1
  have e := qW_arrS (G := G) (μ := μ) (f := upd (μ o) i.toNatClampNeg x.toInt8.toInt32) hk (Nat.le_of_ble_eq_true h11) h23
  rw [hT, hN] at e
  rw [e] at hP1
  exact h hh.2 H1 locs1 ls hP1 hS1 hL
theorem x_zast (C : qX Z G own cc nL rm ret) (o κ N : Nat) {i x : Int32} {A : Prop} (ho : o < gn G) (hk : qk o = κ) (h11 : Nat.ble 11 κ = true) (h23 : (κ == 23) = false) (hT : qaT κ = 2) (hN : qaN κ = N) (hd : decode cc pc = .ok (.bastore, 1)) (hh : vp_in i N ∧ (x = 0 ∨ x = 1) ∧ A) (h : A → qV Z G nL k n (qu μ o i.toNatClampNeg x) (pc + 1) L st) : qV Z G nL k n μ pc L (.int x :: .int i :: .ref (ga G o) :: st) := fun H locs ls hP hS hL => by
  refine va_zast C.1 C.2.1 C.2.2.2.2.2.2.2.2.1 hP (qD_any C.2.2.2.2.2.2.2.2.2.1) hS o 2 (by have := qW_arr (μ := μ) ho hk (Nat.le_of_ble_eq_true h11) h23; rw [hT, hN] at this; exact this) rfl hh.1 hd (fun H1 locs1 hP1 _ hS1 => ?_)
  have ez : vp_nar .boolean x = x := by rcases hh.2.1 with rfl | rfl <;> decide
  rw [ez] at hP1
  have e := qW_arrS (G := G) (μ := μ) (f := upd (μ o) i.toNatClampNeg x) hk (Nat.le_of_ble_eq_true h11) h23
  rw [hT, hN] at e
  rw [e] at hP1
  exact h hh.2.2 H1 locs1 ls hP1 hS1 hL
theorem x_alen (C : qX Z G own cc nL rm ret) (o κ N t : Nat) {ty : FieldType} {v : Int32} (ho : o < gn G) (hk : qk o = κ) (h11 : Nat.ble 11 κ = true) (h23 : (κ == 23) = false) (hT : qaT κ = t) (hN : qaN κ = N) (hty : (qty G)[t]? = some (gC G t, ty)) (hv : Int32.ofNat N = v) (hd : decode cc pc = .ok (.arraylength, 1)) (h : qV Z G nL k n μ (pc + 1) L (.int v :: st)) : qV Z G nL k n μ pc L (.ref (ga G o) :: st) := fun H locs ls hP hS hL => va_alen C.1 C.2.1 C.2.2.2.2.2.2.2.2.1 hP o t (x := (N, .inl (μ o))) (by have := qW_arr (μ := μ) ho hk (Nat.le_of_ble_eq_true h11) h23; rw [hT, hN] at this; exact this) hty hv hd (h H locs ls hP hS hL)
/-- a sheet, out of the array of sheets -/
theorem x_aald (C : qX Z G own cc nL rm ret) {i : Int32} {A : Prop} (ho : 24 < gn G) (hd : decode cc pc = .ok (.aaload, 1)) (hh : vp_in i 4 ∧ A) (h : qk (25 + 2 * i.toNatClampNeg) = 5 → A → qV Z G nL k n μ (pc + 1) L (.ref (ga G (25 + 2 * i.toNatClampNeg)) :: st)) : qV Z G nL k n μ pc L (.int i :: .ref (ga G 24) :: st) := fun H locs ls hP hS hL => va_aldq C.1 C.2.1 C.2.2.2.2.2.2.2.2.1 hP 24 3 (f := fun j => some (ga G (25 + 2 * j))) (n := 4) (C := "EqualPlain$Sheet") (by have := qW_at (μ := μ) (κ := 23) ho rfl; exact this) rfl hh.1 hd (h (by
  have hlt : i.toNatClampNeg < 4 := Nat.not_le.mp fun q => hh.1 (Or.inr q)
  have h4 : ∀ j, j < 4 → qk (25 + 2 * j) = 5 := by decide
  exact h4 _ hlt) hh.2 H locs ls hP hS hL)
/-! ends -/
def qQi (Z : qZ) (G : qG) (kc ks : Nat) (post : Int32 → qM → Prop) : Prop := Z.2.2.2.2.2.2.2.2.2.2 = MQ Z.2.2.2.2.2.2.2.1 (va_Qi post (fun μ t => qH G μ t.heap) (qA G)) Z.2.2.2.2.2.2.1 (zs Z) kc ks (qA G)
def qQv (Z : qZ) (G : qG) (kc ks : Nat) (post : qM → Prop) : Prop := Z.2.2.2.2.2.2.2.2.2.2 = MQ Z.2.2.2.2.2.2.2.1 (va_Qv post (fun μ t => qH G μ t.heap) (qA G)) Z.2.2.2.2.2.2.1 (zs Z) kc ks (qA G)
def qQr (Z : qZ) (G : qG) (kc ks : Nat) (post : Nat → qM → Prop) : Prop := Z.2.2.2.2.2.2.2.2.2.2 = MQ Z.2.2.2.2.2.2.2.1 (va_Qr (fun u : Nat × qM => post u.1 u.2) (fun u a t => a = ga G u.1 ∧ qH G u.2 t.heap) (qA G)) Z.2.2.2.2.2.2.1 (zs Z) kc ks (qA G)
def qQs (Z : qZ) (G : qG) (kc ks : Nat) (post : Nat → qM → Prop) : Prop := Z.2.2.2.2.2.2.2.2.2.2 = MQ Z.2.2.2.2.2.2.2.1 (va_Qr (fun u : Nat × qM => post u.1 u.2) (fun u a t => a = gK G u.1 ∧ qH G u.2 t.heap) (qA G)) Z.2.2.2.2.2.2.1 (zs Z) kc ks (qA G)
theorem x_iret {post : Int32 → qM → Prop} {v : Int32} (C : qX Z G own cc nL rm (some .int)) (hQ : qQi Z G k n post) (hd : decode cc pc = .ok (.ireturn, 1)) (hw : post v μ) : qV Z G nL k n μ pc L [.int v] := fun H locs ls hP hS hL => by
  rw [hQ]
  exact W.iret C.1 C.2.1 C.2.2.2.2.2.2.1 (fun t ht hW => ⟨⟨v, μ, rfl, hw, by subst ht; exact hP⟩, hS.F ht⟩) hS.2.2 hd C.2.2.2.2.2.2.2.1
theorem x_zret {post : Int32 → qM → Prop} {v : Int32} (C : qX Z G own cc nL rm (some .boolean)) (hQ : qQi Z G k n post) (hd : decode cc pc = .ok (.ireturn, 1)) (hw : (v = 0 ∨ v = 1) ∧ post v μ) : qV Z G nL k n μ pc L [.int v] := fun H locs ls hP hS hL => by
  rw [hQ]
  exact W.zret C.1 C.2.1 C.2.2.2.2.2.2.1 (by rcases hw.1 with rfl | rfl <;> decide) (fun t ht hW => ⟨⟨v, μ, rfl, hw.2, by subst ht; exact hP⟩, hS.F ht⟩) hS.2.2 hd C.2.2.2.2.2.2.2.1
theorem x_vret {post : qM → Prop} (C : qX Z G own cc nL rm none) (hQ : qQv Z G k n post) (hd : decode cc pc = .ok (.return_, 1)) (hw : post μ) : qV Z G nL k n μ pc L [] := fun H locs ls hP hS hL => by
  rw [hQ]
  exact W.vret C.1 C.2.1 C.2.2.2.2.2.2.1 (fun t ht hW => ⟨⟨μ, rfl, hw, by subst ht; exact hP⟩, hS.F ht⟩) hS.2.2 hd C.2.2.2.2.2.2.2.1
theorem x_aret {post : Nat → qM → Prop} {o : Nat} {cn : String} (C : qX Z G own cc nL rm (some (.object cn))) (hQ : qQr Z G k n post) (hd : decode cc pc = .ok (.areturn, 1)) (hw : post o μ) : qV Z G nL k n μ pc L [.ref (ga G o)] := fun H locs ls hP hS hL => by
  rw [hQ]
  exact W.aret C.1 C.2.1 C.2.2.2.2.2.2.1 (Or.inl ⟨_, rfl⟩) (Or.inr ⟨_, rfl⟩) (fun t ht hW => ⟨⟨(o, μ), ga G o, rfl, hw, rfl, by subst ht; exact hP⟩, hS.F ht⟩) hS.2.2 hd C.2.2.2.2.2.2.2.1
theorem x_sret {post : Nat → qM → Prop} {o : Nat} {cn : String} (C : qX Z G own cc nL rm (some (.object cn))) (hQ : qQs Z G k n post) (hd : decode cc pc = .ok (.areturn, 1)) (hw : post o μ) : qV Z G nL k n μ pc L [.ref (gK G o)] := fun H locs ls hP hS hL => by
  rw [hQ]
  exact W.aret C.1 C.2.1 C.2.2.2.2.2.2.1 (Or.inl ⟨_, rfl⟩) (Or.inr ⟨_, rfl⟩) (fun t ht hW => ⟨⟨(o, μ), gK G o, rfl, hw, rfl, by subst ht; exact hP⟩, hS.F ht⟩) hS.2.2 hd C.2.2.2.2.2.2.2.1
theorem x_ldcs (C : qX Z G own cc nL rm ret) {i q : Nat} {tx : String} (hq : (own, i, tx, q) ∈ qTx) (hd : decode cc pc = .ok (.ldc i, 2)) (h : qV Z G nL k n μ (pc + 2) L (.ref (gK G q) :: st)) : qV Z G nL k n μ pc L st := fun H locs ls hP hS hL => by
  have hZ := C.2.2.2.2.2.2.2.2.2.2.2.2.2.2.1 _ hq
  intro T hT X
  obtain ⟨t, a1, b1⟩ := h H locs ls hP hS hL T hT X
  exact ⟨t, X.ldcString C.1 C.2.2.2.1 (text := tx) (a := gK G q) hZ.1 hZ.2 (g := F0 _ pc ls st) rfl (by rw [C.2.1]; exact hd) t a1, b1⟩
/-! calls -/
def qY (y : MethodName) (bytes : ByteArray) (maxL : Nat) (ret' : Option FieldType) (na : Nat) (rmc : Room) (mc ms : Nat) : Prop := Cond.code y bytes maxL ret' ∈ wsL_law ∧ Cond.initialized y.cls ∈ wsL_law ∧ (y.cls ≠ "java/lang/invoke/MethodHandle" ∧ y.cls ≠ "java/lang/invoke/VarHandle") ∧ (parseMethodDescriptor y.desc).map (fun d => d.parameters.length) = some na ∧ rmc.cells = mc ∧ rmc.slots = ms
theorem q_pay (hts : ∀ w ∈ wsL_law, w.before Z.2.2.2.2.2.2.1 (zs Z) = true) {y : MethodName} {bytes : ByteArray} {maxL : Nat} {ret' : Option FieldType} (hc : Cond.code y bytes maxL ret' ∈ wsL_law) : ∀ w ∈ (Cond.code y bytes maxL ret' :: wsL_law), ∀ (a' : Array Value) (U : State), (zs Z).WarmedH U.vm → w.before a' U = true := by
  intro w hw a' U hW
  have hw' : w ∈ wsL_law := by
    rcases List.mem_cons.mp hw with h | h
    · rw [h]; exact hc
    · exact h
  exact word_at hW (good_of_word (List.all_eq_true.mp qGood w hw')) (hts w hw')
theorem q_len {y : MethodName} {na : Nat} (h : (parseMethodDescriptor y.desc).map (fun d => d.parameters.length) = some na) : ∀ sig, parseMethodDescriptor y.desc = some sig → na = sig.parameters.length := by
  intro sig hs
  rw [hs] at h
  exact (Option.some.inj h).symm
theorem q_blind {G : qG} {μ : qM} {vs : List Value} {B : Prop} : FrameBlind (va_Pc vs (fun U => qP G μ U ∧ B)) := fun a U g mk q => ⟨q.1, qP_calling g mk a q.2.1, q.2.2⟩
theorem q_pre (C : qX Z G own cc nL rm ret) {H : Heap} {locs : List Loc} {B : Prop} (hP : qH G μ H) (hS : va_S (qA G) (zs Z).heap H locs) (hB : B) : ∀ U : State, U.heap = H → (zs Z).WarmedH U.vm → qP G μ U ∧ B := by
  intro U hU hW
  subst hU
  refine ⟨⟨hP, va_K.moved hW.alike C.2.2.2.2.2.2.2.2.1, qD_any C.2.2.2.2.2.2.2.2.2.1, Nat.le_trans C.2.2.2.2.2.2.2.2.2.2.1 hS.1, ?_⟩, hB⟩
  exact qE_warm hW (qE_kept C.2.2.2.2.2.2.2.2.2.2.2 hS.2.1)
section RUN
variable {y : MethodName} {bytes : ByteArray} {maxL na idx mc ms : Nat} {ret' : Option FieldType} {rmc : Room} {Qc : Array Value → State → Outcome → State → Prop} {B : Prop} {As rest : List Value} {a : Nat}
theorem run_V (C : qX Z G own cc nL rm ret) (Y : qY y bytes maxL ret' na rmc mc ms) (hin : Cond.instanceMethod y ∈ wsL_law) (hsel : Cond.selects y.cls y y ∈ wsL_law) (hlk : Cond.methodLink own idx y ∈ wsL_law) (hM : Met Z.2.1 y (.code y bytes maxL ret' :: wsL_law) rmc (va_Pc (.ref a :: As) (fun U => qP G μ U ∧ B)) Qc mc ms (qA G)) (hR : (Nat.ble (rmc.frames + 1) rm.frames && Nat.ble (8 + (maxL + 11) + rmc.locals) rm.locals) = true) (hf : k + mc ≤ rm.cells ∧ n + ms ≤ rm.slots) (hn : As.length = na) (hst : st = As.reverse ++ .ref a :: rest) (hsz : Nat.ble (rest.map fun v => v.category).sum 8 = true) (hd : decode cc pc = .ok (.invokevirtual idx, 3)) (hB : B) {H : Heap} {locs : List Loc} {ls : Array Slot} (hrec : ∃ cellB : Cell, H[a]? = some cellB ∧ cellB.vm.isStatics = false ∧ (zs Z).vm.findClass y.cls = some cellB.cls) (hP : qH G μ H) (hS : va_S (qA G) (zs Z).heap H locs) (hL : lv_has ls nL L) : va_Run Z.1 Z.2.1 Z.2.2.1 Z.2.2.2.1 Z.2.2.2.2.1 Z.2.2.2.2.2.1 Z.2.2.2.2.2.2.1 Z.2.2.2.2.2.2.2.1 Z.2.2.2.2.2.2.2.2.1 Z.2.2.2.2.2.2.2.2.2.1 H locs k n mc ms (F0 Z.2.2.2.2.2.1 pc ls st) rest (Qc (Value.ref a :: As).toArray) (qA G) := by
  have hts := C.2.2.2.2.1
  simp only [Bool.and_eq_true] at hR
  have hRR := C.2.2.2.2.2.1
  refine va_runV (Ts := wsL_law) (own := own) (C := y.cls) (b := a) (As := As) (rest := rest) (n := na) ⟨C.1, C.2.1, C.2.2.1, C.2.2.2.1, hts⟩ hM ⟨⟨Y.2.2.2.2.1, Y.2.2.2.2.2, by rw [hRR]; exact Nat.le_of_ble_eq_true hR.1, by rw [hRR]; exact Nat.le_of_ble_eq_true hR.2, q_pay hts Y.1, List.mem_cons_self, hts _ Y.1, hts _ Y.2.1, Y.2.2.1, q_len Y.2.2.2.1, hts _ hlk⟩, hts _ hin, hts _ hsel⟩ ⟨q_blind, hrec, fun U hU hW => ⟨rfl, q_pre C hP hS hB U hU hW⟩⟩ rfl hn hL.1 hst (lv_room (Nat.le_of_ble_eq_true hsz)) hd (by rw [hRR]; exact hf)
theorem run_S (C : qX Z G own cc nL rm ret) (Y : qY y bytes maxL ret' na rmc mc ms) (hin : Cond.static y ∈ wsL_law) (hlk : Cond.methodLink own idx y ∈ wsL_law) (hM : Met Z.2.1 y (.code y bytes maxL ret' :: wsL_law) rmc (va_Pc As (fun U => qP G μ U ∧ B)) Qc mc ms (qA G)) (hR : (Nat.ble (rmc.frames + 1) rm.frames && Nat.ble (8 + (maxL + 11) + rmc.locals) rm.locals) = true) (hf : k + mc ≤ rm.cells ∧ n + ms ≤ rm.slots) (hn : As.length = na) (hst : st = As.reverse ++ rest) (hsz : Nat.ble (rest.map fun v => v.category).sum 8 = true) (hd : decode cc pc = .ok (.invokestatic idx, 3)) (hB : B) {H : Heap} {locs : List Loc} {ls : Array Slot} (hP : qH G μ H) (hS : va_S (qA G) (zs Z).heap H locs) (hL : lv_has ls nL L) : va_Run Z.1 Z.2.1 Z.2.2.1 Z.2.2.2.1 Z.2.2.2.2.1 Z.2.2.2.2.2.1 Z.2.2.2.2.2.2.1 Z.2.2.2.2.2.2.2.1 Z.2.2.2.2.2.2.2.2.1 Z.2.2.2.2.2.2.2.2.2.1 H locs k n mc ms (F0 Z.2.2.2.2.2.1 pc ls st) rest (Qc As.toArray) (qA G) := by
  have hts := C.2.2.2.2.1
  simp only [Bool.and_eq_true] at hR
  have hRR := C.2.2.2.2.2.1
  refine va_runS (Ts := wsL_law) (own := own) (As := As) (rest := rest) (n := na) ⟨C.1, C.2.1, C.2.2.1, C.2.2.2.1, hts⟩ hM ⟨⟨Y.2.2.2.2.1, Y.2.2.2.2.2, by rw [hRR]; exact Nat.le_of_ble_eq_true hR.1, by rw [hRR]; exact Nat.le_of_ble_eq_true hR.2, q_pay hts Y.1, List.mem_cons_self, hts _ Y.1, hts _ Y.2.1, Y.2.2.1, q_len Y.2.2.2.1, hts _ hlk⟩, hts _ hin⟩ ⟨q_blind, fun U hU hW => ⟨rfl, q_pre C hP hS hB U hU hW⟩⟩ rfl hn hL.1 hst (lv_room (Nat.le_of_ble_eq_true hsz)) hd (by rw [hRR]; exact hf)
theorem run_N {host : String} (C : qX Z G own cc nL rm ret) (Y : qY y bytes maxL ret' na rmc mc ms) (hin : Cond.static y ∈ wsL_law) (hlk : (own, idx, y, host) ∈ qNt) (hM : Met Z.2.1 y (.code y bytes maxL ret' :: wsL_law) rmc (va_Pc As (fun U => qP G μ U ∧ B)) Qc mc ms (qA G)) (hR : (Nat.ble (rmc.frames + 1) rm.frames && Nat.ble (8 + (maxL + 11) + rmc.locals) rm.locals) = true) (hf : k + mc ≤ rm.cells ∧ n + ms ≤ rm.slots) (hn : As.length = na) (hst : st = As.reverse ++ rest) (hsz : Nat.ble (rest.map fun v => v.category).sum 8 = true) (hd : decode cc pc = .ok (.invokestatic idx, 3)) (hB : B) {H : Heap} {locs : List Loc} {ls : Array Slot} (hP : qH G μ H) (hS : va_S (qA G) (zs Z).heap H locs) (hL : lv_has ls nL L) : va_Run Z.1 Z.2.1 Z.2.2.1 Z.2.2.2.1 Z.2.2.2.2.1 Z.2.2.2.2.2.1 Z.2.2.2.2.2.2.1 Z.2.2.2.2.2.2.2.1 Z.2.2.2.2.2.2.2.2.1 Z.2.2.2.2.2.2.2.2.2.1 H locs k n mc ms (F0 Z.2.2.2.2.2.1 pc ls st) rest (Qc As.toArray) (qA G) := by
  have hts := C.2.2.2.2.1
  simp only [Bool.and_eq_true] at hR
  have hRR := C.2.2.2.2.2.1
  have hl := C.2.2.2.2.2.2.2.2.2.2.2.2.2.2.2 _ hlk
  refine va_runSN (Ts := wsL_law) (own := own) (host := host) (As := As) (rest := rest) (n := na) ⟨C.1, C.2.1, C.2.2.1, C.2.2.2.1, hts⟩ hM ⟨⟨⟨Y.2.2.2.2.1, Y.2.2.2.2.2, by rw [hRR]; exact Nat.le_of_ble_eq_true hR.1, by rw [hRR]; exact Nat.le_of_ble_eq_true hR.2, q_pay hts Y.1, List.mem_cons_self⟩, hts _ Y.1, hts _ Y.2.1, Y.2.2.1, q_len Y.2.2.2.1, va_Nw.use rfl hl⟩, hts _ hin, trivial⟩ ⟨q_blind, fun U hU hW => ⟨rfl, q_pre C hP hS hB U hU hW⟩⟩ rfl hn hL.1 hst (lv_room (Nat.le_of_ble_eq_true hsz)) hd (by rw [hRR]; exact hf)
/-- the cell of an object is there, of its class -/
theorem q_recv (C : qX Z G own cc nL rm ret) {o κ : Nat} {q : vw_C} (ho : o < gn G) (hk : qk o = κ) (h11 : κ < 11) (hc : vwCl[κ]? = some q) {H : Heap} (hP : qH G μ H) : ∃ cellB : Cell, H[ga G o]? = some cellB ∧ cellB.vm.isStatics = false ∧ (zs Z).vm.findClass q.1 = some cellB.cls := by
  have hq := qW_at (μ := μ) ho hk
  rw [qcK, if_pos h11] at hq
  exact va_recv C.2.2.2.2.2.2.2.2.1 hP hc hq
end RUN
/-! contracts: an int, nothing, an object, a text -/
def qCi (l : Launch) (G : qG) (y : MethodName) (bytes : ByteArray) (maxL : Nat) (ret' : Option FieldType) (rmc : Room) (mc ms : Nat) (vs : List Value) (μ : qM) (wp : (Int32 → qM → Prop) → Prop) : Prop := ∀ post : Int32 → qM → Prop, Met l y (.code y bytes maxL ret' :: wsL_law) rmc (va_Pc vs (fun U => qP G μ U ∧ wp post)) (va_Qi post (fun μ t => qH G μ t.heap) (qA G)) mc ms (qA G)
def qCv (l : Launch) (G : qG) (y : MethodName) (bytes : ByteArray) (maxL : Nat) (ret' : Option FieldType) (rmc : Room) (mc ms : Nat) (vs : List Value) (μ : qM) (wp : (qM → Prop) → Prop) : Prop := ∀ post : qM → Prop, Met l y (.code y bytes maxL ret' :: wsL_law) rmc (va_Pc vs (fun U => qP G μ U ∧ wp post)) (va_Qv post (fun μ t => qH G μ t.heap) (qA G)) mc ms (qA G)
def qCr (l : Launch) (G : qG) (y : MethodName) (bytes : ByteArray) (maxL : Nat) (ret' : Option FieldType) (rmc : Room) (mc ms : Nat) (vs : List Value) (μ : qM) (wp : (Nat → qM → Prop) → Prop) : Prop := ∀ post : Nat → qM → Prop, Met l y (.code y bytes maxL ret' :: wsL_law) rmc (va_Pc vs (fun U => qP G μ U ∧ wp post)) (va_Qr (fun u : Nat × qM => post u.1 u.2) (fun u a t => a = ga G u.1 ∧ qH G u.2 t.heap) (qA G)) mc ms (qA G)
def qCs (l : Launch) (G : qG) (y : MethodName) (bytes : ByteArray) (maxL : Nat) (ret' : Option FieldType) (rmc : Room) (mc ms : Nat) (vs : List Value) (μ : qM) (wp : (Nat → qM → Prop) → Prop) : Prop := ∀ post : Nat → qM → Prop, Met l y (.code y bytes maxL ret' :: wsL_law) rmc (va_Pc vs (fun U => qP G μ U ∧ wp post)) (va_Qr (fun u : Nat × qM => post u.1 u.2) (fun u a t => a = gK G u.1 ∧ qH G u.2 t.heap) (qA G)) mc ms (qA G)
theorem x_Vi (As rest : List Value) (C : qX Z G own cc nL rm ret) {y : MethodName} {bytes : ByteArray} {maxL na idx mc ms : Nat} {ret' : Option FieldType} {rmc : Room} (o κ : Nat) {C0 : String} {T : u_T} {N : Nat} {wp : (Int32 → qM → Prop) → Prop} {K : Int32 → qM → Prop} (Y : qY y bytes maxL ret' na rmc mc ms) (hin : Cond.instanceMethod y ∈ wsL_law) (hsel : Cond.selects y.cls y y ∈ wsL_law) (hlk : Cond.methodLink own idx y ∈ wsL_law) (hM : qCi Z.2.1 G y bytes maxL ret' rmc mc ms (.ref (ga G o) :: As) μ wp) (ho : o < gn G) (hko : qk o = κ) (h11 : κ < 11) (hc : vwCl[κ]? = some (C0, T, N)) (hcl : C0 = y.cls) (hR : (Nat.ble (rmc.frames + 1) rm.frames && Nat.ble (8 + (maxL + 11) + rmc.locals) rm.locals) = true) (hf : k + mc ≤ rm.cells ∧ n + ms ≤ rm.slots) (hn : As.length = na) (hst : st = As.reverse ++ .ref (ga G o) :: rest) (hsz : Nat.ble (rest.map fun v => v.category).sum 8 = true) (hd : decode cc pc = .ok (.invokevirtual idx, 3)) (h : wp K) (hk : ∀ (r : Int32) (μ1 : qM), K r μ1 → qV Z G nL (k + mc) (n + ms) μ1 (pc + 3) L (.int r :: rest)) : qV Z G nL k n μ pc L st := fun H locs ls hP hS hL => va_calli (run_V C Y hin hsel hlk (hM K) hR hf hn hst hsz hd h (by rw [← hcl]; exact q_recv C ho hko h11 hc hP) hP hS hL) hS (fun q _ h => h) (fun q h => h) (fun r u t H1 locs1 ht _ hw hB _ _ hS1 => hk r u hw H1 locs1 ls (by rw [← ht]; exact hB) hS1 hL)
theorem x_Si (As rest : List Value) (C : qX Z G own cc nL rm ret) {y : MethodName} {bytes : ByteArray} {maxL na idx mc ms : Nat} {ret' : Option FieldType} {rmc : Room} {wp : (Int32 → qM → Prop) → Prop} {K : Int32 → qM → Prop} (Y : qY y bytes maxL ret' na rmc mc ms) (hin : Cond.static y ∈ wsL_law) (hlk : Cond.methodLink own idx y ∈ wsL_law) (hM : qCi Z.2.1 G y bytes maxL ret' rmc mc ms As μ wp) (hR : (Nat.ble (rmc.frames + 1) rm.frames && Nat.ble (8 + (maxL + 11) + rmc.locals) rm.locals) = true) (hf : k + mc ≤ rm.cells ∧ n + ms ≤ rm.slots) (hn : As.length = na) (hst : st = As.reverse ++ rest) (hsz : Nat.ble (rest.map fun v => v.category).sum 8 = true) (hd : decode cc pc = .ok (.invokestatic idx, 3)) (h : wp K) (hk : ∀ (r : Int32) (μ1 : qM), K r μ1 → qV Z G nL (k + mc) (n + ms) μ1 (pc + 3) L (.int r :: rest)) : qV Z G nL k n μ pc L st := fun H locs ls hP hS hL => va_calli (run_S C Y hin hlk (hM K) hR hf hn hst hsz hd h hP hS hL) hS (fun q _ h => h) (fun q h => h) (fun r u t H1 locs1 ht _ hw hB _ _ hS1 => hk r u hw H1 locs1 ls (by rw [← ht]; exact hB) hS1 hL)
theorem x_Ni (As rest : List Value) (C : qX Z G own cc nL rm ret) {y : MethodName} {bytes : ByteArray} {maxL na idx mc ms : Nat} {ret' : Option FieldType} {rmc : Room} {wp : (Int32 → qM → Prop) → Prop} {K : Int32 → qM → Prop} (Y : qY y bytes maxL ret' na rmc mc ms) (hin : Cond.static y ∈ wsL_law) {host : String} (hlk : (own, idx, y, host) ∈ qNt) (hM : qCi Z.2.1 G y bytes maxL ret' rmc mc ms As μ wp) (hR : (Nat.ble (rmc.frames + 1) rm.frames && Nat.ble (8 + (maxL + 11) + rmc.locals) rm.locals) = true) (hf : k + mc ≤ rm.cells ∧ n + ms ≤ rm.slots) (hn : As.length = na) (hst : st = As.reverse ++ rest) (hsz : Nat.ble (rest.map fun v => v.category).sum 8 = true) (hd : decode cc pc = .ok (.invokestatic idx, 3)) (h : wp K) (hk : ∀ (r : Int32) (μ1 : qM), K r μ1 → qV Z G nL (k + mc) (n + ms) μ1 (pc + 3) L (.int r :: rest)) : qV Z G nL k n μ pc L st := fun H locs ls hP hS hL => va_calli (run_N C Y hin hlk (hM K) hR hf hn hst hsz hd h hP hS hL) hS (fun q _ h => h) (fun q h => h) (fun r u t H1 locs1 ht _ hw hB _ _ hS1 => hk r u hw H1 locs1 ls (by rw [← ht]; exact hB) hS1 hL)
theorem x_Vv (As rest : List Value) (C : qX Z G own cc nL rm ret) {y : MethodName} {bytes : ByteArray} {maxL na idx mc ms : Nat} {ret' : Option FieldType} {rmc : Room} (o κ : Nat) {C0 : String} {T : u_T} {N : Nat} {wp : (qM → Prop) → Prop} {K : qM → Prop} (Y : qY y bytes maxL ret' na rmc mc ms) (hin : Cond.instanceMethod y ∈ wsL_law) (hsel : Cond.selects y.cls y y ∈ wsL_law) (hlk : Cond.methodLink own idx y ∈ wsL_law) (hM : qCv Z.2.1 G y bytes maxL ret' rmc mc ms (.ref (ga G o) :: As) μ wp) (ho : o < gn G) (hko : qk o = κ) (h11 : κ < 11) (hc : vwCl[κ]? = some (C0, T, N)) (hcl : C0 = y.cls) (hR : (Nat.ble (rmc.frames + 1) rm.frames && Nat.ble (8 + (maxL + 11) + rmc.locals) rm.locals) = true) (hf : k + mc ≤ rm.cells ∧ n + ms ≤ rm.slots) (hn : As.length = na) (hst : st = As.reverse ++ .ref (ga G o) :: rest) (hsz : Nat.ble (rest.map fun v => v.category).sum 8 = true) (hd : decode cc pc = .ok (.invokevirtual idx, 3)) (h : wp K) (hk : ∀ (μ1 : qM), K μ1 → qV Z G nL (k + mc) (n + ms) μ1 (pc + 3) L rest) : qV Z G nL k n μ pc L st := fun H locs ls hP hS hL => va_callv (run_V C Y hin hsel hlk (hM K) hR hf hn hst hsz hd h (by rw [← hcl]; exact q_recv C ho hko h11 hc hP) hP hS hL) hS (fun q _ h => h) (fun q h => h) (fun u t H1 locs1 ht _ hw hB _ _ hS1 => hk u hw H1 locs1 ls (by rw [← ht]; exact hB) hS1 hL)
theorem x_Sv (As rest : List Value) (C : qX Z G own cc nL rm ret) {y : MethodName} {bytes : ByteArray} {maxL na idx mc ms : Nat} {ret' : Option FieldType} {rmc : Room} {wp : (qM → Prop) → Prop} {K : qM → Prop} (Y : qY y bytes maxL ret' na rmc mc ms) (hin : Cond.static y ∈ wsL_law) (hlk : Cond.methodLink own idx y ∈ wsL_law) (hM : qCv Z.2.1 G y bytes maxL ret' rmc mc ms As μ wp) (hR : (Nat.ble (rmc.frames + 1) rm.frames && Nat.ble (8 + (maxL + 11) + rmc.locals) rm.locals) = true) (hf : k + mc ≤ rm.cells ∧ n + ms ≤ rm.slots) (hn : As.length = na) (hst : st = As.reverse ++ rest) (hsz : Nat.ble (rest.map fun v => v.category).sum 8 = true) (hd : decode cc pc = .ok (.invokestatic idx, 3)) (h : wp K) (hk : ∀ (μ1 : qM), K μ1 → qV Z G nL (k + mc) (n + ms) μ1 (pc + 3) L rest) : qV Z G nL k n μ pc L st := fun H locs ls hP hS hL => va_callv (run_S C Y hin hlk (hM K) hR hf hn hst hsz hd h hP hS hL) hS (fun q _ h => h) (fun q h => h) (fun u t H1 locs1 ht _ hw hB _ _ hS1 => hk u hw H1 locs1 ls (by rw [← ht]; exact hB) hS1 hL)
theorem x_Nv (As rest : List Value) (C : qX Z G own cc nL rm ret) {y : MethodName} {bytes : ByteArray} {maxL na idx mc ms : Nat} {ret' : Option FieldType} {rmc : Room} {wp : (qM → Prop) → Prop} {K : qM → Prop} (Y : qY y bytes maxL ret' na rmc mc ms) (hin : Cond.static y ∈ wsL_law) {host : String} (hlk : (own, idx, y, host) ∈ qNt) (hM : qCv Z.2.1 G y bytes maxL ret' rmc mc ms As μ wp) (hR : (Nat.ble (rmc.frames + 1) rm.frames && Nat.ble (8 + (maxL + 11) + rmc.locals) rm.locals) = true) (hf : k + mc ≤ rm.cells ∧ n + ms ≤ rm.slots) (hn : As.length = na) (hst : st = As.reverse ++ rest) (hsz : Nat.ble (rest.map fun v => v.category).sum 8 = true) (hd : decode cc pc = .ok (.invokestatic idx, 3)) (h : wp K) (hk : ∀ (μ1 : qM), K μ1 → qV Z G nL (k + mc) (n + ms) μ1 (pc + 3) L rest) : qV Z G nL k n μ pc L st := fun H locs ls hP hS hL => va_callv (run_N C Y hin hlk (hM K) hR hf hn hst hsz hd h hP hS hL) hS (fun q _ h => h) (fun q h => h) (fun u t H1 locs1 ht _ hw hB _ _ hS1 => hk u hw H1 locs1 ls (by rw [← ht]; exact hB) hS1 hL)
theorem x_Vr (As rest : List Value) (C : qX Z G own cc nL rm ret) {y : MethodName} {bytes : ByteArray} {maxL na idx mc ms : Nat} {ret' : Option FieldType} {rmc : Room} (o κ : Nat) {C0 : String} {T : u_T} {N : Nat} {wp : (Nat → qM → Prop) → Prop} {K : Nat → qM → Prop} (Y : qY y bytes maxL ret' na rmc mc ms) (hin : Cond.instanceMethod y ∈ wsL_law) (hsel : Cond.selects y.cls y y ∈ wsL_law) (hlk : Cond.methodLink own idx y ∈ wsL_law) (hM : qCr Z.2.1 G y bytes maxL ret' rmc mc ms (.ref (ga G o) :: As) μ wp) (ho : o < gn G) (hko : qk o = κ) (h11 : κ < 11) (hc : vwCl[κ]? = some (C0, T, N)) (hcl : C0 = y.cls) (hR : (Nat.ble (rmc.frames + 1) rm.frames && Nat.ble (8 + (maxL + 11) + rmc.locals) rm.locals) = true) (hf : k + mc ≤ rm.cells ∧ n + ms ≤ rm.slots) (hn : As.length = na) (hst : st = As.reverse ++ .ref (ga G o) :: rest) (hsz : Nat.ble (rest.map fun v => v.category).sum 8 = true) (hd : decode cc pc = .ok (.invokevirtual idx, 3)) (h : wp K) (hk : ∀ (r : Nat) (μ1 : qM), K r μ1 → qV Z G nL (k + mc) (n + ms) μ1 (pc + 3) L (.ref (ga G r) :: rest)) : qV Z G nL k n μ pc L st := fun H locs ls hP hS hL => va_callr (run_V C Y hin hsel hlk (hM K) hR hf hn hst hsz hd h (by rw [← hcl]; exact q_recv C ho hko h11 hc hP) hP hS hL) hS (fun q _ h => h) (fun q h => h) (fun u ra t H1 locs1 ht _ hw hB _ _ hS1 => by rw [hB.1]; exact hk u.1 u.2 hw H1 locs1 ls (by rw [← ht]; exact hB.2) hS1 hL)
theorem x_Sr (As rest : List Value) (C : qX Z G own cc nL rm ret) {y : MethodName} {bytes : ByteArray} {maxL na idx mc ms : Nat} {ret' : Option FieldType} {rmc : Room} {wp : (Nat → qM → Prop) → Prop} {K : Nat → qM → Prop} (Y : qY y bytes maxL ret' na rmc mc ms) (hin : Cond.static y ∈ wsL_law) (hlk : Cond.methodLink own idx y ∈ wsL_law) (hM : qCr Z.2.1 G y bytes maxL ret' rmc mc ms As μ wp) (hR : (Nat.ble (rmc.frames + 1) rm.frames && Nat.ble (8 + (maxL + 11) + rmc.locals) rm.locals) = true) (hf : k + mc ≤ rm.cells ∧ n + ms ≤ rm.slots) (hn : As.length = na) (hst : st = As.reverse ++ rest) (hsz : Nat.ble (rest.map fun v => v.category).sum 8 = true) (hd : decode cc pc = .ok (.invokestatic idx, 3)) (h : wp K) (hk : ∀ (r : Nat) (μ1 : qM), K r μ1 → qV Z G nL (k + mc) (n + ms) μ1 (pc + 3) L (.ref (ga G r) :: rest)) : qV Z G nL k n μ pc L st := fun H locs ls hP hS hL => va_callr (run_S C Y hin hlk (hM K) hR hf hn hst hsz hd h hP hS hL) hS (fun q _ h => h) (fun q h => h) (fun u ra t H1 locs1 ht _ hw hB _ _ hS1 => by rw [hB.1]; exact hk u.1 u.2 hw H1 locs1 ls (by rw [← ht]; exact hB.2) hS1 hL)
theorem x_Nr (As rest : List Value) (C : qX Z G own cc nL rm ret) {y : MethodName} {bytes : ByteArray} {maxL na idx mc ms : Nat} {ret' : Option FieldType} {rmc : Room} {wp : (Nat → qM → Prop) → Prop} {K : Nat → qM → Prop} (Y : qY y bytes maxL ret' na rmc mc ms) (hin : Cond.static y ∈ wsL_law) {host : String} (hlk : (own, idx, y, host) ∈ qNt) (hM : qCr Z.2.1 G y bytes maxL ret' rmc mc ms As μ wp) (hR : (Nat.ble (rmc.frames + 1) rm.frames && Nat.ble (8 + (maxL + 11) + rmc.locals) rm.locals) = true) (hf : k + mc ≤ rm.cells ∧ n + ms ≤ rm.slots) (hn : As.length = na) (hst : st = As.reverse ++ rest) (hsz : Nat.ble (rest.map fun v => v.category).sum 8 = true) (hd : decode cc pc = .ok (.invokestatic idx, 3)) (h : wp K) (hk : ∀ (r : Nat) (μ1 : qM), K r μ1 → qV Z G nL (k + mc) (n + ms) μ1 (pc + 3) L (.ref (ga G r) :: rest)) : qV Z G nL k n μ pc L st := fun H locs ls hP hS hL => va_callr (run_N C Y hin hlk (hM K) hR hf hn hst hsz hd h hP hS hL) hS (fun q _ h => h) (fun q h => h) (fun u ra t H1 locs1 ht _ hw hB _ _ hS1 => by rw [hB.1]; exact hk u.1 u.2 hw H1 locs1 ls (by rw [← ht]; exact hB.2) hS1 hL)
theorem x_Vs (As rest : List Value) (C : qX Z G own cc nL rm ret) {y : MethodName} {bytes : ByteArray} {maxL na idx mc ms : Nat} {ret' : Option FieldType} {rmc : Room} (o κ : Nat) {C0 : String} {T : u_T} {N : Nat} {wp : (Nat → qM → Prop) → Prop} {K : Nat → qM → Prop} (Y : qY y bytes maxL ret' na rmc mc ms) (hin : Cond.instanceMethod y ∈ wsL_law) (hsel : Cond.selects y.cls y y ∈ wsL_law) (hlk : Cond.methodLink own idx y ∈ wsL_law) (hM : qCs Z.2.1 G y bytes maxL ret' rmc mc ms (.ref (ga G o) :: As) μ wp) (ho : o < gn G) (hko : qk o = κ) (h11 : κ < 11) (hc : vwCl[κ]? = some (C0, T, N)) (hcl : C0 = y.cls) (hR : (Nat.ble (rmc.frames + 1) rm.frames && Nat.ble (8 + (maxL + 11) + rmc.locals) rm.locals) = true) (hf : k + mc ≤ rm.cells ∧ n + ms ≤ rm.slots) (hn : As.length = na) (hst : st = As.reverse ++ .ref (ga G o) :: rest) (hsz : Nat.ble (rest.map fun v => v.category).sum 8 = true) (hd : decode cc pc = .ok (.invokevirtual idx, 3)) (h : wp K) (hk : ∀ (r : Nat) (μ1 : qM), K r μ1 → qV Z G nL (k + mc) (n + ms) μ1 (pc + 3) L (.ref (gK G r) :: rest)) : qV Z G nL k n μ pc L st := fun H locs ls hP hS hL => va_callr (run_V C Y hin hsel hlk (hM K) hR hf hn hst hsz hd h (by rw [← hcl]; exact q_recv C ho hko h11 hc hP) hP hS hL) hS (fun q _ h => h) (fun q h => h) (fun u ra t H1 locs1 ht _ hw hB _ _ hS1 => by rw [hB.1]; exact hk u.1 u.2 hw H1 locs1 ls (by rw [← ht]; exact hB.2) hS1 hL)
theorem x_Ss (As rest : List Value) (C : qX Z G own cc nL rm ret) {y : MethodName} {bytes : ByteArray} {maxL na idx mc ms : Nat} {ret' : Option FieldType} {rmc : Room} {wp : (Nat → qM → Prop) → Prop} {K : Nat → qM → Prop} (Y : qY y bytes maxL ret' na rmc mc ms) (hin : Cond.static y ∈ wsL_law) (hlk : Cond.methodLink own idx y ∈ wsL_law) (hM : qCs Z.2.1 G y bytes maxL ret' rmc mc ms As μ wp) (hR : (Nat.ble (rmc.frames + 1) rm.frames && Nat.ble (8 + (maxL + 11) + rmc.locals) rm.locals) = true) (hf : k + mc ≤ rm.cells ∧ n + ms ≤ rm.slots) (hn : As.length = na) (hst : st = As.reverse ++ rest) (hsz : Nat.ble (rest.map fun v => v.category).sum 8 = true) (hd : decode cc pc = .ok (.invokestatic idx, 3)) (h : wp K) (hk : ∀ (r : Nat) (μ1 : qM), K r μ1 → qV Z G nL (k + mc) (n + ms) μ1 (pc + 3) L (.ref (gK G r) :: rest)) : qV Z G nL k n μ pc L st := fun H locs ls hP hS hL => va_callr (run_S C Y hin hlk (hM K) hR hf hn hst hsz hd h hP hS hL) hS (fun q _ h => h) (fun q h => h) (fun u ra t H1 locs1 ht _ hw hB _ _ hS1 => by rw [hB.1]; exact hk u.1 u.2 hw H1 locs1 ls (by rw [← ht]; exact hB.2) hS1 hL)
theorem x_Ns (As rest : List Value) (C : qX Z G own cc nL rm ret) {y : MethodName} {bytes : ByteArray} {maxL na idx mc ms : Nat} {ret' : Option FieldType} {rmc : Room} {wp : (Nat → qM → Prop) → Prop} {K : Nat → qM → Prop} (Y : qY y bytes maxL ret' na rmc mc ms) (hin : Cond.static y ∈ wsL_law) {host : String} (hlk : (own, idx, y, host) ∈ qNt) (hM : qCs Z.2.1 G y bytes maxL ret' rmc mc ms As μ wp) (hR : (Nat.ble (rmc.frames + 1) rm.frames && Nat.ble (8 + (maxL + 11) + rmc.locals) rm.locals) = true) (hf : k + mc ≤ rm.cells ∧ n + ms ≤ rm.slots) (hn : As.length = na) (hst : st = As.reverse ++ rest) (hsz : Nat.ble (rest.map fun v => v.category).sum 8 = true) (hd : decode cc pc = .ok (.invokestatic idx, 3)) (h : wp K) (hk : ∀ (r : Nat) (μ1 : qM), K r μ1 → qV Z G nL (k + mc) (n + ms) μ1 (pc + 3) L (.ref (gK G r) :: rest)) : qV Z G nL k n μ pc L st := fun H locs ls hP hS hL => va_callr (run_N C Y hin hlk (hM K) hR hf hn hst hsz hd h hP hS hL) hS (fun q _ h => h) (fun q h => h) (fun u ra t H1 locs1 ht _ hw hB _ _ hS1 => by rw [hB.1]; exact hk u.1 u.2 hw H1 locs1 ls (by rw [← ht]; exact hB.2) hS1 hL)
theorem qCi_of {l : Launch} {G : qG} {y : MethodName} {bytes : ByteArray} {maxL : Nat} {ret' : Option FieldType} {rmc : Room} {vs : List Value} {μ : qM} {wp : (Int32 → qM → Prop) → Prop} {L : List (Nat × Value)} (hy : plainName y.cls = true) (hL : lv_args 0 vs = L) (hn : Nat.ble (lg_sl vs).length maxL = true) (h : ∀ (Z : qZ) (post : Int32 → qM → Prop), Z.2.1 = l → qX Z G y.cls bytes maxL rmc ret' → qQi Z G 0 0 post → wp post → qV Z G maxL 0 0 μ 0 L []) : qCi l G y bytes maxL ret' rmc 0 0 vs μ wp := by
  intro post
  refine Met.ofW (cc := bytes) (maxL := maxL) (ret := ret') hy rfl ?_
  intro p e s m args below meth c s₁ B hml hv
  obtain ⟨rfl, ⟨hP, hK, hD, hb, hE⟩, hw⟩ := hv
  have hts := atoms_spec (ws := .code y bytes maxL ret' :: wsL_law) B.pre
  have hown : s.vm.findClass y.cls = some m.cls := findClass_of_methodNamed B.named
  rw [lg_entry_eq]
  exact h (p, l, e, rmc, s, m, vs.toArray, below, meth, c, MQ below (va_Qi post (fun μ t => qH G μ t.heap) (qA G)) vs.toArray s 0 0 (qA G)) post rfl ⟨B.exec, B.bytes, hml, hown, fun w hw => hts w (List.mem_cons_of_mem _ hw), rfl, B.returns, B.notSynchronized, hK, qD_any hD, hb, hE⟩ rfl hw s.heap [] _ hP va_S.rf (by rw [← hL]; exact lv_entry vs (Nat.le_of_ble_eq_true hn))
theorem qCv_of {l : Launch} {G : qG} {y : MethodName} {bytes : ByteArray} {maxL : Nat} {ret' : Option FieldType} {rmc : Room} {vs : List Value} {μ : qM} {wp : (qM → Prop) → Prop} {L : List (Nat × Value)} (hy : plainName y.cls = true) (hL : lv_args 0 vs = L) (hn : Nat.ble (lg_sl vs).length maxL = true) (h : ∀ (Z : qZ) (post : qM → Prop), Z.2.1 = l → qX Z G y.cls bytes maxL rmc ret' → qQv Z G 0 0 post → wp post → qV Z G maxL 0 0 μ 0 L []) : qCv l G y bytes maxL ret' rmc 0 0 vs μ wp := by
  intro post
  refine Met.ofW (cc := bytes) (maxL := maxL) (ret := ret') hy rfl ?_
  intro p e s m args below meth c s₁ B hml hv
  obtain ⟨rfl, ⟨hP, hK, hD, hb, hE⟩, hw⟩ := hv
  have hts := atoms_spec (ws := .code y bytes maxL ret' :: wsL_law) B.pre
  have hown : s.vm.findClass y.cls = some m.cls := findClass_of_methodNamed B.named
  rw [lg_entry_eq]
  exact h (p, l, e, rmc, s, m, vs.toArray, below, meth, c, MQ below (va_Qv post (fun μ t => qH G μ t.heap) (qA G)) vs.toArray s 0 0 (qA G)) post rfl ⟨B.exec, B.bytes, hml, hown, fun w hw => hts w (List.mem_cons_of_mem _ hw), rfl, B.returns, B.notSynchronized, hK, qD_any hD, hb, hE⟩ rfl hw s.heap [] _ hP va_S.rf (by rw [← hL]; exact lv_entry vs (Nat.le_of_ble_eq_true hn))
theorem qCr_of {l : Launch} {G : qG} {y : MethodName} {bytes : ByteArray} {maxL : Nat} {ret' : Option FieldType} {rmc : Room} {vs : List Value} {μ : qM} {wp : (Nat → qM → Prop) → Prop} {L : List (Nat × Value)} (hy : plainName y.cls = true) (hL : lv_args 0 vs = L) (hn : Nat.ble (lg_sl vs).length maxL = true) (h : ∀ (Z : qZ) (post : Nat → qM → Prop), Z.2.1 = l → qX Z G y.cls bytes maxL rmc ret' → qQr Z G 0 0 post → wp post → qV Z G maxL 0 0 μ 0 L []) : qCr l G y bytes maxL ret' rmc 0 0 vs μ wp := by
  intro post
  refine Met.ofW (cc := bytes) (maxL := maxL) (ret := ret') hy rfl ?_
  intro p e s m args below meth c s₁ B hml hv
  obtain ⟨rfl, ⟨hP, hK, hD, hb, hE⟩, hw⟩ := hv
  have hts := atoms_spec (ws := .code y bytes maxL ret' :: wsL_law) B.pre
  have hown : s.vm.findClass y.cls = some m.cls := findClass_of_methodNamed B.named
  rw [lg_entry_eq]
  exact h (p, l, e, rmc, s, m, vs.toArray, below, meth, c, MQ below (va_Qr (fun u : Nat × qM => post u.1 u.2) (fun u a t => a = ga G u.1 ∧ qH G u.2 t.heap) (qA G)) vs.toArray s 0 0 (qA G)) post rfl ⟨B.exec, B.bytes, hml, hown, fun w hw => hts w (List.mem_cons_of_mem _ hw), rfl, B.returns, B.notSynchronized, hK, qD_any hD, hb, hE⟩ rfl hw s.heap [] _ hP va_S.rf (by rw [← hL]; exact lv_entry vs (Nat.le_of_ble_eq_true hn))
theorem qCs_of {l : Launch} {G : qG} {y : MethodName} {bytes : ByteArray} {maxL : Nat} {ret' : Option FieldType} {rmc : Room} {vs : List Value} {μ : qM} {wp : (Nat → qM → Prop) → Prop} {L : List (Nat × Value)} (hy : plainName y.cls = true) (hL : lv_args 0 vs = L) (hn : Nat.ble (lg_sl vs).length maxL = true) (h : ∀ (Z : qZ) (post : Nat → qM → Prop), Z.2.1 = l → qX Z G y.cls bytes maxL rmc ret' → qQs Z G 0 0 post → wp post → qV Z G maxL 0 0 μ 0 L []) : qCs l G y bytes maxL ret' rmc 0 0 vs μ wp := by
  intro post
  refine Met.ofW (cc := bytes) (maxL := maxL) (ret := ret') hy rfl ?_
  intro p e s m args below meth c s₁ B hml hv
  obtain ⟨rfl, ⟨hP, hK, hD, hb, hE⟩, hw⟩ := hv
  have hts := atoms_spec (ws := .code y bytes maxL ret' :: wsL_law) B.pre
  have hown : s.vm.findClass y.cls = some m.cls := findClass_of_methodNamed B.named
  rw [lg_entry_eq]
  exact h (p, l, e, rmc, s, m, vs.toArray, below, meth, c, MQ below (va_Qr (fun u : Nat × qM => post u.1 u.2) (fun u a t => a = gK G u.1 ∧ qH G u.2 t.heap) (qA G)) vs.toArray s 0 0 (qA G)) post rfl ⟨B.exec, B.bytes, hml, hown, fun w hw => hts w (List.mem_cons_of_mem _ hw), rfl, B.returns, B.notSynchronized, hK, qD_any hD, hb, hE⟩ rfl hw s.heap [] _ hP va_S.rf (by rw [← hL]; exact lv_entry vs (Nat.le_of_ble_eq_true hn))
end CORE
def qL0 (F : (qM → Prop) → qM → Prop) : qM → Prop := fun μ => ∀ P : qM → Prop, (∀ μ, F P μ → P μ) → P μ
theorem qL0_rule (I : qM → Prop) (w : qM → Nat) {F : (qM → Prop) → qM → Prop} (h : ∀ (P : qM → Prop) μ, I μ → (∀ ν, I ν → w ν < w μ → P ν) → F P μ) : ∀ μ, I μ → qL0 F μ := by
  intro μ hI P hP
  have key : ∀ (N : Nat) μ, w μ < N → I μ → P μ := by
    intro N
    induction N with
    | zero => intro μ hN; omega
    | succ N ih =>
      intro μ hN hI
      exact hP _ (h P μ hI (fun ν hI' hlt => ih ν (by omega) hI'))
  exact key _ μ (Nat.lt_succ_self _) hI
def qL1 (F : (Int32 → qM → Prop) → Int32 → qM → Prop) : Int32 → qM → Prop := fun a0 μ => ∀ P : Int32 → qM → Prop, (∀ a0 μ, F P a0 μ → P a0 μ) → P a0 μ
theorem qL1_rule (I : Int32 → qM → Prop) (w : Int32 → qM → Nat) {F : (Int32 → qM → Prop) → Int32 → qM → Prop} (h : ∀ (P : Int32 → qM → Prop) a0 μ, I a0 μ → (∀ b0 ν, I b0 ν → w b0 ν < w a0 μ → P b0 ν) → F P a0 μ) : ∀ a0 μ, I a0 μ → qL1 F a0 μ := by
  intro a0 μ hI P hP
  have key : ∀ (N : Nat) a0 μ, w a0 μ < N → I a0 μ → P a0 μ := by
    intro N
    induction N with
    | zero => intro a0 μ hN; omega
    | succ N ih =>
      intro a0 μ hN hI
      exact hP _ _ (h P a0 μ hI (fun b0 ν hI' hlt => ih b0 ν (by omega) hI'))
  exact key _ a0 μ (Nat.lt_succ_self _) hI
def qL2 (F : (Int32 → Int32 → qM → Prop) → Int32 → Int32 → qM → Prop) : Int32 → Int32 → qM → Prop := fun a0 a1 μ => ∀ P : Int32 → Int32 → qM → Prop, (∀ a0 a1 μ, F P a0 a1 μ → P a0 a1 μ) → P a0 a1 μ
theorem qL2_rule (I : Int32 → Int32 → qM → Prop) (w : Int32 → Int32 → qM → Nat) {F : (Int32 → Int32 → qM → Prop) → Int32 → Int32 → qM → Prop} (h : ∀ (P : Int32 → Int32 → qM → Prop) a0 a1 μ, I a0 a1 μ → (∀ b0 b1 ν, I b0 b1 ν → w b0 b1 ν < w a0 a1 μ → P b0 b1 ν) → F P a0 a1 μ) : ∀ a0 a1 μ, I a0 a1 μ → qL2 F a0 a1 μ := by
  intro a0 a1 μ hI P hP
  have key : ∀ (N : Nat) a0 a1 μ, w a0 a1 μ < N → I a0 a1 μ → P a0 a1 μ := by
    intro N
    induction N with
    | zero => intro a0 a1 μ hN; omega
    | succ N ih =>
      intro a0 a1 μ hN hI
      exact hP _ _ _ (h P a0 a1 μ hI (fun b0 b1 ν hI' hlt => ih b0 b1 ν (by omega) hI'))
  exact key _ a0 a1 μ (Nat.lt_succ_self _) hI
def qL3 (F : (Int32 → Int32 → Int32 → qM → Prop) → Int32 → Int32 → Int32 → qM → Prop) : Int32 → Int32 → Int32 → qM → Prop := fun a0 a1 a2 μ => ∀ P : Int32 → Int32 → Int32 → qM → Prop, (∀ a0 a1 a2 μ, F P a0 a1 a2 μ → P a0 a1 a2 μ) → P a0 a1 a2 μ
theorem qL3_rule (I : Int32 → Int32 → Int32 → qM → Prop) (w : Int32 → Int32 → Int32 → qM → Nat) {F : (Int32 → Int32 → Int32 → qM → Prop) → Int32 → Int32 → Int32 → qM → Prop} (h : ∀ (P : Int32 → Int32 → Int32 → qM → Prop) a0 a1 a2 μ, I a0 a1 a2 μ → (∀ b0 b1 b2 ν, I b0 b1 b2 ν → w b0 b1 b2 ν < w a0 a1 a2 μ → P b0 b1 b2 ν) → F P a0 a1 a2 μ) : ∀ a0 a1 a2 μ, I a0 a1 a2 μ → qL3 F a0 a1 a2 μ := by
  intro a0 a1 a2 μ hI P hP
  have key : ∀ (N : Nat) a0 a1 a2 μ, w a0 a1 a2 μ < N → I a0 a1 a2 μ → P a0 a1 a2 μ := by
    intro N
    induction N with
    | zero => intro a0 a1 a2 μ hN; omega
    | succ N ih =>
      intro a0 a1 a2 μ hN hI
      exact hP _ _ _ _ (h P a0 a1 a2 μ hI (fun b0 b1 b2 ν hI' hlt => ih b0 b1 b2 ν (by omega) hI'))
  exact key _ a0 a1 a2 μ (Nat.lt_succ_self _) hI
def qL4 (F : (Int32 → Int32 → Int32 → Int32 → qM → Prop) → Int32 → Int32 → Int32 → Int32 → qM → Prop) : Int32 → Int32 → Int32 → Int32 → qM → Prop := fun a0 a1 a2 a3 μ => ∀ P : Int32 → Int32 → Int32 → Int32 → qM → Prop, (∀ a0 a1 a2 a3 μ, F P a0 a1 a2 a3 μ → P a0 a1 a2 a3 μ) → P a0 a1 a2 a3 μ
theorem qL4_rule (I : Int32 → Int32 → Int32 → Int32 → qM → Prop) (w : Int32 → Int32 → Int32 → Int32 → qM → Nat) {F : (Int32 → Int32 → Int32 → Int32 → qM → Prop) → Int32 → Int32 → Int32 → Int32 → qM → Prop} (h : ∀ (P : Int32 → Int32 → Int32 → Int32 → qM → Prop) a0 a1 a2 a3 μ, I a0 a1 a2 a3 μ → (∀ b0 b1 b2 b3 ν, I b0 b1 b2 b3 ν → w b0 b1 b2 b3 ν < w a0 a1 a2 a3 μ → P b0 b1 b2 b3 ν) → F P a0 a1 a2 a3 μ) : ∀ a0 a1 a2 a3 μ, I a0 a1 a2 a3 μ → qL4 F a0 a1 a2 a3 μ := by
  intro a0 a1 a2 a3 μ hI P hP
  have key : ∀ (N : Nat) a0 a1 a2 a3 μ, w a0 a1 a2 a3 μ < N → I a0 a1 a2 a3 μ → P a0 a1 a2 a3 μ := by
    intro N
    induction N with
    | zero => intro a0 a1 a2 a3 μ hN; omega
    | succ N ih =>
      intro a0 a1 a2 a3 μ hN hI
      exact hP _ _ _ _ _ (h P a0 a1 a2 a3 μ hI (fun b0 b1 b2 b3 ν hI' hlt => ih b0 b1 b2 b3 ν (by omega) hI'))
  exact key _ a0 a1 a2 a3 μ (Nat.lt_succ_self _) hI
def qL5 (F : (Int32 → Int32 → Int32 → Int32 → Int32 → qM → Prop) → Int32 → Int32 → Int32 → Int32 → Int32 → qM → Prop) : Int32 → Int32 → Int32 → Int32 → Int32 → qM → Prop := fun a0 a1 a2 a3 a4 μ => ∀ P : Int32 → Int32 → Int32 → Int32 → Int32 → qM → Prop, (∀ a0 a1 a2 a3 a4 μ, F P a0 a1 a2 a3 a4 μ → P a0 a1 a2 a3 a4 μ) → P a0 a1 a2 a3 a4 μ
theorem qL5_rule (I : Int32 → Int32 → Int32 → Int32 → Int32 → qM → Prop) (w : Int32 → Int32 → Int32 → Int32 → Int32 → qM → Nat) {F : (Int32 → Int32 → Int32 → Int32 → Int32 → qM → Prop) → Int32 → Int32 → Int32 → Int32 → Int32 → qM → Prop} (h : ∀ (P : Int32 → Int32 → Int32 → Int32 → Int32 → qM → Prop) a0 a1 a2 a3 a4 μ, I a0 a1 a2 a3 a4 μ → (∀ b0 b1 b2 b3 b4 ν, I b0 b1 b2 b3 b4 ν → w b0 b1 b2 b3 b4 ν < w a0 a1 a2 a3 a4 μ → P b0 b1 b2 b3 b4 ν) → F P a0 a1 a2 a3 a4 μ) : ∀ a0 a1 a2 a3 a4 μ, I a0 a1 a2 a3 a4 μ → qL5 F a0 a1 a2 a3 a4 μ := by
  intro a0 a1 a2 a3 a4 μ hI P hP
  have key : ∀ (N : Nat) a0 a1 a2 a3 a4 μ, w a0 a1 a2 a3 a4 μ < N → I a0 a1 a2 a3 a4 μ → P a0 a1 a2 a3 a4 μ := by
    intro N
    induction N with
    | zero => intro a0 a1 a2 a3 a4 μ hN; omega
    | succ N ih =>
      intro a0 a1 a2 a3 a4 μ hN hI
      exact hP _ _ _ _ _ _ (h P a0 a1 a2 a3 a4 μ hI (fun b0 b1 b2 b3 b4 ν hI' hlt => ih b0 b1 b2 b3 b4 ν (by omega) hI'))
  exact key _ a0 a1 a2 a3 a4 μ (Nat.lt_succ_self _) hI
def qL6 (F : (Int32 → Int32 → Int32 → Int32 → Int32 → Int32 → qM → Prop) → Int32 → Int32 → Int32 → Int32 → Int32 → Int32 → qM → Prop) : Int32 → Int32 → Int32 → Int32 → Int32 → Int32 → qM → Prop := fun a0 a1 a2 a3 a4 a5 μ => ∀ P : Int32 → Int32 → Int32 → Int32 → Int32 → Int32 → qM → Prop, (∀ a0 a1 a2 a3 a4 a5 μ, F P a0 a1 a2 a3 a4 a5 μ → P a0 a1 a2 a3 a4 a5 μ) → P a0 a1 a2 a3 a4 a5 μ
theorem qL6_rule (I : Int32 → Int32 → Int32 → Int32 → Int32 → Int32 → qM → Prop) (w : Int32 → Int32 → Int32 → Int32 → Int32 → Int32 → qM → Nat) {F : (Int32 → Int32 → Int32 → Int32 → Int32 → Int32 → qM → Prop) → Int32 → Int32 → Int32 → Int32 → Int32 → Int32 → qM → Prop} (h : ∀ (P : Int32 → Int32 → Int32 → Int32 → Int32 → Int32 → qM → Prop) a0 a1 a2 a3 a4 a5 μ, I a0 a1 a2 a3 a4 a5 μ → (∀ b0 b1 b2 b3 b4 b5 ν, I b0 b1 b2 b3 b4 b5 ν → w b0 b1 b2 b3 b4 b5 ν < w a0 a1 a2 a3 a4 a5 μ → P b0 b1 b2 b3 b4 b5 ν) → F P a0 a1 a2 a3 a4 a5 μ) : ∀ a0 a1 a2 a3 a4 a5 μ, I a0 a1 a2 a3 a4 a5 μ → qL6 F a0 a1 a2 a3 a4 a5 μ := by
  intro a0 a1 a2 a3 a4 a5 μ hI P hP
  have key : ∀ (N : Nat) a0 a1 a2 a3 a4 a5 μ, w a0 a1 a2 a3 a4 a5 μ < N → I a0 a1 a2 a3 a4 a5 μ → P a0 a1 a2 a3 a4 a5 μ := by
    intro N
    induction N with
    | zero => intro a0 a1 a2 a3 a4 a5 μ hN; omega
    | succ N ih =>
      intro a0 a1 a2 a3 a4 a5 μ hN hI
      exact hP _ _ _ _ _ _ _ (h P a0 a1 a2 a3 a4 a5 μ hI (fun b0 b1 b2 b3 b4 b5 ν hI' hlt => ih b0 b1 b2 b3 b4 b5 ν (by omega) hI'))
  exact key _ a0 a1 a2 a3 a4 a5 μ (Nat.lt_succ_self _) hI
def qL7 (F : (Int32 → Int32 → Int32 → Int32 → Int32 → Int32 → Int32 → qM → Prop) → Int32 → Int32 → Int32 → Int32 → Int32 → Int32 → Int32 → qM → Prop) : Int32 → Int32 → Int32 → Int32 → Int32 → Int32 → Int32 → qM → Prop := fun a0 a1 a2 a3 a4 a5 a6 μ => ∀ P : Int32 → Int32 → Int32 → Int32 → Int32 → Int32 → Int32 → qM → Prop, (∀ a0 a1 a2 a3 a4 a5 a6 μ, F P a0 a1 a2 a3 a4 a5 a6 μ → P a0 a1 a2 a3 a4 a5 a6 μ) → P a0 a1 a2 a3 a4 a5 a6 μ
theorem qL7_rule (I : Int32 → Int32 → Int32 → Int32 → Int32 → Int32 → Int32 → qM → Prop) (w : Int32 → Int32 → Int32 → Int32 → Int32 → Int32 → Int32 → qM → Nat) {F : (Int32 → Int32 → Int32 → Int32 → Int32 → Int32 → Int32 → qM → Prop) → Int32 → Int32 → Int32 → Int32 → Int32 → Int32 → Int32 → qM → Prop} (h : ∀ (P : Int32 → Int32 → Int32 → Int32 → Int32 → Int32 → Int32 → qM → Prop) a0 a1 a2 a3 a4 a5 a6 μ, I a0 a1 a2 a3 a4 a5 a6 μ → (∀ b0 b1 b2 b3 b4 b5 b6 ν, I b0 b1 b2 b3 b4 b5 b6 ν → w b0 b1 b2 b3 b4 b5 b6 ν < w a0 a1 a2 a3 a4 a5 a6 μ → P b0 b1 b2 b3 b4 b5 b6 ν) → F P a0 a1 a2 a3 a4 a5 a6 μ) : ∀ a0 a1 a2 a3 a4 a5 a6 μ, I a0 a1 a2 a3 a4 a5 a6 μ → qL7 F a0 a1 a2 a3 a4 a5 a6 μ := by
  intro a0 a1 a2 a3 a4 a5 a6 μ hI P hP
  have key : ∀ (N : Nat) a0 a1 a2 a3 a4 a5 a6 μ, w a0 a1 a2 a3 a4 a5 a6 μ < N → I a0 a1 a2 a3 a4 a5 a6 μ → P a0 a1 a2 a3 a4 a5 a6 μ := by
    intro N
    induction N with
    | zero => intro a0 a1 a2 a3 a4 a5 a6 μ hN; omega
    | succ N ih =>
      intro a0 a1 a2 a3 a4 a5 a6 μ hN hI
      exact hP _ _ _ _ _ _ _ _ (h P a0 a1 a2 a3 a4 a5 a6 μ hI (fun b0 b1 b2 b3 b4 b5 b6 ν hI' hlt => ih b0 b1 b2 b3 b4 b5 b6 ν (by omega) hI'))
  exact key _ a0 a1 a2 a3 a4 a5 a6 μ (Nat.lt_succ_self _) hI
