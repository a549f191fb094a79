/-! CONSTRUCTORS: the world is a list of cells, at addresses that are variables -/
def kNt : List (String × Nat × MethodName × String) := [(RX9, 11, yX1_init, RX10), (RX10, 28, yX8_init, RX10), (RX10, 45, yX7_init, RX10), (RX10, 52, yX3_init, RX10), (RX10, 59, yX4_init, RX10), (RX10, 66, yX0_init, RX10), (RX10, 71, yX6_init, RX10)]
def kE (b : Bool) (U : State) : Prop := b = true → va_AO "EqualPlain$Sheet" U ∧ ∀ t ∈ kNt, va_Nw (.methodLinkNest t.1 t.2.1 t.2.2.1 t.2.2.2) U
theorem kE_calling {b : Bool} {U : State} (g : JFrame) (mk : MethodId) (a : Array Value) (h : kE b U) : kE b (U.calling g mk a) := fun hb => ⟨va_AO.moved (u := U) (U := U.calling g mk a) (Vm.Alike.refl U.vm) (h hb).1, fun t ht => va_Nw.same (u := U) rfl rfl ((h hb).2 t ht)⟩
theorem kE_warm {b : Bool} {s U : State} (hW : s.WarmedH U.vm) (h : kE b s) : kE b U := fun hb => ⟨va_AO.moved hW.alike (h hb).1, fun t ht => va_Nw.warmM hW ((h hb).2 t ht)⟩
def kV (Z : qZ) (G : qG) (A : Nat → Prop) (nL k n : Nat) (ws : va_W) (pc : Nat) (L : List (Nat × Value)) (st : List Value) : Prop := ∀ (H : Heap) (locs : List Loc) (ls : Array Slot), va_P (gD G) vwCl ws H → va_D A ws → va_S A (zs Z).heap H locs → lv_has ls nL L → W Z.1 Z.2.1 Z.2.2.1 Z.2.2.2.1 Z.2.2.2.2.1 Z.2.2.2.2.2.1 Z.2.2.2.2.2.2.1 Z.2.2.2.2.2.2.2.1 Z.2.2.2.2.2.2.2.2.1 Z.2.2.2.2.2.2.2.2.2.1 H locs k n Z.2.2.2.2.2.2.2.2.2.2 (F0 Z.2.2.2.2.2.1 pc ls st)
def kX (b : Bool) (Z : qZ) (G : qG) (A : Nat → Prop) (own : String) (cc : ByteArray) (nL : Nat) (rm : Room) (nm : String) : Prop :=
  Z.1.tables.exec = Jvm.exec ∧ Z.2.2.2.2.2.2.2.2.2.1.code = cc ∧ Z.2.2.2.2.2.2.2.2.2.1.maxLocals = nL ∧ (zs Z).vm.findClass own = some Z.2.2.2.2.2.1.cls ∧ (∀ w ∈ wsL_law, w.before Z.2.2.2.2.2.2.1 (zs Z) = true) ∧ Z.2.2.2.1 = rm ∧ Z.2.2.2.2.2.2.2.2.1.sig.returnType = none ∧ Z.2.2.2.2.2.2.2.2.1.locks = false ∧ va_K (gD G) vwCl (qty G) (zs Z) ∧ (∀ q : Nat, (zs Z).heap.size ≤ q → A q) ∧ Z.2.2.2.2.2.2.2.2.1.name = nm ∧ kE b (zs Z)
def kP (b : Bool) (G : qG) (w0 : va_W) (sz : Nat) (U : State) : Prop := U.heap.size = sz ∧ va_P (gD G) vwCl w0 U.heap ∧ va_K (gD G) vwCl (qty G) U ∧ va_D (fun _ => True) w0 ∧ kE b U
def kB (G : qG) (w0 : va_W) (sz : Nat) (w1 : va_W) (t : State) : Prop := va_P (gD G) vwCl w1 t.heap ∧ va_D (va_A w0 sz) w1
def kC (b : Bool) (l : Launch) (G : qG) (y : MethodName) (bytes : ByteArray) (maxL : Nat) (rmc : Room) (mc ms : Nat) (vs : List Value) (w0 : va_W) (K : va_W → Prop) : Prop := ∀ sz : Nat, Met l y (.code y bytes maxL none :: wsL_law) rmc (va_Pc vs (kP b G w0 sz)) (va_Qv K (kB G w0 sz) (va_A w0 sz)) mc ms (va_A w0 sz)
def kQ (Z : qZ) (G : qG) (A : Nat → Prop) (kc ks : Nat) (K : va_W → Prop) : Prop := Z.2.2.2.2.2.2.2.2.2.2 = MQ Z.2.2.2.2.2.2.2.1 (va_Qv K (fun w1 t => va_P (gD G) vwCl w1 t.heap ∧ va_D A w1) A) Z.2.2.2.2.2.2.1 (zs Z) kc ks A
section KON
variable {b : Bool} {Z : qZ} {G : qG} {A : Nat → Prop} {own : String} {cc : ByteArray} {nL k n : Nat} {rm : Room} {nm : String} {ws ws' : va_W} {pc : Nat} {L L' : List (Nat × Value)} {st : List Value}
theorem kC_of {l : Launch} {y : MethodName} {bytes : ByteArray} {maxL : Nat} {rmc : Room} {mc ms : Nat} {vs : List Value} {w0 : va_W} {K : va_W → Prop} {L : List (Nat × Value)} (hy : plainName y.cls = true) (hL : lv_args 0 vs = L) (hn : Nat.ble (lg_sl vs).length maxL = true) (h : ∀ (Z : qZ) (A : Nat → Prop), Z.2.1 = l → kX b Z G A y.cls bytes maxL rmc y.name → kQ Z G A mc ms K → kV Z G A maxL 0 0 w0 0 L []) : kC b l G y bytes maxL rmc mc ms vs w0 K := by
  intro sz
  refine Met.ofW (cc := bytes) (maxL := maxL) (ret := none) hy rfl ?_
  intro p e s m args below meth c s₁ B hml hv
  obtain ⟨rfl, hsz, hP, hK, hD, hO⟩ := hv
  have hts := atoms_spec (ws := .code y bytes maxL none :: wsL_law) B.pre
  have hown : s.vm.findClass y.cls = some m.cls := findClass_of_methodNamed B.named
  subst hsz
  rw [lg_entry_eq]
  exact h (p, l, e, rmc, s, m, vs.toArray, below, meth, c, MQ below (va_Qv K (kB G w0 s.heap.size) (va_A w0 s.heap.size)) vs.toArray s mc ms (va_A w0 s.heap.size)) (va_A w0 s.heap.size) rfl ⟨B.exec, B.bytes, hml, hown, fun w hw => hts w (List.mem_cons_of_mem _ hw), rfl, B.returns, B.notSynchronized, hK, fun q h => Or.inr h, (name_of_methodNamed B.named B.method).1, hO⟩ rfl s.heap [] _ hP hD.self va_S.rf (by rw [← hL]; exact lv_entry vs (Nat.le_of_ble_eq_true hn))
theorem k_ws (hw : ws = ws') (h : kV Z G A nL k n ws' pc L st) : kV Z G A nL k n ws pc L st := by rw [hw]; exact h
theorem k_iconst (C : kX b Z G A own cc nL rm nm) {i : Int} {v : Int32} (hd : decode cc pc = .ok (.iconst i, 1)) (hv : Int32.ofInt i = v) (h : kV Z G A nL k n ws (pc + 1) L (.int v :: st)) : kV Z G A nL k n ws pc L st := fun H locs ls hP hD hS hL => lv_iconst C.1 C.2.1 hd hv (h H locs ls hP hD hS hL)
theorem k_bipush (C : kX b Z G A own cc nL rm nm) {i : Int} {v : Int32} (hd : decode cc pc = .ok (.bipush i, 2)) (hv : (Int8.ofInt i).toInt32 = v) (h : kV Z G A nL k n ws (pc + 2) L (.int v :: st)) : kV Z G A nL k n ws pc L st := fun H locs ls hP hD hS hL => lv_bipush C.1 C.2.1 hd hv (h H locs ls hP hD hS hL)
theorem k_sipush (C : kX b Z G A own cc nL rm nm) {i : Int} {v : Int32} (hd : decode cc pc = .ok (.sipush i, 3)) (hv : (Int16.ofInt i).toInt32 = v) (h : kV Z G A nL k n ws (pc + 3) L (.int v :: st)) : kV Z G A nL k n ws pc L st := fun H locs ls hP hD hS hL => lv_sipush C.1 C.2.1 hd hv (h H locs ls hP hD hS hL)
theorem k_iload_n (C : kX b Z G A own cc nL rm nm) (q : Nat) {i : Nat} {f : Fin 4} {x : Int32} (hd : decode cc pc = .ok (.iload_n f, 1)) (hi : (f : Nat) = i) (hq : L[q]? = some (i, .int x)) (h : kV Z G A nL k n ws (pc + 1) L (.int x :: st)) : kV Z G A nL k n ws pc L st := fun H locs ls hP hD hS hL => lv_iload_n C.1 C.2.1 hd hi (lv_at hL q hq) (h H locs ls hP hD hS hL)
theorem k_aload_n (C : kX b Z G A own cc nL rm nm) (q : Nat) {i a : Nat} {f : Fin 4} (hd : decode cc pc = .ok (.aload_n f, 1)) (hi : (f : Nat) = i) (hq : L[q]? = some (i, .ref a)) (h : kV Z G A nL k n ws (pc + 1) L (.ref a :: st)) : kV Z G A nL k n ws pc L st := fun H locs ls hP hD hS hL => lv_aload_n C.1 C.2.1 hd hi (lv_at hL q hq) (h H locs ls hP hD hS hL)
theorem k_istore_n (C : kX b Z G A own cc nL rm nm) {i : Nat} {f : Fin 4} {x : Int32} (hd : decode cc pc = .ok (.istore_n f, 1)) (hi : (f : Nat) = i) (hn : i < nL) (hl : (i, Value.int x) :: L.filter (fun q => !(q.1 == i) && !(q.1 + 1 == i && q.2.category == 2)) = L') (h : kV Z G A nL k n ws (pc + 1) L' st) : kV Z G A nL k n ws pc L (.int x :: st) := fun H locs _ hP hD hS hL => lv_istore_n C.1 C.2.1 hd hi hL hn hl (fun ls' hL' => h H locs ls' hP hD hS hL')
theorem k_iinc (C : kX b Z G A own cc nL rm nm) (q : Nat) {i : Nat} {j : Int} {x v : Int32} (hd : decode cc pc = .ok (.iinc i j, 3)) (hq : L[q]? = some (i, .int x)) (hv : x + Int32.ofInt j = v) (hn : i < nL) (hl : (i, Value.int v) :: L.filter (fun q => !(q.1 == i) && !(q.1 + 1 == i && q.2.category == 2)) = L') (h : kV Z G A nL k n ws (pc + 3) L' st) : kV Z G A nL k n ws pc L st := fun H locs _ hP hD hS hL => lv_iinc C.1 C.2.1 hd hL hq hv hn hl (fun ls' hL' => h H locs ls' hP hD hS hL')
theorem k_dup (C : kX b Z G A own cc nL rm nm) {v : Value} (hd : decode cc pc = .ok (.dup, 1)) (hv : v.category = 1) (h : kV Z G A nL k n ws (pc + 1) L (v :: v :: st)) : kV Z G A nL k n ws pc L (v :: st) := fun H locs ls hP hD hS hL => lv_dup C.1 C.2.1 hd hv (h H locs ls hP hD hS hL)
theorem k_goto (C : kX b Z G A own cc nL rm nm) {off : Int} {tgt : Nat} (hd : decode cc pc = .ok (.goto off, 3)) (ht : (pc : Int) + off = (tgt : Int)) (h : kV Z G A nL k n ws tgt L st) : kV Z G A nL k n ws pc L st := fun H locs ls hP hD hS hL => lv_goto C.1 C.2.1 hd ht (h H locs ls hP hD hS hL)
theorem k_geT (C : kX b Z G A own cc nL rm nm) {x y : Int32} {off : Int} {tgt : Nat} (hd : decode cc pc = .ok (.if_icmp .ge off, 3)) (ht : (pc : Int) + off = (tgt : Int)) (hh : decide (y ≤ x) = true) (kt : kV Z G A nL k n ws tgt L st) : kV Z G A nL k n ws pc L (.int y :: .int x :: st) := fun H locs ls hP hD hS hL => lv_icmp_ge C.1 C.2.1 hd ht (fun _ => kt H locs ls hP hD hS hL) (fun q => absurd (of_decide_eq_true hh) q)
theorem k_geF (C : kX b Z G A own cc nL rm nm) {x y : Int32} {off : Int} {tgt : Nat} (hd : decode cc pc = .ok (.if_icmp .ge off, 3)) (ht : (pc : Int) + off = (tgt : Int)) (hh : decide (y ≤ x) = false) (kf : kV Z G A nL k n ws (pc + 3) L st) : kV Z G A nL k n ws pc L (.int y :: .int x :: st) := fun H locs ls hP hD hS hL => lv_icmp_ge C.1 C.2.1 hd ht (fun q => absurd q (of_decide_eq_false hh)) (fun _ => kf H locs ls hP hD hS hL)
theorem k_obj (C : kX b Z G A own cc nL rm nm) {idx a : Nat} (hlk : Cond.methodLink own idx objectInit ∈ wsL_law) (hd : decode cc pc = .ok (.invokespecial idx, 3)) (hR : (Nat.ble 1 rm.frames && Nat.ble 12 rm.locals) = true) (h : kV Z G A nL k n ws (pc + 3) L []) : kV Z G A nL k n ws pc L [.ref a] := fun H locs ls hP hD hS hL => by
  simp only [Bool.and_eq_true] at hR
  refine W.objInit C.1 C.2.1 C.2.2.2.1 (C.2.2.2.2.1 _ hlk) (C.2.2.2.2.1 _ (qm_1 _ (List.mem_of_getElem? (i := 10) rfl))) (C.2.2.2.2.1 _ (qm_1 _ (List.mem_of_getElem? (i := 11) rfl))) rfl (by rw [C.2.2.1]; exact hL.1) rfl hd (by rw [C.2.2.2.2.2.1]; exact Nat.le_of_ble_eq_true hR.1) (by rw [C.2.2.2.2.2.1]; exact Nat.le_of_ble_eq_true hR.2) ?_
  exact W.eq (g2 := F0 _ (pc + 3) ls []) rfl (h H locs ls hP hD hS hL)
theorem k_put (C : kX b Z G A own cc nL rm nm) (q0 ci f : Nat) {C0 fn fd : String} {T : u_T} {N idx a : Nat} {v : Value} {fs : List Value} {ty : FieldType} {ty0 : Nat → FieldType} (hc : vwCl[ci]? = some (C0, T, N)) (hf : f < N) (hT : T f = (C0, fn, fd, false)) (hin : ∀ w ∈ u_ws C0 T N, w ∈ wsL_law) (hty : ∀ k, k < N → parseFieldDescriptor (T k).2.2.1 = some (ty0 k)) (hnm : ∀ a, a < N → ∀ b, b < N → a ≠ b → (T a).2.1 ≠ (T b).2.1) (hlk : Cond.fieldLink own idx C0 fn fd ∈ wsL_law) (hdn : parseFieldDescriptor fd = some ty) (hn : narrow ty v = v) (hft : fits ty v = true) (he : ws[q0]? = some (a, .inr (ci, fs))) (hl : Nat.blt f fs.length = true) (hw : ws.set q0 (a, .inr (ci, fs.set f v)) = ws') (hd : decode cc pc = .ok (.putfield idx, 3)) (h : kV Z G A nL k n ws' (pc + 3) L st) : kV Z G A nL k n ws pc L (v :: .ref a :: st) := fun H locs ls hP hD hS hL => by
  subst hw
  refine va_put (D := gD G) (ci := ci) (v := v) (ty := ty) (C := C0) (T := T) (N := N) (ref := C0) (index := idx) C.1 C.2.1 C.2.2.2.2.1 hin ty0 hty hnm C.2.2.2.1 C.2.2.2.2.2.2.2.2.1 hP hD hS q0 he hc f hf (by rw [hT]; exact C.2.2.2.2.1 _ hlk) (by rw [hT]; exact fun _ h9 => h9) (by rw [hT]) (by rw [hT]; exact hdn) hn hft (by simpa using hl) hd (fun H locs hP hD hS => h H locs ls hP hD hS hL)
theorem k_putF (C : kX b Z G A own cc nL rm nm) (q0 ci f : Nat) {C0 fn fd : String} {T : u_T} {N idx a : Nat} {v : Value} {fs : List Value} {ty : FieldType} {ty0 : Nat → FieldType} (hnm0 : nm = "<init>") (hcc : C0 = own) (hc : vwCl[ci]? = some (C0, T, N)) (hf : f < N) (hT : T f = (C0, fn, fd, true)) (hin : ∀ w ∈ u_ws C0 T N, w ∈ wsL_law) (hty : ∀ k, k < N → parseFieldDescriptor (T k).2.2.1 = some (ty0 k)) (hnm : ∀ a, a < N → ∀ b, b < N → a ≠ b → (T a).2.1 ≠ (T b).2.1) (hlk : Cond.fieldLink own idx C0 fn fd ∈ wsL_law) (hdn : parseFieldDescriptor fd = some ty) (hn : narrow ty v = v) (hft : fits ty v = true) (he : ws[q0]? = some (a, .inr (ci, fs))) (hl : Nat.blt f fs.length = true) (hw : ws.set q0 (a, .inr (ci, fs.set f v)) = ws') (hd : decode cc pc = .ok (.putfield idx, 3)) (h : kV Z G A nL k n ws' (pc + 3) L st) : kV Z G A nL k n ws pc L (v :: .ref a :: st) := fun H locs ls hP hD hS hL => by
  subst hw
  refine va_putF (D := gD G) (ci := ci) (v := v) (ty := ty) (C := C0) (T := T) (N := N) (ref := C0) (index := idx) C.1 C.2.1 C.2.2.2.2.1 hin ty0 hty hnm C.2.2.2.1 C.2.2.2.2.2.2.2.2.1 hP hD hS q0 he hc f hf (by rw [hT]; exact C.2.2.2.2.1 _ hlk) (by rw [hT]; exact fun _ h9 => h9) (by rw [hT]) (C.2.2.2.2.2.2.2.2.2.2.1.trans hnm0) (by rw [hT]; exact hcc) (by rw [hT]; exact hdn) hn hft (by simpa using hl) hd (fun H locs hP hD hS => h H locs ls hP hD hS hL)
theorem k_get (C : kX b Z G A own cc nL rm nm) (q0 ci f : Nat) {C0 fn fd : String} {T : u_T} {N idx a : Nat} {v : Value} {fs : List Value} (hc : vwCl[ci]? = some (C0, T, N)) (hf : f < N) (hT : T f = (C0, fn, fd, (T f).2.2.2)) (hin : ∀ w ∈ u_ws C0 T N, w ∈ wsL_law) (hlk : Cond.fieldLink own idx C0 fn fd ∈ wsL_law) (he : ws[q0]? = some (a, .inr (ci, fs))) (hv : fs[f]? = some v) (hd : decode cc pc = .ok (.getfield idx, 3)) (h : kV Z G A nL k n ws (pc + 3) L (v :: st)) : kV Z G A nL k n ws pc L (.ref a :: st) := fun H locs ls hP hD hS hL => by
  refine va_get (D := gD G) (ci := ci) (v := v) (C := C0) (T := T) (N := N) (ref := C0) (index := idx) C.1 C.2.1 C.2.2.2.2.1 hin C.2.2.2.1 C.2.2.2.2.2.2.2.2.1 hP q0 he hc f hf (by rw [hT]; exact C.2.2.2.2.1 _ hlk) (by rw [hT]; exact fun _ h9 => h9) hv hd (h H locs ls hP hD hS hL)
theorem k_new (C : kX b Z G A own cc nL rm nm) (ci N : Nat) {C0 : String} {T : u_T} {ty : Nat → FieldType} {fs : List Value} {idx : Nat} (hc : vwCl[ci]? = some (C0, T, N)) (hin : ∀ w ∈ u_ws C0 T N, w ∈ wsL_law) (hty : ∀ k, k < N → parseFieldDescriptor (T k).2.2.1 = some (ty k)) (hlk : Cond.classLink own idx C0 ∈ wsL_law) (hi : Cond.instantiable C0 N ∈ wsL_law) (hini : Cond.initialized C0 ∈ wsL_law) (hfs : ∀ j, j < N → defaultValue (ty j) = vp_V fs j) (hf : k + 1 ≤ rm.cells ∧ n + N ≤ rm.slots) (hd : decode cc pc = .ok (.new idx, 3)) (h : ∀ q : Nat, kV Z G A nL (k + 1) (n + N) (ws ++ [(q, .inr (ci, fs))]) (pc + 3) L (.ref q :: st)) : kV Z G A nL k n ws pc L st := fun H locs ls hP hD hS hL => by
  refine va_new (ci := ci) (fs := fs) (C := C0) (T := T) (N := N) (index := idx) C.1 C.2.1 C.2.2.2.2.1 hin ty hty C.2.2.2.1 (C.2.2.2.2.1 _ hlk) (C.2.2.2.2.1 _ hi) (C.2.2.2.2.1 _ hini) C.2.2.2.2.2.2.2.2.1 hP hD hS C.2.2.2.2.2.2.2.2.2.1 hc hfs (by rw [C.2.2.2.2.2.1]; exact hf.1) (by rw [C.2.2.2.2.2.1]; exact hf.2) hd (fun q H hP hD hS => h q H locs ls hP hD hS hL)
theorem k_newa (C : kX b Z G A own cc nL rm nm) (t0 N : Nat) {at' : ArrayType} {ty : FieldType} {v : Int32} (hat : newarray.typeOf at' = ty) (harr : Cond.arrayClass ty ∈ wsL_law) (ht : (qty G)[t0]? = some (gC G t0, ty)) (hprim : ∀ U cA, va_RA U cA ty → U.vm.findClass ("[" ++ ty.toString) = some cA) (hdv : defaultValue ty = .int 0) (hv : v = Int32.ofNat N) (hN : Nat.ble N 2000 = true) (hb : Nat.ble (componentBytes ty) 8 = true) (hf : k + 1 ≤ rm.cells ∧ n + N ≤ rm.slots) (hd : decode cc pc = .ok (.newarray at', 2)) (h : ∀ q : Nat, kV Z G A nL (k + 1) (n + N) (ws ++ [(q, .inl (gC G t0, N, .inl (fun _ => 0)))]) (pc + 2) L (.ref q :: st)) : kV Z G A nL k n ws pc L (.int v :: st) := fun H locs ls hP hD hS hL => by
  subst hat
  have hN := Nat.le_of_ble_eq_true hN
  have hb := Nat.le_of_ble_eq_true hb
  have hK := C.2.2.2.2.2.2.2.2.1
  have hvi : v = nI N := hv
  refine va_newa (D := gD G) (N' := N) (a0 := (N, .inl (fun _ => 0))) C.1 C.2.1 (C.2.2.2.2.1 _ harr) rfl hK hP hD hS C.2.2.2.2.2.2.2.2.2.1 (fun cA => by rw [hdv]; rfl) (by rw [hvi]; exact nI_pos (by omega)) (by rw [hvi]; exact clp (by omega)) (by have := Nat.mul_le_mul hN hb; omega) (by rw [C.2.2.2.2.2.1]; exact hf.1) (by rw [C.2.2.2.2.2.1]; exact hf.2) hd (fun q cA H1 hK1 hP1 hD1 hS1 => ?_)
  have e : cA = gC G t0 := by
    have h1 := hprim _ _ (hK1.2 4 (cA, newarray.typeOf at') rfl).2
    have h2 := hprim _ _ (hK.2 t0 _ ht).2
    exact Option.some.inj (h1.symm.trans h2)
  subst e
  exact h q H1 locs ls hP1 hD1 hS1 hL
theorem k_anew (C : kX true Z G A own cc nL rm nm) {v : Int32} {idx : Nat} (hlk : Cond.classLink own idx "EqualPlain$Sheet" ∈ wsL_law) (hv : v = 4) (hf : k + 1 ≤ rm.cells ∧ n + 4 ≤ rm.slots) (hd : decode cc pc = .ok (.anewarray idx, 3)) (h : ∀ q : Nat, kV Z G A nL (k + 1) (n + 4) (ws ++ [(q, .inl (gC G 3, 4, .inr (.inr (.inr (.inr (fun _ => none))))))]) (pc + 3) L (.ref q :: st)) : kV Z G A nL k n ws pc L (.int v :: st) := fun H locs ls hP hD hS hL => by
  subst hv
  have hK := C.2.2.2.2.2.2.2.2.1
  refine va_newq (D := gD G) (N' := 4) (C := "EqualPlain$Sheet") C.1 C.2.1 C.2.2.2.1 (C.2.2.2.2.1 _ hlk) (C.2.2.2.2.2.2.2.2.2.2.2 rfl).1 hK hP hD hS C.2.2.2.2.2.2.2.2.2.1 (by decide) (by decide) (by decide) (by rw [C.2.2.2.2.2.1]; exact hf.1) (by rw [C.2.2.2.2.2.1]; exact hf.2) hd (fun q cA H1 hK1 hP1 hD1 hS1 => ?_)
  have e : cA = gC G 3 := by
    obtain ⟨_, _, _, _, _, h1⟩ := (hK1.2 4 (cA, .object "EqualPlain$Sheet") rfl).2
    obtain ⟨_, _, _, _, _, h2⟩ := (hK.2 3 (gC G 3, .object "EqualPlain$Sheet") rfl).2
    exact Option.some.inj (h1.symm.trans h2)
  subst e
  exact h q H1 locs ls hP1 hD1 hS1 hL
theorem k_aast (C : kX b Z G A own cc nL rm nm) (q0 qv j : Nat) {i : Int32} {a v : Nat} {vs : List Value} {f : Nat → Option Nat} (he : ws[q0]? = some (a, .inl (gC G 3, 4, .inr (.inr (.inr (.inr f)))))) (hv : ws[qv]? = some (v, .inr (5, vs))) (hi : i = Int32.ofNat j) (hj : j < 4) (hw : ws.set q0 (a, .inl (gC G 3, 4, .inr (.inr (.inr (.inr (va_up f j (some v))))))) = ws') (hd : decode cc pc = .ok (.aastore, 1)) (h : kV Z G A nL k n ws' (pc + 1) L st) : kV Z G A nL k n ws pc L (.ref v :: .int i :: .ref a :: st) := fun H locs ls hP hD hS hL => by
  subst hw
  have e : i.toNatClampNeg = j := by rw [hi]; exact clp (by omega)
  refine va_astq (D := gD G) (r := (RX6, TX6, 3)) C.1 C.2.1 C.2.2.2.2.2.2.2.2.1 hP hD hS q0 3 qv 5 he rfl hv rfl (by rw [hi]; exact vp_in_nI hj (by omega)) hd (fun H1 locs1 hP1 hD1 hS1 => ?_)
  rw [e] at hP1 hD1
  exact h H1 locs1 ls hP1 hD1 hS1 hL
theorem k_iast (C : kX b Z G A own cc nL rm nm) (q0 j N : Nat) {i x : Int32} {a : Nat} {f : Nat → Int32} (he : ws[q0]? = some (a, .inl (gC G 0, N, .inl f))) (hi : i = Int32.ofNat j) (hj : (Nat.blt j N && Nat.blt N 2000) = true) (hw : ws.set q0 (a, .inl (gC G 0, N, .inl (upd f j x))) = ws') (hd : decode cc pc = .ok (.iastore, 1)) (h : kV Z G A nL k n ws' (pc + 1) L st) : kV Z G A nL k n ws pc L (.int x :: .int i :: .ref a :: st) := fun H locs ls hP hD hS hL => by
  subst hw
  simp only [Bool.and_eq_true] at hj
  have j1 : j < N := by simpa using hj.1
  have j2 : N < 2000 := by simpa using hj.2
  have e : i.toNatClampNeg = j := by rw [hi]; exact clp (by omega)
  refine va_iast (D := gD G) C.1 C.2.1 C.2.2.2.2.2.2.2.2.1 hP hD hS q0 0 he rfl (by rw [hi]; exact vp_in_nI j1 (by omega)) hd (fun H1 locs1 hP1 hD1 hS1 => ?_)
  rw [e] at hP1 hD1
  exact h H1 locs1 ls hP1 hD1 hS1 hL
theorem k_alen (C : kX b Z G A own cc nL rm nm) (q0 N : Nat) {v : Int32} {a : Nat} {f : Nat → Int32} (he : ws[q0]? = some (a, .inl (gC G 0, N, .inl f))) (hv : Int32.ofNat N = v) (hd : decode cc pc = .ok (.arraylength, 1)) (h : kV Z G A nL k n ws (pc + 1) L (.int v :: st)) : kV Z G A nL k n ws pc L (.ref a :: st) := fun H locs ls hP hD hS hL => va_alen (D := gD G) C.1 C.2.1 C.2.2.2.2.2.2.2.2.1 hP q0 0 (x := (N, .inl f)) he rfl hv hd (h H locs ls hP hD hS hL)
theorem kP_blind {b : Bool} {G : qG} {w0 : va_W} {sz : Nat} {vs : List Value} : FrameBlind (va_Pc vs (kP b G w0 sz)) := fun a U g mk q => ⟨q.1, q.2.1, q.2.2.1, va_K.moved (u := U) (U := U.calling g mk a) (Vm.Alike.refl U.vm) q.2.2.2.1, q.2.2.2.2.1, kE_calling g mk a q.2.2.2.2.2⟩
theorem k_call (C : kX b Z G A own cc nL rm nm) {y : MethodName} {bytes : ByteArray} {maxL na idx mc ms : Nat} {rmc : Room} {a : Nat} {As rest : List Value} {wc wr : va_W} {K : va_W → Prop} (isC isR : List Nat) (Y : qY y bytes maxL none na rmc mc ms) (hin : Cond.instanceMethod y ∈ wsL_law) (hlk : Cond.methodLink own idx y ∈ wsL_law) (hy1 : y.name = "<init>") (hM : kC b Z.2.1 G y bytes maxL rmc mc ms (.ref a :: As) wc K) (hC : isC.map (fun i => ws[i]?) = wc.map some) (hC2 : isC.filterMap (fun i => ws[i]?) = wc) (hR0 : isR.map (fun i => ws[i]?) = wr.map some) (hnd : (va_nd isC && va_nd isR && isR.all (fun i => decide (i ∉ isC))) = true) (hR : (Nat.ble (rmc.frames + 1) rm.frames && Nat.ble (8 + (maxL + 11) + rmc.locals) rm.locals) = true) (hf : k + mc ≤ rm.cells ∧ n + ms ≤ rm.slots) (hn : As.length = na) (hst : st = As.reverse ++ .ref a :: rest) (hsz : Nat.ble (rest.map fun v => v.category).sum 8 = true) (hd : decode cc pc = .ok (.invokespecial idx, 3)) (h : ∀ w1, K w1 → kV Z G A nL (k + mc) (n + ms) (wr ++ w1) (pc + 3) L rest) : kV Z G A nL k n ws pc L st := fun H locs ls hP hD hS hL => by
  have hts := C.2.2.2.2.1
  have hRR := C.2.2.2.2.2.1
  simp only [Bool.and_eq_true] at hR hnd
  have hdis : ∀ i ∈ isR, i ∉ isC := fun i hi => of_decide_eq_true (List.all_eq_true.mp hnd.2 i hi)
  have hPc := hP.sub (ws' := wc) isC hC2
  have hDc := hD.sub (ws' := wc) isC hnd.1.1 hC
  have hFc := va_free hD hS C.2.2.2.2.2.2.2.2.2.1 isC hC
  refine va_callv (va_runI (Ts := wsL_law) (own := own) (b := a) (As := As) (rest := rest) (n := na) ⟨C.1, C.2.1, C.2.2.1, C.2.2.2.1, hts⟩ (hM H.size) ⟨⟨Y.2.2.2.2.1, Y.2.2.2.2.2, by rw [hRR]; exact Nat.le_of_ble_eq_true hR.1, by rw [hRR]; exact Nat.le_of_ble_eq_true hR.2, q_pay hts Y.1, List.mem_cons_self, hts _ Y.1, hts _ Y.2.1, Y.2.2.1, q_len Y.2.2.2.1, hts _ hlk⟩, hy1, hts _ hin⟩ ⟨kP_blind, fun U hU hW => ⟨rfl, by rw [hU], by rw [hU]; exact hPc, va_K.moved hW.alike C.2.2.2.2.2.2.2.2.1, hDc.weaken (fun _ _ _ _ => trivial), kE_warm hW C.2.2.2.2.2.2.2.2.2.2.2⟩⟩ rfl hn hL.1 hst (lv_room (Nat.le_of_ble_eq_true hsz)) hd (by rw [hRR]; exact hf)) hS (fun q _ h => hFc q h) hFc (fun u t H1 locs1 ht _ hw hB _ hk1 hS1 => ?_)
  obtain ⟨hP1, hD1⟩ := hB
  rw [ht] at hP1
  obtain ⟨hP2, hD2⟩ := va_join hP hD isC isR hC hR0 hnd.1.2 hdis hk1 hFc hP1 hD1
  exact h u hw H1 locs1 ls hP2 hD2 hS1 hL
theorem k_callN (C : kX true Z G A own cc nL rm nm) {y : MethodName} {bytes : ByteArray} {maxL na idx mc ms : Nat} {rmc : Room} {a : Nat} {As rest : List Value} {wc wr : va_W} {K : va_W → Prop} (isC isR : List Nat) (Y : qY y bytes maxL none na rmc mc ms) (hin : Cond.instanceMethod y ∈ wsL_law) {host : String} (hlk : (own, idx, y, host) ∈ kNt) (hy1 : y.name = "<init>") (hM : kC true Z.2.1 G y bytes maxL rmc mc ms (.ref a :: As) wc K) (hC : isC.map (fun i => ws[i]?) = wc.map some) (hC2 : isC.filterMap (fun i => ws[i]?) = wc) (hR0 : isR.map (fun i => ws[i]?) = wr.map some) (hnd : (va_nd isC && va_nd isR && isR.all (fun i => decide (i ∉ isC))) = true) (hR : (Nat.ble (rmc.frames + 1) rm.frames && Nat.ble (8 + (maxL + 11) + rmc.locals) rm.locals) = true) (hf : k + mc ≤ rm.cells ∧ n + ms ≤ rm.slots) (hn : As.length = na) (hst : st = As.reverse ++ .ref a :: rest) (hsz : Nat.ble (rest.map fun v => v.category).sum 8 = true) (hd : decode cc pc = .ok (.invokespecial idx, 3)) (h : ∀ w1, K w1 → kV Z G A nL (k + mc) (n + ms) (wr ++ w1) (pc + 3) L rest) : kV Z G A nL k n ws pc L st := fun H locs ls hP hD hS hL => by
  have hts := C.2.2.2.2.1
  have hRR := C.2.2.2.2.2.1
  simp only [Bool.and_eq_true] at hR hnd
  have hdis : ∀ i ∈ isR, i ∉ isC := fun i hi => of_decide_eq_true (List.all_eq_true.mp hnd.2 i hi)
  have hPc := hP.sub (ws' := wc) isC hC2
  have hDc := hD.sub (ws' := wc) isC hnd.1.1 hC
  have hFc := va_free hD hS C.2.2.2.2.2.2.2.2.2.1 isC hC
  refine va_callv (va_runIN (host := host) (Ts := wsL_law) (own := own) (b := a) (As := As) (rest := rest) (n := na) ⟨C.1, C.2.1, C.2.2.1, C.2.2.2.1, hts⟩ (hM H.size) ⟨⟨⟨Y.2.2.2.2.1, Y.2.2.2.2.2, by rw [hRR]; exact Nat.le_of_ble_eq_true hR.1, by rw [hRR]; exact Nat.le_of_ble_eq_true hR.2, q_pay hts Y.1, List.mem_cons_self⟩, hts _ Y.1, hts _ Y.2.1, Y.2.2.1, q_len Y.2.2.2.1, va_Nw.use rfl ((C.2.2.2.2.2.2.2.2.2.2.2 rfl).2 _ hlk)⟩, hy1, hts _ hin⟩ ⟨kP_blind, fun U hU hW => ⟨rfl, by rw [hU], by rw [hU]; exact hPc, va_K.moved hW.alike C.2.2.2.2.2.2.2.2.1, hDc.weaken (fun _ _ _ _ => trivial), kE_warm hW C.2.2.2.2.2.2.2.2.2.2.2⟩⟩ rfl hn hL.1 hst (lv_room (Nat.le_of_ble_eq_true hsz)) hd (by rw [hRR]; exact hf)) hS (fun q _ h => hFc q h) hFc (fun u t H1 locs1 ht _ hw hB _ hk1 hS1 => ?_)
  obtain ⟨hP1, hD1⟩ := hB
  rw [ht] at hP1
  obtain ⟨hP2, hD2⟩ := va_join hP hD isC isR hC hR0 hnd.1.2 hdis hk1 hFc hP1 hD1
  exact h u hw H1 locs1 ls hP2 hD2 hS1 hL
theorem k_callS (C : kX b Z G A own cc nL rm nm) {y : MethodName} {bytes : ByteArray} {maxL na idx mc ms : Nat} {rmc : Room} {As rest : List Value} {wc wr : va_W} {K : va_W → Prop} (isC isR : List Nat) (Y : qY y bytes maxL none na rmc mc ms) (hin : Cond.static y ∈ wsL_law) (hlk : Cond.methodLink own idx y ∈ wsL_law) (hM : kC b Z.2.1 G y bytes maxL rmc mc ms As wc K) (hC : isC.map (fun i => ws[i]?) = wc.map some) (hC2 : isC.filterMap (fun i => ws[i]?) = wc) (hR0 : isR.map (fun i => ws[i]?) = wr.map some) (hnd : (va_nd isC && va_nd isR && isR.all (fun i => decide (i ∉ isC))) = true) (hR : (Nat.ble (rmc.frames + 1) rm.frames && Nat.ble (8 + (maxL + 11) + rmc.locals) rm.locals) = true) (hf : k + mc ≤ rm.cells ∧ n + ms ≤ rm.slots) (hn : As.length = na) (hst : st = As.reverse ++ rest) (hsz : Nat.ble (rest.map fun v => v.category).sum 8 = true) (hd : decode cc pc = .ok (.invokestatic idx, 3)) (h : ∀ w1, K w1 → kV Z G A nL (k + mc) (n + ms) (wr ++ w1) (pc + 3) L rest) : kV Z G A nL k n ws pc L st := fun H locs ls hP hD hS hL => by
  have hts := C.2.2.2.2.1
  have hRR := C.2.2.2.2.2.1
  simp only [Bool.and_eq_true] at hR hnd
  have hdis : ∀ i ∈ isR, i ∉ isC := fun i hi => of_decide_eq_true (List.all_eq_true.mp hnd.2 i hi)
  have hPc := hP.sub (ws' := wc) isC hC2
  have hDc := hD.sub (ws' := wc) isC hnd.1.1 hC
  have hFc := va_free hD hS C.2.2.2.2.2.2.2.2.2.1 isC hC
  refine va_callv (va_runS (Ts := wsL_law) (own := own) (As := As) (rest := rest) (n := na) ⟨C.1, C.2.1, C.2.2.1, C.2.2.2.1, hts⟩ (hM H.size) ⟨⟨Y.2.2.2.2.1, Y.2.2.2.2.2, by rw [hRR]; exact Nat.le_of_ble_eq_true hR.1, by rw [hRR]; exact Nat.le_of_ble_eq_true hR.2, q_pay hts Y.1, List.mem_cons_self, hts _ Y.1, hts _ Y.2.1, Y.2.2.1, q_len Y.2.2.2.1, hts _ hlk⟩, hts _ hin⟩ ⟨kP_blind, fun U hU hW => ⟨rfl, by rw [hU], by rw [hU]; exact hPc, va_K.moved hW.alike C.2.2.2.2.2.2.2.2.1, hDc.weaken (fun _ _ _ _ => trivial), kE_warm hW C.2.2.2.2.2.2.2.2.2.2.2⟩⟩ rfl hn hL.1 hst (lv_room (Nat.le_of_ble_eq_true hsz)) hd (by rw [hRR]; exact hf)) hS (fun q _ h => hFc q h) hFc (fun u t H1 locs1 ht _ hw hB _ hk1 hS1 => ?_)
  obtain ⟨hP1, hD1⟩ := hB
  rw [ht] at hP1
  obtain ⟨hP2, hD2⟩ := va_join hP hD isC isR hC hR0 hnd.1.2 hdis hk1 hFc hP1 hD1
  exact h u hw H1 locs1 ls hP2 hD2 hS1 hL
theorem k_vret {K : va_W → Prop} (C : kX b Z G A own cc nL rm nm) (hQ : kQ Z G A k n K) (hd : decode cc pc = .ok (.return_, 1)) (hw : K ws) : kV Z G A nL k n ws pc L [] := fun H locs ls hP hD hS hL => by
  rw [hQ]
  exact W.vret C.1 C.2.1 C.2.2.2.2.2.2.1 (fun t ht hW => ⟨⟨ws, rfl, hw, by rw [ht]; exact hP, hD⟩, hS.F ht⟩) hS.2.2 hd C.2.2.2.2.2.2.2.1
end KON
