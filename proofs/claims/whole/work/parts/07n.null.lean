/-! a sheet or nothing: null on the stack and in locals, and a contract whose answer is a reference or null -/
def qQq (Z : qZ) (G : qG) (kc ks : Nat) (post : Option Nat → qM → Prop) : Prop := Z.2.2.2.2.2.2.2.2.2.2 = MQ Z.2.2.2.2.2.2.2.1 (va_Qe (ga G) post (fun μ t => qH G μ t.heap) (qA G)) Z.2.2.2.2.2.2.1 (zs Z) kc ks (qA G)
def qCq (l : Launch) (G : qG) (y : MethodName) (bytes : ByteArray) (maxL : Nat) (ret' : Option FieldType) (rmc : Room) (mc ms : Nat) (vs : List Value) (μ : qM) (wp : (Option Nat → qM → Prop) → Prop) : Prop := ∀ post : Option Nat → qM → Prop, Met l y (.code y bytes maxL ret' :: wsL_law) rmc (va_Pc vs (fun U => qP G μ U ∧ wp post)) (va_Qe (ga G) post (fun μ t => qH G μ t.heap) (qA G)) mc ms (qA G)
section NUL
variable {Z : qZ} {G : qG} {own : String} {cc : ByteArray} {nL k n : Nat} {rm : Room} {ret : Option FieldType} {μ : qM} {pc : Nat} {L L' : List (Nat × Value)} {st : List Value}
theorem x_null (C : qX Z G own cc nL rm ret) (hd : decode cc pc = .ok (.aconst_null, 1)) (h : qV Z G nL k n μ (pc + 1) L (.null :: st)) : qV Z G nL k n μ pc L st := fun H locs ls hP hS hL => lv_null C.1 C.2.1 hd (h H locs ls hP hS hL)
theorem x_ifnull (C : qX Z G own cc nL rm ret) {x : Nat} {off : Int} (hd : decode cc pc = .ok (.ifnull off, 3)) (h : qV Z G nL k n μ (pc + 3) L st) : qV Z G nL k n μ pc L (.ref x :: st) := fun H locs ls hP hS hL => lv_ifnull C.1 C.2.1 hd (h H locs ls hP hS hL)
theorem x_ifnullN (C : qX Z G own cc nL rm ret) {off : Int} {tgt : Nat} (hd : decode cc pc = .ok (.ifnull off, 3)) (ht : (pc : Int) + off = (tgt : Int)) (h : qV Z G nL k n μ tgt L st) : qV Z G nL k n μ pc L (.null :: st) := fun H locs ls hP hS hL => lv_ifnullN C.1 C.2.1 hd ht (h H locs ls hP hS hL)
theorem x_ifnonnull (C : qX Z G own cc nL rm ret) {x : Nat} {off : Int} {tgt : Nat} (hd : decode cc pc = .ok (.ifnonnull off, 3)) (ht : (pc : Int) + off = (tgt : Int)) (h : qV Z G nL k n μ tgt L st) : qV Z G nL k n μ pc L (.ref x :: st) := fun H locs ls hP hS hL => lv_ifnonnull C.1 C.2.1 hd ht (h H locs ls hP hS hL)
theorem x_ifnonnullN (C : qX Z G own cc nL rm ret) {off : Int} (hd : decode cc pc = .ok (.ifnonnull off, 3)) (h : qV Z G nL k n μ (pc + 3) L st) : qV Z G nL k n μ pc L (.null :: st) := fun H locs ls hP hS hL => lv_ifnonnullN C.1 C.2.1 hd (h H locs ls hP hS hL)
theorem x_aload_nN (C : qX Z G own cc nL rm ret) (q : Nat) {i : Nat} {f : Fin 4} (hd : decode cc pc = .ok (.aload_n f, 1)) (hi : (f : Nat) = i) (hq : L[q]? = some (i, .null)) (h : qV Z G nL k n μ (pc + 1) L (.null :: st)) : qV Z G nL k n μ pc L st := fun H locs ls hP hS hL => lv_aload_nN C.1 C.2.1 hd hi (lv_at hL q hq) (h H locs ls hP hS hL)
theorem x_aloadN (C : qX Z G own cc nL rm ret) (q : Nat) {i : Nat} (hd : decode cc pc = .ok (.aload i, 2)) (hq : L[q]? = some (i, .null)) (h : qV Z G nL k n μ (pc + 2) L (.null :: st)) : qV Z G nL k n μ pc L st := fun H locs ls hP hS hL => lv_aloadN C.1 C.2.1 hd (lv_at hL q hq) (h H locs ls hP hS hL)
theorem x_astore_nN (C : qX Z G own cc nL rm ret) {i : Nat} {f : Fin 4} (hd : decode cc pc = .ok (.astore_n f, 1)) (hi : (f : Nat) = i) (hn : i < nL) (hl : (i, Value.null) :: L.filter (fun q => !(q.1 == i) && !(q.1 + 1 == i && q.2.category == 2)) = L') (h : qV Z G nL k n μ (pc + 1) L' st) : qV Z G nL k n μ pc L (.null :: st) := fun H locs _ hP hS hL => lv_astore_nN C.1 C.2.1 hd hi hL hn hl (fun ls' hL' => h H locs ls' hP hS hL')
theorem x_astoreN (C : qX Z G own cc nL rm ret) {i : Nat} (hd : decode cc pc = .ok (.astore i, 2)) (hn : i < nL) (hl : (i, Value.null) :: L.filter (fun q => !(q.1 == i) && !(q.1 + 1 == i && q.2.category == 2)) = L') (h : qV Z G nL k n μ (pc + 2) L' st) : qV Z G nL k n μ pc L (.null :: st) := fun H locs _ hP hS hL => lv_astoreN C.1 C.2.1 hd hL hn hl (fun ls' hL' => h H locs ls' hP hS hL')
theorem x_qret {post : Option Nat → qM → Prop} {o : Nat} {cn : String} (C : qX Z G own cc nL rm (some (.object cn))) (hQ : qQq Z G k n post) (hd : decode cc pc = .ok (.areturn, 1)) (hw : post (some o) μ) : qV Z G nL k n μ pc L [.ref (ga G o)] := fun H locs ls hP hS hL => by
  rw [hQ]
  exact W.aret C.1 C.2.1 C.2.2.2.2.2.2.1 (Or.inl ⟨_, rfl⟩) (Or.inr ⟨_, rfl⟩) (fun t ht hW => ⟨⟨some o, μ, rfl, hw, by subst ht; exact hP⟩, hS.F ht⟩) hS.2.2 hd C.2.2.2.2.2.2.2.1
theorem x_qretN {post : Option Nat → qM → Prop} {cn : String} (C : qX Z G own cc nL rm (some (.object cn))) (hQ : qQq Z G k n post) (hd : decode cc pc = .ok (.areturn, 1)) (hw : post none μ) : qV Z G nL k n μ pc L [.null] := fun H locs ls hP hS hL => by
  rw [hQ]
  exact W.aret C.1 C.2.1 C.2.2.2.2.2.2.1 (Or.inl ⟨_, rfl⟩) (Or.inl rfl) (fun t ht hW => ⟨⟨none, μ, rfl, hw, by subst ht; exact hP⟩, hS.F ht⟩) hS.2.2 hd C.2.2.2.2.2.2.2.1
/-- a sheet of a number, or null -/
theorem x_q2 {i : Int32} {r : Option Nat} {A B : Prop} (hh : (r = none → A) ∧ (¬ r = none → (r = some (25 + 2 * i.toNatClampNeg) ∧ vp_in i 4 ∧ B))) (h1 : A → qV Z G nL k n μ pc L (.null :: st)) (h2 : qk (25 + 2 * i.toNatClampNeg) = 5 → B → qV Z G nL k n μ pc L (.ref (ga G (25 + 2 * i.toNatClampNeg)) :: st)) : qV Z G nL k n μ pc L (va_re (ga G) r :: st) := by
  by_cases hr : r = none
  · subst hr
    exact h1 (hh.1 rfl)
  · obtain ⟨e, hv, hb⟩ := hh.2 hr
    subst e
    have hlt : i.toNatClampNeg < 4 := Nat.not_le.mp fun q => hv (Or.inr q)
    have h4 : ∀ j, j < 4 → qk (25 + 2 * j) = 5 := by decide
    exact h2 (h4 _ hlt) hb
theorem x_Vq (As rest : List Value) (C : qX Z G own cc nL rm ret) {y : MethodName} {bytes : ByteArray} {maxL na idx mc ms : Nat} {ret' : Option FieldType} {rmc : Room} (o κ : Nat) {C0 : String} {T : u_T} {N : Nat} {wp : (Option Nat → qM → Prop) → Prop} {K : Option Nat → qM → Prop} (Y : qY y bytes maxL ret' na rmc mc ms) (hin : Cond.instanceMethod y ∈ wsL_law) (hsel : Cond.selects y.cls y y ∈ wsL_law) (hlk : Cond.methodLink own idx y ∈ wsL_law) (hM : qCq Z.2.1 G y bytes maxL ret' rmc mc ms (.ref (ga G o) :: As) μ wp) (ho : o < gn G) (hko : qk o = κ) (h11 : κ < 11) (hc : vwCl[κ]? = some (C0, T, N)) (hcl : C0 = y.cls) (hR : (Nat.ble (rmc.frames + 1) rm.frames && Nat.ble (8 + (maxL + 11) + rmc.locals) rm.locals) = true) (hf : k + mc ≤ rm.cells ∧ n + ms ≤ rm.slots) (hn : As.length = na) (hst : st = As.reverse ++ .ref (ga G o) :: rest) (hsz : Nat.ble (rest.map fun v => v.category).sum 8 = true) (hd : decode cc pc = .ok (.invokevirtual idx, 3)) (h : wp K) (hk : ∀ (r : Option Nat) (μ1 : qM), K r μ1 → qV Z G nL (k + mc) (n + ms) μ1 (pc + 3) L (va_re (ga G) r :: rest)) : qV Z G nL k n μ pc L st := fun H locs ls hP hS hL => va_calle (run_V C Y hin hsel hlk (hM K) hR hf hn hst hsz hd h (by rw [← hcl]; exact q_recv C ho hko h11 hc hP) hP hS hL) hS (fun q _ h => h) (fun q h => h) (fun r u t H1 locs1 ht _ hw hB _ _ hS1 => hk r u hw H1 locs1 ls (by rw [← ht]; exact hB) hS1 hL)
end NUL
theorem qCq_of {l : Launch} {G : qG} {y : MethodName} {bytes : ByteArray} {maxL : Nat} {ret' : Option FieldType} {rmc : Room} {vs : List Value} {μ : qM} {wp : (Option Nat → qM → Prop) → Prop} {L : List (Nat × Value)} (hy : plainName y.cls = true) (hL : lv_args 0 vs = L) (hn : Nat.ble (lg_sl vs).length maxL = true) (h : ∀ (Z : qZ) (post : Option Nat → qM → Prop), Z.2.1 = l → qX Z G y.cls bytes maxL rmc ret' → qQq Z G 0 0 post → wp post → qV Z G maxL 0 0 μ 0 L []) : qCq l G y bytes maxL ret' rmc 0 0 vs μ wp := by
  intro post
  refine Met.ofW (cc := bytes) (maxL := maxL) (ret := ret') hy rfl ?_
  intro p e s m args below meth c s₁ B hml hv
  obtain ⟨rfl, ⟨hP, hK, hD, hb, hE⟩, hw⟩ := hv
  have hts := atoms_spec (ws := .code y bytes maxL ret' :: wsL_law) B.pre
  have hown : s.vm.findClass y.cls = some m.cls := findClass_of_methodNamed B.named
  rw [lg_entry_eq]
  exact h (p, l, e, rmc, s, m, vs.toArray, below, meth, c, MQ below (va_Qe (ga G) post (fun μ t => qH G μ t.heap) (qA G)) vs.toArray s 0 0 (qA G)) post rfl ⟨B.exec, B.bytes, hml, hown, fun w hw => hts w (List.mem_cons_of_mem _ hw), rfl, B.returns, B.notSynchronized, hK, qD_any hD, hb, hE⟩ rfl hw s.heap [] _ hP va_S.rf (by rw [← hL]; exact lv_entry vs (Nat.le_of_ble_eq_true hn))
