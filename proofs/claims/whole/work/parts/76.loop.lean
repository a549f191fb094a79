/-! THE CLAIM OUT OF ONE WALK OF THE LAW'S BODY. Your part is whole_start (and what it stands on); all else here is the same for every law, but numbers. -/
def R_law : String := "EqualPlainLaw"
def lw_P (b : Addr) (xs : List Int32) (args : Array Value) (s : State) : Prop := args = #[.ref b] ∧ s.IntsAt b xs ∧ xs.length ≤ 3072 ∧ (Jvm.Cond.and given_1 narrow_1).before args s = true
def lw_Q (_ : Array Value) (s : State) (o : Outcome) (t : State) : Prop := o = .returned (some (.int 1)) ∧ Framed s o t [] 600000 7302250
def lw_Z (below : List Frame) (a : Array Value) (s : State) : State → Prop := fun t => ∃ o, t.status = .running ∧ Ended t below o ∧ lw_Q a s o t
/-- the law's own end, with 1 on the stack, nothing written that was there before, its room as the claim has it -/
theorem lw_ret {p : Program} {l : Launch} {e : Env} {s : State} {m : MethodId} {below : List Frame} {meth : Method} {c : Code} {b : Nat} (hx : p.tables.exec = Jvm.exec) (hb : c.code = code) (hr : meth.sig.returnType = ret) (hlocks : meth.locks = false) {pc : Nat} {H : Heap} {ls : Array Slot} (hdg : decode code pc = .ok (.ireturn, 1)) : W p l e room_1 s m #[Value.ref b] below meth c H [] 600000 7302250 (lw_Z below #[Value.ref b] s) (F0 m pc ls [.int 1]) := by
  intro T hT X
  obtain ⟨fs, hret, hrun, hended, hW, hframe⟩ := X.leave (v := some (.int 1)) (hlocks := hlocks) (fun h => by rw [hr] at h; cases h)
  have hmeth' : T.vm.method? m = some meth := X.method'
  refine ⟨T.setFrames fs, ?_, .returned (some (.int 1)), hrun, hended, rfl, ⟨_, rfl⟩, hW, hframe⟩
  jvm_step X.here [X.here.top, hx, hb, hdg, hmeth', hr, ret, narrow_b1]
  (try refine ⟨rfl, ?_⟩); (try refine ⟨rfl, ?_⟩)
  first | (intro acts; rw [hret _ acts rfl rfl rfl]) | rw [hret _ _ rfl rfl rfl]
  exact Steps.refl _
/-- what holds at the law's entry: the machine, the code, the tables' words (any of lw_tbl by 'hts w (by decide +kernel)'), the script of L ints xs at the cell b, what the Statement gives of the start (any of its parts by flat_of_before) -/
def lw_At (p : Program) (s : State) (m : MethodId) (meth : Method) (c : Code) (b L : Nat) (xs : Nat → Int32) : Prop :=
  p.tables.exec = Jvm.exec ∧ c.code = code ∧ meth.sig.returnType = ret ∧ c.maxLocals = 4 ∧ s.vm.findClass R_law = some m.cls ∧ (∀ w ∈ lw_tbl, w.before #[Value.ref b] s = true) ∧ va_X b L xs s s.heap ∧ b < s.heap.size ∧ meth.locks = false ∧ (Jvm.Cond.and given_1 narrow_1).before #[Value.ref b] s = true
theorem and63 (x : Int32) : ∃ j, j < 64 ∧ x &&& 63 = nI j := by
  refine ⟨(x &&& 63).toBitVec.toNat, ?_, ?_⟩
  · rw [Int32.toBitVec_and, BitVec.toNat_and]
    exact Nat.lt_of_le_of_lt Nat.and_le_right (by decide)
  · apply Int32.toBitVec_inj.mp
    apply BitVec.eq_of_toNat_eq
    show _ = (BitVec.ofNat 32 _).toNat
    rw [BitVec.toNat_ofNat, Nat.mod_eq_of_lt (BitVec.isLt _)]
theorem lwcmp {a i : Nat} (ha : a ≤ 3072) (hi : i ≤ 3072) : (nI a - 6 < nI i → ¬ i + 6 ≤ a) ∧ (¬ nI a - 6 < nI i → i + 6 ≤ a) := by
  have e : (nI a - 6).toInt = (a : Int) - 6 := by
    rw [show nI a - 6 = nI a - nI 6 from rfl, pk_sub_toInt (by omega) (by omega)]
    rfl
  rw [Int32.lt_iff_toInt_lt, e, nI_toInt (by omega)]
  omega
abbrev lwT (p : Program) (l : Launch) (e : Env) (s : State) (m : MethodId) (below : List Frame) (meth : Method) (c : Code) (b : Nat) : qZ := (p, l, e, room_1, s, m, #[Value.ref b], below, meth, c, lw_Z below #[Value.ref b] s)
set_option maxRecDepth 20000 in
set_option maxHeartbeats 4000000 in
theorem law_loop {p : Program} {l : Launch} {e : Env} {s : State} {m : MethodId} {below : List Frame} {meth : Method} {c : Code} {G : qG} {b Ls : Nat} {xs : Nat → Int32} (C : qX (lwT p l e s m below meth c b) G RL cL_law 4 room_1 ret) (S : lwS (lwT p l e s m below meth c b) G b Ls xs) (hn : gn G = 66) (hg : gb G = s.heap.size) : ∀ (f i k n : Nat) (μ : qM), Ls + 6 ≤ i + f → i ≤ Ls → k + f ≤ 600000 → n + 6 * f ≤ 7302250 → RI μ → qV (lwT p l e s m below meth c b) G 4 k n μ 18 (lwL G b i) [] := by
  intro f
  induction f with
  | zero =>
    intro i k n μ h1 h2
    omega
  | succ f ih =>
    intro i k n μ h1 h2 hk hs hR
    have h3 := S.2.2.2
    refine x_iload_n C 3 dL_law_18 rfl rfl ?_
    refine x_aload_n C 0 dL_law_19 rfl rfl ?_
    refine x_slen C S dL_law_20 ?_
    refine x_bipush C (v := 6) dL_law_21 (by decide) ?_
    refine x_isub C dL_law_23 ?_
    refine x_icmp_gt C dL_law_24 (tgt := 1527) (by decide) (lwcmp (by omega) (by omega)) (fun _ => ?_) (fun hi => ?_)
    · refine x_iconst C (v := 1) dL_law_1527 (by decide) ?_
      intro H locs ls hP hS hL
      refine va_forget (fun q hq => by rw [← hg]; exact hS.2.2 q hq) ?_
      refine W.widen (k := 600000) (n := 7302250) (by omega) (by omega) ?_
      exact lw_ret C.1 C.2.1 C.2.2.2.2.2.2.1 C.2.2.2.2.2.2.2.1 dL_law_1528
    · refine x_aload_n C 0 dL_law_27 rfl rfl ?_
      refine x_iload_n C 3 dL_law_28 rfl rfl ?_
      refine x_sld C S (j := i) rfl (by omega) dL_law_29 ?_
      refine x_bipush C (v := 63) dL_law_30 (by decide) ?_
      refine x_iand C dL_law_32 ?_
      have hk1 : k + 1 ≤ 600000 ∧ n + 6 ≤ 7302250 := ⟨by omega, by omega⟩
      have h1521 : ∀ μ', RI μ' → qV (lwT p l e s m below meth c b) G 4 (k + 1) (n + 6) μ' 1521 (lwL G b i) [] := by
        intro μ' hR'
        have e6 : nI i + 6 = nI (i + 6) := nI_add i 6
        refine x_iinc C 3 (v := 6) (L' := [(3, .int (nI i + 6)), (0, .ref b), (1, .ref (ga G 0)), (2, .ref (ga G 46))]) dL_law_1521 rfl (by decide) (by decide) rfl ?_
        refine x_goto C dL_law_1524 (tgt := 18) (by decide) ?_
        refine qV_sub (L' := lwL G b (i + 6)) [1, 2, 3, 0] ?_ (ih (i + 6) (k + 1) (n + 6) μ' (by omega) hi (by omega) (by omega) hR')
        show _ = [(0, Value.ref b), (1, Value.ref (ga G 0)), (2, Value.ref (ga G 46)), (3, Value.int (nI (i + 6)))]
        rw [← e6]
        rfl
      obtain ⟨j, hj, ej⟩ := and63 (xs i)
      rw [ej]
      by_cases h49 : j < 49
      · rcases (show j = 0 ∨ j = 1 ∨ j = 2 ∨ j = 3 ∨ j = 4 ∨ j = 5 ∨ j = 6 ∨ j = 7 ∨ j = 8 ∨ j = 9 ∨ j = 10 ∨ j = 11 ∨ j = 12 ∨ j = 13 ∨ j = 14 ∨ j = 15 ∨ j = 16 ∨ j = 17 ∨ j = 18 ∨ j = 19 ∨ j = 20 ∨ j = 21 ∨ j = 22 ∨ j = 23 ∨ j = 24 ∨ j = 25 ∨ j = 26 ∨ j = 27 ∨ j = 28 ∨ j = 29 ∨ j = 30 ∨ j = 31 ∨ j = 32 ∨ j = 33 ∨ j = 34 ∨ j = 35 ∨ j = 36 ∨ j = 37 ∨ j = 38 ∨ j = 39 ∨ j = 40 ∨ j = 41 ∨ j = 42 ∨ j = 43 ∨ j = 44 ∨ j = 45 ∨ j = 46 ∨ j = 47 ∨ j = 48 by omega) with rfl | rfl | rfl | rfl | rfl | rfl | rfl | rfl | rfl | rfl | rfl | rfl | rfl | rfl | rfl | rfl | rfl | rfl | rfl | rfl | rfl | rfl | rfl | rfl | rfl | rfl | rfl | rfl | rfl | rfl | rfl | rfl | rfl | rfl | rfl | rfl | rfl | rfl | rfl | rfl | rfl | rfl | rfl | rfl | rfl | rfl | rfl | rfl | rfl
        · exact x_tin C (v := 0) dL_law_33 rfl (by decide) (by decide) rfl (tgt := 244) (by decide) (lwc_0 C S hn hi hk1 hR h1521)
        · exact x_tin C (v := 1) dL_law_33 rfl (by decide) (by decide) rfl (tgt := 287) (by decide) (lwc_1 C S hn hi hk1 hR h1521)
        · exact x_tin C (v := 2) dL_law_33 rfl (by decide) (by decide) rfl (tgt := 330) (by decide) (lwc_2 C S hn hi hk1 hR h1521)
        · exact x_tin C (v := 3) dL_law_33 rfl (by decide) (by decide) rfl (tgt := 363) (by decide) (lwc_3 C S hn hi hk1 hR h1521)
        · exact x_tin C (v := 4) dL_law_33 rfl (by decide) (by decide) rfl (tgt := 396) (by decide) (lwc_4 C S hn hi hk1 hR h1521)
        · exact x_tin C (v := 5) dL_law_33 rfl (by decide) (by decide) rfl (tgt := 409) (by decide) (lwc_5 C S hn hi hk1 hR h1521)
        · exact x_tin C (v := 6) dL_law_33 rfl (by decide) (by decide) rfl (tgt := 452) (by decide) (lwc_6 C S hn hi hk1 hR h1521)
        · exact x_tin C (v := 7) dL_law_33 rfl (by decide) (by decide) rfl (tgt := 475) (by decide) (lwc_7 C S hn hi hk1 hR h1521)
        · exact x_tin C (v := 8) dL_law_33 rfl (by decide) (by decide) rfl (tgt := 518) (by decide) (lwc_8 C S hn hi hk1 hR h1521)
        · exact x_tin C (v := 9) dL_law_33 rfl (by decide) (by decide) rfl (tgt := 551) (by decide) (lwc_9 C S hn hi hk1 hR h1521)
        · exact x_tin C (v := 10) dL_law_33 rfl (by decide) (by decide) rfl (tgt := 584) (by decide) (lwc_10 C S hn hi hk1 hR h1521)
        · exact x_tin C (v := 11) dL_law_33 rfl (by decide) (by decide) rfl (tgt := 607) (by decide) (lwc_11 C S hn hi hk1 hR h1521)
        · exact x_tin C (v := 12) dL_law_33 rfl (by decide) (by decide) rfl (tgt := 630) (by decide) (lwc_12 C S hn hi hk1 hR h1521)
        · exact x_tin C (v := 13) dL_law_33 rfl (by decide) (by decide) rfl (tgt := 653) (by decide) (lwc_13 C S hn hi hk1 hR h1521)
        · exact x_tin C (v := 14) dL_law_33 rfl (by decide) (by decide) rfl (tgt := 676) (by decide) (lwc_14 C S hn hi hk1 hR h1521)
        · exact x_tin C (v := 15) dL_law_33 rfl (by decide) (by decide) rfl (tgt := 689) (by decide) (lwc_15 C S hn hi hk1 hR h1521)
        · exact x_tin C (v := 16) dL_law_33 rfl (by decide) (by decide) rfl (tgt := 702) (by decide) (lwc_16 C S hn hi hk1 hR h1521)
        · exact x_tin C (v := 17) dL_law_33 rfl (by decide) (by decide) rfl (tgt := 725) (by decide) (lwc_17 C S hn hi hk1 hR h1521)
        · exact x_tin C (v := 18) dL_law_33 rfl (by decide) (by decide) rfl (tgt := 748) (by decide) (lwc_18 C S hn hi hk1 hR h1521)
        · exact x_tin C (v := 19) dL_law_33 rfl (by decide) (by decide) rfl (tgt := 761) (by decide) (lwc_19 C S hn hi hk1 hR h1521)
        · exact x_tin C (v := 20) dL_law_33 rfl (by decide) (by decide) rfl (tgt := 794) (by decide) (lwc_20 C S hn hi hk1 hR h1521)
        · exact x_tin C (v := 21) dL_law_33 rfl (by decide) (by decide) rfl (tgt := 817) (by decide) (lwc_21 C S hn hi hk1 hR h1521)
        · exact x_tin C (v := 22) dL_law_33 rfl (by decide) (by decide) rfl (tgt := 830) (by decide) (lwc_22 C S hn hi hk1 hR h1521)
        · exact x_tin C (v := 23) dL_law_33 rfl (by decide) (by decide) rfl (tgt := 863) (by decide) (lwc_23 C S hn hi hk1 hR h1521)
        · exact x_tin C (v := 24) dL_law_33 rfl (by decide) (by decide) rfl (tgt := 906) (by decide) (lwc_24 C S hn hi hk1 hR h1521)
        · exact x_tin C (v := 25) dL_law_33 rfl (by decide) (by decide) rfl (tgt := 929) (by decide) (lwc_25 C S hn hi hk1 hR h1521)
        · exact x_tin C (v := 26) dL_law_33 rfl (by decide) (by decide) rfl (tgt := 952) (by decide) (lwc_26 C S hn hi hk1 hR h1521)
        · exact x_tin C (v := 27) dL_law_33 rfl (by decide) (by decide) rfl (tgt := 965) (by decide) (lwc_27 C S hn hi hk1 hR h1521)
        · exact x_tin C (v := 28) dL_law_33 rfl (by decide) (by decide) rfl (tgt := 988) (by decide) (lwc_28 C S hn hi hk1 hR h1521)
        · exact x_tin C (v := 29) dL_law_33 rfl (by decide) (by decide) rfl (tgt := 1001) (by decide) (lwc_29 C S hn hi hk1 hR h1521)
        · exact x_tin C (v := 30) dL_law_33 rfl (by decide) (by decide) rfl (tgt := 1024) (by decide) (lwc_30 C S hn hi hk1 hR h1521)
        · exact x_tin C (v := 31) dL_law_33 rfl (by decide) (by decide) rfl (tgt := 1057) (by decide) (lwc_31 C S hn hi hk1 hR h1521)
        · exact x_tin C (v := 32) dL_law_33 rfl (by decide) (by decide) rfl (tgt := 1070) (by decide) (lwc_32 C S hn hi hk1 hR h1521)
        · exact x_tin C (v := 33) dL_law_33 rfl (by decide) (by decide) rfl (tgt := 1093) (by decide) (lwc_33 C S hn hi hk1 hR h1521)
        · exact x_tin C (v := 34) dL_law_33 rfl (by decide) (by decide) rfl (tgt := 1116) (by decide) (lwc_34 C S hn hi hk1 hR h1521)
        · exact x_tin C (v := 35) dL_law_33 rfl (by decide) (by decide) rfl (tgt := 1149) (by decide) (lwc_35 C S hn hi hk1 hR h1521)
        · exact x_tin C (v := 36) dL_law_33 rfl (by decide) (by decide) rfl (tgt := 1162) (by decide) (lwc_36 C S hn hi hk1 hR h1521)
        · exact x_tin C (v := 37) dL_law_33 rfl (by decide) (by decide) rfl (tgt := 1175) (by decide) (lwc_37 C S hn hi hk1 hR h1521)
        · exact x_tin C (v := 38) dL_law_33 rfl (by decide) (by decide) rfl (tgt := 1208) (by decide) (lwc_38 C S hn hi hk1 hR h1521)
        · exact x_tin C (v := 39) dL_law_33 rfl (by decide) (by decide) rfl (tgt := 1241) (by decide) (lwc_39 C S hn hi hk1 hR h1521)
        · exact x_tin C (v := 40) dL_law_33 rfl (by decide) (by decide) rfl (tgt := 1284) (by decide) (lwc_40 C S hn hi hk1 hR h1521)
        · exact x_tin C (v := 41) dL_law_33 rfl (by decide) (by decide) rfl (tgt := 1327) (by decide) (lwc_41 C S hn hi hk1 hR h1521)
        · exact x_tin C (v := 42) dL_law_33 rfl (by decide) (by decide) rfl (tgt := 1390) (by decide) (lwc_42 C S hn hi hk1 hR h1521)
        · exact x_tin C (v := 43) dL_law_33 rfl (by decide) (by decide) rfl (tgt := 1413) (by decide) (lwc_43 C S hn hi hk1 hR h1521)
        · exact x_tin C (v := 44) dL_law_33 rfl (by decide) (by decide) rfl (tgt := 1436) (by decide) (lwc_44 C S hn hi hk1 hR h1521)
        · exact x_tin C (v := 45) dL_law_33 rfl (by decide) (by decide) rfl (tgt := 1449) (by decide) (lwc_45 C S hn hi hk1 hR h1521)
        · exact x_tin C (v := 46) dL_law_33 rfl (by decide) (by decide) rfl (tgt := 1462) (by decide) (lwc_46 C S hn hi hk1 hR h1521)
        · exact x_tin C (v := 47) dL_law_33 rfl (by decide) (by decide) rfl (tgt := 1475) (by decide) (lwc_47 C S hn hi hk1 hR h1521)
        · exact x_tin C (v := 48) dL_law_33 rfl (by decide) (by decide) rfl (tgt := 1498) (by decide) (lwc_48 C S hn hi hk1 hR h1521)
      · intro H locs ls hP hS hL
        refine lv_tableOut C.1 C.2.1 dL_law_33 (Or.inr (by rw [nI_toInt (by omega)]; omega)) (tgt := 1521) (by decide) ?_
        exact x_widen (Nat.le_add_right k 1) (Nat.le_add_right n 6) (h1521 _ hR) H locs ls hP hS hL
