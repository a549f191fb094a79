theorem dX10_text_0 : decode cX10_text 0 = .ok (.aload_n 0, 1) := by decide +kernel
theorem dX10_text_1 : decode cX10_text 1 = .ok (.getfield 23, 3) := by decide +kernel
theorem dX10_text_4 : decode cX10_text 4 = .ok (.aload_n 0, 1) := by decide +kernel
theorem dX10_text_5 : decode cX10_text 5 = .ok (.getfield 10, 3) := by decide +kernel
theorem dX10_text_8 : decode cX10_text 8 = .ok (.invokevirtual 223, 3) := by decide +kernel
theorem dX10_text_11 : decode cX10_text 11 = .ok (.new 241, 3) := by decide +kernel
theorem dX10_text_14 : decode cX10_text 14 = .ok (.dup, 1) := by decide +kernel
theorem dX10_text_15 : decode cX10_text 15 = .ok (.aload_n 0, 1) := by decide +kernel
theorem dX10_text_16 : decode cX10_text 16 = .ok (.getfield 29, 3) := by decide +kernel
theorem dX10_text_19 : decode cX10_text 19 = .ok (.aload_n 0, 1) := by decide +kernel
theorem dX10_text_20 : decode cX10_text 20 = .ok (.getfield 23, 3) := by decide +kernel
theorem dX10_text_23 : decode cX10_text 23 = .ok (.invokespecial 243, 3) := by decide +kernel
theorem dX10_text_26 : decode cX10_text 26 = .ok (.invokevirtual 246, 3) := by decide +kernel
theorem dX10_text_29 : decode cX10_text 29 = .ok (.istore_n 1, 1) := by decide +kernel
theorem dX10_text_30 : decode cX10_text 30 = .ok (.aload_n 0, 1) := by decide +kernel
theorem dX10_text_31 : decode cX10_text 31 = .ok (.getfield 29, 3) := by decide +kernel
theorem dX10_text_34 : decode cX10_text 34 = .ok (.invokevirtual 238, 3) := by decide +kernel
theorem dX10_text_37 : decode cX10_text 37 = .ok (.iload_n 1, 1) := by decide +kernel
theorem dX10_text_38 : decode cX10_text 38 = .ok (.ifCond .lt 14, 3) := by decide +kernel
theorem dX10_text_41 : decode cX10_text 41 = .ok (.aload_n 0, 1) := by decide +kernel
theorem dX10_text_42 : decode cX10_text 42 = .ok (.getfield 10, 3) := by decide +kernel
theorem dX10_text_45 : decode cX10_text 45 = .ok (.aload_n 0, 1) := by decide +kernel
theorem dX10_text_46 : decode cX10_text 46 = .ok (.getfield 23, 3) := by decide +kernel
theorem dX10_text_49 : decode cX10_text 49 = .ok (.invokevirtual 223, 3) := by decide +kernel
theorem dX10_text_52 : decode cX10_text 52 = .ok (.iload_n 1, 1) := by decide +kernel
theorem dX10_text_53 : decode cX10_text 53 = .ok (.ireturn, 1) := by decide +kernel
def gS (G : qG) (q : Nat) : qG := (gD G, fun i => if i = 66 then q else ga G i, gC G, gb G, 67, gK G, gV G)
theorem gS_lay : ((List.range 66).all (fun o => !(qk o == 4) && (qfO (qk o)).all (fun j => Nat.blt (o + j) 66))) = true := by decide +kernel
theorem gS_qc {G : qG} {μ : qM} {q : Nat} {f : Nat → Int32} {o : Nat} (ho : o < 66) : qcK (gS G q) (qr μ 66 f) (qk o) o = qcK G μ (qk o) o := by
  have h0 := List.all_eq_true.mp gS_lay o (List.mem_range.mpr ho)
  simp only [Bool.and_eq_true, Bool.not_eq_true', beq_eq_false_iff_ne] at h0
  obtain ⟨h4, hj⟩ := h0
  have hr : (qr μ 66 f) o = μ o := qr_n (by omega)
  unfold qcK
  by_cases h : qk o < 11
  · rw [if_pos h, if_pos h]
    have e : qfL (gS G q) (qr μ 66 f) (qk o) o = qfL G μ (qk o) o := by
      unfold qfL
      apply List.map_congr_left
      intro k hk
      rw [List.mem_range] at hk
      unfold qfV
      rw [hr]
      by_cases h2 : (qfO (qk o)).getD k 0 = 0
      · rw [if_pos h2, if_pos h2]
      · rw [if_neg h2, if_neg h2]
        have hm : (qfO (qk o)).getD k 0 ∈ qfO (qk o) := by
          rw [List.getD_eq_getElem?_getD, List.getElem?_eq_getElem hk]
          exact List.getElem_mem hk
        have h3 := List.all_eq_true.mp hj _ hm
        have h5 : qtg (qk o) o ((qfO (qk o)).getD k 0) < 66 := by
          unfold qtg
          rw [if_neg h4]
          simpa using h3
        show Value.ref (if qtg (qk o) o ((qfO (qk o)).getD k 0) = 66 then q else ga G _) = _
        rw [if_neg (by omega)]
    rw [e]
  · rw [if_neg h, if_neg h, hr]
    have e : (fun j : Nat => some (ga (gS G q) (25 + 2 * j))) = (fun j : Nat => some (ga G (25 + 2 * j))) := by
      funext j
      show some (if 25 + 2 * j = 66 then q else ga G _) = _
      rw [if_neg (by omega)]
    rw [e]
    rfl
theorem qW_S {G : qG} {μ : qM} {q : Nat} {f : Nat → Int32} (hn : gn G = 66) : qW (gS G q) (qr μ 66 f) = qW G μ ++ [(q, .inr (4, [.ref (ga G 22), .ref (ga G 15), .int (f 2), .int (f 3), .int (f 4), .int (f 5)]))] := by
  unfold qW
  show (List.range (66 + 1)).map _ = _
  rw [hn, List.range_succ, List.map_append]
  congr 1
  apply List.map_congr_left
  intro o ho
  rw [List.mem_range] at ho
  rw [gS_qc ho]
  show ((if o = 66 then q else ga G o), _) = _
  rw [if_neg (by omega)]
theorem qW_len {G : qG} {μ : qM} : (qW G μ).length = gn G := by simp [qW]
theorem qr_self {μ : qM} {i : Nat} : qr μ i (μ i) = μ := by
  funext a
  unfold qr
  by_cases h : a = i
  · rw [if_pos h, h]
  · rw [if_neg h]
theorem gS_qH {G : qG} {μ : qM} {q : Nat} {H : Heap} (hn : gn G = 66) (h : qH (gS G q) μ H) : qH G μ H := by
  have h1 : va_P (gD G) vwCl (qW (gS G q) (qr μ 66 (μ 66))) H := by rw [qr_self]; exact h
  rw [qW_S hn] at h1
  intro k p hk
  have hl : k < (qW G μ).length := (List.getElem?_eq_some_iff.mp hk).1
  exact h1 k p (by rw [List.getElem?_append_left hl]; exact hk)
theorem x_drop {Z : qZ} {G : qG} {nL k n : Nat} {μ : qM} {pc : Nat} {L : List (Nat × Value)} {st : List Value} {q : Nat} (hn : gn G = 66) (h : qV Z G nL k n μ pc L st) : qV Z (gS G q) nL k n μ pc L st := fun H locs ls hP hS hL => h H locs ls (gS_qH hn hP) hS hL
theorem q_rng {α : Type} (a b : List α) : (List.range a.length).map (fun i => (a ++ b)[i]?) = a.map some := by
  apply List.ext_getElem?
  intro i
  rw [List.getElem?_map, List.getElem?_map]
  by_cases h : i < a.length
  · rw [List.getElem?_range h, List.getElem?_eq_getElem h]
    show some ((a ++ b)[i]?) = _
    rw [List.getElem?_append_left h, List.getElem?_eq_getElem h]
    rfl
  · rw [List.getElem?_eq_none (by rw [List.length_range]; omega), List.getElem?_eq_none (by omega)]
    rfl
theorem qCi_ofk {l : Launch} {G : qG} {y : MethodName} {bytes : ByteArray} {maxL mc ms : Nat} {ret' : Option FieldType} {rmc : Room} {vs : List Value} {μ : qM} {wp : (Int32 → qM → Prop) → Prop} {L : List (Nat × Value)} (hy : plainName y.cls = true) (hL : lv_args 0 vs = L) (hn : Nat.ble (lg_sl vs).length maxL = true) (h : ∀ (Z : qZ) (post : Int32 → qM → Prop), Z.2.1 = l → qX Z G y.cls bytes maxL rmc ret' → qQi Z G mc ms post → wp post → qV Z G maxL 0 0 μ 0 L []) : qCi l G y bytes maxL ret' rmc mc ms vs μ wp := by
  intro post
  refine Met.ofW (cc := bytes) (maxL := maxL) (ret := ret') hy rfl ?_
  intro p e s m args below meth c s₁ B hml hv
  obtain ⟨rfl, ⟨hP, hK, hD, hb, hE⟩, hw⟩ := hv
  have hts := atoms_spec (ws := .code y bytes maxL ret' :: wsL_law) B.pre
  have hown : s.vm.findClass y.cls = some m.cls := findClass_of_methodNamed B.named
  rw [lg_entry_eq]
  exact h (p, l, e, rmc, s, m, vs.toArray, below, meth, c, MQ below (va_Qi post (fun μ t => qH G μ t.heap) (qA G)) vs.toArray s mc ms (qA G)) post rfl ⟨B.exec, B.bytes, hml, hown, fun w hw => hts w (List.mem_cons_of_mem _ hw), rfl, B.returns, B.notSynchronized, hK, qD_any hD, hb, hE⟩ rfl hw s.heap [] _ hP va_S.rf (by rw [← hL]; exact lv_entry vs (Nat.le_of_ble_eq_true hn))
set_option maxRecDepth 100000 in
set_option maxHeartbeats 4000000 in
theorem x_scribe {Z : qZ} {G : qG} {rm : Room} {μ : qM} (C : qX Z G RX10 cX10_text 2 rm (some .int)) (hn : gn G = 66) (hr : rm = ({ frames := 11, cells := 1, slots := 6, locals := 268 } : Room)) (h : ∀ q : Nat, qX Z (gS G q) RX10 cX10_text 2 rm (some .int) → ∀ f : Nat → Int32, f 2 = 0 → f 3 = 0 → f 4 = 0 → f 5 = 0 → qV Z (gS G q) 2 1 6 (qr μ 66 f) 26 [(0, .ref (ga G 0))] [.ref q]) : qV Z G 2 0 0 μ 11 [(0, .ref (ga G 0))] [] := fun H locs ls hP hS hL => by
  subst hr
  have hts := C.2.2.2.2.1
  have hRR := C.2.2.2.2.2.1
  have hK := C.2.2.2.2.2.2.2.2.1
  have hD : va_D (qA G) (qW G μ) := qD_any C.2.2.2.2.2.2.2.2.2.1
  have hA : ∀ q : Nat, (zs Z).heap.size ≤ q → qA G q := fun q hq => Nat.le_trans C.2.2.2.2.2.2.2.2.2.2.1 hq
  have hP : va_P (gD G) vwCl (qW G μ) H := hP
  have hlen : (qW G μ).length = 66 := qW_len.trans hn
  refine va_new (ci := 4) (fs := [.null, .null, .int 0, .int 0, .int 0, .int 0]) (C := RX5) (T := TX5) (N := 6) C.1 C.2.1 hts inlX5 tyX5 tyX5_ok C.2.2.2.1 (hts _ (qm_37 _ (List.mem_of_getElem? (i := 15) rfl))) (hts _ (qm_37 _ (List.mem_of_getElem? (i := 16) rfl))) (hts _ (qm_37 _ (List.mem_of_getElem? (i := 17) rfl))) hK hP hD hS hA rfl (fun j hj => by rcases (show j = 0 ∨ j = 1 ∨ j = 2 ∨ j = 3 ∨ j = 4 ∨ j = 5 by omega) with rfl | rfl | rfl | rfl | rfl | rfl <;> rfl) (by rw [hRR]; exact Nat.le_of_ble_eq_true rfl) (by rw [hRR]; exact Nat.le_of_ble_eq_true rfl) dX10_text_11 (fun q H1 hP1 hD1 hS1 => ?_)
  have e0 : (qW G μ ++ [(q, .inr (4, [.null, .null, .int 0, .int 0, .int 0, .int 0]))])[0]? = some (ga G 0, .inr (9, qfL G μ 9 0)) := by
    rw [List.getElem?_append_left (by omega)]
    exact qW_at (by rw [hn]; decide) rfl
  have e66 : (qW G μ ++ [(q, (.inr (4, [.null, .null, .int 0, .int 0, .int 0, .int 0]) : va_E))])[66]? = some (q, .inr (4, [.null, .null, .int 0, .int 0, .int 0, .int 0])) := by
    rw [List.getElem?_append_right (by omega), hlen]
    rfl
  refine lv_dup C.1 C.2.1 dX10_text_14 rfl ?_
  refine lv_aload_n C.1 C.2.1 dX10_text_15 rfl (lv_at hL 0 rfl) ?_
  refine va_get (D := gD G) (ci := 9) (v := .ref (ga G 22)) (C := RX10) (T := TX10) (N := 11) C.1 C.2.1 hts inlX10 C.2.2.2.1 hK hP1 0 e0 rfl 4 (by decide) (hts _ (qm_1 _ (List.mem_of_getElem? (i := 22) rfl))) (fun _ h9 => h9) rfl dX10_text_16 ?_
  refine lv_aload_n C.1 C.2.1 dX10_text_19 rfl (lv_at hL 0 rfl) ?_
  refine va_get (D := gD G) (ci := 9) (v := .ref (ga G 15)) (C := RX10) (T := TX10) (N := 11) C.1 C.2.1 hts inlX10 C.2.2.2.1 hK hP1 0 e0 rfl 3 (by decide) (hts _ (qm_1 _ (List.mem_of_getElem? (i := 18) rfl))) (fun _ h9 => h9) rfl dX10_text_20 ?_
  have hC : ([66] : List Nat).map (fun i => (qW G μ ++ [(q, (.inr (4, [.null, .null, .int 0, .int 0, .int 0, .int 0]) : va_E))])[i]?) = [(q, (.inr (4, [.null, .null, .int 0, .int 0, .int 0, .int 0]) : va_E))].map some := by
    simp only [List.map_cons, List.map_nil, e66]
  have hPc := hP1.sub (ws' := [(q, .inr (4, [.null, .null, .int 0, .int 0, .int 0, .int 0]))]) [66] (by simp only [List.filterMap_cons, List.filterMap_nil, e66])
  have hDc := hD1.sub (ws' := [(q, .inr (4, [.null, .null, .int 0, .int 0, .int 0, .int 0]))]) [66] (by decide) hC
  have hFc := va_free hD1 hS1 hA [66] hC
  refine va_callv (va_runI (Ts := wsL_law) (own := RX10) (b := q) (As := [.ref (ga G 22), .ref (ga G 15)]) (rest := [.ref q]) (n := 2) ⟨C.1, C.2.1, C.2.2.1, C.2.2.2.1, hts⟩ (c_X5_init Z.2.1 G H1.size) ⟨⟨y_X5_init.2.2.2.2.1, y_X5_init.2.2.2.2.2, by rw [hRR]; exact Nat.le_of_ble_eq_true rfl, by rw [hRR]; exact Nat.le_of_ble_eq_true rfl, q_pay hts y_X5_init.1, List.mem_cons_self, hts _ y_X5_init.1, hts _ y_X5_init.2.1, y_X5_init.2.2.1, q_len y_X5_init.2.2.2.1, hts _ (qm_37 _ (List.mem_of_getElem? (i := 18) rfl))⟩, rfl, hts _ (qm_37 _ (List.mem_of_getElem? (i := 19) rfl))⟩ ⟨kP_blind, fun U hU hW => ⟨rfl, by rw [hU], by rw [hU]; exact hPc, va_K.moved hW.alike hK, hDc.weaken (fun _ _ _ _ => trivial), fun hb => by cases hb⟩⟩ rfl rfl hL.1 rfl (lv_room (Nat.le_of_ble_eq_true rfl)) dX10_text_23 (by rw [hRR]; exact ⟨Nat.le_of_ble_eq_true rfl, Nat.le_of_ble_eq_true rfl⟩)) hS1 (fun q _ h => hFc q h) hFc (fun u t H2 locs2 ht _ hw hB _ hk1 hS2 => ?_)
  obtain ⟨hP2, hD2⟩ := hB
  rw [ht] at hP2
  have hw : u = [(q, .inr (4, [.ref (ga G 22), .ref (ga G 15), .int 0, .int 0, .int 0, .int 0]))] := hw
  subst hw
  obtain ⟨hP3, hD3⟩ := va_join (wr := qW G μ) hP1 hD1 [66] (List.range 66) hC (by have := q_rng (qW G μ) [(q, (.inr (4, [.null, .null, .int 0, .int 0, .int 0, .int 0]) : va_E))]; rw [hlen] at this; exact this) (by decide +kernel) (fun i hi hi2 => by rw [List.mem_range] at hi; rw [List.mem_singleton] at hi2; omega) hk1 hFc hP2 hD2
  have e := qW_S (G := G) (μ := μ) (q := q) (f := fun _ => 0) hn
  rw [← e] at hP3 hD3
  exact h q ⟨C.1, C.2.1, C.2.2.1, C.2.2.2.1, hts, hRR, C.2.2.2.2.2.2.1, C.2.2.2.2.2.2.2.1, hK, qD_any (G := gS G q) hD3, C.2.2.2.2.2.2.2.2.2.2.1, C.2.2.2.2.2.2.2.2.2.2.2⟩ (fun _ => 0) rfl rfl rfl rfl H2 locs2 ls hP3 hS2 hL
theorem y_X10_text : qY yX10_text cX10_text 2 (some .int) 0 ({ frames := 11, cells := 1, slots := 6, locals := 268 } : Room) 1 6 := ⟨(qm_37 _ (List.mem_of_getElem? (i := 14) rfl)), (qm_1 _ (List.mem_of_getElem? (i := 2) rfl)), by decide +kernel, by decide +kernel, rfl, rfl⟩
set_option maxRecDepth 100000 in
set_option maxHeartbeats 4000000 in
theorem c_X10_text (l : Launch) (G : qG) {μ : qM} (hn : gn G = 66) : qCi l G yX10_text cX10_text 2 (some .int) ({ frames := 11, cells := 1, slots := 6, locals := 268 } : Room) 1 6 [.ref (ga G 0)] μ (fun post => w_X10_text post μ) := by
  have h66 : 66 ≤ gn G := by omega
  refine qCi_ofk (L := [(0, .ref (ga G 0))]) (by decide) rfl rfl ?_
  intro Z post hl C hQ h
  have C : qX Z G RX10 cX10_text 2 ({ frames := 11, cells := 1, slots := 6, locals := 268 } : Room) (some .int) := C
  have h : w_X10_text post μ := h
  unfold w_X10_text at h
  refine x_aload_n C 0 dX10_text_0 rfl rfl ?_
  refine g_RX10_23 C h66 dX10_text_1 ?_
  refine x_aload_n C 0 dX10_text_4 rfl rfl ?_
  refine g_RX10_10 C h66 dX10_text_5 ?_
  refine i_RX10_223 C h66 rfl rfl rfl ⟨Nat.le_of_ble_eq_true rfl, Nat.le_of_ble_eq_true rfl⟩ rfl dX10_text_8 h (fun μ1 h => ?_)
  refine x_scribe C hn rfl (fun q C' f f2 f3 f4 f5 => ?_)
  have h := h f f2 f3 f4 f5
  refine x_Vi [] [] C' 66 4 (wp := fun K => w_X5_read K (qr μ1 66 f)) y_X5_read (qm_38 _ (List.mem_of_getElem? (i := 5) rfl)) (qm_38 _ (List.mem_of_getElem? (i := 6) rfl)) (qm_38 _ (List.mem_of_getElem? (i := 4) rfl)) (c_X5_read Z.2.1 (gS G q) (show 66 ≤ 67 by decide) (show 67 ≤ 67 by decide)) (show 66 < 67 by decide) rfl (by decide) rfl rfl rfl ⟨Nat.le_of_ble_eq_true rfl, Nat.le_of_ble_eq_true rfl⟩ rfl rfl rfl dX10_text_26 h (fun r μ2 h => ?_)
  refine x_istore_n C' (L' := [(1, .int r), (0, .ref (ga G 0))]) dX10_text_29 rfl (by decide) rfl ?_
  refine x_drop hn ?_
  refine x_aload_n C 1 dX10_text_30 rfl rfl ?_
  refine g_RX10_29 C h66 dX10_text_31 ?_
  refine i_RX10_238 C h66 rfl rfl ⟨Nat.le_of_ble_eq_true rfl, Nat.le_of_ble_eq_true rfl⟩ rfl dX10_text_34 h (fun μ3 h => ?_)
  refine x_iload_n C 0 dX10_text_37 rfl rfl ?_
  refine x_if_lt C dX10_text_38 (tgt := 52) (by decide) h (fun h => ?_) (fun h => ?_)
  · refine x_iload_n C 0 dX10_text_52 rfl rfl ?_
    exact x_iret C hQ dX10_text_53 h
  · refine x_aload_n C 1 dX10_text_41 rfl rfl ?_
    refine g_RX10_10 C h66 dX10_text_42 ?_
    refine x_aload_n C 1 dX10_text_45 rfl rfl ?_
    refine g_RX10_23 C h66 dX10_text_46 ?_
    refine i_RX10_223 C h66 rfl rfl rfl ⟨Nat.le_of_ble_eq_true rfl, Nat.le_of_ble_eq_true rfl⟩ rfl dX10_text_49 h (fun μ4 h => ?_)
    refine x_iload_n C 0 dX10_text_52 rfl rfl ?_
    exact x_iret C hQ dX10_text_53 h
