theorem dX11_tear_0 : decode cX11_tear 0 = .ok (.aload_n 0, 1) := by decide +kernel
theorem dX11_tear_1 : decode cX11_tear 1 = .ok (.getfield 336, 3) := by decide +kernel
theorem dX11_tear_4 : decode cX11_tear 4 = .ok (.ifCond .eq 7, 3) := by decide +kernel
theorem dX11_tear_7 : decode cX11_tear 7 = .ok (.iconst 1, 1) := by decide +kernel
theorem dX11_tear_8 : decode cX11_tear 8 = .ok (.goto 4, 3) := by decide +kernel
theorem dX11_tear_11 : decode cX11_tear 11 = .ok (.iconst 0, 1) := by decide +kernel
theorem dX11_tear_12 : decode cX11_tear 12 = .ok (.istore_n 1, 1) := by decide +kernel
theorem dX11_tear_13 : decode cX11_tear 13 = .ok (.aload_n 0, 1) := by decide +kernel
theorem dX11_tear_14 : decode cX11_tear 14 = .ok (.iconst 0, 1) := by decide +kernel
theorem dX11_tear_15 : decode cX11_tear 15 = .ok (.putfield 336, 3) := by decide +kernel
theorem dX11_tear_18 : decode cX11_tear 18 = .ok (.iload_n 1, 1) := by decide +kernel
theorem dX11_tear_19 : decode cX11_tear 19 = .ok (.ireturn, 1) := by decide +kernel
theorem b_X11_tear_12 {Z : qZ} {G : qG} {s0 : Int32} {μ : qM} {post : Int32 → qM → Prop} (C : qX Z G RX11 cX11_tear 2 ({ frames := 0, cells := 0, slots := 0, locals := 0 } : Room) (some .int)) (hQ : qQi Z G 0 0 post) (hn : 66 ≤ gn G) (h : q_X11_tear_12 post s0 μ) : qV Z G 2 0 0 μ 12 [(0, .ref (ga G 46))] [.int s0] := by
  unfold q_X11_tear_12 at h
  refine x_istore_n C (L' := [(1, .int s0), (0, .ref (ga G 46))]) dX11_tear_12 rfl (by decide) rfl ?_
  refine x_aload_n C 1 dX11_tear_13 rfl rfl ?_
  refine x_iconst C dX11_tear_14 (v := 0) (by decide) ?_
  refine p_RX11_336 C hn dX11_tear_15 h (fun h => ?_)
  refine x_iload_n C 0 dX11_tear_18 rfl rfl ?_
  exact x_iret C hQ dX11_tear_19 h
theorem y_X11_tear : qY yX11_tear cX11_tear 2 (some .int) 0 ({ frames := 0, cells := 0, slots := 0, locals := 0 } : Room) 0 0 := ⟨(qm_51 _ (List.mem_of_getElem? (i := 16) rfl)), (qm_1 _ (List.mem_of_getElem? (i := 5) rfl)), by decide +kernel, by decide +kernel, rfl, rfl⟩
theorem c_X11_tear (l : Launch) (G : qG) {μ : qM} (hn : 66 ≤ gn G) : qCi l G yX11_tear cX11_tear 2 (some .int) ({ frames := 0, cells := 0, slots := 0, locals := 0 } : Room) 0 0 [.ref (ga G 46)] μ (fun post => w_X11_tear  post μ) := by
  refine qCi_of (L := [(0, .ref (ga G 46))]) (by decide) rfl rfl ?_
  intro Z post hl C hQ h
  have C : qX Z G RX11 cX11_tear 2 ({ frames := 0, cells := 0, slots := 0, locals := 0 } : Room) (some .int) := C
  have h : w_X11_tear  post μ := h
  unfold w_X11_tear at h
  refine x_aload_n C 0 dX11_tear_0 rfl rfl ?_
  refine g_RX11_336 C hn dX11_tear_1 ?_
  refine x_if_eq C dX11_tear_4 (tgt := 11) (by decide) h (fun h => ?_) (fun h => ?_)
  · refine x_iconst C dX11_tear_11 (v := 0) (by decide) ?_
    exact b_X11_tear_12 C hQ hn h
  · refine x_iconst C dX11_tear_7 (v := 1) (by decide) ?_
    refine x_goto C dX11_tear_8 (tgt := 12) (by decide) ?_
    exact b_X11_tear_12 C hQ hn h
theorem dX11_allPairs_0 : decode cX11_allPairs 0 = .ok (.iconst 0, 1) := by decide +kernel
theorem dX11_allPairs_1 : decode cX11_allPairs 1 = .ok (.istore_n 1, 1) := by decide +kernel
theorem dX11_allPairs_2 : decode cX11_allPairs 2 = .ok (.iconst 0, 1) := by decide +kernel
theorem dX11_allPairs_3 : decode cX11_allPairs 3 = .ok (.istore_n 2, 1) := by decide +kernel
theorem dX11_allPairs_4 : decode cX11_allPairs 4 = .ok (.iload_n 2, 1) := by decide +kernel
theorem dX11_allPairs_5 : decode cX11_allPairs 5 = .ok (.aload_n 0, 1) := by decide +kernel
theorem dX11_allPairs_6 : decode cX11_allPairs 6 = .ok (.getfield 76, 3) := by decide +kernel
theorem dX11_allPairs_9 : decode cX11_allPairs 9 = .ok (.if_icmp .ge 20, 3) := by decide +kernel
theorem dX11_allPairs_12 : decode cX11_allPairs 12 = .ok (.iload_n 1, 1) := by decide +kernel
theorem dX11_allPairs_13 : decode cX11_allPairs 13 = .ok (.aload_n 0, 1) := by decide +kernel
theorem dX11_allPairs_14 : decode cX11_allPairs 14 = .ok (.iload_n 2, 1) := by decide +kernel
theorem dX11_allPairs_15 : decode cX11_allPairs 15 = .ok (.invokevirtual 135, 3) := by decide +kernel
theorem dX11_allPairs_18 : decode cX11_allPairs 18 = .ok (.invokestatic 184, 3) := by decide +kernel
theorem dX11_allPairs_21 : decode cX11_allPairs 21 = .ok (.iadd, 1) := by decide +kernel
theorem dX11_allPairs_22 : decode cX11_allPairs 22 = .ok (.istore_n 1, 1) := by decide +kernel
theorem dX11_allPairs_23 : decode cX11_allPairs 23 = .ok (.iinc 2 1, 3) := by decide +kernel
theorem dX11_allPairs_26 : decode cX11_allPairs 26 = .ok (.goto (-22), 3) := by decide +kernel
theorem dX11_allPairs_29 : decode cX11_allPairs 29 = .ok (.iload_n 1, 1) := by decide +kernel
theorem dX11_allPairs_30 : decode cX11_allPairs 30 = .ok (.iconst 2, 1) := by decide +kernel
theorem dX11_allPairs_31 : decode cX11_allPairs 31 = .ok (.idiv, 1) := by decide +kernel
theorem dX11_allPairs_32 : decode cX11_allPairs 32 = .ok (.ireturn, 1) := by decide +kernel
theorem b_X11_allPairs_4 {Z : qZ} {G : qG} {v1 : Int32} {v2 : Int32} {μ : qM} {post : Int32 → qM → Prop} (C : qX Z G RX11 cX11_allPairs 3 ({ frames := 5, cells := 0, slots := 0, locals := 112 } : Room) (some .int)) (hQ : qQi Z G 0 0 post) (hn : 66 ≤ gn G) (h : q_X11_allPairs_4 post v1 v2 μ) : qV Z G 3 0 0 μ 4 [(0, .ref (ga G 46)), (1, .int v1), (2, .int v2)] [] := by
  refine h (fun v1 v2 μ => qV Z G 3 0 0 μ 4 [(0, .ref (ga G 46)), (1, .int v1), (2, .int v2)] []) (fun v1 v2 μ h => ?_)
  refine x_iload_n C 2 dX11_allPairs_4 rfl rfl ?_
  refine x_aload_n C 0 dX11_allPairs_5 rfl rfl ?_
  refine g_RX11_76 C hn dX11_allPairs_6 ?_
  refine x_icmp_ge C dX11_allPairs_9 (tgt := 29) (by decide) h (fun h => ?_) (fun h => ?_)
  · refine x_iload_n C 1 dX11_allPairs_29 rfl rfl ?_
    refine x_iconst C dX11_allPairs_30 (v := 2) (by decide) ?_
    refine x_idiv C dX11_allPairs_31 h (fun h => ?_)
    exact x_iret C hQ dX11_allPairs_32 h
  · refine x_iload_n C 1 dX11_allPairs_12 rfl rfl ?_
    refine x_aload_n C 0 dX11_allPairs_13 rfl rfl ?_
    refine x_iload_n C 2 dX11_allPairs_14 rfl rfl ?_
    refine i_RX11_135 (rest := [.int v1]) C hn  rfl (by decide) rfl dX11_allPairs_15 h (fun r15 μ15 h => ?_)
    refine i_RX11_184 (rest := [.int v1]) C hn  rfl (by decide) rfl dX11_allPairs_18 h (fun r18 μ18 h => ?_)
    refine x_iadd C dX11_allPairs_21 ?_
    refine x_istore_n C (L' := [(1, .int ((v1 + r18))), (0, .ref (ga G 46)), (2, .int v2)]) dX11_allPairs_22 rfl (by decide) rfl ?_
    refine x_iinc C 2 (v := 1) (L' := [(2, .int ((v2 + 1))), (1, .int ((v1 + r18))), (0, .ref (ga G 46))]) dX11_allPairs_23 rfl (by decide) (by decide) rfl ?_
    refine x_goto C dX11_allPairs_26 (tgt := 4) (by decide) ?_
    exact qV_sub [2, 1, 0] rfl (h)
theorem y_X11_allPairs : qY yX11_allPairs cX11_allPairs 3 (some .int) 0 ({ frames := 5, cells := 0, slots := 0, locals := 112 } : Room) 0 0 := ⟨(qm_52 _ (List.mem_of_getElem? (i := 18) rfl)), (qm_1 _ (List.mem_of_getElem? (i := 5) rfl)), by decide +kernel, by decide +kernel, rfl, rfl⟩
theorem c_X11_allPairs (l : Launch) (G : qG) {μ : qM} (hn : 66 ≤ gn G) : qCi l G yX11_allPairs cX11_allPairs 3 (some .int) ({ frames := 5, cells := 0, slots := 0, locals := 112 } : Room) 0 0 [.ref (ga G 46)] μ (fun post => w_X11_allPairs  post μ) := by
  refine qCi_of (L := [(0, .ref (ga G 46))]) (by decide) rfl rfl ?_
  intro Z post hl C hQ h
  have C : qX Z G RX11 cX11_allPairs 3 ({ frames := 5, cells := 0, slots := 0, locals := 112 } : Room) (some .int) := C
  have h : w_X11_allPairs  post μ := h
  unfold w_X11_allPairs at h
  refine x_iconst C dX11_allPairs_0 (v := 0) (by decide) ?_
  refine x_istore_n C (L' := [(1, .int ((0 : Int32))), (0, .ref (ga G 46))]) dX11_allPairs_1 rfl (by decide) rfl ?_
  refine x_iconst C dX11_allPairs_2 (v := 0) (by decide) ?_
  refine x_istore_n C (L' := [(2, .int ((0 : Int32))), (1, .int ((0 : Int32))), (0, .ref (ga G 46))]) dX11_allPairs_3 rfl (by decide) rfl ?_
  exact qV_sub [2, 1, 0] rfl (b_X11_allPairs_4 C hQ hn h)
theorem dX11_allWorth_0 : decode cX11_allWorth 0 = .ok (.iconst 0, 1) := by decide +kernel
theorem dX11_allWorth_1 : decode cX11_allWorth 1 = .ok (.istore_n 1, 1) := by decide +kernel
theorem dX11_allWorth_2 : decode cX11_allWorth 2 = .ok (.iconst 0, 1) := by decide +kernel
theorem dX11_allWorth_3 : decode cX11_allWorth 3 = .ok (.istore_n 2, 1) := by decide +kernel
theorem dX11_allWorth_4 : decode cX11_allWorth 4 = .ok (.iload_n 2, 1) := by decide +kernel
theorem dX11_allWorth_5 : decode cX11_allWorth 5 = .ok (.sipush 144, 3) := by decide +kernel
theorem dX11_allWorth_8 : decode cX11_allWorth 8 = .ok (.if_icmp .ge 18, 3) := by decide +kernel
theorem dX11_allWorth_11 : decode cX11_allWorth 11 = .ok (.iload_n 1, 1) := by decide +kernel
theorem dX11_allWorth_12 : decode cX11_allWorth 12 = .ok (.aload_n 0, 1) := by decide +kernel
theorem dX11_allWorth_13 : decode cX11_allWorth 13 = .ok (.getfield 16, 3) := by decide +kernel
theorem dX11_allWorth_16 : decode cX11_allWorth 16 = .ok (.iload_n 2, 1) := by decide +kernel
theorem dX11_allWorth_17 : decode cX11_allWorth 17 = .ok (.iaload, 1) := by decide +kernel
theorem dX11_allWorth_18 : decode cX11_allWorth 18 = .ok (.iadd, 1) := by decide +kernel
theorem dX11_allWorth_19 : decode cX11_allWorth 19 = .ok (.istore_n 1, 1) := by decide +kernel
theorem dX11_allWorth_20 : decode cX11_allWorth 20 = .ok (.iinc 2 1, 3) := by decide +kernel
theorem dX11_allWorth_23 : decode cX11_allWorth 23 = .ok (.goto (-19), 3) := by decide +kernel
theorem dX11_allWorth_26 : decode cX11_allWorth 26 = .ok (.iload_n 1, 1) := by decide +kernel
theorem dX11_allWorth_27 : decode cX11_allWorth 27 = .ok (.ireturn, 1) := by decide +kernel
theorem b_X11_allWorth_4 {Z : qZ} {G : qG} {v1 : Int32} {v2 : Int32} {μ : qM} {post : Int32 → qM → Prop} (C : qX Z G RX11 cX11_allWorth 3 ({ frames := 0, cells := 0, slots := 0, locals := 0 } : Room) (some .int)) (hQ : qQi Z G 0 0 post) (hn : 66 ≤ gn G) (h : q_X11_allWorth_4 post v1 v2 μ) : qV Z G 3 0 0 μ 4 [(0, .ref (ga G 46)), (1, .int v1), (2, .int v2)] [] := by
  refine h (fun v1 v2 μ => qV Z G 3 0 0 μ 4 [(0, .ref (ga G 46)), (1, .int v1), (2, .int v2)] []) (fun v1 v2 μ h => ?_)
  refine x_iload_n C 2 dX11_allWorth_4 rfl rfl ?_
  refine x_sipush C dX11_allWorth_5 (v := 144) (by decide) ?_
  refine x_icmp_ge C dX11_allWorth_8 (tgt := 26) (by decide) h (fun h => ?_) (fun h => ?_)
  · refine x_iload_n C 1 dX11_allWorth_26 rfl rfl ?_
    exact x_iret C hQ dX11_allWorth_27 h
  · refine x_iload_n C 1 dX11_allWorth_11 rfl rfl ?_
    refine x_aload_n C 0 dX11_allWorth_12 rfl rfl ?_
    refine g_RX11_16 C hn dX11_allWorth_13 ?_
    refine x_iload_n C 2 dX11_allWorth_16 rfl rfl ?_
    refine x_iald C 49 12 144 (q_lt rfl rfl hn) rfl rfl rfl rfl rfl dX11_allWorth_17 h (fun h => ?_)
    refine x_iadd C dX11_allWorth_18 ?_
    refine x_istore_n C (L' := [(1, .int ((v1 + (μ 49 v2.toNatClampNeg)))), (0, .ref (ga G 46)), (2, .int v2)]) dX11_allWorth_19 rfl (by decide) rfl ?_
    refine x_iinc C 2 (v := 1) (L' := [(2, .int ((v2 + 1))), (1, .int ((v1 + (μ 49 v2.toNatClampNeg)))), (0, .ref (ga G 46))]) dX11_allWorth_20 rfl (by decide) (by decide) rfl ?_
    refine x_goto C dX11_allWorth_23 (tgt := 4) (by decide) ?_
    exact qV_sub [2, 1, 0] rfl (h)
theorem y_X11_allWorth : qY yX11_allWorth cX11_allWorth 3 (some .int) 0 ({ frames := 0, cells := 0, slots := 0, locals := 0 } : Room) 0 0 := ⟨(qm_52 _ (List.mem_of_getElem? (i := 22) rfl)), (qm_1 _ (List.mem_of_getElem? (i := 5) rfl)), by decide +kernel, by decide +kernel, rfl, rfl⟩
theorem c_X11_allWorth (l : Launch) (G : qG) {μ : qM} (hn : 66 ≤ gn G) : qCi l G yX11_allWorth cX11_allWorth 3 (some .int) ({ frames := 0, cells := 0, slots := 0, locals := 0 } : Room) 0 0 [.ref (ga G 46)] μ (fun post => w_X11_allWorth  post μ) := by
  refine qCi_of (L := [(0, .ref (ga G 46))]) (by decide) rfl rfl ?_
  intro Z post hl C hQ h
  have C : qX Z G RX11 cX11_allWorth 3 ({ frames := 0, cells := 0, slots := 0, locals := 0 } : Room) (some .int) := C
  have h : w_X11_allWorth  post μ := h
  unfold w_X11_allWorth at h
  refine x_iconst C dX11_allWorth_0 (v := 0) (by decide) ?_
  refine x_istore_n C (L' := [(1, .int ((0 : Int32))), (0, .ref (ga G 46))]) dX11_allWorth_1 rfl (by decide) rfl ?_
  refine x_iconst C dX11_allWorth_2 (v := 0) (by decide) ?_
  refine x_istore_n C (L' := [(2, .int ((0 : Int32))), (1, .int ((0 : Int32))), (0, .ref (ga G 46))]) dX11_allWorth_3 rfl (by decide) rfl ?_
  exact qV_sub [2, 1, 0] rfl (b_X11_allWorth_4 C hQ hn h)
theorem dX11_holding_0 : decode cX11_holding 0 = .ok (.iconst 0, 1) := by decide +kernel
theorem dX11_holding_1 : decode cX11_holding 1 = .ok (.istore_n 1, 1) := by decide +kernel
theorem dX11_holding_2 : decode cX11_holding 2 = .ok (.iconst 0, 1) := by decide +kernel
theorem dX11_holding_3 : decode cX11_holding 3 = .ok (.istore_n 2, 1) := by decide +kernel
theorem dX11_holding_4 : decode cX11_holding 4 = .ok (.iload_n 2, 1) := by decide +kernel
theorem dX11_holding_5 : decode cX11_holding 5 = .ok (.bipush 10, 2) := by decide +kernel
theorem dX11_holding_7 : decode cX11_holding 7 = .ok (.if_icmp .ge 26, 3) := by decide +kernel
theorem dX11_holding_10 : decode cX11_holding 10 = .ok (.iload_n 1, 1) := by decide +kernel
theorem dX11_holding_11 : decode cX11_holding 11 = .ok (.aload_n 0, 1) := by decide +kernel
theorem dX11_holding_12 : decode cX11_holding 12 = .ok (.getfield 19, 3) := by decide +kernel
theorem dX11_holding_15 : decode cX11_holding 15 = .ok (.iload_n 2, 1) := by decide +kernel
theorem dX11_holding_16 : decode cX11_holding 16 = .ok (.iaload, 1) := by decide +kernel
theorem dX11_holding_17 : decode cX11_holding 17 = .ok (.ifCond .ge 7, 3) := by decide +kernel
theorem dX11_holding_20 : decode cX11_holding 20 = .ok (.iconst 0, 1) := by decide +kernel
theorem dX11_holding_21 : decode cX11_holding 21 = .ok (.goto 4, 3) := by decide +kernel
theorem dX11_holding_24 : decode cX11_holding 24 = .ok (.iconst 1, 1) := by decide +kernel
theorem dX11_holding_25 : decode cX11_holding 25 = .ok (.iadd, 1) := by decide +kernel
theorem dX11_holding_26 : decode cX11_holding 26 = .ok (.istore_n 1, 1) := by decide +kernel
theorem dX11_holding_27 : decode cX11_holding 27 = .ok (.iinc 2 1, 3) := by decide +kernel
theorem dX11_holding_30 : decode cX11_holding 30 = .ok (.goto (-26), 3) := by decide +kernel
theorem dX11_holding_33 : decode cX11_holding 33 = .ok (.iload_n 1, 1) := by decide +kernel
theorem dX11_holding_34 : decode cX11_holding 34 = .ok (.ireturn, 1) := by decide +kernel
theorem b_X11_holding_25 {Z : qZ} {G : qG} {v2 : Int32} {s0 : Int32} {s1 : Int32} {μ : qM} {P4 : Int32 → Int32 → qM → Prop} {post : Int32 → qM → Prop} (C : qX Z G RX11 cX11_holding 3 ({ frames := 0, cells := 0, slots := 0, locals := 0 } : Room) (some .int)) (hQ : qQi Z G 0 0 post) (hn : 66 ≤ gn G) (hP4 : ∀ (b1 : Int32) (b2 : Int32) (μ1 : qM), P4 b1 b2 μ1 → qV Z G 3 0 0 μ1 4 [(0, .ref (ga G 46)), (1, .int b1), (2, .int b2)] []) (h : q_X11_holding_25 P4 post v2 s0 s1 μ) : qV Z G 3 0 0 μ 25 [(0, .ref (ga G 46)), (2, .int v2)] [.int s0, .int s1] := by
  unfold q_X11_holding_25 at h
  refine x_iadd C dX11_holding_25 ?_
  refine x_istore_n C (L' := [(1, .int ((s1 + s0))), (0, .ref (ga G 46)), (2, .int v2)]) dX11_holding_26 rfl (by decide) rfl ?_
  refine x_iinc C 2 (v := 1) (L' := [(2, .int ((v2 + 1))), (1, .int ((s1 + s0))), (0, .ref (ga G 46))]) dX11_holding_27 rfl (by decide) (by decide) rfl ?_
  refine x_goto C dX11_holding_30 (tgt := 4) (by decide) ?_
  exact qV_sub [2, 1, 0] rfl ((hP4 _ _ _ h))
theorem b_X11_holding_4 {Z : qZ} {G : qG} {v1 : Int32} {v2 : Int32} {μ : qM} {post : Int32 → qM → Prop} (C : qX Z G RX11 cX11_holding 3 ({ frames := 0, cells := 0, slots := 0, locals := 0 } : Room) (some .int)) (hQ : qQi Z G 0 0 post) (hn : 66 ≤ gn G) (h : q_X11_holding_4 post v1 v2 μ) : qV Z G 3 0 0 μ 4 [(0, .ref (ga G 46)), (1, .int v1), (2, .int v2)] [] := by
  refine h (fun v1 v2 μ => qV Z G 3 0 0 μ 4 [(0, .ref (ga G 46)), (1, .int v1), (2, .int v2)] []) (fun v1 v2 μ h => ?_)
  refine x_iload_n C 2 dX11_holding_4 rfl rfl ?_
  refine x_bipush C dX11_holding_5 (v := 10) (by decide) ?_
  refine x_icmp_ge C dX11_holding_7 (tgt := 33) (by decide) h (fun h => ?_) (fun h => ?_)
  · refine x_iload_n C 1 dX11_holding_33 rfl rfl ?_
    exact x_iret C hQ dX11_holding_34 h
  · refine x_iload_n C 1 dX11_holding_10 rfl rfl ?_
    refine x_aload_n C 0 dX11_holding_11 rfl rfl ?_
    refine g_RX11_19 C hn dX11_holding_12 ?_
    refine x_iload_n C 2 dX11_holding_15 rfl rfl ?_
    refine x_iald C 50 11 10 (q_lt rfl rfl hn) rfl rfl rfl rfl rfl dX11_holding_16 h (fun h => ?_)
    refine x_if_ge C dX11_holding_17 (tgt := 24) (by decide) h (fun h => ?_) (fun h => ?_)
    · refine x_iconst C dX11_holding_24 (v := 1) (by decide) ?_
      exact qV_sub [0, 2] rfl (b_X11_holding_25 C hQ hn (fun _ _ _ h => h) h)
    · refine x_iconst C dX11_holding_20 (v := 0) (by decide) ?_
      refine x_goto C dX11_holding_21 (tgt := 25) (by decide) ?_
      exact qV_sub [0, 2] rfl (b_X11_holding_25 C hQ hn (fun _ _ _ h => h) h)
theorem y_X11_holding : qY yX11_holding cX11_holding 3 (some .int) 0 ({ frames := 0, cells := 0, slots := 0, locals := 0 } : Room) 0 0 := ⟨(qm_53 _ (List.mem_of_getElem? (i := 2) rfl)), (qm_1 _ (List.mem_of_getElem? (i := 5) rfl)), by decide +kernel, by decide +kernel, rfl, rfl⟩
theorem c_X11_holding (l : Launch) (G : qG) {μ : qM} (hn : 66 ≤ gn G) : qCi l G yX11_holding cX11_holding 3 (some .int) ({ frames := 0, cells := 0, slots := 0, locals := 0 } : Room) 0 0 [.ref (ga G 46)] μ (fun post => w_X11_holding  post μ) := by
  refine qCi_of (L := [(0, .ref (ga G 46))]) (by decide) rfl rfl ?_
  intro Z post hl C hQ h
  have C : qX Z G RX11 cX11_holding 3 ({ frames := 0, cells := 0, slots := 0, locals := 0 } : Room) (some .int) := C
  have h : w_X11_holding  post μ := h
  unfold w_X11_holding at h
  refine x_iconst C dX11_holding_0 (v := 0) (by decide) ?_
  refine x_istore_n C (L' := [(1, .int ((0 : Int32))), (0, .ref (ga G 46))]) dX11_holding_1 rfl (by decide) rfl ?_
  refine x_iconst C dX11_holding_2 (v := 0) (by decide) ?_
  refine x_istore_n C (L' := [(2, .int ((0 : Int32))), (1, .int ((0 : Int32))), (0, .ref (ga G 46))]) dX11_holding_3 rfl (by decide) rfl ?_
  exact qV_sub [2, 1, 0] rfl (b_X11_holding_4 C hQ hn h)
theorem dX11_count_0 : decode cX11_count 0 = .ok (.iload_n 1, 1) := by decide +kernel
theorem dX11_count_1 : decode cX11_count 1 = .ok (.tableswitch 87 0 7 #[47, 52, 57, 62, 67, 72, 77, 82], 47) := by decide +kernel
theorem dX11_count_48 : decode cX11_count 48 = .ok (.aload_n 0, 1) := by decide +kernel
theorem dX11_count_49 : decode cX11_count 49 = .ok (.getfield 201, 3) := by decide +kernel
theorem dX11_count_52 : decode cX11_count 52 = .ok (.ireturn, 1) := by decide +kernel
theorem dX11_count_53 : decode cX11_count 53 = .ok (.aload_n 0, 1) := by decide +kernel
theorem dX11_count_54 : decode cX11_count 54 = .ok (.getfield 76, 3) := by decide +kernel
theorem dX11_count_57 : decode cX11_count 57 = .ok (.ireturn, 1) := by decide +kernel
theorem dX11_count_58 : decode cX11_count 58 = .ok (.aload_n 0, 1) := by decide +kernel
theorem dX11_count_59 : decode cX11_count 59 = .ok (.getfield 22, 3) := by decide +kernel
theorem dX11_count_62 : decode cX11_count 62 = .ok (.ireturn, 1) := by decide +kernel
theorem dX11_count_63 : decode cX11_count 63 = .ok (.aload_n 0, 1) := by decide +kernel
theorem dX11_count_64 : decode cX11_count 64 = .ok (.invokevirtual 339, 3) := by decide +kernel
theorem dX11_count_67 : decode cX11_count 67 = .ok (.ireturn, 1) := by decide +kernel
theorem dX11_count_68 : decode cX11_count 68 = .ok (.aload_n 0, 1) := by decide +kernel
theorem dX11_count_69 : decode cX11_count 69 = .ok (.invokevirtual 342, 3) := by decide +kernel
theorem dX11_count_72 : decode cX11_count 72 = .ok (.ireturn, 1) := by decide +kernel
theorem dX11_count_73 : decode cX11_count 73 = .ok (.aload_n 0, 1) := by decide +kernel
theorem dX11_count_74 : decode cX11_count 74 = .ok (.getfield 226, 3) := by decide +kernel
theorem dX11_count_77 : decode cX11_count 77 = .ok (.ireturn, 1) := by decide +kernel
theorem dX11_count_78 : decode cX11_count 78 = .ok (.aload_n 0, 1) := by decide +kernel
theorem dX11_count_79 : decode cX11_count 79 = .ok (.getfield 26, 3) := by decide +kernel
theorem dX11_count_82 : decode cX11_count 82 = .ok (.ireturn, 1) := by decide +kernel
theorem dX11_count_83 : decode cX11_count 83 = .ok (.aload_n 0, 1) := by decide +kernel
theorem dX11_count_84 : decode cX11_count 84 = .ok (.invokevirtual 345, 3) := by decide +kernel
theorem dX11_count_87 : decode cX11_count 87 = .ok (.ireturn, 1) := by decide +kernel
theorem dX11_count_88 : decode cX11_count 88 = .ok (.aload_n 0, 1) := by decide +kernel
theorem dX11_count_89 : decode cX11_count 89 = .ok (.iconst 0, 1) := by decide +kernel
theorem dX11_count_90 : decode cX11_count 90 = .ok (.invokevirtual 119, 3) := by decide +kernel
theorem dX11_count_93 : decode cX11_count 93 = .ok (.ireturn, 1) := by decide +kernel
theorem i_RX11_339 {Z : qZ} {G : qG} {cc : ByteArray} {nL k n : Nat} {rm : Room} {ret : Option FieldType} {μ : qM} {pc : Nat} {L : List (Nat × Value)} {rest : List Value} {K : Int32 → qM → Prop} (C : qX Z G RX11 cc nL rm ret) (hn : 66 ≤ gn G) (hR : (Nat.ble (5 + 1) rm.frames && Nat.ble (8 + (3 + 11) + 112) rm.locals) = true) (hf : k + 0 ≤ rm.cells ∧ n + 0 ≤ rm.slots) (hsz : Nat.ble (rest.map fun v => v.category).sum 8 = true) (hd : decode cc pc = .ok (.invokevirtual 339, 3)) (h : w_X11_allPairs  K μ) (hk : ∀ (r : Int32) (μ1 : qM), K r μ1 → qV Z G nL k n μ1 (pc + 3) L (.int r :: rest)) : qV Z G nL k n μ pc L (.ref (ga G 46) :: rest) := x_Vi [] rest C 46 10 (wp := fun K => w_X11_allPairs  K μ) (y_X11_allPairs : qY yX11_allPairs cX11_allPairs 3 (some .int) 0 ({ frames := 5, cells := 0, slots := 0, locals := 112 } : Room) 0 0) (qm_52 _ (List.mem_of_getElem? (i := 16) rfl)) (qm_52 _ (List.mem_of_getElem? (i := 17) rfl)) (qm_52 _ (List.mem_of_getElem? (i := 15) rfl)) (c_X11_allPairs Z.2.1 G hn ) (Nat.lt_of_lt_of_le (by decide) hn) rfl (by decide) rfl rfl hR hf rfl rfl hsz hd h hk
theorem i_RX11_342 {Z : qZ} {G : qG} {cc : ByteArray} {nL k n : Nat} {rm : Room} {ret : Option FieldType} {μ : qM} {pc : Nat} {L : List (Nat × Value)} {rest : List Value} {K : Int32 → qM → Prop} (C : qX Z G RX11 cc nL rm ret) (hn : 66 ≤ gn G) (hR : (Nat.ble (0 + 1) rm.frames && Nat.ble (8 + (3 + 11) + 0) rm.locals) = true) (hf : k + 0 ≤ rm.cells ∧ n + 0 ≤ rm.slots) (hsz : Nat.ble (rest.map fun v => v.category).sum 8 = true) (hd : decode cc pc = .ok (.invokevirtual 342, 3)) (h : w_X11_allWorth  K μ) (hk : ∀ (r : Int32) (μ1 : qM), K r μ1 → qV Z G nL k n μ1 (pc + 3) L (.int r :: rest)) : qV Z G nL k n μ pc L (.ref (ga G 46) :: rest) := x_Vi [] rest C 46 10 (wp := fun K => w_X11_allWorth  K μ) (y_X11_allWorth : qY yX11_allWorth cX11_allWorth 3 (some .int) 0 ({ frames := 0, cells := 0, slots := 0, locals := 0 } : Room) 0 0) (qm_52 _ (List.mem_of_getElem? (i := 20) rfl)) (qm_52 _ (List.mem_of_getElem? (i := 21) rfl)) (qm_52 _ (List.mem_of_getElem? (i := 19) rfl)) (c_X11_allWorth Z.2.1 G hn ) (Nat.lt_of_lt_of_le (by decide) hn) rfl (by decide) rfl rfl hR hf rfl rfl hsz hd h hk
theorem i_RX11_345 {Z : qZ} {G : qG} {cc : ByteArray} {nL k n : Nat} {rm : Room} {ret : Option FieldType} {μ : qM} {pc : Nat} {L : List (Nat × Value)} {rest : List Value} {K : Int32 → qM → Prop} (C : qX Z G RX11 cc nL rm ret) (hn : 66 ≤ gn G) (hR : (Nat.ble (0 + 1) rm.frames && Nat.ble (8 + (3 + 11) + 0) rm.locals) = true) (hf : k + 0 ≤ rm.cells ∧ n + 0 ≤ rm.slots) (hsz : Nat.ble (rest.map fun v => v.category).sum 8 = true) (hd : decode cc pc = .ok (.invokevirtual 345, 3)) (h : w_X11_holding  K μ) (hk : ∀ (r : Int32) (μ1 : qM), K r μ1 → qV Z G nL k n μ1 (pc + 3) L (.int r :: rest)) : qV Z G nL k n μ pc L (.ref (ga G 46) :: rest) := x_Vi [] rest C 46 10 (wp := fun K => w_X11_holding  K μ) (y_X11_holding : qY yX11_holding cX11_holding 3 (some .int) 0 ({ frames := 0, cells := 0, slots := 0, locals := 0 } : Room) 0 0) (qm_53 _ (List.mem_of_getElem? (i := 0) rfl)) (qm_53 _ (List.mem_of_getElem? (i := 1) rfl)) (qm_52 _ (List.mem_of_getElem? (i := 23) rfl)) (c_X11_holding Z.2.1 G hn ) (Nat.lt_of_lt_of_le (by decide) hn) rfl (by decide) rfl rfl hR hf rfl rfl hsz hd h hk
theorem y_X11_count : qY yX11_count cX11_count 2 (some .int) 1 ({ frames := 6, cells := 0, slots := 0, locals := 134 } : Room) 0 0 := ⟨(qm_52 _ (List.mem_of_getElem? (i := 14) rfl)), (qm_1 _ (List.mem_of_getElem? (i := 5) rfl)), by decide +kernel, by decide +kernel, rfl, rfl⟩
theorem c_X11_count (l : Launch) (G : qG) {v1 : Int32} {μ : qM} (hn : 66 ≤ gn G) : qCi l G yX11_count cX11_count 2 (some .int) ({ frames := 6, cells := 0, slots := 0, locals := 134 } : Room) 0 0 [.ref (ga G 46), .int v1] μ (fun post => w_X11_count v1 post μ) := by
  refine qCi_of (L := [(0, .ref (ga G 46)), (1, .int v1)]) (by decide) rfl rfl ?_
  intro Z post hl C hQ h
  have C : qX Z G RX11 cX11_count 2 ({ frames := 6, cells := 0, slots := 0, locals := 134 } : Room) (some .int) := C
  have h : w_X11_count v1 post μ := h
  unfold w_X11_count at h
  refine x_iload_n C 1 dX11_count_0 rfl rfl ?_
  by_cases hv0 : v1 = (0 : Int32)
  · have h := h.1 hv0
    refine x_tin C (v := 0) dX11_count_1 hv0 (by decide) (by decide) rfl (tgt := 48) (by decide) ?_
    refine x_aload_n C 0 dX11_count_48 rfl rfl ?_
    refine g_RX11_201 C hn dX11_count_49 ?_
    exact x_iret C hQ dX11_count_52 h
  have h := h.2 hv0
  by_cases hv1 : v1 = (1 : Int32)
  · have h := h.1 hv1
    refine x_tin C (v := 1) dX11_count_1 hv1 (by decide) (by decide) rfl (tgt := 53) (by decide) ?_
    refine x_aload_n C 0 dX11_count_53 rfl rfl ?_
    refine g_RX11_76 C hn dX11_count_54 ?_
    exact x_iret C hQ dX11_count_57 h
  have h := h.2 hv1
  by_cases hv2 : v1 = (2 : Int32)
  · have h := h.1 hv2
    refine x_tin C (v := 2) dX11_count_1 hv2 (by decide) (by decide) rfl (tgt := 58) (by decide) ?_
    refine x_aload_n C 0 dX11_count_58 rfl rfl ?_
    refine g_RX11_22 C hn dX11_count_59 ?_
    exact x_iret C hQ dX11_count_62 h
  have h := h.2 hv2
  by_cases hv3 : v1 = (3 : Int32)
  · have h := h.1 hv3
    refine x_tin C (v := 3) dX11_count_1 hv3 (by decide) (by decide) rfl (tgt := 63) (by decide) ?_
    refine x_aload_n C 0 dX11_count_63 rfl rfl ?_
    refine i_RX11_339 (rest := []) C hn  rfl (by decide) rfl dX11_count_64 h (fun r64 μ64 h => ?_)
    exact x_iret C hQ dX11_count_67 h
  have h := h.2 hv3
  by_cases hv4 : v1 = (4 : Int32)
  · have h := h.1 hv4
    refine x_tin C (v := 4) dX11_count_1 hv4 (by decide) (by decide) rfl (tgt := 68) (by decide) ?_
    refine x_aload_n C 0 dX11_count_68 rfl rfl ?_
    refine i_RX11_342 (rest := []) C hn  rfl (by decide) rfl dX11_count_69 h (fun r69 μ69 h => ?_)
    exact x_iret C hQ dX11_count_72 h
  have h := h.2 hv4
  by_cases hv5 : v1 = (5 : Int32)
  · have h := h.1 hv5
    refine x_tin C (v := 5) dX11_count_1 hv5 (by decide) (by decide) rfl (tgt := 73) (by decide) ?_
    refine x_aload_n C 0 dX11_count_73 rfl rfl ?_
    refine g_RX11_226 C hn dX11_count_74 ?_
    exact x_iret C hQ dX11_count_77 h
  have h := h.2 hv5
  by_cases hv6 : v1 = (6 : Int32)
  · have h := h.1 hv6
    refine x_tin C (v := 6) dX11_count_1 hv6 (by decide) (by decide) rfl (tgt := 78) (by decide) ?_
    refine x_aload_n C 0 dX11_count_78 rfl rfl ?_
    refine g_RX11_26 C hn dX11_count_79 ?_
    exact x_iret C hQ dX11_count_82 h
  have h := h.2 hv6
  by_cases hv7 : v1 = (7 : Int32)
  · have h := h.1 hv7
    refine x_tin C (v := 7) dX11_count_1 hv7 (by decide) (by decide) rfl (tgt := 83) (by decide) ?_
    refine x_aload_n C 0 dX11_count_83 rfl rfl ?_
    refine i_RX11_345 (rest := []) C hn  rfl (by decide) rfl dX11_count_84 h (fun r84 μ84 h => ?_)
    exact x_iret C hQ dX11_count_87 h
  have h := h.2 hv7
  refine x_tout C [(0 : Int32), (1 : Int32), (2 : Int32), (3 : Int32), (4 : Int32), (5 : Int32), (6 : Int32), (7 : Int32)] (List.forall_mem_cons.mpr ⟨hv0, List.forall_mem_cons.mpr ⟨hv1, List.forall_mem_cons.mpr ⟨hv2, List.forall_mem_cons.mpr ⟨hv3, List.forall_mem_cons.mpr ⟨hv4, List.forall_mem_cons.mpr ⟨hv5, List.forall_mem_cons.mpr ⟨hv6, List.forall_mem_cons.mpr ⟨hv7, fun _ h => absurd h List.not_mem_nil⟩⟩⟩⟩⟩⟩⟩⟩) dX11_count_1 (by decide) (tgt := 88) (by decide) ?_
  refine x_aload_n C 0 dX11_count_88 rfl rfl ?_
  refine x_iconst C dX11_count_89 (v := 0) (by decide) ?_
  refine i_RX11_119 (rest := []) C hn  rfl (by decide) rfl dX11_count_90 h (fun r90 μ90 h => ?_)
  exact x_iret C hQ dX11_count_93 h
theorem dX11_status_0 : decode cX11_status 0 = .ok (.iload_n 1, 1) := by decide +kernel
theorem dX11_status_1 : decode cX11_status 1 = .ok (.iconst (-1), 1) := by decide +kernel
theorem dX11_status_2 : decode cX11_status 2 = .ok (.bipush 6, 2) := by decide +kernel
theorem dX11_status_4 : decode cX11_status 4 = .ok (.invokestatic 79, 3) := by decide +kernel
theorem dX11_status_7 : decode cX11_status 7 = .ok (.ifCond .ne 9, 3) := by decide +kernel
theorem dX11_status_10 : decode cX11_status 10 = .ok (.aload_n 0, 1) := by decide +kernel
theorem dX11_status_11 : decode cX11_status 11 = .ok (.iconst 0, 1) := by decide +kernel
theorem dX11_status_12 : decode cX11_status 12 = .ok (.invokevirtual 119, 3) := by decide +kernel
theorem dX11_status_15 : decode cX11_status 15 = .ok (.ireturn, 1) := by decide +kernel
theorem dX11_status_16 : decode cX11_status 16 = .ok (.iconst 0, 1) := by decide +kernel
theorem dX11_status_17 : decode cX11_status 17 = .ok (.istore_n 2, 1) := by decide +kernel
theorem dX11_status_18 : decode cX11_status 18 = .ok (.iconst 0, 1) := by decide +kernel
theorem dX11_status_19 : decode cX11_status 19 = .ok (.istore_n 3, 1) := by decide +kernel
theorem dX11_status_20 : decode cX11_status 20 = .ok (.iload_n 3, 1) := by decide +kernel
theorem dX11_status_21 : decode cX11_status 21 = .ok (.bipush 7, 2) := by decide +kernel
theorem dX11_status_23 : decode cX11_status 23 = .ok (.if_icmp .ge 31, 3) := by decide +kernel
theorem dX11_status_26 : decode cX11_status 26 = .ok (.iload_n 2, 1) := by decide +kernel
theorem dX11_status_27 : decode cX11_status 27 = .ok (.iload_n 1, 1) := by decide +kernel
theorem dX11_status_28 : decode cX11_status 28 = .ok (.ifCond .lt 8, 3) := by decide +kernel
theorem dX11_status_31 : decode cX11_status 31 = .ok (.iload_n 1, 1) := by decide +kernel
theorem dX11_status_32 : decode cX11_status 32 = .ok (.iload_n 3, 1) := by decide +kernel
theorem dX11_status_33 : decode cX11_status 33 = .ok (.if_icmp .ne 12, 3) := by decide +kernel
theorem dX11_status_36 : decode cX11_status 36 = .ok (.aload_n 0, 1) := by decide +kernel
theorem dX11_status_37 : decode cX11_status 37 = .ok (.getfield 44, 3) := by decide +kernel
theorem dX11_status_40 : decode cX11_status 40 = .ok (.iload_n 3, 1) := by decide +kernel
theorem dX11_status_41 : decode cX11_status 41 = .ok (.iaload, 1) := by decide +kernel
theorem dX11_status_42 : decode cX11_status 42 = .ok (.goto 4, 3) := by decide +kernel
theorem dX11_status_45 : decode cX11_status 45 = .ok (.iconst 0, 1) := by decide +kernel
theorem dX11_status_46 : decode cX11_status 46 = .ok (.iadd, 1) := by decide +kernel
theorem dX11_status_47 : decode cX11_status 47 = .ok (.istore_n 2, 1) := by decide +kernel
theorem dX11_status_48 : decode cX11_status 48 = .ok (.iinc 3 1, 3) := by decide +kernel
theorem dX11_status_51 : decode cX11_status 51 = .ok (.goto (-31), 3) := by decide +kernel
theorem dX11_status_54 : decode cX11_status 54 = .ok (.iload_n 2, 1) := by decide +kernel
theorem dX11_status_55 : decode cX11_status 55 = .ok (.ireturn, 1) := by decide +kernel
theorem b_X11_status_46 {Z : qZ} {G : qG} {v1 : Int32} {v3 : Int32} {s0 : Int32} {s1 : Int32} {μ : qM} {P20 : Int32 → Int32 → qM → Prop} {post : Int32 → qM → Prop} (C : qX Z G RX11 cX11_status 4 ({ frames := 1, cells := 0, slots := 0, locals := 22 } : Room) (some .int)) (hQ : qQi Z G 0 0 post) (hn : 66 ≤ gn G) (hP20 : ∀ (b2 : Int32) (b3 : Int32) (μ1 : qM), P20 b2 b3 μ1 → qV Z G 4 0 0 μ1 20 [(0, .ref (ga G 46)), (1, .int v1), (2, .int b2), (3, .int b3)] []) (h : q_X11_status_46 P20 post v1 v3 s0 s1 μ) : qV Z G 4 0 0 μ 46 [(0, .ref (ga G 46)), (1, .int v1), (3, .int v3)] [.int s0, .int s1] := by
  unfold q_X11_status_46 at h
  refine x_iadd C dX11_status_46 ?_
  refine x_istore_n C (L' := [(2, .int ((s1 + s0))), (0, .ref (ga G 46)), (1, .int v1), (3, .int v3)]) dX11_status_47 rfl (by decide) rfl ?_
  refine x_iinc C 3 (v := 1) (L' := [(3, .int ((v3 + 1))), (2, .int ((s1 + s0))), (0, .ref (ga G 46)), (1, .int v1)]) dX11_status_48 rfl (by decide) (by decide) rfl ?_
  refine x_goto C dX11_status_51 (tgt := 20) (by decide) ?_
  exact qV_sub [2, 3, 1, 0] rfl ((hP20 _ _ _ h))
theorem b_X11_status_36 {Z : qZ} {G : qG} {v1 : Int32} {v3 : Int32} {s0 : Int32} {μ : qM} {P20 : Int32 → Int32 → qM → Prop} {post : Int32 → qM → Prop} (C : qX Z G RX11 cX11_status 4 ({ frames := 1, cells := 0, slots := 0, locals := 22 } : Room) (some .int)) (hQ : qQi Z G 0 0 post) (hn : 66 ≤ gn G) (hP20 : ∀ (b2 : Int32) (b3 : Int32) (μ1 : qM), P20 b2 b3 μ1 → qV Z G 4 0 0 μ1 20 [(0, .ref (ga G 46)), (1, .int v1), (2, .int b2), (3, .int b3)] []) (h : q_X11_status_36 P20 post v1 v3 s0 μ) : qV Z G 4 0 0 μ 36 [(0, .ref (ga G 46)), (1, .int v1), (3, .int v3)] [.int s0] := by
  unfold q_X11_status_36 at h
  refine x_aload_n C 0 dX11_status_36 rfl rfl ?_
  refine g_RX11_44 C hn dX11_status_37 ?_
  refine x_iload_n C 2 dX11_status_40 rfl rfl ?_
  refine x_iald C 56 16 7 (q_lt rfl rfl hn) rfl rfl rfl rfl rfl dX11_status_41 h (fun h => ?_)
  refine x_goto C dX11_status_42 (tgt := 46) (by decide) ?_
  exact b_X11_status_46 C hQ hn hP20 h
theorem b_X11_status_20 {Z : qZ} {G : qG} {v1 : Int32} {v2 : Int32} {v3 : Int32} {μ : qM} {post : Int32 → qM → Prop} (C : qX Z G RX11 cX11_status 4 ({ frames := 1, cells := 0, slots := 0, locals := 22 } : Room) (some .int)) (hQ : qQi Z G 0 0 post) (hn : 66 ≤ gn G) (h : q_X11_status_20 v1 post v2 v3 μ) : qV Z G 4 0 0 μ 20 [(0, .ref (ga G 46)), (1, .int v1), (2, .int v2), (3, .int v3)] [] := by
  refine h (fun v2 v3 μ => qV Z G 4 0 0 μ 20 [(0, .ref (ga G 46)), (1, .int v1), (2, .int v2), (3, .int v3)] []) (fun v2 v3 μ h => ?_)
  refine x_iload_n C 3 dX11_status_20 rfl rfl ?_
  refine x_bipush C dX11_status_21 (v := 7) (by decide) ?_
  refine x_icmp_ge C dX11_status_23 (tgt := 54) (by decide) h (fun h => ?_) (fun h => ?_)
  · refine x_iload_n C 2 dX11_status_54 rfl rfl ?_
    exact x_iret C hQ dX11_status_55 h
  · refine x_iload_n C 2 dX11_status_26 rfl rfl ?_
    refine x_iload_n C 1 dX11_status_27 rfl rfl ?_
    refine x_if_lt C dX11_status_28 (tgt := 36) (by decide) h (fun h => ?_) (fun h => ?_)
    · exact qV_sub [0, 1, 3] rfl (b_X11_status_36 C hQ hn (fun _ _ _ h => h) h)
    · refine x_iload_n C 1 dX11_status_31 rfl rfl ?_
      refine x_iload_n C 3 dX11_status_32 rfl rfl ?_
      refine x_icmp_ne C dX11_status_33 (tgt := 45) (by decide) h (fun h => ?_) (fun h => ?_)
      · refine x_iconst C dX11_status_45 (v := 0) (by decide) ?_
        exact qV_sub [0, 1, 3] rfl (b_X11_status_46 C hQ hn (fun _ _ _ h => h) h)
      · exact qV_sub [0, 1, 3] rfl (b_X11_status_36 C hQ hn (fun _ _ _ h => h) h)
theorem y_X11_status : qY yX11_status cX11_status 4 (some .int) 1 ({ frames := 1, cells := 0, slots := 0, locals := 22 } : Room) 0 0 := ⟨(qm_53 _ (List.mem_of_getElem? (i := 10) rfl)), (qm_1 _ (List.mem_of_getElem? (i := 5) rfl)), by decide +kernel, by decide +kernel, rfl, rfl⟩
theorem c_X11_status (l : Launch) (G : qG) {v1 : Int32} {μ : qM} (hn : 66 ≤ gn G) : qCi l G yX11_status cX11_status 4 (some .int) ({ frames := 1, cells := 0, slots := 0, locals := 22 } : Room) 0 0 [.ref (ga G 46), .int v1] μ (fun post => w_X11_status v1 post μ) := by
  refine qCi_of (L := [(0, .ref (ga G 46)), (1, .int v1)]) (by decide) rfl rfl ?_
  intro Z post hl C hQ h
  have C : qX Z G RX11 cX11_status 4 ({ frames := 1, cells := 0, slots := 0, locals := 22 } : Room) (some .int) := C
  have h : w_X11_status v1 post μ := h
  unfold w_X11_status at h
  refine x_iload_n C 1 dX11_status_0 rfl rfl ?_
  refine x_iconst C dX11_status_1 (v := -1) (by decide) ?_
  refine x_bipush C dX11_status_2 (v := 6) (by decide) ?_
  refine i_RX11_79 (rest := []) C hn  rfl (by decide) rfl dX11_status_4 h (fun r4 μ4 h => ?_)
  refine x_if_ne C dX11_status_7 (tgt := 16) (by decide) h (fun h => ?_) (fun h => ?_)
  · refine x_iconst C dX11_status_16 (v := 0) (by decide) ?_
    refine x_istore_n C (L' := [(2, .int ((0 : Int32))), (0, .ref (ga G 46)), (1, .int v1)]) dX11_status_17 rfl (by decide) rfl ?_
    refine x_iconst C dX11_status_18 (v := 0) (by decide) ?_
    refine x_istore_n C (L' := [(3, .int ((0 : Int32))), (2, .int ((0 : Int32))), (0, .ref (ga G 46)), (1, .int v1)]) dX11_status_19 rfl (by decide) rfl ?_
    exact qV_sub [2, 3, 1, 0] rfl (b_X11_status_20 C hQ hn h)
  · refine x_aload_n C 0 dX11_status_10 rfl rfl ?_
    refine x_iconst C dX11_status_11 (v := 0) (by decide) ?_
    refine i_RX11_119 (rest := []) C hn  rfl (by decide) rfl dX11_status_12 h (fun r12 μ12 h => ?_)
    exact x_iret C hQ dX11_status_15 h
