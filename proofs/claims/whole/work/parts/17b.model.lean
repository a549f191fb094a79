theorem dX11_change_0 : decode cX11_change 0 = .ok (.aload_n 0, 1) := by decide +kernel
theorem dX11_change_1 : decode cX11_change 1 = .ok (.iload_n 1, 1) := by decide +kernel
theorem dX11_change_2 : decode cX11_change 2 = .ok (.invokevirtual 132, 3) := by decide +kernel
theorem dX11_change_5 : decode cX11_change 5 = .ok (.ifCond .eq 10, 3) := by decide +kernel
theorem dX11_change_8 : decode cX11_change 8 = .ok (.iload_n 2, 1) := by decide +kernel
theorem dX11_change_9 : decode cX11_change 9 = .ok (.invokestatic 113, 3) := by decide +kernel
theorem dX11_change_12 : decode cX11_change 12 = .ok (.ifCond .ne 9, 3) := by decide +kernel
theorem dX11_change_15 : decode cX11_change 15 = .ok (.aload_n 0, 1) := by decide +kernel
theorem dX11_change_16 : decode cX11_change 16 = .ok (.iconst 0, 1) := by decide +kernel
theorem dX11_change_17 : decode cX11_change 17 = .ok (.invokevirtual 119, 3) := by decide +kernel
theorem dX11_change_20 : decode cX11_change 20 = .ok (.ireturn, 1) := by decide +kernel
theorem dX11_change_21 : decode cX11_change 21 = .ok (.aload_n 0, 1) := by decide +kernel
theorem dX11_change_22 : decode cX11_change 22 = .ok (.getfield 9, 3) := by decide +kernel
theorem dX11_change_25 : decode cX11_change 25 = .ok (.iload_n 1, 1) := by decide +kernel
theorem dX11_change_26 : decode cX11_change 26 = .ok (.iaload, 1) := by decide +kernel
theorem dX11_change_27 : decode cX11_change 27 = .ok (.istore_n 3, 1) := by decide +kernel
theorem dX11_change_28 : decode cX11_change 28 = .ok (.aload_n 0, 1) := by decide +kernel
theorem dX11_change_29 : decode cX11_change 29 = .ok (.getfield 9, 3) := by decide +kernel
theorem dX11_change_32 : decode cX11_change 32 = .ok (.iload_n 1, 1) := by decide +kernel
theorem dX11_change_33 : decode cX11_change 33 = .ok (.iload_n 2, 1) := by decide +kernel
theorem dX11_change_34 : decode cX11_change 34 = .ok (.iastore, 1) := by decide +kernel
theorem dX11_change_35 : decode cX11_change 35 = .ok (.iload_n 3, 1) := by decide +kernel
theorem dX11_change_36 : decode cX11_change 36 = .ok (.ireturn, 1) := by decide +kernel
theorem b_X11_change_15 {Z : qZ} {G : qG} {μ : qM} {post : Int32 → qM → Prop} (C : qX Z G RX11 cX11_change 4 ({ frames := 2, cells := 0, slots := 0, locals := 43 } : Room) (some .int)) (hQ : qQi Z G 0 0 post) (hn : 66 ≤ gn G) (h : q_X11_change_15 post μ) : qV Z G 4 0 0 μ 15 [(0, .ref (ga G 46))] [] := by
  unfold q_X11_change_15 at h
  refine x_aload_n C 0 dX11_change_15 rfl rfl ?_
  refine x_iconst C dX11_change_16 (v := 0) (by decide) ?_
  refine i_RX11_119 (rest := []) C hn  rfl (by decide) rfl dX11_change_17 h (fun r17 μ17 h => ?_)
  exact x_iret C hQ dX11_change_20 h
theorem y_X11_change : qY yX11_change cX11_change 4 (some .int) 2 ({ frames := 2, cells := 0, slots := 0, locals := 43 } : Room) 0 0 := ⟨(qm_14 _ (List.mem_of_getElem? (i := 22) rfl)), (qm_1 _ (List.mem_of_getElem? (i := 5) rfl)), by decide +kernel, by decide +kernel, rfl, rfl⟩
theorem c_X11_change (l : Launch) (G : qG) {v1 : Int32} {v2 : Int32} {μ : qM} (hn : 66 ≤ gn G) : qCi l G yX11_change cX11_change 4 (some .int) ({ frames := 2, cells := 0, slots := 0, locals := 43 } : Room) 0 0 [.ref (ga G 46), .int v1, .int v2] μ (fun post => w_X11_change v1 v2 post μ) := by
  refine qCi_of (L := [(0, .ref (ga G 46)), (1, .int v1), (2, .int v2)]) (by decide) rfl rfl ?_
  intro Z post hl C hQ h
  have C : qX Z G RX11 cX11_change 4 ({ frames := 2, cells := 0, slots := 0, locals := 43 } : Room) (some .int) := C
  have h : w_X11_change v1 v2 post μ := h
  unfold w_X11_change at h
  refine x_aload_n C 0 dX11_change_0 rfl rfl ?_
  refine x_iload_n C 1 dX11_change_1 rfl rfl ?_
  refine i_RX11_132 (rest := []) C hn  rfl (by decide) rfl dX11_change_2 h (fun r2 μ2 h => ?_)
  refine x_if_eq C dX11_change_5 (tgt := 15) (by decide) h (fun h => ?_) (fun h => ?_)
  · exact qV_sub [0] rfl (b_X11_change_15 C hQ hn h)
  · refine x_iload_n C 2 dX11_change_8 rfl rfl ?_
    refine i_RX11_113 (rest := []) C hn  rfl (by decide) rfl dX11_change_9 h (fun r9 μ9 h => ?_)
    refine x_if_ne C dX11_change_12 (tgt := 21) (by decide) h (fun h => ?_) (fun h => ?_)
    · refine x_aload_n C 0 dX11_change_21 rfl rfl ?_
      refine g_RX11_9 C hn dX11_change_22 ?_
      refine x_iload_n C 1 dX11_change_25 rfl rfl ?_
      refine x_iald C 47 19 154 (q_lt rfl rfl hn) rfl rfl rfl rfl rfl dX11_change_26 h (fun h => ?_)
      refine x_istore_n C (L' := [(3, .int ((μ9 47 v1.toNatClampNeg))), (0, .ref (ga G 46)), (1, .int v1), (2, .int v2)]) dX11_change_27 rfl (by decide) rfl ?_
      refine x_aload_n C 1 dX11_change_28 rfl rfl ?_
      refine g_RX11_9 C hn dX11_change_29 ?_
      refine x_iload_n C 2 dX11_change_32 rfl rfl ?_
      refine x_iload_n C 3 dX11_change_33 rfl rfl ?_
      refine x_iast C 47 19 154 (q_lt rfl rfl hn) rfl rfl rfl rfl rfl dX11_change_34 h (fun h => ?_)
      refine x_iload_n C 0 dX11_change_35 rfl rfl ?_
      exact x_iret C hQ dX11_change_36 h
    · exact qV_sub [0] rfl (b_X11_change_15 C hQ hn h)
theorem dX11_fire_0 : decode cX11_fire 0 = .ok (.aload_n 0, 1) := by decide +kernel
theorem dX11_fire_1 : decode cX11_fire 1 = .ok (.getfield 76, 3) := by decide +kernel
theorem dX11_fire_4 : decode cX11_fire 4 = .ok (.ifCond .ne 9, 3) := by decide +kernel
theorem dX11_fire_7 : decode cX11_fire 7 = .ok (.aload_n 0, 1) := by decide +kernel
theorem dX11_fire_8 : decode cX11_fire 8 = .ok (.iconst 3, 1) := by decide +kernel
theorem dX11_fire_9 : decode cX11_fire 9 = .ok (.invokevirtual 119, 3) := by decide +kernel
theorem dX11_fire_12 : decode cX11_fire 12 = .ok (.ireturn, 1) := by decide +kernel
theorem dX11_fire_13 : decode cX11_fire 13 = .ok (.aload_n 0, 1) := by decide +kernel
theorem dX11_fire_14 : decode cX11_fire 14 = .ok (.dup, 1) := by decide +kernel
theorem dX11_fire_15 : decode cX11_fire 15 = .ok (.getfield 76, 3) := by decide +kernel
theorem dX11_fire_18 : decode cX11_fire 18 = .ok (.iconst 1, 1) := by decide +kernel
theorem dX11_fire_19 : decode cX11_fire 19 = .ok (.isub, 1) := by decide +kernel
theorem dX11_fire_20 : decode cX11_fire 20 = .ok (.putfield 76, 3) := by decide +kernel
theorem dX11_fire_23 : decode cX11_fire 23 = .ok (.aload_n 0, 1) := by decide +kernel
theorem dX11_fire_24 : decode cX11_fire 24 = .ok (.getfield 13, 3) := by decide +kernel
theorem dX11_fire_27 : decode cX11_fire 27 = .ok (.aload_n 0, 1) := by decide +kernel
theorem dX11_fire_28 : decode cX11_fire 28 = .ok (.getfield 76, 3) := by decide +kernel
theorem dX11_fire_31 : decode cX11_fire 31 = .ok (.iaload, 1) := by decide +kernel
theorem dX11_fire_32 : decode cX11_fire 32 = .ok (.ireturn, 1) := by decide +kernel
theorem y_X11_fire : qY yX11_fire cX11_fire 1 (some .int) 0 ({ frames := 1, cells := 0, slots := 0, locals := 21 } : Room) 0 0 := ⟨(qm_15 _ (List.mem_of_getElem? (i := 11) rfl)), (qm_1 _ (List.mem_of_getElem? (i := 5) rfl)), by decide +kernel, by decide +kernel, rfl, rfl⟩
theorem c_X11_fire (l : Launch) (G : qG) {μ : qM} (hn : 66 ≤ gn G) : qCi l G yX11_fire cX11_fire 1 (some .int) ({ frames := 1, cells := 0, slots := 0, locals := 21 } : Room) 0 0 [.ref (ga G 46)] μ (fun post => w_X11_fire  post μ) := by
  refine qCi_of (L := [(0, .ref (ga G 46))]) (by decide) rfl rfl ?_
  intro Z post hl C hQ h
  have C : qX Z G RX11 cX11_fire 1 ({ frames := 1, cells := 0, slots := 0, locals := 21 } : Room) (some .int) := C
  have h : w_X11_fire  post μ := h
  unfold w_X11_fire at h
  refine x_aload_n C 0 dX11_fire_0 rfl rfl ?_
  refine g_RX11_76 C hn dX11_fire_1 ?_
  refine x_if_ne C dX11_fire_4 (tgt := 13) (by decide) h (fun h => ?_) (fun h => ?_)
  · refine x_aload_n C 0 dX11_fire_13 rfl rfl ?_
    refine x_dup C dX11_fire_14 rfl ?_
    refine g_RX11_76 C hn dX11_fire_15 ?_
    refine x_iconst C dX11_fire_18 (v := 1) (by decide) ?_
    refine x_isub C dX11_fire_19 ?_
    refine p_RX11_76 C hn dX11_fire_20 ?_
    refine x_aload_n C 0 dX11_fire_23 rfl rfl ?_
    refine g_RX11_13 C hn dX11_fire_24 ?_
    refine x_aload_n C 0 dX11_fire_27 rfl rfl ?_
    refine g_RX11_76 C hn dX11_fire_28 ?_
    refine x_iald C 48 19 154 (q_lt rfl rfl hn) rfl rfl rfl rfl rfl dX11_fire_31 h (fun h => ?_)
    exact x_iret C hQ dX11_fire_32 h
  · refine x_aload_n C 0 dX11_fire_7 rfl rfl ?_
    refine x_iconst C dX11_fire_8 (v := 3) (by decide) ?_
    refine i_RX11_119 (rest := []) C hn  rfl (by decide) rfl dX11_fire_9 h (fun r9 μ9 h => ?_)
    exact x_iret C hQ dX11_fire_12 h
theorem dX11_worth_0 : decode cX11_worth 0 = .ok (.iload_n 1, 1) := by decide +kernel
theorem dX11_worth_1 : decode cX11_worth 1 = .ok (.iload_n 2, 1) := by decide +kernel
theorem dX11_worth_2 : decode cX11_worth 2 = .ok (.invokestatic 116, 3) := by decide +kernel
theorem dX11_worth_5 : decode cX11_worth 5 = .ok (.ifCond .eq 13, 3) := by decide +kernel
theorem dX11_worth_8 : decode cX11_worth 8 = .ok (.iload_n 3, 1) := by decide +kernel
theorem dX11_worth_9 : decode cX11_worth 9 = .ok (.iconst 0, 1) := by decide +kernel
theorem dX11_worth_10 : decode cX11_worth 10 = .ok (.bipush 99, 2) := by decide +kernel
theorem dX11_worth_12 : decode cX11_worth 12 = .ok (.invokestatic 79, 3) := by decide +kernel
theorem dX11_worth_15 : decode cX11_worth 15 = .ok (.ifCond .ne 9, 3) := by decide +kernel
theorem dX11_worth_18 : decode cX11_worth 18 = .ok (.aload_n 0, 1) := by decide +kernel
theorem dX11_worth_19 : decode cX11_worth 19 = .ok (.iconst 0, 1) := by decide +kernel
theorem dX11_worth_20 : decode cX11_worth 20 = .ok (.invokevirtual 119, 3) := by decide +kernel
theorem dX11_worth_23 : decode cX11_worth 23 = .ok (.ireturn, 1) := by decide +kernel
theorem dX11_worth_24 : decode cX11_worth 24 = .ok (.aload_n 0, 1) := by decide +kernel
theorem dX11_worth_25 : decode cX11_worth 25 = .ok (.getfield 16, 3) := by decide +kernel
theorem dX11_worth_28 : decode cX11_worth 28 = .ok (.bipush 12, 2) := by decide +kernel
theorem dX11_worth_30 : decode cX11_worth 30 = .ok (.iload_n 2, 1) := by decide +kernel
theorem dX11_worth_31 : decode cX11_worth 31 = .ok (.imul, 1) := by decide +kernel
theorem dX11_worth_32 : decode cX11_worth 32 = .ok (.iload_n 1, 1) := by decide +kernel
theorem dX11_worth_33 : decode cX11_worth 33 = .ok (.iadd, 1) := by decide +kernel
theorem dX11_worth_34 : decode cX11_worth 34 = .ok (.iaload, 1) := by decide +kernel
theorem dX11_worth_35 : decode cX11_worth 35 = .ok (.istore 4, 2) := by decide +kernel
theorem dX11_worth_37 : decode cX11_worth 37 = .ok (.aload_n 0, 1) := by decide +kernel
theorem dX11_worth_38 : decode cX11_worth 38 = .ok (.getfield 16, 3) := by decide +kernel
theorem dX11_worth_41 : decode cX11_worth 41 = .ok (.bipush 12, 2) := by decide +kernel
theorem dX11_worth_43 : decode cX11_worth 43 = .ok (.iload_n 2, 1) := by decide +kernel
theorem dX11_worth_44 : decode cX11_worth 44 = .ok (.imul, 1) := by decide +kernel
theorem dX11_worth_45 : decode cX11_worth 45 = .ok (.iload_n 1, 1) := by decide +kernel
theorem dX11_worth_46 : decode cX11_worth 46 = .ok (.iadd, 1) := by decide +kernel
theorem dX11_worth_47 : decode cX11_worth 47 = .ok (.iload_n 3, 1) := by decide +kernel
theorem dX11_worth_48 : decode cX11_worth 48 = .ok (.iastore, 1) := by decide +kernel
theorem dX11_worth_49 : decode cX11_worth 49 = .ok (.iload 4, 2) := by decide +kernel
theorem dX11_worth_51 : decode cX11_worth 51 = .ok (.ireturn, 1) := by decide +kernel
theorem b_X11_worth_18 {Z : qZ} {G : qG} {μ : qM} {post : Int32 → qM → Prop} (C : qX Z G RX11 cX11_worth 5 ({ frames := 2, cells := 0, slots := 0, locals := 43 } : Room) (some .int)) (hQ : qQi Z G 0 0 post) (hn : 66 ≤ gn G) (h : q_X11_worth_18 post μ) : qV Z G 5 0 0 μ 18 [(0, .ref (ga G 46))] [] := by
  unfold q_X11_worth_18 at h
  refine x_aload_n C 0 dX11_worth_18 rfl rfl ?_
  refine x_iconst C dX11_worth_19 (v := 0) (by decide) ?_
  refine i_RX11_119 (rest := []) C hn  rfl (by decide) rfl dX11_worth_20 h (fun r20 μ20 h => ?_)
  exact x_iret C hQ dX11_worth_23 h
theorem y_X11_worth : qY yX11_worth cX11_worth 5 (some .int) 3 ({ frames := 2, cells := 0, slots := 0, locals := 43 } : Room) 0 0 := ⟨(qm_16 _ (List.mem_of_getElem? (i := 0) rfl)), (qm_1 _ (List.mem_of_getElem? (i := 5) rfl)), by decide +kernel, by decide +kernel, rfl, rfl⟩
theorem c_X11_worth (l : Launch) (G : qG) {v1 : Int32} {v2 : Int32} {v3 : Int32} {μ : qM} (hn : 66 ≤ gn G) : qCi l G yX11_worth cX11_worth 5 (some .int) ({ frames := 2, cells := 0, slots := 0, locals := 43 } : Room) 0 0 [.ref (ga G 46), .int v1, .int v2, .int v3] μ (fun post => w_X11_worth v1 v2 v3 post μ) := by
  refine qCi_of (L := [(0, .ref (ga G 46)), (1, .int v1), (2, .int v2), (3, .int v3)]) (by decide) rfl rfl ?_
  intro Z post hl C hQ h
  have C : qX Z G RX11 cX11_worth 5 ({ frames := 2, cells := 0, slots := 0, locals := 43 } : Room) (some .int) := C
  have h : w_X11_worth v1 v2 v3 post μ := h
  unfold w_X11_worth at h
  refine x_iload_n C 1 dX11_worth_0 rfl rfl ?_
  refine x_iload_n C 2 dX11_worth_1 rfl rfl ?_
  refine i_RX11_116 (rest := []) C hn  rfl (by decide) rfl dX11_worth_2 h (fun r2 μ2 h => ?_)
  refine x_if_eq C dX11_worth_5 (tgt := 18) (by decide) h (fun h => ?_) (fun h => ?_)
  · exact qV_sub [0] rfl (b_X11_worth_18 C hQ hn h)
  · refine x_iload_n C 3 dX11_worth_8 rfl rfl ?_
    refine x_iconst C dX11_worth_9 (v := 0) (by decide) ?_
    refine x_bipush C dX11_worth_10 (v := 99) (by decide) ?_
    refine i_RX11_79 (rest := []) C hn  rfl (by decide) rfl dX11_worth_12 h (fun r12 μ12 h => ?_)
    refine x_if_ne C dX11_worth_15 (tgt := 24) (by decide) h (fun h => ?_) (fun h => ?_)
    · refine x_aload_n C 0 dX11_worth_24 rfl rfl ?_
      refine g_RX11_16 C hn dX11_worth_25 ?_
      refine x_bipush C dX11_worth_28 (v := 12) (by decide) ?_
      refine x_iload_n C 2 dX11_worth_30 rfl rfl ?_
      refine x_imul C dX11_worth_31 ?_
      refine x_iload_n C 1 dX11_worth_32 rfl rfl ?_
      refine x_iadd C dX11_worth_33 ?_
      refine x_iald C 49 12 144 (q_lt rfl rfl hn) rfl rfl rfl rfl rfl dX11_worth_34 h (fun h => ?_)
      refine x_istore C (L' := [(4, .int ((μ12 49 (((12 : Int32) * v2) + v1).toNatClampNeg))), (0, .ref (ga G 46)), (1, .int v1), (2, .int v2), (3, .int v3)]) dX11_worth_35 (by decide) rfl ?_
      refine x_aload_n C 1 dX11_worth_37 rfl rfl ?_
      refine g_RX11_16 C hn dX11_worth_38 ?_
      refine x_bipush C dX11_worth_41 (v := 12) (by decide) ?_
      refine x_iload_n C 3 dX11_worth_43 rfl rfl ?_
      refine x_imul C dX11_worth_44 ?_
      refine x_iload_n C 2 dX11_worth_45 rfl rfl ?_
      refine x_iadd C dX11_worth_46 ?_
      refine x_iload_n C 4 dX11_worth_47 rfl rfl ?_
      refine x_iast C 49 12 144 (q_lt rfl rfl hn) rfl rfl rfl rfl rfl dX11_worth_48 h (fun h => ?_)
      refine x_iload C 0 dX11_worth_49 rfl ?_
      exact x_iret C hQ dX11_worth_51 h
    · exact qV_sub [0] rfl (b_X11_worth_18 C hQ hn h)
theorem dX11_coin_0 : decode cX11_coin 0 = .ok (.iload_n 1, 1) := by decide +kernel
theorem dX11_coin_1 : decode cX11_coin 1 = .ok (.iconst 0, 1) := by decide +kernel
theorem dX11_coin_2 : decode cX11_coin 2 = .ok (.ldc 138, 2) := by decide +kernel
theorem dX11_coin_4 : decode cX11_coin 4 = .ok (.invokestatic 79, 3) := by decide +kernel
theorem dX11_coin_7 : decode cX11_coin 7 = .ok (.ifCond .ne 9, 3) := by decide +kernel
theorem dX11_coin_10 : decode cX11_coin 10 = .ok (.aload_n 0, 1) := by decide +kernel
theorem dX11_coin_11 : decode cX11_coin 11 = .ok (.iconst 0, 1) := by decide +kernel
theorem dX11_coin_12 : decode cX11_coin 12 = .ok (.invokevirtual 119, 3) := by decide +kernel
theorem dX11_coin_15 : decode cX11_coin 15 = .ok (.ireturn, 1) := by decide +kernel
theorem dX11_coin_16 : decode cX11_coin 16 = .ok (.aload_n 0, 1) := by decide +kernel
theorem dX11_coin_17 : decode cX11_coin 17 = .ok (.getfield 22, 3) := by decide +kernel
theorem dX11_coin_20 : decode cX11_coin 20 = .ok (.istore_n 2, 1) := by decide +kernel
theorem dX11_coin_21 : decode cX11_coin 21 = .ok (.aload_n 0, 1) := by decide +kernel
theorem dX11_coin_22 : decode cX11_coin 22 = .ok (.iload_n 1, 1) := by decide +kernel
theorem dX11_coin_23 : decode cX11_coin 23 = .ok (.putfield 22, 3) := by decide +kernel
theorem dX11_coin_26 : decode cX11_coin 26 = .ok (.iload_n 2, 1) := by decide +kernel
theorem dX11_coin_27 : decode cX11_coin 27 = .ok (.ireturn, 1) := by decide +kernel
theorem y_X11_coin : qY yX11_coin cX11_coin 3 (some .int) 1 ({ frames := 1, cells := 0, slots := 0, locals := 22 } : Room) 0 0 := ⟨(qm_16 _ (List.mem_of_getElem? (i := 13) rfl)), (qm_1 _ (List.mem_of_getElem? (i := 5) rfl)), by decide +kernel, by decide +kernel, rfl, rfl⟩
theorem c_X11_coin (l : Launch) (G : qG) {v1 : Int32} {μ : qM} (hn : 66 ≤ gn G) : qCi l G yX11_coin cX11_coin 3 (some .int) ({ frames := 1, cells := 0, slots := 0, locals := 22 } : Room) 0 0 [.ref (ga G 46), .int v1] μ (fun post => w_X11_coin v1 post μ) := by
  refine qCi_of (L := [(0, .ref (ga G 46)), (1, .int v1)]) (by decide) rfl rfl ?_
  intro Z post hl C hQ h
  have C : qX Z G RX11 cX11_coin 3 ({ frames := 1, cells := 0, slots := 0, locals := 22 } : Room) (some .int) := C
  have h : w_X11_coin v1 post μ := h
  unfold w_X11_coin at h
  refine x_iload_n C 1 dX11_coin_0 rfl rfl ?_
  refine x_iconst C dX11_coin_1 (v := 0) (by decide) ?_
  refine x_ldc C (v := 99999) (qm_16 _ (List.mem_of_getElem? (i := 14) rfl)) dX11_coin_2 ?_
  refine i_RX11_79 (rest := []) C hn  rfl (by decide) rfl dX11_coin_4 h (fun r4 μ4 h => ?_)
  refine x_if_ne C dX11_coin_7 (tgt := 16) (by decide) h (fun h => ?_) (fun h => ?_)
  · refine x_aload_n C 0 dX11_coin_16 rfl rfl ?_
    refine g_RX11_22 C hn dX11_coin_17 ?_
    refine x_istore_n C (L' := [(2, .int ((μ4 46 5))), (0, .ref (ga G 46)), (1, .int v1)]) dX11_coin_20 rfl (by decide) rfl ?_
    refine x_aload_n C 1 dX11_coin_21 rfl rfl ?_
    refine x_iload_n C 2 dX11_coin_22 rfl rfl ?_
    refine p_RX11_22 C hn dX11_coin_23 ?_
    refine x_iload_n C 0 dX11_coin_26 rfl rfl ?_
    exact x_iret C hQ dX11_coin_27 h
  · refine x_aload_n C 0 dX11_coin_10 rfl rfl ?_
    refine x_iconst C dX11_coin_11 (v := 0) (by decide) ?_
    refine i_RX11_119 (rest := []) C hn  rfl (by decide) rfl dX11_coin_12 h (fun r12 μ12 h => ?_)
    exact x_iret C hQ dX11_coin_15 h
theorem dX11_far_0 : decode cX11_far 0 = .ok (.aload_n 0, 1) := by decide +kernel
theorem dX11_far_1 : decode cX11_far 1 = .ok (.iload_n 1, 1) := by decide +kernel
theorem dX11_far_2 : decode cX11_far 2 = .ok (.invokevirtual 132, 3) := by decide +kernel
theorem dX11_far_5 : decode cX11_far 5 = .ok (.ifCond .eq 35, 3) := by decide +kernel
theorem dX11_far_8 : decode cX11_far 8 = .ok (.iload_n 2, 1) := by decide +kernel
theorem dX11_far_9 : decode cX11_far 9 = .ok (.iload_n 3, 1) := by decide +kernel
theorem dX11_far_10 : decode cX11_far 10 = .ok (.invokestatic 116, 3) := by decide +kernel
theorem dX11_far_13 : decode cX11_far 13 = .ok (.ifCond .eq 27, 3) := by decide +kernel
theorem dX11_far_16 : decode cX11_far 16 = .ok (.aload_n 0, 1) := by decide +kernel
theorem dX11_far_17 : decode cX11_far 17 = .ok (.getfield 9, 3) := by decide +kernel
theorem dX11_far_20 : decode cX11_far 20 = .ok (.iload_n 1, 1) := by decide +kernel
theorem dX11_far_21 : decode cX11_far 21 = .ok (.iaload, 1) := by decide +kernel
theorem dX11_far_22 : decode cX11_far 22 = .ok (.aload_n 0, 1) := by decide +kernel
theorem dX11_far_23 : decode cX11_far 23 = .ok (.getfield 13, 3) := by decide +kernel
theorem dX11_far_26 : decode cX11_far 26 = .ok (.iload_n 1, 1) := by decide +kernel
theorem dX11_far_27 : decode cX11_far 27 = .ok (.iaload, 1) := by decide +kernel
theorem dX11_far_28 : decode cX11_far 28 = .ok (.bipush 12, 2) := by decide +kernel
theorem dX11_far_30 : decode cX11_far 30 = .ok (.iload_n 3, 1) := by decide +kernel
theorem dX11_far_31 : decode cX11_far 31 = .ok (.imul, 1) := by decide +kernel
theorem dX11_far_32 : decode cX11_far 32 = .ok (.iload_n 2, 1) := by decide +kernel
theorem dX11_far_33 : decode cX11_far 33 = .ok (.iadd, 1) := by decide +kernel
theorem dX11_far_34 : decode cX11_far 34 = .ok (.invokestatic 92, 3) := by decide +kernel
theorem dX11_far_37 : decode cX11_far 37 = .ok (.goto 8, 3) := by decide +kernel
theorem dX11_far_40 : decode cX11_far 40 = .ok (.aload_n 0, 1) := by decide +kernel
theorem dX11_far_41 : decode cX11_far 41 = .ok (.iconst 0, 1) := by decide +kernel
theorem dX11_far_42 : decode cX11_far 42 = .ok (.invokevirtual 119, 3) := by decide +kernel
theorem dX11_far_45 : decode cX11_far 45 = .ok (.ireturn, 1) := by decide +kernel
theorem b_X11_far_40 {Z : qZ} {G : qG} {μ : qM} {post : Int32 → qM → Prop} (C : qX Z G RX11 cX11_far 4 ({ frames := 2, cells := 0, slots := 0, locals := 45 } : Room) (some .int)) (hQ : qQi Z G 0 0 post) (hn : 66 ≤ gn G) (h : q_X11_far_40 post μ) : qV Z G 4 0 0 μ 40 [(0, .ref (ga G 46))] [] := by
  unfold q_X11_far_40 at h
  refine x_aload_n C 0 dX11_far_40 rfl rfl ?_
  refine x_iconst C dX11_far_41 (v := 0) (by decide) ?_
  refine i_RX11_119 (rest := []) C hn  rfl (by decide) rfl dX11_far_42 h (fun r42 μ42 h => ?_)
  exact x_iret C hQ dX11_far_45 h
theorem y_X11_far : qY yX11_far cX11_far 4 (some .int) 3 ({ frames := 2, cells := 0, slots := 0, locals := 45 } : Room) 0 0 := ⟨(qm_17 _ (List.mem_of_getElem? (i := 2) rfl)), (qm_1 _ (List.mem_of_getElem? (i := 5) rfl)), by decide +kernel, by decide +kernel, rfl, rfl⟩
theorem c_X11_far (l : Launch) (G : qG) {v1 : Int32} {v2 : Int32} {v3 : Int32} {μ : qM} (hn : 66 ≤ gn G) : qCi l G yX11_far cX11_far 4 (some .int) ({ frames := 2, cells := 0, slots := 0, locals := 45 } : Room) 0 0 [.ref (ga G 46), .int v1, .int v2, .int v3] μ (fun post => w_X11_far v1 v2 v3 post μ) := by
  refine qCi_of (L := [(0, .ref (ga G 46)), (1, .int v1), (2, .int v2), (3, .int v3)]) (by decide) rfl rfl ?_
  intro Z post hl C hQ h
  have C : qX Z G RX11 cX11_far 4 ({ frames := 2, cells := 0, slots := 0, locals := 45 } : Room) (some .int) := C
  have h : w_X11_far v1 v2 v3 post μ := h
  unfold w_X11_far at h
  refine x_aload_n C 0 dX11_far_0 rfl rfl ?_
  refine x_iload_n C 1 dX11_far_1 rfl rfl ?_
  refine i_RX11_132 (rest := []) C hn  rfl (by decide) rfl dX11_far_2 h (fun r2 μ2 h => ?_)
  refine x_if_eq C dX11_far_5 (tgt := 40) (by decide) h (fun h => ?_) (fun h => ?_)
  · exact qV_sub [0] rfl (b_X11_far_40 C hQ hn h)
  · refine x_iload_n C 2 dX11_far_8 rfl rfl ?_
    refine x_iload_n C 3 dX11_far_9 rfl rfl ?_
    refine i_RX11_116 (rest := []) C hn  rfl (by decide) rfl dX11_far_10 h (fun r10 μ10 h => ?_)
    refine x_if_eq C dX11_far_13 (tgt := 40) (by decide) h (fun h => ?_) (fun h => ?_)
    · exact qV_sub [0] rfl (b_X11_far_40 C hQ hn h)
    · refine x_aload_n C 0 dX11_far_16 rfl rfl ?_
      refine g_RX11_9 C hn dX11_far_17 ?_
      refine x_iload_n C 1 dX11_far_20 rfl rfl ?_
      refine x_iald C 47 19 154 (q_lt rfl rfl hn) rfl rfl rfl rfl rfl dX11_far_21 h (fun h => ?_)
      refine x_aload_n C 0 dX11_far_22 rfl rfl ?_
      refine g_RX11_13 C hn dX11_far_23 ?_
      refine x_iload_n C 1 dX11_far_26 rfl rfl ?_
      refine x_iald C 48 19 154 (q_lt rfl rfl hn) rfl rfl rfl rfl rfl dX11_far_27 h (fun h => ?_)
      refine x_bipush C dX11_far_28 (v := 12) (by decide) ?_
      refine x_iload_n C 3 dX11_far_30 rfl rfl ?_
      refine x_imul C dX11_far_31 ?_
      refine x_iload_n C 2 dX11_far_32 rfl rfl ?_
      refine x_iadd C dX11_far_33 ?_
      refine i_RX11_92 (rest := []) C hn  rfl (by decide) rfl dX11_far_34 h (fun r34 μ34 h => ?_)
      refine x_goto C dX11_far_37 (tgt := 45) (by decide) ?_
      exact x_iret C hQ dX11_far_45 h
theorem dX11_howManyPairs_0 : decode cX11_howManyPairs 0 = .ok (.iconst 0, 1) := by decide +kernel
theorem dX11_howManyPairs_1 : decode cX11_howManyPairs 1 = .ok (.istore_n 2, 1) := by decide +kernel
theorem dX11_howManyPairs_2 : decode cX11_howManyPairs 2 = .ok (.aload_n 0, 1) := by decide +kernel
theorem dX11_howManyPairs_3 : decode cX11_howManyPairs 3 = .ok (.iload_n 1, 1) := by decide +kernel
theorem dX11_howManyPairs_4 : decode cX11_howManyPairs 4 = .ok (.iload_n 2, 1) := by decide +kernel
theorem dX11_howManyPairs_5 : decode cX11_howManyPairs 5 = .ok (.iconst (-1), 1) := by decide +kernel
theorem dX11_howManyPairs_6 : decode cX11_howManyPairs 6 = .ok (.invokevirtual 106, 3) := by decide +kernel
theorem dX11_howManyPairs_9 : decode cX11_howManyPairs 9 = .ok (.ifCond .lt 9, 3) := by decide +kernel
theorem dX11_howManyPairs_12 : decode cX11_howManyPairs 12 = .ok (.iinc 2 1, 3) := by decide +kernel
theorem dX11_howManyPairs_15 : decode cX11_howManyPairs 15 = .ok (.goto (-13), 3) := by decide +kernel
theorem dX11_howManyPairs_18 : decode cX11_howManyPairs 18 = .ok (.aload_n 0, 1) := by decide +kernel
theorem dX11_howManyPairs_19 : decode cX11_howManyPairs 19 = .ok (.iload_n 1, 1) := by decide +kernel
theorem dX11_howManyPairs_20 : decode cX11_howManyPairs 20 = .ok (.invokevirtual 103, 3) := by decide +kernel
theorem dX11_howManyPairs_23 : decode cX11_howManyPairs 23 = .ok (.ifCond .ge 7, 3) := by decide +kernel
theorem dX11_howManyPairs_26 : decode cX11_howManyPairs 26 = .ok (.iload_n 2, 1) := by decide +kernel
theorem dX11_howManyPairs_27 : decode cX11_howManyPairs 27 = .ok (.goto 4, 3) := by decide +kernel
theorem dX11_howManyPairs_30 : decode cX11_howManyPairs 30 = .ok (.iconst 0, 1) := by decide +kernel
theorem dX11_howManyPairs_31 : decode cX11_howManyPairs 31 = .ok (.ireturn, 1) := by decide +kernel
theorem b_X11_howManyPairs_2 {Z : qZ} {G : qG} {v1 : Int32} {v2 : Int32} {μ : qM} {post : Int32 → qM → Prop} (C : qX Z G RX11 cX11_howManyPairs 3 ({ frames := 5, cells := 0, slots := 0, locals := 115 } : Room) (some .int)) (hQ : qQi Z G 0 0 post) (hn : 66 ≤ gn G) (h : q_X11_howManyPairs_2 v1 post v2 μ) : qV Z G 3 0 0 μ 2 [(0, .ref (ga G 46)), (1, .int v1), (2, .int v2)] [] := by
  refine h (fun v2 μ => qV Z G 3 0 0 μ 2 [(0, .ref (ga G 46)), (1, .int v1), (2, .int v2)] []) (fun v2 μ h => ?_)
  refine x_aload_n C 0 dX11_howManyPairs_2 rfl rfl ?_
  refine x_iload_n C 1 dX11_howManyPairs_3 rfl rfl ?_
  refine x_iload_n C 2 dX11_howManyPairs_4 rfl rfl ?_
  refine x_iconst C dX11_howManyPairs_5 (v := -1) (by decide) ?_
  refine i_RX11_106 (rest := []) C hn  rfl (by decide) rfl dX11_howManyPairs_6 h (fun r6 μ6 h => ?_)
  refine x_if_lt C dX11_howManyPairs_9 (tgt := 18) (by decide) h (fun h => ?_) (fun h => ?_)
  · refine x_aload_n C 0 dX11_howManyPairs_18 rfl rfl ?_
    refine x_iload_n C 1 dX11_howManyPairs_19 rfl rfl ?_
    refine i_RX11_103 (rest := []) C hn  rfl (by decide) rfl dX11_howManyPairs_20 h (fun r20 μ20 h => ?_)
    refine x_if_ge C dX11_howManyPairs_23 (tgt := 30) (by decide) h (fun h => ?_) (fun h => ?_)
    · refine x_iconst C dX11_howManyPairs_30 (v := 0) (by decide) ?_
      exact x_iret C hQ dX11_howManyPairs_31 h
    · refine x_iload_n C 2 dX11_howManyPairs_26 rfl rfl ?_
      refine x_goto C dX11_howManyPairs_27 (tgt := 31) (by decide) ?_
      exact x_iret C hQ dX11_howManyPairs_31 h
  · refine x_iinc C 2 (v := 1) (L' := [(2, .int ((v2 + 1))), (0, .ref (ga G 46)), (1, .int v1)]) dX11_howManyPairs_12 rfl (by decide) (by decide) rfl ?_
    refine x_goto C dX11_howManyPairs_15 (tgt := 2) (by decide) ?_
    exact qV_sub [1, 2, 0] rfl (h)
theorem y_X11_howManyPairs : qY yX11_howManyPairs cX11_howManyPairs 3 (some .int) 1 ({ frames := 5, cells := 0, slots := 0, locals := 115 } : Room) 0 0 := ⟨(qm_17 _ (List.mem_of_getElem? (i := 18) rfl)), (qm_1 _ (List.mem_of_getElem? (i := 5) rfl)), by decide +kernel, by decide +kernel, rfl, rfl⟩
theorem c_X11_howManyPairs (l : Launch) (G : qG) {v1 : Int32} {μ : qM} (hn : 66 ≤ gn G) : qCi l G yX11_howManyPairs cX11_howManyPairs 3 (some .int) ({ frames := 5, cells := 0, slots := 0, locals := 115 } : Room) 0 0 [.ref (ga G 46), .int v1] μ (fun post => w_X11_howManyPairs v1 post μ) := by
  refine qCi_of (L := [(0, .ref (ga G 46)), (1, .int v1)]) (by decide) rfl rfl ?_
  intro Z post hl C hQ h
  have C : qX Z G RX11 cX11_howManyPairs 3 ({ frames := 5, cells := 0, slots := 0, locals := 115 } : Room) (some .int) := C
  have h : w_X11_howManyPairs v1 post μ := h
  unfold w_X11_howManyPairs at h
  refine x_iconst C dX11_howManyPairs_0 (v := 0) (by decide) ?_
  refine x_istore_n C (L' := [(2, .int ((0 : Int32))), (0, .ref (ga G 46)), (1, .int v1)]) dX11_howManyPairs_1 rfl (by decide) rfl ?_
  exact qV_sub [1, 2, 0] rfl (b_X11_howManyPairs_2 C hQ hn h)
theorem dX11_pairs_0 : decode cX11_pairs 0 = .ok (.iload_n 1, 1) := by decide +kernel
theorem dX11_pairs_1 : decode cX11_pairs 1 = .ok (.iload_n 2, 1) := by decide +kernel
theorem dX11_pairs_2 : decode cX11_pairs 2 = .ok (.invokestatic 116, 3) := by decide +kernel
theorem dX11_pairs_5 : decode cX11_pairs 5 = .ok (.ifCond .eq 16, 3) := by decide +kernel
theorem dX11_pairs_8 : decode cX11_pairs 8 = .ok (.aload_n 0, 1) := by decide +kernel
theorem dX11_pairs_9 : decode cX11_pairs 9 = .ok (.bipush 12, 2) := by decide +kernel
theorem dX11_pairs_11 : decode cX11_pairs 11 = .ok (.iload_n 2, 1) := by decide +kernel
theorem dX11_pairs_12 : decode cX11_pairs 12 = .ok (.imul, 1) := by decide +kernel
theorem dX11_pairs_13 : decode cX11_pairs 13 = .ok (.iload_n 1, 1) := by decide +kernel
theorem dX11_pairs_14 : decode cX11_pairs 14 = .ok (.iadd, 1) := by decide +kernel
theorem dX11_pairs_15 : decode cX11_pairs 15 = .ok (.invokevirtual 139, 3) := by decide +kernel
theorem dX11_pairs_18 : decode cX11_pairs 18 = .ok (.goto 8, 3) := by decide +kernel
theorem dX11_pairs_21 : decode cX11_pairs 21 = .ok (.aload_n 0, 1) := by decide +kernel
theorem dX11_pairs_22 : decode cX11_pairs 22 = .ok (.iconst 0, 1) := by decide +kernel
theorem dX11_pairs_23 : decode cX11_pairs 23 = .ok (.invokevirtual 119, 3) := by decide +kernel
theorem dX11_pairs_26 : decode cX11_pairs 26 = .ok (.ireturn, 1) := by decide +kernel
theorem i_RX11_139 {Z : qZ} {G : qG} {cc : ByteArray} {nL k n : Nat} {rm : Room} {ret : Option FieldType} {μ : qM} {pc : Nat} {L : List (Nat × Value)} {rest : List Value} {K : Int32 → qM → Prop} {v1 : Int32} (C : qX Z G RX11 cc nL rm ret) (hn : 66 ≤ gn G) (hR : (Nat.ble (5 + 1) rm.frames && Nat.ble (8 + (3 + 11) + 115) rm.locals) = true) (hf : k + 0 ≤ rm.cells ∧ n + 0 ≤ rm.slots) (hsz : Nat.ble (rest.map fun v => v.category).sum 8 = true) (hd : decode cc pc = .ok (.invokevirtual 139, 3)) (h : w_X11_howManyPairs v1 K μ) (hk : ∀ (r : Int32) (μ1 : qM), K r μ1 → qV Z G nL k n μ1 (pc + 3) L (.int r :: rest)) : qV Z G nL k n μ pc L (.int v1 :: .ref (ga G 46) :: rest) := x_Vi [.int v1] rest C 46 10 (wp := fun K => w_X11_howManyPairs v1 K μ) (y_X11_howManyPairs : qY yX11_howManyPairs cX11_howManyPairs 3 (some .int) 1 ({ frames := 5, cells := 0, slots := 0, locals := 115 } : Room) 0 0) (qm_17 _ (List.mem_of_getElem? (i := 16) rfl)) (qm_17 _ (List.mem_of_getElem? (i := 17) rfl)) (qm_17 _ (List.mem_of_getElem? (i := 15) rfl)) (c_X11_howManyPairs Z.2.1 G hn ) (Nat.lt_of_lt_of_le (by decide) hn) rfl (by decide) rfl rfl hR hf rfl rfl hsz hd h hk
theorem y_X11_pairs : qY yX11_pairs cX11_pairs 3 (some .int) 2 ({ frames := 6, cells := 0, slots := 0, locals := 137 } : Room) 0 0 := ⟨(qm_17 _ (List.mem_of_getElem? (i := 14) rfl)), (qm_1 _ (List.mem_of_getElem? (i := 5) rfl)), by decide +kernel, by decide +kernel, rfl, rfl⟩
theorem c_X11_pairs (l : Launch) (G : qG) {v1 : Int32} {v2 : Int32} {μ : qM} (hn : 66 ≤ gn G) : qCi l G yX11_pairs cX11_pairs 3 (some .int) ({ frames := 6, cells := 0, slots := 0, locals := 137 } : Room) 0 0 [.ref (ga G 46), .int v1, .int v2] μ (fun post => w_X11_pairs v1 v2 post μ) := by
  refine qCi_of (L := [(0, .ref (ga G 46)), (1, .int v1), (2, .int v2)]) (by decide) rfl rfl ?_
  intro Z post hl C hQ h
  have C : qX Z G RX11 cX11_pairs 3 ({ frames := 6, cells := 0, slots := 0, locals := 137 } : Room) (some .int) := C
  have h : w_X11_pairs v1 v2 post μ := h
  unfold w_X11_pairs at h
  refine x_iload_n C 1 dX11_pairs_0 rfl rfl ?_
  refine x_iload_n C 2 dX11_pairs_1 rfl rfl ?_
  refine i_RX11_116 (rest := []) C hn  rfl (by decide) rfl dX11_pairs_2 h (fun r2 μ2 h => ?_)
  refine x_if_eq C dX11_pairs_5 (tgt := 21) (by decide) h (fun h => ?_) (fun h => ?_)
  · refine x_aload_n C 0 dX11_pairs_21 rfl rfl ?_
    refine x_iconst C dX11_pairs_22 (v := 0) (by decide) ?_
    refine i_RX11_119 (rest := []) C hn  rfl (by decide) rfl dX11_pairs_23 h (fun r23 μ23 h => ?_)
    exact x_iret C hQ dX11_pairs_26 h
  · refine x_aload_n C 0 dX11_pairs_8 rfl rfl ?_
    refine x_bipush C dX11_pairs_9 (v := 12) (by decide) ?_
    refine x_iload_n C 2 dX11_pairs_11 rfl rfl ?_
    refine x_imul C dX11_pairs_12 ?_
    refine x_iload_n C 1 dX11_pairs_13 rfl rfl ?_
    refine x_iadd C dX11_pairs_14 ?_
    refine i_RX11_139 (rest := []) C hn  rfl (by decide) rfl dX11_pairs_15 h (fun r15 μ15 h => ?_)
    refine x_goto C dX11_pairs_18 (tgt := 26) (by decide) ?_
    exact x_iret C hQ dX11_pairs_26 h
theorem dX11_pair_0 : decode cX11_pair 0 = .ok (.iload_n 1, 1) := by decide +kernel
theorem dX11_pair_1 : decode cX11_pair 1 = .ok (.iload_n 2, 1) := by decide +kernel
theorem dX11_pair_2 : decode cX11_pair 2 = .ok (.invokestatic 116, 3) := by decide +kernel
theorem dX11_pair_5 : decode cX11_pair 5 = .ok (.ifCond .ne 9, 3) := by decide +kernel
theorem dX11_pair_8 : decode cX11_pair 8 = .ok (.aload_n 0, 1) := by decide +kernel
theorem dX11_pair_9 : decode cX11_pair 9 = .ok (.iconst 0, 1) := by decide +kernel
theorem dX11_pair_10 : decode cX11_pair 10 = .ok (.invokevirtual 119, 3) := by decide +kernel
theorem dX11_pair_13 : decode cX11_pair 13 = .ok (.ireturn, 1) := by decide +kernel
theorem dX11_pair_14 : decode cX11_pair 14 = .ok (.aload_n 0, 1) := by decide +kernel
theorem dX11_pair_15 : decode cX11_pair 15 = .ok (.bipush 12, 2) := by decide +kernel
theorem dX11_pair_17 : decode cX11_pair 17 = .ok (.iload_n 2, 1) := by decide +kernel
theorem dX11_pair_18 : decode cX11_pair 18 = .ok (.imul, 1) := by decide +kernel
theorem dX11_pair_19 : decode cX11_pair 19 = .ok (.iload_n 1, 1) := by decide +kernel
theorem dX11_pair_20 : decode cX11_pair 20 = .ok (.iadd, 1) := by decide +kernel
theorem dX11_pair_21 : decode cX11_pair 21 = .ok (.invokevirtual 109, 3) := by decide +kernel
theorem dX11_pair_24 : decode cX11_pair 24 = .ok (.ifCond .ne 9, 3) := by decide +kernel
theorem dX11_pair_27 : decode cX11_pair 27 = .ok (.aload_n 0, 1) := by decide +kernel
theorem dX11_pair_28 : decode cX11_pair 28 = .ok (.iconst 3, 1) := by decide +kernel
theorem dX11_pair_29 : decode cX11_pair 29 = .ok (.invokevirtual 119, 3) := by decide +kernel
theorem dX11_pair_32 : decode cX11_pair 32 = .ok (.ireturn, 1) := by decide +kernel
theorem dX11_pair_33 : decode cX11_pair 33 = .ok (.aload_n 0, 1) := by decide +kernel
theorem dX11_pair_34 : decode cX11_pair 34 = .ok (.bipush 12, 2) := by decide +kernel
theorem dX11_pair_36 : decode cX11_pair 36 = .ok (.iload_n 2, 1) := by decide +kernel
theorem dX11_pair_37 : decode cX11_pair 37 = .ok (.imul, 1) := by decide +kernel
theorem dX11_pair_38 : decode cX11_pair 38 = .ok (.iload_n 1, 1) := by decide +kernel
theorem dX11_pair_39 : decode cX11_pair 39 = .ok (.iadd, 1) := by decide +kernel
theorem dX11_pair_40 : decode cX11_pair 40 = .ok (.iconst 0, 1) := by decide +kernel
theorem dX11_pair_41 : decode cX11_pair 41 = .ok (.iconst (-1), 1) := by decide +kernel
theorem dX11_pair_42 : decode cX11_pair 42 = .ok (.invokevirtual 106, 3) := by decide +kernel
theorem dX11_pair_45 : decode cX11_pair 45 = .ok (.istore_n 3, 1) := by decide +kernel
theorem dX11_pair_46 : decode cX11_pair 46 = .ok (.bipush 10, 2) := by decide +kernel
theorem dX11_pair_48 : decode cX11_pair 48 = .ok (.iload_n 3, 1) := by decide +kernel
theorem dX11_pair_49 : decode cX11_pair 49 = .ok (.sipush 154, 3) := by decide +kernel
theorem dX11_pair_52 : decode cX11_pair 52 = .ok (.idiv, 1) := by decide +kernel
theorem dX11_pair_53 : decode cX11_pair 53 = .ok (.imul, 1) := by decide +kernel
theorem dX11_pair_54 : decode cX11_pair 54 = .ok (.iload_n 3, 1) := by decide +kernel
theorem dX11_pair_55 : decode cX11_pair 55 = .ok (.sipush 154, 3) := by decide +kernel
theorem dX11_pair_58 : decode cX11_pair 58 = .ok (.irem, 1) := by decide +kernel
theorem dX11_pair_59 : decode cX11_pair 59 = .ok (.iadd, 1) := by decide +kernel
theorem dX11_pair_60 : decode cX11_pair 60 = .ok (.ireturn, 1) := by decide +kernel
theorem y_X11_pair : qY yX11_pair cX11_pair 4 (some .int) 2 ({ frames := 6, cells := 0, slots := 0, locals := 136 } : Room) 0 0 := ⟨(qm_18 _ (List.mem_of_getElem? (i := 7) rfl)), (qm_1 _ (List.mem_of_getElem? (i := 5) rfl)), by decide +kernel, by decide +kernel, rfl, rfl⟩
theorem c_X11_pair (l : Launch) (G : qG) {v1 : Int32} {v2 : Int32} {μ : qM} (hn : 66 ≤ gn G) : qCi l G yX11_pair cX11_pair 4 (some .int) ({ frames := 6, cells := 0, slots := 0, locals := 136 } : Room) 0 0 [.ref (ga G 46), .int v1, .int v2] μ (fun post => w_X11_pair v1 v2 post μ) := by
  refine qCi_of (L := [(0, .ref (ga G 46)), (1, .int v1), (2, .int v2)]) (by decide) rfl rfl ?_
  intro Z post hl C hQ h
  have C : qX Z G RX11 cX11_pair 4 ({ frames := 6, cells := 0, slots := 0, locals := 136 } : Room) (some .int) := C
  have h : w_X11_pair v1 v2 post μ := h
  unfold w_X11_pair at h
  refine x_iload_n C 1 dX11_pair_0 rfl rfl ?_
  refine x_iload_n C 2 dX11_pair_1 rfl rfl ?_
  refine i_RX11_116 (rest := []) C hn  rfl (by decide) rfl dX11_pair_2 h (fun r2 μ2 h => ?_)
  refine x_if_ne C dX11_pair_5 (tgt := 14) (by decide) h (fun h => ?_) (fun h => ?_)
  · refine x_aload_n C 0 dX11_pair_14 rfl rfl ?_
    refine x_bipush C dX11_pair_15 (v := 12) (by decide) ?_
    refine x_iload_n C 2 dX11_pair_17 rfl rfl ?_
    refine x_imul C dX11_pair_18 ?_
    refine x_iload_n C 1 dX11_pair_19 rfl rfl ?_
    refine x_iadd C dX11_pair_20 ?_
    refine i_RX11_109 (rest := []) C hn  rfl (by decide) rfl dX11_pair_21 h (fun r21 μ21 h => ?_)
    refine x_if_ne C dX11_pair_24 (tgt := 33) (by decide) h (fun h => ?_) (fun h => ?_)
    · refine x_aload_n C 0 dX11_pair_33 rfl rfl ?_
      refine x_bipush C dX11_pair_34 (v := 12) (by decide) ?_
      refine x_iload_n C 2 dX11_pair_36 rfl rfl ?_
      refine x_imul C dX11_pair_37 ?_
      refine x_iload_n C 1 dX11_pair_38 rfl rfl ?_
      refine x_iadd C dX11_pair_39 ?_
      refine x_iconst C dX11_pair_40 (v := 0) (by decide) ?_
      refine x_iconst C dX11_pair_41 (v := -1) (by decide) ?_
      refine i_RX11_106 (rest := []) C hn  rfl (by decide) rfl dX11_pair_42 h (fun r42 μ42 h => ?_)
      refine x_istore_n C (L' := [(3, .int r42), (0, .ref (ga G 46)), (1, .int v1), (2, .int v2)]) dX11_pair_45 rfl (by decide) rfl ?_
      refine x_bipush C dX11_pair_46 (v := 10) (by decide) ?_
      refine x_iload_n C 0 dX11_pair_48 rfl rfl ?_
      refine x_sipush C dX11_pair_49 (v := 154) (by decide) ?_
      refine x_idiv C dX11_pair_52 h (fun h => ?_)
      refine x_imul C dX11_pair_53 ?_
      refine x_iload_n C 0 dX11_pair_54 rfl rfl ?_
      refine x_sipush C dX11_pair_55 (v := 154) (by decide) ?_
      refine x_irem C dX11_pair_58 h (fun h => ?_)
      refine x_iadd C dX11_pair_59 ?_
      exact x_iret C hQ dX11_pair_60 h
    · refine x_aload_n C 0 dX11_pair_27 rfl rfl ?_
      refine x_iconst C dX11_pair_28 (v := 3) (by decide) ?_
      refine i_RX11_119 (rest := []) C hn  rfl (by decide) rfl dX11_pair_29 h (fun r29 μ29 h => ?_)
      exact x_iret C hQ dX11_pair_32 h
  · refine x_aload_n C 0 dX11_pair_8 rfl rfl ?_
    refine x_iconst C dX11_pair_9 (v := 0) (by decide) ?_
    refine i_RX11_119 (rest := []) C hn  rfl (by decide) rfl dX11_pair_10 h (fun r10 μ10 h => ?_)
    exact x_iret C hQ dX11_pair_13 h
theorem dX11_isSo_0 : decode cX11_isSo 0 = .ok (.iload_n 2, 1) := by decide +kernel
theorem dX11_isSo_1 : decode cX11_isSo 1 = .ok (.ifCond .ne 11, 3) := by decide +kernel
theorem dX11_isSo_4 : decode cX11_isSo 4 = .ok (.aload_n 0, 1) := by decide +kernel
theorem dX11_isSo_5 : decode cX11_isSo 5 = .ok (.iload_n 1, 1) := by decide +kernel
theorem dX11_isSo_6 : decode cX11_isSo 6 = .ok (.invokevirtual 109, 3) := by decide +kernel
theorem dX11_isSo_9 : decode cX11_isSo 9 = .ok (.goto 31, 3) := by decide +kernel
theorem dX11_isSo_12 : decode cX11_isSo 12 = .ok (.iload_n 2, 1) := by decide +kernel
theorem dX11_isSo_13 : decode cX11_isSo 13 = .ok (.iconst 1, 1) := by decide +kernel
theorem dX11_isSo_14 : decode cX11_isSo 14 = .ok (.if_icmp .ne 20, 3) := by decide +kernel
theorem dX11_isSo_17 : decode cX11_isSo 17 = .ok (.aload_n 0, 1) := by decide +kernel
theorem dX11_isSo_18 : decode cX11_isSo 18 = .ok (.iload_n 1, 1) := by decide +kernel
theorem dX11_isSo_19 : decode cX11_isSo 19 = .ok (.invokevirtual 139, 3) := by decide +kernel
theorem dX11_isSo_22 : decode cX11_isSo 22 = .ok (.iconst 1, 1) := by decide +kernel
theorem dX11_isSo_23 : decode cX11_isSo 23 = .ok (.if_icmp .ne 7, 3) := by decide +kernel
theorem dX11_isSo_26 : decode cX11_isSo 26 = .ok (.iconst 1, 1) := by decide +kernel
theorem dX11_isSo_27 : decode cX11_isSo 27 = .ok (.goto 13, 3) := by decide +kernel
theorem dX11_isSo_30 : decode cX11_isSo 30 = .ok (.iconst 0, 1) := by decide +kernel
theorem dX11_isSo_31 : decode cX11_isSo 31 = .ok (.goto 9, 3) := by decide +kernel
theorem dX11_isSo_34 : decode cX11_isSo 34 = .ok (.aload_n 0, 1) := by decide +kernel
theorem dX11_isSo_35 : decode cX11_isSo 35 = .ok (.getfield 50, 3) := by decide +kernel
theorem dX11_isSo_38 : decode cX11_isSo 38 = .ok (.iload_n 1, 1) := by decide +kernel
theorem dX11_isSo_39 : decode cX11_isSo 39 = .ok (.baload, 1) := by decide +kernel
theorem dX11_isSo_40 : decode cX11_isSo 40 = .ok (.ireturn, 1) := by decide +kernel
theorem g_RX11_50 {Z : qZ} {G : qG} {cc : ByteArray} {nL k n : Nat} {rm : Room} {ret : Option FieldType} {μ : qM} {pc : Nat} {L : List (Nat × Value)} {st : List Value} (C : qX Z G RX11 cc nL rm ret) (hn : 66 ≤ gn G) (hd : decode cc pc = .ok (.getfield 50, 3)) (h : qV Z G nL k n μ (pc + 3) L (.ref (ga G 58) :: st)) : qV Z G nL k n μ pc L (.ref (ga G 46) :: st) := x_getr C 46 10 21 12 58 (C0 := RX11) (fn := "isEver") (fd := "[Z") (Nat.lt_of_lt_of_le (by decide) hn) rfl (by decide) rfl (by decide) rfl inlX11 (qm_6 _ (List.mem_of_getElem? (i := 4) rfl)) rfl rfl rfl hd h
theorem y_X11_isSo : qY yX11_isSo cX11_isSo 3 (some .boolean) 2 ({ frames := 6, cells := 0, slots := 0, locals := 137 } : Room) 0 0 := ⟨(qm_18 _ (List.mem_of_getElem? (i := 23) rfl)), (qm_1 _ (List.mem_of_getElem? (i := 5) rfl)), by decide +kernel, by decide +kernel, rfl, rfl⟩
theorem c_X11_isSo (l : Launch) (G : qG) {v1 : Int32} {v2 : Int32} {μ : qM} (hn : 66 ≤ gn G) : qCi l G yX11_isSo cX11_isSo 3 (some .boolean) ({ frames := 6, cells := 0, slots := 0, locals := 137 } : Room) 0 0 [.ref (ga G 46), .int v1, .int v2] μ (fun post => w_X11_isSo v1 v2 post μ) := by
  refine qCi_of (L := [(0, .ref (ga G 46)), (1, .int v1), (2, .int v2)]) (by decide) rfl rfl ?_
  intro Z post hl C hQ h
  have C : qX Z G RX11 cX11_isSo 3 ({ frames := 6, cells := 0, slots := 0, locals := 137 } : Room) (some .boolean) := C
  have h : w_X11_isSo v1 v2 post μ := h
  unfold w_X11_isSo at h
  refine x_iload_n C 2 dX11_isSo_0 rfl rfl ?_
  refine x_if_ne C dX11_isSo_1 (tgt := 12) (by decide) h (fun h => ?_) (fun h => ?_)
  · refine x_iload_n C 2 dX11_isSo_12 rfl rfl ?_
    refine x_iconst C dX11_isSo_13 (v := 1) (by decide) ?_
    refine x_icmp_ne C dX11_isSo_14 (tgt := 34) (by decide) h (fun h => ?_) (fun h => ?_)
    · refine x_aload_n C 0 dX11_isSo_34 rfl rfl ?_
      refine g_RX11_50 C hn dX11_isSo_35 ?_
      refine x_iload_n C 1 dX11_isSo_38 rfl rfl ?_
      refine x_zald C 58 13 144 (q_lt rfl rfl hn) rfl rfl rfl rfl rfl dX11_isSo_39 h (fun h => ?_)
      exact x_zret C hQ dX11_isSo_40 h
    · refine x_aload_n C 0 dX11_isSo_17 rfl rfl ?_
      refine x_iload_n C 1 dX11_isSo_18 rfl rfl ?_
      refine i_RX11_139 (rest := []) C hn  rfl (by decide) rfl dX11_isSo_19 h (fun r19 μ19 h => ?_)
      refine x_iconst C dX11_isSo_22 (v := 1) (by decide) ?_
      refine x_icmp_ne C dX11_isSo_23 (tgt := 30) (by decide) h (fun h => ?_) (fun h => ?_)
      · refine x_iconst C dX11_isSo_30 (v := 0) (by decide) ?_
        refine x_goto C dX11_isSo_31 (tgt := 40) (by decide) ?_
        exact x_zret C hQ dX11_isSo_40 h
      · refine x_iconst C dX11_isSo_26 (v := 1) (by decide) ?_
        refine x_goto C dX11_isSo_27 (tgt := 40) (by decide) ?_
        exact x_zret C hQ dX11_isSo_40 h
  · refine x_aload_n C 0 dX11_isSo_4 rfl rfl ?_
    refine x_iload_n C 1 dX11_isSo_5 rfl rfl ?_
    refine i_RX11_109 (rest := []) C hn  rfl (by decide) rfl dX11_isSo_6 h (fun r6 μ6 h => ?_)
    refine x_goto C dX11_isSo_9 (tgt := 40) (by decide) ?_
    exact x_zret C hQ dX11_isSo_40 h
theorem dX11_inRow_0 : decode cX11_inRow 0 = .ok (.iconst 0, 1) := by decide +kernel
theorem dX11_inRow_1 : decode cX11_inRow 1 = .ok (.istore_n 3, 1) := by decide +kernel
theorem dX11_inRow_2 : decode cX11_inRow 2 = .ok (.iconst 0, 1) := by decide +kernel
theorem dX11_inRow_3 : decode cX11_inRow 3 = .ok (.istore 4, 2) := by decide +kernel
theorem dX11_inRow_5 : decode cX11_inRow 5 = .ok (.iload 4, 2) := by decide +kernel
theorem dX11_inRow_7 : decode cX11_inRow 7 = .ok (.bipush 12, 2) := by decide +kernel
theorem dX11_inRow_9 : decode cX11_inRow 9 = .ok (.if_icmp .ge 35, 3) := by decide +kernel
theorem dX11_inRow_12 : decode cX11_inRow 12 = .ok (.iload_n 3, 1) := by decide +kernel
theorem dX11_inRow_13 : decode cX11_inRow 13 = .ok (.aload_n 0, 1) := by decide +kernel
theorem dX11_inRow_14 : decode cX11_inRow 14 = .ok (.bipush 12, 2) := by decide +kernel
theorem dX11_inRow_16 : decode cX11_inRow 16 = .ok (.iload_n 1, 1) := by decide +kernel
theorem dX11_inRow_17 : decode cX11_inRow 17 = .ok (.imul, 1) := by decide +kernel
theorem dX11_inRow_18 : decode cX11_inRow 18 = .ok (.iload 4, 2) := by decide +kernel
theorem dX11_inRow_20 : decode cX11_inRow 20 = .ok (.iadd, 1) := by decide +kernel
theorem dX11_inRow_21 : decode cX11_inRow 21 = .ok (.iload_n 2, 1) := by decide +kernel
theorem dX11_inRow_22 : decode cX11_inRow 22 = .ok (.invokevirtual 142, 3) := by decide +kernel
theorem dX11_inRow_25 : decode cX11_inRow 25 = .ok (.ifCond .eq 10, 3) := by decide +kernel
theorem dX11_inRow_28 : decode cX11_inRow 28 = .ok (.iconst 1, 1) := by decide +kernel
theorem dX11_inRow_29 : decode cX11_inRow 29 = .ok (.iload 4, 2) := by decide +kernel
theorem dX11_inRow_31 : decode cX11_inRow 31 = .ok (.ishl, 1) := by decide +kernel
theorem dX11_inRow_32 : decode cX11_inRow 32 = .ok (.goto 4, 3) := by decide +kernel
theorem dX11_inRow_35 : decode cX11_inRow 35 = .ok (.iconst 0, 1) := by decide +kernel
theorem dX11_inRow_36 : decode cX11_inRow 36 = .ok (.ior, 1) := by decide +kernel
theorem dX11_inRow_37 : decode cX11_inRow 37 = .ok (.istore_n 3, 1) := by decide +kernel
theorem dX11_inRow_38 : decode cX11_inRow 38 = .ok (.iinc 4 1, 3) := by decide +kernel
theorem dX11_inRow_41 : decode cX11_inRow 41 = .ok (.goto (-36), 3) := by decide +kernel
theorem dX11_inRow_44 : decode cX11_inRow 44 = .ok (.iload_n 3, 1) := by decide +kernel
theorem dX11_inRow_45 : decode cX11_inRow 45 = .ok (.ireturn, 1) := by decide +kernel
theorem i_RX11_142 {Z : qZ} {G : qG} {cc : ByteArray} {nL k n : Nat} {rm : Room} {ret : Option FieldType} {μ : qM} {pc : Nat} {L : List (Nat × Value)} {rest : List Value} {K : Int32 → qM → Prop} {v1 : Int32} {v2 : Int32} (C : qX Z G RX11 cc nL rm ret) (hn : 66 ≤ gn G) (hR : (Nat.ble (6 + 1) rm.frames && Nat.ble (8 + (3 + 11) + 137) rm.locals) = true) (hf : k + 0 ≤ rm.cells ∧ n + 0 ≤ rm.slots) (hsz : Nat.ble (rest.map fun v => v.category).sum 8 = true) (hd : decode cc pc = .ok (.invokevirtual 142, 3)) (h : w_X11_isSo v1 v2 K μ) (hk : ∀ (r : Int32) (μ1 : qM), K r μ1 → qV Z G nL k n μ1 (pc + 3) L (.int r :: rest)) : qV Z G nL k n μ pc L (.int v2 :: .int v1 :: .ref (ga G 46) :: rest) := x_Vi [.int v1, .int v2] rest C 46 10 (wp := fun K => w_X11_isSo v1 v2 K μ) (y_X11_isSo : qY yX11_isSo cX11_isSo 3 (some .boolean) 2 ({ frames := 6, cells := 0, slots := 0, locals := 137 } : Room) 0 0) (qm_18 _ (List.mem_of_getElem? (i := 21) rfl)) (qm_18 _ (List.mem_of_getElem? (i := 22) rfl)) (qm_18 _ (List.mem_of_getElem? (i := 20) rfl)) (c_X11_isSo Z.2.1 G hn ) (Nat.lt_of_lt_of_le (by decide) hn) rfl (by decide) rfl rfl hR hf rfl rfl hsz hd h hk
theorem b_X11_inRow_36 {Z : qZ} {G : qG} {v1 : Int32} {v2 : Int32} {v4 : Int32} {s0 : Int32} {s1 : Int32} {μ : qM} {P5 : Int32 → Int32 → qM → Prop} {post : Int32 → qM → Prop} (C : qX Z G RX11 cX11_inRow 5 ({ frames := 7, cells := 0, slots := 0, locals := 159 } : Room) (some .int)) (hQ : qQi Z G 0 0 post) (hn : 66 ≤ gn G) (hP5 : ∀ (b3 : Int32) (b4 : Int32) (μ1 : qM), P5 b3 b4 μ1 → qV Z G 5 0 0 μ1 5 [(0, .ref (ga G 46)), (1, .int v1), (2, .int v2), (3, .int b3), (4, .int b4)] []) (h : q_X11_inRow_36 P5 post v1 v2 v4 s0 s1 μ) : qV Z G 5 0 0 μ 36 [(0, .ref (ga G 46)), (1, .int v1), (2, .int v2), (4, .int v4)] [.int s0, .int s1] := by
  unfold q_X11_inRow_36 at h
  refine x_ior C dX11_inRow_36 ?_
  refine x_istore_n C (L' := [(3, .int ((s1 ||| s0))), (0, .ref (ga G 46)), (1, .int v1), (2, .int v2), (4, .int v4)]) dX11_inRow_37 rfl (by decide) rfl ?_
  refine x_iinc C 4 (v := 1) (L' := [(4, .int ((v4 + 1))), (3, .int ((s1 ||| s0))), (0, .ref (ga G 46)), (1, .int v1), (2, .int v2)]) dX11_inRow_38 rfl (by decide) (by decide) rfl ?_
  refine x_goto C dX11_inRow_41 (tgt := 5) (by decide) ?_
  exact qV_sub [2, 3, 4, 1, 0] rfl ((hP5 _ _ _ h))
theorem b_X11_inRow_5 {Z : qZ} {G : qG} {v1 : Int32} {v2 : Int32} {v3 : Int32} {v4 : Int32} {μ : qM} {post : Int32 → qM → Prop} (C : qX Z G RX11 cX11_inRow 5 ({ frames := 7, cells := 0, slots := 0, locals := 159 } : Room) (some .int)) (hQ : qQi Z G 0 0 post) (hn : 66 ≤ gn G) (h : q_X11_inRow_5 v1 v2 post v3 v4 μ) : qV Z G 5 0 0 μ 5 [(0, .ref (ga G 46)), (1, .int v1), (2, .int v2), (3, .int v3), (4, .int v4)] [] := by
  refine h (fun v3 v4 μ => qV Z G 5 0 0 μ 5 [(0, .ref (ga G 46)), (1, .int v1), (2, .int v2), (3, .int v3), (4, .int v4)] []) (fun v3 v4 μ h => ?_)
  refine x_iload C 4 dX11_inRow_5 rfl ?_
  refine x_bipush C dX11_inRow_7 (v := 12) (by decide) ?_
  refine x_icmp_ge C dX11_inRow_9 (tgt := 44) (by decide) h (fun h => ?_) (fun h => ?_)
  · refine x_iload_n C 3 dX11_inRow_44 rfl rfl ?_
    exact x_iret C hQ dX11_inRow_45 h
  · refine x_iload_n C 3 dX11_inRow_12 rfl rfl ?_
    refine x_aload_n C 0 dX11_inRow_13 rfl rfl ?_
    refine x_bipush C dX11_inRow_14 (v := 12) (by decide) ?_
    refine x_iload_n C 1 dX11_inRow_16 rfl rfl ?_
    refine x_imul C dX11_inRow_17 ?_
    refine x_iload C 4 dX11_inRow_18 rfl ?_
    refine x_iadd C dX11_inRow_20 ?_
    refine x_iload_n C 2 dX11_inRow_21 rfl rfl ?_
    refine i_RX11_142 (rest := [.int v3]) C hn  rfl (by decide) rfl dX11_inRow_22 h (fun r22 μ22 h => ?_)
    refine x_if_eq C dX11_inRow_25 (tgt := 35) (by decide) h (fun h => ?_) (fun h => ?_)
    · refine x_iconst C dX11_inRow_35 (v := 0) (by decide) ?_
      exact qV_sub [0, 1, 2, 4] rfl (b_X11_inRow_36 C hQ hn (fun _ _ _ h => h) h)
    · refine x_iconst C dX11_inRow_28 (v := 1) (by decide) ?_
      refine x_iload C 4 dX11_inRow_29 rfl ?_
      refine x_ishl C dX11_inRow_31 ?_
      refine x_goto C dX11_inRow_32 (tgt := 36) (by decide) ?_
      exact qV_sub [0, 1, 2, 4] rfl (b_X11_inRow_36 C hQ hn (fun _ _ _ h => h) h)
theorem y_X11_inRow : qY yX11_inRow cX11_inRow 5 (some .int) 2 ({ frames := 7, cells := 0, slots := 0, locals := 159 } : Room) 0 0 := ⟨(qm_18 _ (List.mem_of_getElem? (i := 19) rfl)), (qm_1 _ (List.mem_of_getElem? (i := 5) rfl)), by decide +kernel, by decide +kernel, rfl, rfl⟩
theorem c_X11_inRow (l : Launch) (G : qG) {v1 : Int32} {v2 : Int32} {μ : qM} (hn : 66 ≤ gn G) : qCi l G yX11_inRow cX11_inRow 5 (some .int) ({ frames := 7, cells := 0, slots := 0, locals := 159 } : Room) 0 0 [.ref (ga G 46), .int v1, .int v2] μ (fun post => w_X11_inRow v1 v2 post μ) := by
  refine qCi_of (L := [(0, .ref (ga G 46)), (1, .int v1), (2, .int v2)]) (by decide) rfl rfl ?_
  intro Z post hl C hQ h
  have C : qX Z G RX11 cX11_inRow 5 ({ frames := 7, cells := 0, slots := 0, locals := 159 } : Room) (some .int) := C
  have h : w_X11_inRow v1 v2 post μ := h
  unfold w_X11_inRow at h
  refine x_iconst C dX11_inRow_0 (v := 0) (by decide) ?_
  refine x_istore_n C (L' := [(3, .int ((0 : Int32))), (0, .ref (ga G 46)), (1, .int v1), (2, .int v2)]) dX11_inRow_1 rfl (by decide) rfl ?_
  refine x_iconst C dX11_inRow_2 (v := 0) (by decide) ?_
  refine x_istore C (L' := [(4, .int ((0 : Int32))), (3, .int ((0 : Int32))), (0, .ref (ga G 46)), (1, .int v1), (2, .int v2)]) dX11_inRow_3 (by decide) rfl ?_
  exact qV_sub [2, 3, 4, 1, 0] rfl (b_X11_inRow_5 C hQ hn h)
theorem dX11_row_0 : decode cX11_row 0 = .ok (.iload_n 1, 1) := by decide +kernel
theorem dX11_row_1 : decode cX11_row 1 = .ok (.iconst 0, 1) := by decide +kernel
theorem dX11_row_2 : decode cX11_row 2 = .ok (.bipush 11, 2) := by decide +kernel
theorem dX11_row_4 : decode cX11_row 4 = .ok (.invokestatic 79, 3) := by decide +kernel
theorem dX11_row_7 : decode cX11_row 7 = .ok (.ifCond .eq 12, 3) := by decide +kernel
theorem dX11_row_10 : decode cX11_row 10 = .ok (.aload_n 0, 1) := by decide +kernel
theorem dX11_row_11 : decode cX11_row 11 = .ok (.iload_n 1, 1) := by decide +kernel
theorem dX11_row_12 : decode cX11_row 12 = .ok (.iconst 0, 1) := by decide +kernel
theorem dX11_row_13 : decode cX11_row 13 = .ok (.invokevirtual 145, 3) := by decide +kernel
theorem dX11_row_16 : decode cX11_row 16 = .ok (.goto 8, 3) := by decide +kernel
theorem dX11_row_19 : decode cX11_row 19 = .ok (.aload_n 0, 1) := by decide +kernel
theorem dX11_row_20 : decode cX11_row 20 = .ok (.iconst 0, 1) := by decide +kernel
theorem dX11_row_21 : decode cX11_row 21 = .ok (.invokevirtual 119, 3) := by decide +kernel
theorem dX11_row_24 : decode cX11_row 24 = .ok (.ireturn, 1) := by decide +kernel
theorem i_RX11_145 {Z : qZ} {G : qG} {cc : ByteArray} {nL k n : Nat} {rm : Room} {ret : Option FieldType} {μ : qM} {pc : Nat} {L : List (Nat × Value)} {rest : List Value} {K : Int32 → qM → Prop} {v1 : Int32} {v2 : Int32} (C : qX Z G RX11 cc nL rm ret) (hn : 66 ≤ gn G) (hR : (Nat.ble (7 + 1) rm.frames && Nat.ble (8 + (5 + 11) + 159) rm.locals) = true) (hf : k + 0 ≤ rm.cells ∧ n + 0 ≤ rm.slots) (hsz : Nat.ble (rest.map fun v => v.category).sum 8 = true) (hd : decode cc pc = .ok (.invokevirtual 145, 3)) (h : w_X11_inRow v1 v2 K μ) (hk : ∀ (r : Int32) (μ1 : qM), K r μ1 → qV Z G nL k n μ1 (pc + 3) L (.int r :: rest)) : qV Z G nL k n μ pc L (.int v2 :: .int v1 :: .ref (ga G 46) :: rest) := x_Vi [.int v1, .int v2] rest C 46 10 (wp := fun K => w_X11_inRow v1 v2 K μ) (y_X11_inRow : qY yX11_inRow cX11_inRow 5 (some .int) 2 ({ frames := 7, cells := 0, slots := 0, locals := 159 } : Room) 0 0) (qm_18 _ (List.mem_of_getElem? (i := 17) rfl)) (qm_18 _ (List.mem_of_getElem? (i := 18) rfl)) (qm_18 _ (List.mem_of_getElem? (i := 16) rfl)) (c_X11_inRow Z.2.1 G hn ) (Nat.lt_of_lt_of_le (by decide) hn) rfl (by decide) rfl rfl hR hf rfl rfl hsz hd h hk
theorem y_X11_row : qY yX11_row cX11_row 2 (some .int) 1 ({ frames := 8, cells := 0, slots := 0, locals := 183 } : Room) 0 0 := ⟨(qm_18 _ (List.mem_of_getElem? (i := 15) rfl)), (qm_1 _ (List.mem_of_getElem? (i := 5) rfl)), by decide +kernel, by decide +kernel, rfl, rfl⟩
theorem c_X11_row (l : Launch) (G : qG) {v1 : Int32} {μ : qM} (hn : 66 ≤ gn G) : qCi l G yX11_row cX11_row 2 (some .int) ({ frames := 8, cells := 0, slots := 0, locals := 183 } : Room) 0 0 [.ref (ga G 46), .int v1] μ (fun post => w_X11_row v1 post μ) := by
  refine qCi_of (L := [(0, .ref (ga G 46)), (1, .int v1)]) (by decide) rfl rfl ?_
  intro Z post hl C hQ h
  have C : qX Z G RX11 cX11_row 2 ({ frames := 8, cells := 0, slots := 0, locals := 183 } : Room) (some .int) := C
  have h : w_X11_row v1 post μ := h
  unfold w_X11_row at h
  refine x_iload_n C 1 dX11_row_0 rfl rfl ?_
  refine x_iconst C dX11_row_1 (v := 0) (by decide) ?_
  refine x_bipush C dX11_row_2 (v := 11) (by decide) ?_
  refine i_RX11_79 (rest := []) C hn  rfl (by decide) rfl dX11_row_4 h (fun r4 μ4 h => ?_)
  refine x_if_eq C dX11_row_7 (tgt := 19) (by decide) h (fun h => ?_) (fun h => ?_)
  · refine x_aload_n C 0 dX11_row_19 rfl rfl ?_
    refine x_iconst C dX11_row_20 (v := 0) (by decide) ?_
    refine i_RX11_119 (rest := []) C hn  rfl (by decide) rfl dX11_row_21 h (fun r21 μ21 h => ?_)
    exact x_iret C hQ dX11_row_24 h
  · refine x_aload_n C 0 dX11_row_10 rfl rfl ?_
    refine x_iload_n C 1 dX11_row_11 rfl rfl ?_
    refine x_iconst C dX11_row_12 (v := 0) (by decide) ?_
    refine i_RX11_145 (rest := []) C hn  rfl (by decide) rfl dX11_row_13 h (fun r13 μ13 h => ?_)
    refine x_goto C dX11_row_16 (tgt := 24) (by decide) ?_
    exact x_iret C hQ dX11_row_24 h
theorem dX11_findEver_0 : decode cX11_findEver 0 = .ok (.aload_n 0, 1) := by decide +kernel
theorem dX11_findEver_1 : decode cX11_findEver 1 = .ok (.getfield 76, 3) := by decide +kernel
theorem dX11_findEver_4 : decode cX11_findEver 4 = .ok (.istore_n 1, 1) := by decide +kernel
theorem dX11_findEver_5 : decode cX11_findEver 5 = .ok (.iconst (-1), 1) := by decide +kernel
theorem dX11_findEver_6 : decode cX11_findEver 6 = .ok (.istore_n 2, 1) := by decide +kernel
theorem dX11_findEver_7 : decode cX11_findEver 7 = .ok (.iload_n 2, 1) := by decide +kernel
theorem dX11_findEver_8 : decode cX11_findEver 8 = .ok (.aload_n 0, 1) := by decide +kernel
theorem dX11_findEver_9 : decode cX11_findEver 9 = .ok (.getfield 76, 3) := by decide +kernel
theorem dX11_findEver_12 : decode cX11_findEver 12 = .ok (.if_icmp .eq 40, 3) := by decide +kernel
theorem dX11_findEver_15 : decode cX11_findEver 15 = .ok (.aload_n 0, 1) := by decide +kernel
theorem dX11_findEver_16 : decode cX11_findEver 16 = .ok (.getfield 76, 3) := by decide +kernel
theorem dX11_findEver_19 : decode cX11_findEver 19 = .ok (.istore_n 2, 1) := by decide +kernel
theorem dX11_findEver_20 : decode cX11_findEver 20 = .ok (.iconst 0, 1) := by decide +kernel
theorem dX11_findEver_21 : decode cX11_findEver 21 = .ok (.istore_n 3, 1) := by decide +kernel
theorem dX11_findEver_22 : decode cX11_findEver 22 = .ok (.iload_n 3, 1) := by decide +kernel
theorem dX11_findEver_23 : decode cX11_findEver 23 = .ok (.sipush 144, 3) := by decide +kernel
theorem dX11_findEver_26 : decode cX11_findEver 26 = .ok (.if_icmp .ge 23, 3) := by decide +kernel
theorem dX11_findEver_29 : decode cX11_findEver 29 = .ok (.aload_n 0, 1) := by decide +kernel
theorem dX11_findEver_30 : decode cX11_findEver 30 = .ok (.iload_n 3, 1) := by decide +kernel
theorem dX11_findEver_31 : decode cX11_findEver 31 = .ok (.invokevirtual 109, 3) := by decide +kernel
theorem dX11_findEver_34 : decode cX11_findEver 34 = .ok (.ifCond .eq 9, 3) := by decide +kernel
theorem dX11_findEver_37 : decode cX11_findEver 37 = .ok (.aload_n 0, 1) := by decide +kernel
theorem dX11_findEver_38 : decode cX11_findEver 38 = .ok (.iconst 0, 1) := by decide +kernel
theorem dX11_findEver_39 : decode cX11_findEver 39 = .ok (.iload_n 3, 1) := by decide +kernel
theorem dX11_findEver_40 : decode cX11_findEver 40 = .ok (.invokevirtual 122, 3) := by decide +kernel
theorem dX11_findEver_43 : decode cX11_findEver 43 = .ok (.iinc 3 1, 3) := by decide +kernel
theorem dX11_findEver_46 : decode cX11_findEver 46 = .ok (.goto (-24), 3) := by decide +kernel
theorem dX11_findEver_49 : decode cX11_findEver 49 = .ok (.goto (-42), 3) := by decide +kernel
theorem dX11_findEver_52 : decode cX11_findEver 52 = .ok (.iconst 0, 1) := by decide +kernel
theorem dX11_findEver_53 : decode cX11_findEver 53 = .ok (.istore_n 3, 1) := by decide +kernel
theorem dX11_findEver_54 : decode cX11_findEver 54 = .ok (.iload_n 3, 1) := by decide +kernel
theorem dX11_findEver_55 : decode cX11_findEver 55 = .ok (.sipush 144, 3) := by decide +kernel
theorem dX11_findEver_58 : decode cX11_findEver 58 = .ok (.if_icmp .ge 29, 3) := by decide +kernel
theorem dX11_findEver_61 : decode cX11_findEver 61 = .ok (.aload_n 0, 1) := by decide +kernel
theorem dX11_findEver_62 : decode cX11_findEver 62 = .ok (.getfield 50, 3) := by decide +kernel
theorem dX11_findEver_65 : decode cX11_findEver 65 = .ok (.iload_n 3, 1) := by decide +kernel
theorem dX11_findEver_66 : decode cX11_findEver 66 = .ok (.aload_n 0, 1) := by decide +kernel
theorem dX11_findEver_67 : decode cX11_findEver 67 = .ok (.iload_n 3, 1) := by decide +kernel
theorem dX11_findEver_68 : decode cX11_findEver 68 = .ok (.invokevirtual 103, 3) := by decide +kernel
theorem dX11_findEver_71 : decode cX11_findEver 71 = .ok (.iload_n 1, 1) := by decide +kernel
theorem dX11_findEver_72 : decode cX11_findEver 72 = .ok (.if_icmp .lt 7, 3) := by decide +kernel
theorem dX11_findEver_75 : decode cX11_findEver 75 = .ok (.iconst 1, 1) := by decide +kernel
theorem dX11_findEver_76 : decode cX11_findEver 76 = .ok (.goto 4, 3) := by decide +kernel
theorem dX11_findEver_79 : decode cX11_findEver 79 = .ok (.iconst 0, 1) := by decide +kernel
theorem dX11_findEver_80 : decode cX11_findEver 80 = .ok (.bastore, 1) := by decide +kernel
theorem dX11_findEver_81 : decode cX11_findEver 81 = .ok (.iinc 3 1, 3) := by decide +kernel
theorem dX11_findEver_84 : decode cX11_findEver 84 = .ok (.goto (-30), 3) := by decide +kernel
theorem dX11_findEver_87 : decode cX11_findEver 87 = .ok (.aload_n 0, 1) := by decide +kernel
theorem dX11_findEver_88 : decode cX11_findEver 88 = .ok (.iload_n 1, 1) := by decide +kernel
theorem dX11_findEver_89 : decode cX11_findEver 89 = .ok (.putfield 76, 3) := by decide +kernel
theorem dX11_findEver_92 : decode cX11_findEver 92 = .ok (.return_, 1) := by decide +kernel
theorem b_X11_findEver_80 {Z : qZ} {G : qG} {v1 : Int32} {v3 : Int32} {s0 : Int32} {s1 : Int32} {μ : qM} {P54 : Int32 → qM → Prop} {post : qM → Prop} (C : qX Z G RX11 cX11_findEver 4 ({ frames := 6, cells := 0, slots := 0, locals := 136 } : Room) none) (hQ : qQv Z G 0 0 post) (hn : 66 ≤ gn G) (hP54 : ∀ (b3 : Int32) (μ1 : qM), P54 b3 μ1 → qV Z G 4 0 0 μ1 54 [(0, .ref (ga G 46)), (1, .int v1), (3, .int b3)] []) (h : q_X11_findEver_80 P54 post v1 v3 s0 s1 μ) : qV Z G 4 0 0 μ 80 [(0, .ref (ga G 46)), (1, .int v1), (3, .int v3)] [.int s0, .int s1, .ref (ga G 58)] := by
  unfold q_X11_findEver_80 at h
  refine x_zast C 58 13 144 (q_lt rfl rfl hn) rfl rfl rfl rfl rfl dX11_findEver_80 h (fun h => ?_)
  refine x_iinc C 2 (v := 1) (L' := [(3, .int ((v3 + 1))), (0, .ref (ga G 46)), (1, .int v1)]) dX11_findEver_81 rfl (by decide) (by decide) rfl ?_
  refine x_goto C dX11_findEver_84 (tgt := 54) (by decide) ?_
  exact qV_sub [1, 2, 0] rfl ((hP54 _ _ h))
theorem b_X11_findEver_54 {Z : qZ} {G : qG} {v1 : Int32} {v3 : Int32} {μ : qM} {post : qM → Prop} (C : qX Z G RX11 cX11_findEver 4 ({ frames := 6, cells := 0, slots := 0, locals := 136 } : Room) none) (hQ : qQv Z G 0 0 post) (hn : 66 ≤ gn G) (h : q_X11_findEver_54 v1 post v3 μ) : qV Z G 4 0 0 μ 54 [(0, .ref (ga G 46)), (1, .int v1), (3, .int v3)] [] := by
  refine h (fun v3 μ => qV Z G 4 0 0 μ 54 [(0, .ref (ga G 46)), (1, .int v1), (3, .int v3)] []) (fun v3 μ h => ?_)
  refine x_iload_n C 2 dX11_findEver_54 rfl rfl ?_
  refine x_sipush C dX11_findEver_55 (v := 144) (by decide) ?_
  refine x_icmp_ge C dX11_findEver_58 (tgt := 87) (by decide) h (fun h => ?_) (fun h => ?_)
  · refine x_aload_n C 0 dX11_findEver_87 rfl rfl ?_
    refine x_iload_n C 1 dX11_findEver_88 rfl rfl ?_
    refine p_RX11_76 C hn dX11_findEver_89 ?_
    exact x_vret C hQ dX11_findEver_92 h
  · refine x_aload_n C 0 dX11_findEver_61 rfl rfl ?_
    refine g_RX11_50 C hn dX11_findEver_62 ?_
    refine x_iload_n C 2 dX11_findEver_65 rfl rfl ?_
    refine x_aload_n C 0 dX11_findEver_66 rfl rfl ?_
    refine x_iload_n C 2 dX11_findEver_67 rfl rfl ?_
    refine i_RX11_103 (rest := [.int v3, .ref (ga G 58)]) C hn  rfl (by decide) rfl dX11_findEver_68 h (fun r68 μ68 h => ?_)
    refine x_iload_n C 1 dX11_findEver_71 rfl rfl ?_
    refine x_icmp_lt C dX11_findEver_72 (tgt := 79) (by decide) h (fun h => ?_) (fun h => ?_)
    · refine x_iconst C dX11_findEver_79 (v := 0) (by decide) ?_
      exact b_X11_findEver_80 C hQ hn (fun _ _ h => h) h
    · refine x_iconst C dX11_findEver_75 (v := 1) (by decide) ?_
      refine x_goto C dX11_findEver_76 (tgt := 80) (by decide) ?_
      exact b_X11_findEver_80 C hQ hn (fun _ _ h => h) h
theorem b_X11_findEver_43 {Z : qZ} {G : qG} {v1 : Int32} {v2 : Int32} {v3 : Int32} {μ : qM} {P7 : Int32 → qM → Prop} {P22 : Int32 → qM → Prop} {post : qM → Prop} (C : qX Z G RX11 cX11_findEver 4 ({ frames := 6, cells := 0, slots := 0, locals := 136 } : Room) none) (hQ : qQv Z G 0 0 post) (hn : 66 ≤ gn G) (hP7 : ∀ (b2 : Int32) (μ1 : qM), P7 b2 μ1 → qV Z G 4 0 0 μ1 7 [(0, .ref (ga G 46)), (1, .int v1), (2, .int b2)] []) (hP22 : ∀ (b3 : Int32) (μ1 : qM), P22 b3 μ1 → qV Z G 4 0 0 μ1 22 [(0, .ref (ga G 46)), (1, .int v1), (2, .int v2), (3, .int b3)] []) (h : q_X11_findEver_43 P7 P22 post v1 v2 v3 μ) : qV Z G 4 0 0 μ 43 [(0, .ref (ga G 46)), (1, .int v1), (2, .int v2), (3, .int v3)] [] := by
  unfold q_X11_findEver_43 at h
  refine x_iinc C 3 (v := 1) (L' := [(3, .int ((v3 + 1))), (0, .ref (ga G 46)), (1, .int v1), (2, .int v2)]) dX11_findEver_43 rfl (by decide) (by decide) rfl ?_
  refine x_goto C dX11_findEver_46 (tgt := 22) (by decide) ?_
  exact qV_sub [1, 2, 3, 0] rfl ((hP22 _ _ h))
theorem b_X11_findEver_22 {Z : qZ} {G : qG} {v1 : Int32} {v2 : Int32} {v3 : Int32} {μ : qM} {P7 : Int32 → qM → Prop} {post : qM → Prop} (C : qX Z G RX11 cX11_findEver 4 ({ frames := 6, cells := 0, slots := 0, locals := 136 } : Room) none) (hQ : qQv Z G 0 0 post) (hn : 66 ≤ gn G) (hP7 : ∀ (b2 : Int32) (μ1 : qM), P7 b2 μ1 → qV Z G 4 0 0 μ1 7 [(0, .ref (ga G 46)), (1, .int v1), (2, .int b2)] []) (h : q_X11_findEver_22 v1 v2 P7 post v3 μ) : qV Z G 4 0 0 μ 22 [(0, .ref (ga G 46)), (1, .int v1), (2, .int v2), (3, .int v3)] [] := by
  refine h (fun v3 μ => qV Z G 4 0 0 μ 22 [(0, .ref (ga G 46)), (1, .int v1), (2, .int v2), (3, .int v3)] []) (fun v3 μ h => ?_)
  refine x_iload_n C 3 dX11_findEver_22 rfl rfl ?_
  refine x_sipush C dX11_findEver_23 (v := 144) (by decide) ?_
  refine x_icmp_ge C dX11_findEver_26 (tgt := 49) (by decide) h (fun h => ?_) (fun h => ?_)
  · refine x_goto C dX11_findEver_49 (tgt := 7) (by decide) ?_
    exact qV_sub [0, 1, 2] rfl ((hP7 _ _ h))
  · refine x_aload_n C 0 dX11_findEver_29 rfl rfl ?_
    refine x_iload_n C 3 dX11_findEver_30 rfl rfl ?_
    refine i_RX11_109 (rest := []) C hn  rfl (by decide) rfl dX11_findEver_31 h (fun r31 μ31 h => ?_)
    refine x_if_eq C dX11_findEver_34 (tgt := 43) (by decide) h (fun h => ?_) (fun h => ?_)
    · exact b_X11_findEver_43 C hQ hn hP7 (fun _ _ h => h) h
    · refine x_aload_n C 0 dX11_findEver_37 rfl rfl ?_
      refine x_iconst C dX11_findEver_38 (v := 0) (by decide) ?_
      refine x_iload_n C 3 dX11_findEver_39 rfl rfl ?_
      refine i_RX11_122 (rest := []) C hn  rfl (by decide) rfl dX11_findEver_40 h (fun μ40 h => ?_)
      exact b_X11_findEver_43 C hQ hn hP7 (fun _ _ h => h) h
theorem b_X11_findEver_7 {Z : qZ} {G : qG} {v1 : Int32} {v2 : Int32} {μ : qM} {post : qM → Prop} (C : qX Z G RX11 cX11_findEver 4 ({ frames := 6, cells := 0, slots := 0, locals := 136 } : Room) none) (hQ : qQv Z G 0 0 post) (hn : 66 ≤ gn G) (h : q_X11_findEver_7 v1 post v2 μ) : qV Z G 4 0 0 μ 7 [(0, .ref (ga G 46)), (1, .int v1), (2, .int v2)] [] := by
  refine h (fun v2 μ => qV Z G 4 0 0 μ 7 [(0, .ref (ga G 46)), (1, .int v1), (2, .int v2)] []) (fun v2 μ h => ?_)
  refine x_iload_n C 2 dX11_findEver_7 rfl rfl ?_
  refine x_aload_n C 0 dX11_findEver_8 rfl rfl ?_
  refine g_RX11_76 C hn dX11_findEver_9 ?_
  refine x_icmp_eq C dX11_findEver_12 (tgt := 52) (by decide) h (fun h => ?_) (fun h => ?_)
  · refine x_iconst C dX11_findEver_52 (v := 0) (by decide) ?_
    refine x_istore_n C (L' := [(3, .int ((0 : Int32))), (0, .ref (ga G 46)), (1, .int v1), (2, .int v2)]) dX11_findEver_53 rfl (by decide) rfl ?_
    exact qV_sub [1, 2, 0] rfl (b_X11_findEver_54 C hQ hn h)
  · refine x_aload_n C 0 dX11_findEver_15 rfl rfl ?_
    refine g_RX11_76 C hn dX11_findEver_16 ?_
    refine x_istore_n C (L' := [(2, .int ((μ 46 0))), (0, .ref (ga G 46)), (1, .int v1)]) dX11_findEver_19 rfl (by decide) rfl ?_
    refine x_iconst C dX11_findEver_20 (v := 0) (by decide) ?_
    refine x_istore_n C (L' := [(3, .int ((0 : Int32))), (2, .int ((μ 46 0))), (0, .ref (ga G 46)), (1, .int v1)]) dX11_findEver_21 rfl (by decide) rfl ?_
    exact qV_sub [2, 3, 1, 0] rfl (b_X11_findEver_22 C hQ hn (fun _ _ h => h) h)
theorem y_X11_findEver : qY yX11_findEver cX11_findEver 4 none 0 ({ frames := 6, cells := 0, slots := 0, locals := 136 } : Room) 0 0 := ⟨(qm_20 _ (List.mem_of_getElem? (i := 16) rfl)), (qm_1 _ (List.mem_of_getElem? (i := 5) rfl)), by decide +kernel, by decide +kernel, rfl, rfl⟩
theorem c_X11_findEver (l : Launch) (G : qG) {μ : qM} (hn : 66 ≤ gn G) : qCv l G yX11_findEver cX11_findEver 4 none ({ frames := 6, cells := 0, slots := 0, locals := 136 } : Room) 0 0 [.ref (ga G 46)] μ (fun post => w_X11_findEver  post μ) := by
  refine qCv_of (L := [(0, .ref (ga G 46))]) (by decide) rfl rfl ?_
  intro Z post hl C hQ h
  have C : qX Z G RX11 cX11_findEver 4 ({ frames := 6, cells := 0, slots := 0, locals := 136 } : Room) none := C
  have h : w_X11_findEver  post μ := h
  unfold w_X11_findEver at h
  refine x_aload_n C 0 dX11_findEver_0 rfl rfl ?_
  refine g_RX11_76 C hn dX11_findEver_1 ?_
  refine x_istore_n C (L' := [(1, .int ((μ 46 0))), (0, .ref (ga G 46))]) dX11_findEver_4 rfl (by decide) rfl ?_
  refine x_iconst C dX11_findEver_5 (v := -1) (by decide) ?_
  refine x_istore_n C (L' := [(2, .int ((-1 : Int32))), (1, .int ((μ 46 0))), (0, .ref (ga G 46))]) dX11_findEver_6 rfl (by decide) rfl ?_
  exact qV_sub [2, 1, 0] rfl (b_X11_findEver_7 C hQ hn h)
theorem dX11_lots_0 : decode cX11_lots 0 = .ok (.iload_n 1, 1) := by decide +kernel
theorem dX11_lots_1 : decode cX11_lots 1 = .ok (.iconst 0, 1) := by decide +kernel
theorem dX11_lots_2 : decode cX11_lots 2 = .ok (.iconst 2, 1) := by decide +kernel
theorem dX11_lots_3 : decode cX11_lots 3 = .ok (.invokestatic 79, 3) := by decide +kernel
theorem dX11_lots_6 : decode cX11_lots 6 = .ok (.ifCond .ne 9, 3) := by decide +kernel
theorem dX11_lots_9 : decode cX11_lots 9 = .ok (.aload_n 0, 1) := by decide +kernel
theorem dX11_lots_10 : decode cX11_lots 10 = .ok (.iconst 0, 1) := by decide +kernel
theorem dX11_lots_11 : decode cX11_lots 11 = .ok (.invokevirtual 119, 3) := by decide +kernel
theorem dX11_lots_14 : decode cX11_lots 14 = .ok (.ireturn, 1) := by decide +kernel
theorem dX11_lots_15 : decode cX11_lots 15 = .ok (.iload_n 1, 1) := by decide +kernel
theorem dX11_lots_16 : decode cX11_lots 16 = .ok (.iconst 2, 1) := by decide +kernel
theorem dX11_lots_17 : decode cX11_lots 17 = .ok (.if_icmp .ne 7, 3) := by decide +kernel
theorem dX11_lots_20 : decode cX11_lots 20 = .ok (.aload_n 0, 1) := by decide +kernel
theorem dX11_lots_21 : decode cX11_lots 21 = .ok (.invokevirtual 149, 3) := by decide +kernel
theorem dX11_lots_24 : decode cX11_lots 24 = .ok (.iconst 0, 1) := by decide +kernel
theorem dX11_lots_25 : decode cX11_lots 25 = .ok (.istore_n 2, 1) := by decide +kernel
theorem dX11_lots_26 : decode cX11_lots 26 = .ok (.iconst 0, 1) := by decide +kernel
theorem dX11_lots_27 : decode cX11_lots 27 = .ok (.istore_n 3, 1) := by decide +kernel
theorem dX11_lots_28 : decode cX11_lots 28 = .ok (.iload_n 3, 1) := by decide +kernel
theorem dX11_lots_29 : decode cX11_lots 29 = .ok (.sipush 144, 3) := by decide +kernel
theorem dX11_lots_32 : decode cX11_lots 32 = .ok (.if_icmp .ge 26, 3) := by decide +kernel
theorem dX11_lots_35 : decode cX11_lots 35 = .ok (.iload_n 2, 1) := by decide +kernel
theorem dX11_lots_36 : decode cX11_lots 36 = .ok (.aload_n 0, 1) := by decide +kernel
theorem dX11_lots_37 : decode cX11_lots 37 = .ok (.iload_n 3, 1) := by decide +kernel
theorem dX11_lots_38 : decode cX11_lots 38 = .ok (.iload_n 1, 1) := by decide +kernel
theorem dX11_lots_39 : decode cX11_lots 39 = .ok (.invokevirtual 142, 3) := by decide +kernel
theorem dX11_lots_42 : decode cX11_lots 42 = .ok (.ifCond .eq 7, 3) := by decide +kernel
theorem dX11_lots_45 : decode cX11_lots 45 = .ok (.iconst 1, 1) := by decide +kernel
theorem dX11_lots_46 : decode cX11_lots 46 = .ok (.goto 4, 3) := by decide +kernel
theorem dX11_lots_49 : decode cX11_lots 49 = .ok (.iconst 0, 1) := by decide +kernel
theorem dX11_lots_50 : decode cX11_lots 50 = .ok (.iadd, 1) := by decide +kernel
theorem dX11_lots_51 : decode cX11_lots 51 = .ok (.istore_n 2, 1) := by decide +kernel
theorem dX11_lots_52 : decode cX11_lots 52 = .ok (.iinc 3 1, 3) := by decide +kernel
theorem dX11_lots_55 : decode cX11_lots 55 = .ok (.goto (-27), 3) := by decide +kernel
theorem dX11_lots_58 : decode cX11_lots 58 = .ok (.iload_n 2, 1) := by decide +kernel
theorem dX11_lots_59 : decode cX11_lots 59 = .ok (.ireturn, 1) := by decide +kernel
theorem i_RX11_149 {Z : qZ} {G : qG} {cc : ByteArray} {nL k n : Nat} {rm : Room} {ret : Option FieldType} {μ : qM} {pc : Nat} {L : List (Nat × Value)} {rest : List Value} {K : qM → Prop} (C : qX Z G RX11 cc nL rm ret) (hn : 66 ≤ gn G) (hR : (Nat.ble (6 + 1) rm.frames && Nat.ble (8 + (4 + 11) + 136) rm.locals) = true) (hf : k + 0 ≤ rm.cells ∧ n + 0 ≤ rm.slots) (hsz : Nat.ble (rest.map fun v => v.category).sum 8 = true) (hd : decode cc pc = .ok (.invokevirtual 149, 3)) (h : w_X11_findEver  K μ) (hk : ∀ (μ1 : qM), K μ1 → qV Z G nL k n μ1 (pc + 3) L rest) : qV Z G nL k n μ pc L (.ref (ga G 46) :: rest) := x_Vv [] rest C 46 10 (wp := fun K => w_X11_findEver  K μ) (y_X11_findEver : qY yX11_findEver cX11_findEver 4 none 0 ({ frames := 6, cells := 0, slots := 0, locals := 136 } : Room) 0 0) (qm_20 _ (List.mem_of_getElem? (i := 14) rfl)) (qm_20 _ (List.mem_of_getElem? (i := 15) rfl)) (qm_20 _ (List.mem_of_getElem? (i := 13) rfl)) (c_X11_findEver Z.2.1 G hn ) (Nat.lt_of_lt_of_le (by decide) hn) rfl (by decide) rfl rfl hR hf rfl rfl hsz hd h hk
theorem b_X11_lots_50 {Z : qZ} {G : qG} {v1 : Int32} {v3 : Int32} {s0 : Int32} {s1 : Int32} {μ : qM} {P28 : Int32 → Int32 → qM → Prop} {post : Int32 → qM → Prop} (C : qX Z G RX11 cX11_lots 4 ({ frames := 7, cells := 0, slots := 0, locals := 159 } : Room) (some .int)) (hQ : qQi Z G 0 0 post) (hn : 66 ≤ gn G) (hP28 : ∀ (b2 : Int32) (b3 : Int32) (μ1 : qM), P28 b2 b3 μ1 → qV Z G 4 0 0 μ1 28 [(0, .ref (ga G 46)), (1, .int v1), (2, .int b2), (3, .int b3)] []) (h : q_X11_lots_50 P28 post v1 v3 s0 s1 μ) : qV Z G 4 0 0 μ 50 [(0, .ref (ga G 46)), (1, .int v1), (3, .int v3)] [.int s0, .int s1] := by
  unfold q_X11_lots_50 at h
  refine x_iadd C dX11_lots_50 ?_
  refine x_istore_n C (L' := [(2, .int ((s1 + s0))), (0, .ref (ga G 46)), (1, .int v1), (3, .int v3)]) dX11_lots_51 rfl (by decide) rfl ?_
  refine x_iinc C 3 (v := 1) (L' := [(3, .int ((v3 + 1))), (2, .int ((s1 + s0))), (0, .ref (ga G 46)), (1, .int v1)]) dX11_lots_52 rfl (by decide) (by decide) rfl ?_
  refine x_goto C dX11_lots_55 (tgt := 28) (by decide) ?_
  exact qV_sub [2, 3, 1, 0] rfl ((hP28 _ _ _ h))
theorem b_X11_lots_28 {Z : qZ} {G : qG} {v1 : Int32} {v2 : Int32} {v3 : Int32} {μ : qM} {post : Int32 → qM → Prop} (C : qX Z G RX11 cX11_lots 4 ({ frames := 7, cells := 0, slots := 0, locals := 159 } : Room) (some .int)) (hQ : qQi Z G 0 0 post) (hn : 66 ≤ gn G) (h : q_X11_lots_28 v1 post v2 v3 μ) : qV Z G 4 0 0 μ 28 [(0, .ref (ga G 46)), (1, .int v1), (2, .int v2), (3, .int v3)] [] := by
  refine h (fun v2 v3 μ => qV Z G 4 0 0 μ 28 [(0, .ref (ga G 46)), (1, .int v1), (2, .int v2), (3, .int v3)] []) (fun v2 v3 μ h => ?_)
  refine x_iload_n C 3 dX11_lots_28 rfl rfl ?_
  refine x_sipush C dX11_lots_29 (v := 144) (by decide) ?_
  refine x_icmp_ge C dX11_lots_32 (tgt := 58) (by decide) h (fun h => ?_) (fun h => ?_)
  · refine x_iload_n C 2 dX11_lots_58 rfl rfl ?_
    exact x_iret C hQ dX11_lots_59 h
  · refine x_iload_n C 2 dX11_lots_35 rfl rfl ?_
    refine x_aload_n C 0 dX11_lots_36 rfl rfl ?_
    refine x_iload_n C 3 dX11_lots_37 rfl rfl ?_
    refine x_iload_n C 1 dX11_lots_38 rfl rfl ?_
    refine i_RX11_142 (rest := [.int v2]) C hn  rfl (by decide) rfl dX11_lots_39 h (fun r39 μ39 h => ?_)
    refine x_if_eq C dX11_lots_42 (tgt := 49) (by decide) h (fun h => ?_) (fun h => ?_)
    · refine x_iconst C dX11_lots_49 (v := 0) (by decide) ?_
      exact qV_sub [0, 1, 3] rfl (b_X11_lots_50 C hQ hn (fun _ _ _ h => h) h)
    · refine x_iconst C dX11_lots_45 (v := 1) (by decide) ?_
      refine x_goto C dX11_lots_46 (tgt := 50) (by decide) ?_
      exact qV_sub [0, 1, 3] rfl (b_X11_lots_50 C hQ hn (fun _ _ _ h => h) h)
theorem b_X11_lots_24 {Z : qZ} {G : qG} {v1 : Int32} {μ : qM} {post : Int32 → qM → Prop} (C : qX Z G RX11 cX11_lots 4 ({ frames := 7, cells := 0, slots := 0, locals := 159 } : Room) (some .int)) (hQ : qQi Z G 0 0 post) (hn : 66 ≤ gn G) (h : q_X11_lots_24 post v1 μ) : qV Z G 4 0 0 μ 24 [(0, .ref (ga G 46)), (1, .int v1)] [] := by
  unfold q_X11_lots_24 at h
  refine x_iconst C dX11_lots_24 (v := 0) (by decide) ?_
  refine x_istore_n C (L' := [(2, .int ((0 : Int32))), (0, .ref (ga G 46)), (1, .int v1)]) dX11_lots_25 rfl (by decide) rfl ?_
  refine x_iconst C dX11_lots_26 (v := 0) (by decide) ?_
  refine x_istore_n C (L' := [(3, .int ((0 : Int32))), (2, .int ((0 : Int32))), (0, .ref (ga G 46)), (1, .int v1)]) dX11_lots_27 rfl (by decide) rfl ?_
  exact qV_sub [2, 3, 1, 0] rfl (b_X11_lots_28 C hQ hn h)
theorem y_X11_lots : qY yX11_lots cX11_lots 4 (some .int) 1 ({ frames := 7, cells := 0, slots := 0, locals := 159 } : Room) 0 0 := ⟨(qm_20 _ (List.mem_of_getElem? (i := 12) rfl)), (qm_1 _ (List.mem_of_getElem? (i := 5) rfl)), by decide +kernel, by decide +kernel, rfl, rfl⟩
theorem c_X11_lots (l : Launch) (G : qG) {v1 : Int32} {μ : qM} (hn : 66 ≤ gn G) : qCi l G yX11_lots cX11_lots 4 (some .int) ({ frames := 7, cells := 0, slots := 0, locals := 159 } : Room) 0 0 [.ref (ga G 46), .int v1] μ (fun post => w_X11_lots v1 post μ) := by
  refine qCi_of (L := [(0, .ref (ga G 46)), (1, .int v1)]) (by decide) rfl rfl ?_
  intro Z post hl C hQ h
  have C : qX Z G RX11 cX11_lots 4 ({ frames := 7, cells := 0, slots := 0, locals := 159 } : Room) (some .int) := C
  have h : w_X11_lots v1 post μ := h
  unfold w_X11_lots at h
  refine x_iload_n C 1 dX11_lots_0 rfl rfl ?_
  refine x_iconst C dX11_lots_1 (v := 0) (by decide) ?_
  refine x_iconst C dX11_lots_2 (v := 2) (by decide) ?_
  refine i_RX11_79 (rest := []) C hn  rfl (by decide) rfl dX11_lots_3 h (fun r3 μ3 h => ?_)
  refine x_if_ne C dX11_lots_6 (tgt := 15) (by decide) h (fun h => ?_) (fun h => ?_)
  · refine x_iload_n C 1 dX11_lots_15 rfl rfl ?_
    refine x_iconst C dX11_lots_16 (v := 2) (by decide) ?_
    refine x_icmp_ne C dX11_lots_17 (tgt := 24) (by decide) h (fun h => ?_) (fun h => ?_)
    · exact b_X11_lots_24 C hQ hn h
    · refine x_aload_n C 0 dX11_lots_20 rfl rfl ?_
      refine i_RX11_149 (rest := []) C hn  rfl (by decide) rfl dX11_lots_21 h (fun μ21 h => ?_)
      exact b_X11_lots_24 C hQ hn h
  · refine x_aload_n C 0 dX11_lots_9 rfl rfl ?_
    refine x_iconst C dX11_lots_10 (v := 0) (by decide) ?_
    refine i_RX11_119 (rest := []) C hn  rfl (by decide) rfl dX11_lots_11 h (fun r11 μ11 h => ?_)
    exact x_iret C hQ dX11_lots_14 h
theorem dX11_only_0 : decode cX11_only 0 = .ok (.iload_n 1, 1) := by decide +kernel
theorem dX11_only_1 : decode cX11_only 1 = .ok (.iconst 0, 1) := by decide +kernel
theorem dX11_only_2 : decode cX11_only 2 = .ok (.bipush 11, 2) := by decide +kernel
theorem dX11_only_4 : decode cX11_only 4 = .ok (.invokestatic 79, 3) := by decide +kernel
theorem dX11_only_7 : decode cX11_only 7 = .ok (.ifCond .eq 12, 3) := by decide +kernel
theorem dX11_only_10 : decode cX11_only 10 = .ok (.aload_n 0, 1) := by decide +kernel
theorem dX11_only_11 : decode cX11_only 11 = .ok (.iload_n 1, 1) := by decide +kernel
theorem dX11_only_12 : decode cX11_only 12 = .ok (.iconst 1, 1) := by decide +kernel
theorem dX11_only_13 : decode cX11_only 13 = .ok (.invokevirtual 145, 3) := by decide +kernel
theorem dX11_only_16 : decode cX11_only 16 = .ok (.goto 8, 3) := by decide +kernel
theorem dX11_only_19 : decode cX11_only 19 = .ok (.aload_n 0, 1) := by decide +kernel
theorem dX11_only_20 : decode cX11_only 20 = .ok (.iconst 0, 1) := by decide +kernel
theorem dX11_only_21 : decode cX11_only 21 = .ok (.invokevirtual 119, 3) := by decide +kernel
theorem dX11_only_24 : decode cX11_only 24 = .ok (.ireturn, 1) := by decide +kernel
theorem y_X11_only : qY yX11_only cX11_only 2 (some .int) 1 ({ frames := 8, cells := 0, slots := 0, locals := 183 } : Room) 0 0 := ⟨(qm_21 _ (List.mem_of_getElem? (i := 0) rfl)), (qm_1 _ (List.mem_of_getElem? (i := 5) rfl)), by decide +kernel, by decide +kernel, rfl, rfl⟩
theorem c_X11_only (l : Launch) (G : qG) {v1 : Int32} {μ : qM} (hn : 66 ≤ gn G) : qCi l G yX11_only cX11_only 2 (some .int) ({ frames := 8, cells := 0, slots := 0, locals := 183 } : Room) 0 0 [.ref (ga G 46), .int v1] μ (fun post => w_X11_only v1 post μ) := by
  refine qCi_of (L := [(0, .ref (ga G 46)), (1, .int v1)]) (by decide) rfl rfl ?_
  intro Z post hl C hQ h
  have C : qX Z G RX11 cX11_only 2 ({ frames := 8, cells := 0, slots := 0, locals := 183 } : Room) (some .int) := C
  have h : w_X11_only v1 post μ := h
  unfold w_X11_only at h
  refine x_iload_n C 1 dX11_only_0 rfl rfl ?_
  refine x_iconst C dX11_only_1 (v := 0) (by decide) ?_
  refine x_bipush C dX11_only_2 (v := 11) (by decide) ?_
  refine i_RX11_79 (rest := []) C hn  rfl (by decide) rfl dX11_only_4 h (fun r4 μ4 h => ?_)
  refine x_if_eq C dX11_only_7 (tgt := 19) (by decide) h (fun h => ?_) (fun h => ?_)
  · refine x_aload_n C 0 dX11_only_19 rfl rfl ?_
    refine x_iconst C dX11_only_20 (v := 0) (by decide) ?_
    refine i_RX11_119 (rest := []) C hn  rfl (by decide) rfl dX11_only_21 h (fun r21 μ21 h => ?_)
    exact x_iret C hQ dX11_only_24 h
  · refine x_aload_n C 0 dX11_only_10 rfl rfl ?_
    refine x_iload_n C 1 dX11_only_11 rfl rfl ?_
    refine x_iconst C dX11_only_12 (v := 1) (by decide) ?_
    refine i_RX11_145 (rest := []) C hn  rfl (by decide) rfl dX11_only_13 h (fun r13 μ13 h => ?_)
    refine x_goto C dX11_only_16 (tgt := 24) (by decide) ?_
    exact x_iret C hQ dX11_only_24 h
theorem dX11_ever_0 : decode cX11_ever 0 = .ok (.iload_n 1, 1) := by decide +kernel
theorem dX11_ever_1 : decode cX11_ever 1 = .ok (.iconst 0, 1) := by decide +kernel
theorem dX11_ever_2 : decode cX11_ever 2 = .ok (.bipush 11, 2) := by decide +kernel
theorem dX11_ever_4 : decode cX11_ever 4 = .ok (.invokestatic 79, 3) := by decide +kernel
theorem dX11_ever_7 : decode cX11_ever 7 = .ok (.ifCond .ne 9, 3) := by decide +kernel
theorem dX11_ever_10 : decode cX11_ever 10 = .ok (.aload_n 0, 1) := by decide +kernel
theorem dX11_ever_11 : decode cX11_ever 11 = .ok (.iconst 0, 1) := by decide +kernel
theorem dX11_ever_12 : decode cX11_ever 12 = .ok (.invokevirtual 119, 3) := by decide +kernel
theorem dX11_ever_15 : decode cX11_ever 15 = .ok (.ireturn, 1) := by decide +kernel
theorem dX11_ever_16 : decode cX11_ever 16 = .ok (.aload_n 0, 1) := by decide +kernel
theorem dX11_ever_17 : decode cX11_ever 17 = .ok (.invokevirtual 149, 3) := by decide +kernel
theorem dX11_ever_20 : decode cX11_ever 20 = .ok (.aload_n 0, 1) := by decide +kernel
theorem dX11_ever_21 : decode cX11_ever 21 = .ok (.iload_n 1, 1) := by decide +kernel
theorem dX11_ever_22 : decode cX11_ever 22 = .ok (.iconst 2, 1) := by decide +kernel
theorem dX11_ever_23 : decode cX11_ever 23 = .ok (.invokevirtual 145, 3) := by decide +kernel
theorem dX11_ever_26 : decode cX11_ever 26 = .ok (.ireturn, 1) := by decide +kernel
theorem y_X11_ever : qY yX11_ever cX11_ever 2 (some .int) 1 ({ frames := 8, cells := 0, slots := 0, locals := 183 } : Room) 0 0 := ⟨(qm_21 _ (List.mem_of_getElem? (i := 12) rfl)), (qm_1 _ (List.mem_of_getElem? (i := 5) rfl)), by decide +kernel, by decide +kernel, rfl, rfl⟩
theorem c_X11_ever (l : Launch) (G : qG) {v1 : Int32} {μ : qM} (hn : 66 ≤ gn G) : qCi l G yX11_ever cX11_ever 2 (some .int) ({ frames := 8, cells := 0, slots := 0, locals := 183 } : Room) 0 0 [.ref (ga G 46), .int v1] μ (fun post => w_X11_ever v1 post μ) := by
  refine qCi_of (L := [(0, .ref (ga G 46)), (1, .int v1)]) (by decide) rfl rfl ?_
  intro Z post hl C hQ h
  have C : qX Z G RX11 cX11_ever 2 ({ frames := 8, cells := 0, slots := 0, locals := 183 } : Room) (some .int) := C
  have h : w_X11_ever v1 post μ := h
  unfold w_X11_ever at h
  refine x_iload_n C 1 dX11_ever_0 rfl rfl ?_
  refine x_iconst C dX11_ever_1 (v := 0) (by decide) ?_
  refine x_bipush C dX11_ever_2 (v := 11) (by decide) ?_
  refine i_RX11_79 (rest := []) C hn  rfl (by decide) rfl dX11_ever_4 h (fun r4 μ4 h => ?_)
  refine x_if_ne C dX11_ever_7 (tgt := 16) (by decide) h (fun h => ?_) (fun h => ?_)
  · refine x_aload_n C 0 dX11_ever_16 rfl rfl ?_
    refine i_RX11_149 (rest := []) C hn  rfl (by decide) rfl dX11_ever_17 h (fun μ17 h => ?_)
    refine x_aload_n C 0 dX11_ever_20 rfl rfl ?_
    refine x_iload_n C 1 dX11_ever_21 rfl rfl ?_
    refine x_iconst C dX11_ever_22 (v := 2) (by decide) ?_
    refine i_RX11_145 (rest := []) C hn  rfl (by decide) rfl dX11_ever_23 h (fun r23 μ23 h => ?_)
    exact x_iret C hQ dX11_ever_26 h
  · refine x_aload_n C 0 dX11_ever_10 rfl rfl ?_
    refine x_iconst C dX11_ever_11 (v := 0) (by decide) ?_
    refine i_RX11_119 (rest := []) C hn  rfl (by decide) rfl dX11_ever_12 h (fun r12 μ12 h => ?_)
    exact x_iret C hQ dX11_ever_15 h
theorem dX11_sum_0 : decode cX11_sum 0 = .ok (.iconst 0, 1) := by decide +kernel
theorem dX11_sum_1 : decode cX11_sum 1 = .ok (.istore_n 1, 1) := by decide +kernel
theorem dX11_sum_2 : decode cX11_sum 2 = .ok (.iconst 0, 1) := by decide +kernel
theorem dX11_sum_3 : decode cX11_sum 3 = .ok (.istore_n 2, 1) := by decide +kernel
theorem dX11_sum_4 : decode cX11_sum 4 = .ok (.iload_n 2, 1) := by decide +kernel
theorem dX11_sum_5 : decode cX11_sum 5 = .ok (.sipush 144, 3) := by decide +kernel
theorem dX11_sum_8 : decode cX11_sum 8 = .ok (.if_icmp .ge 30, 3) := by decide +kernel
theorem dX11_sum_11 : decode cX11_sum 11 = .ok (.iload_n 1, 1) := by decide +kernel
theorem dX11_sum_12 : decode cX11_sum 12 = .ok (.aload_n 0, 1) := by decide +kernel
theorem dX11_sum_13 : decode cX11_sum 13 = .ok (.iload_n 2, 1) := by decide +kernel
theorem dX11_sum_14 : decode cX11_sum 14 = .ok (.invokevirtual 109, 3) := by decide +kernel
theorem dX11_sum_17 : decode cX11_sum 17 = .ok (.ifCond .eq 12, 3) := by decide +kernel
theorem dX11_sum_20 : decode cX11_sum 20 = .ok (.aload_n 0, 1) := by decide +kernel
theorem dX11_sum_21 : decode cX11_sum 21 = .ok (.getfield 16, 3) := by decide +kernel
theorem dX11_sum_24 : decode cX11_sum 24 = .ok (.iload_n 2, 1) := by decide +kernel
theorem dX11_sum_25 : decode cX11_sum 25 = .ok (.iaload, 1) := by decide +kernel
theorem dX11_sum_26 : decode cX11_sum 26 = .ok (.goto 4, 3) := by decide +kernel
theorem dX11_sum_29 : decode cX11_sum 29 = .ok (.iconst 0, 1) := by decide +kernel
theorem dX11_sum_30 : decode cX11_sum 30 = .ok (.iadd, 1) := by decide +kernel
theorem dX11_sum_31 : decode cX11_sum 31 = .ok (.istore_n 1, 1) := by decide +kernel
theorem dX11_sum_32 : decode cX11_sum 32 = .ok (.iinc 2 1, 3) := by decide +kernel
theorem dX11_sum_35 : decode cX11_sum 35 = .ok (.goto (-31), 3) := by decide +kernel
theorem dX11_sum_38 : decode cX11_sum 38 = .ok (.iload_n 1, 1) := by decide +kernel
theorem dX11_sum_39 : decode cX11_sum 39 = .ok (.ireturn, 1) := by decide +kernel
theorem b_X11_sum_30 {Z : qZ} {G : qG} {v2 : Int32} {s0 : Int32} {s1 : Int32} {μ : qM} {P4 : Int32 → Int32 → qM → Prop} {post : Int32 → qM → Prop} (C : qX Z G RX11 cX11_sum 3 ({ frames := 6, cells := 0, slots := 0, locals := 136 } : Room) (some .int)) (hQ : qQi Z G 0 0 post) (hn : 66 ≤ gn G) (hP4 : ∀ (b1 : Int32) (b2 : Int32) (μ1 : qM), P4 b1 b2 μ1 → qV Z G 3 0 0 μ1 4 [(0, .ref (ga G 46)), (1, .int b1), (2, .int b2)] []) (h : q_X11_sum_30 P4 post v2 s0 s1 μ) : qV Z G 3 0 0 μ 30 [(0, .ref (ga G 46)), (2, .int v2)] [.int s0, .int s1] := by
  unfold q_X11_sum_30 at h
  refine x_iadd C dX11_sum_30 ?_
  refine x_istore_n C (L' := [(1, .int ((s1 + s0))), (0, .ref (ga G 46)), (2, .int v2)]) dX11_sum_31 rfl (by decide) rfl ?_
  refine x_iinc C 2 (v := 1) (L' := [(2, .int ((v2 + 1))), (1, .int ((s1 + s0))), (0, .ref (ga G 46))]) dX11_sum_32 rfl (by decide) (by decide) rfl ?_
  refine x_goto C dX11_sum_35 (tgt := 4) (by decide) ?_
  exact qV_sub [2, 1, 0] rfl ((hP4 _ _ _ h))
theorem b_X11_sum_4 {Z : qZ} {G : qG} {v1 : Int32} {v2 : Int32} {μ : qM} {post : Int32 → qM → Prop} (C : qX Z G RX11 cX11_sum 3 ({ frames := 6, cells := 0, slots := 0, locals := 136 } : Room) (some .int)) (hQ : qQi Z G 0 0 post) (hn : 66 ≤ gn G) (h : q_X11_sum_4 post v1 v2 μ) : qV Z G 3 0 0 μ 4 [(0, .ref (ga G 46)), (1, .int v1), (2, .int v2)] [] := by
  refine h (fun v1 v2 μ => qV Z G 3 0 0 μ 4 [(0, .ref (ga G 46)), (1, .int v1), (2, .int v2)] []) (fun v1 v2 μ h => ?_)
  refine x_iload_n C 2 dX11_sum_4 rfl rfl ?_
  refine x_sipush C dX11_sum_5 (v := 144) (by decide) ?_
  refine x_icmp_ge C dX11_sum_8 (tgt := 38) (by decide) h (fun h => ?_) (fun h => ?_)
  · refine x_iload_n C 1 dX11_sum_38 rfl rfl ?_
    exact x_iret C hQ dX11_sum_39 h
  · refine x_iload_n C 1 dX11_sum_11 rfl rfl ?_
    refine x_aload_n C 0 dX11_sum_12 rfl rfl ?_
    refine x_iload_n C 2 dX11_sum_13 rfl rfl ?_
    refine i_RX11_109 (rest := [.int v1]) C hn  rfl (by decide) rfl dX11_sum_14 h (fun r14 μ14 h => ?_)
    refine x_if_eq C dX11_sum_17 (tgt := 29) (by decide) h (fun h => ?_) (fun h => ?_)
    · refine x_iconst C dX11_sum_29 (v := 0) (by decide) ?_
      exact qV_sub [0, 2] rfl (b_X11_sum_30 C hQ hn (fun _ _ _ h => h) h)
    · refine x_aload_n C 0 dX11_sum_20 rfl rfl ?_
      refine g_RX11_16 C hn dX11_sum_21 ?_
      refine x_iload_n C 2 dX11_sum_24 rfl rfl ?_
      refine x_iald C 49 12 144 (q_lt rfl rfl hn) rfl rfl rfl rfl rfl dX11_sum_25 h (fun h => ?_)
      refine x_goto C dX11_sum_26 (tgt := 30) (by decide) ?_
      exact qV_sub [0, 2] rfl (b_X11_sum_30 C hQ hn (fun _ _ _ h => h) h)
theorem y_X11_sum : qY yX11_sum cX11_sum 3 (some .int) 0 ({ frames := 6, cells := 0, slots := 0, locals := 136 } : Room) 0 0 := ⟨(qm_21 _ (List.mem_of_getElem? (i := 20) rfl)), (qm_1 _ (List.mem_of_getElem? (i := 5) rfl)), by decide +kernel, by decide +kernel, rfl, rfl⟩
theorem c_X11_sum (l : Launch) (G : qG) {μ : qM} (hn : 66 ≤ gn G) : qCi l G yX11_sum cX11_sum 3 (some .int) ({ frames := 6, cells := 0, slots := 0, locals := 136 } : Room) 0 0 [.ref (ga G 46)] μ (fun post => w_X11_sum  post μ) := by
  refine qCi_of (L := [(0, .ref (ga G 46))]) (by decide) rfl rfl ?_
  intro Z post hl C hQ h
  have C : qX Z G RX11 cX11_sum 3 ({ frames := 6, cells := 0, slots := 0, locals := 136 } : Room) (some .int) := C
  have h : w_X11_sum  post μ := h
  unfold w_X11_sum at h
  refine x_iconst C dX11_sum_0 (v := 0) (by decide) ?_
  refine x_istore_n C (L' := [(1, .int ((0 : Int32))), (0, .ref (ga G 46))]) dX11_sum_1 rfl (by decide) rfl ?_
  refine x_iconst C dX11_sum_2 (v := 0) (by decide) ?_
  refine x_istore_n C (L' := [(2, .int ((0 : Int32))), (1, .int ((0 : Int32))), (0, .ref (ga G 46))]) dX11_sum_3 rfl (by decide) rfl ?_
  exact qV_sub [2, 1, 0] rfl (b_X11_sum_4 C hQ hn h)
theorem dX11_best_0 : decode cX11_best 0 = .ok (.iconst (-1), 1) := by decide +kernel
theorem dX11_best_1 : decode cX11_best 1 = .ok (.istore_n 1, 1) := by decide +kernel
theorem dX11_best_2 : decode cX11_best 2 = .ok (.iconst 0, 1) := by decide +kernel
theorem dX11_best_3 : decode cX11_best 3 = .ok (.istore_n 2, 1) := by decide +kernel
theorem dX11_best_4 : decode cX11_best 4 = .ok (.iload_n 2, 1) := by decide +kernel
theorem dX11_best_5 : decode cX11_best 5 = .ok (.sipush 144, 3) := by decide +kernel
theorem dX11_best_8 : decode cX11_best 8 = .ok (.if_icmp .ge 38, 3) := by decide +kernel
theorem dX11_best_11 : decode cX11_best 11 = .ok (.iload_n 1, 1) := by decide +kernel
theorem dX11_best_12 : decode cX11_best 12 = .ok (.ifCond .lt 18, 3) := by decide +kernel
theorem dX11_best_15 : decode cX11_best 15 = .ok (.aload_n 0, 1) := by decide +kernel
theorem dX11_best_16 : decode cX11_best 16 = .ok (.getfield 16, 3) := by decide +kernel
theorem dX11_best_19 : decode cX11_best 19 = .ok (.iload_n 2, 1) := by decide +kernel
theorem dX11_best_20 : decode cX11_best 20 = .ok (.iaload, 1) := by decide +kernel
theorem dX11_best_21 : decode cX11_best 21 = .ok (.aload_n 0, 1) := by decide +kernel
theorem dX11_best_22 : decode cX11_best 22 = .ok (.getfield 16, 3) := by decide +kernel
theorem dX11_best_25 : decode cX11_best 25 = .ok (.iload_n 1, 1) := by decide +kernel
theorem dX11_best_26 : decode cX11_best 26 = .ok (.iaload, 1) := by decide +kernel
theorem dX11_best_27 : decode cX11_best 27 = .ok (.if_icmp .le 13, 3) := by decide +kernel
theorem dX11_best_30 : decode cX11_best 30 = .ok (.aload_n 0, 1) := by decide +kernel
theorem dX11_best_31 : decode cX11_best 31 = .ok (.iload_n 2, 1) := by decide +kernel
theorem dX11_best_32 : decode cX11_best 32 = .ok (.invokevirtual 109, 3) := by decide +kernel
theorem dX11_best_35 : decode cX11_best 35 = .ok (.ifCond .eq 5, 3) := by decide +kernel
theorem dX11_best_38 : decode cX11_best 38 = .ok (.iload_n 2, 1) := by decide +kernel
theorem dX11_best_39 : decode cX11_best 39 = .ok (.istore_n 1, 1) := by decide +kernel
theorem dX11_best_40 : decode cX11_best 40 = .ok (.iinc 2 1, 3) := by decide +kernel
theorem dX11_best_43 : decode cX11_best 43 = .ok (.goto (-39), 3) := by decide +kernel
theorem dX11_best_46 : decode cX11_best 46 = .ok (.iload_n 1, 1) := by decide +kernel
theorem dX11_best_47 : decode cX11_best 47 = .ok (.ifCond .ge 11, 3) := by decide +kernel
theorem dX11_best_50 : decode cX11_best 50 = .ok (.aload_n 0, 1) := by decide +kernel
theorem dX11_best_51 : decode cX11_best 51 = .ok (.iconst 3, 1) := by decide +kernel
theorem dX11_best_52 : decode cX11_best 52 = .ok (.invokevirtual 119, 3) := by decide +kernel
theorem dX11_best_55 : decode cX11_best 55 = .ok (.goto 4, 3) := by decide +kernel
theorem dX11_best_58 : decode cX11_best 58 = .ok (.iload_n 1, 1) := by decide +kernel
theorem dX11_best_59 : decode cX11_best 59 = .ok (.ireturn, 1) := by decide +kernel
theorem b_X11_best_40 {Z : qZ} {G : qG} {v1 : Int32} {v2 : Int32} {μ : qM} {P4 : Int32 → Int32 → qM → Prop} {post : Int32 → qM → Prop} (C : qX Z G RX11 cX11_best 3 ({ frames := 6, cells := 0, slots := 0, locals := 136 } : Room) (some .int)) (hQ : qQi Z G 0 0 post) (hn : 66 ≤ gn G) (hP4 : ∀ (b1 : Int32) (b2 : Int32) (μ1 : qM), P4 b1 b2 μ1 → qV Z G 3 0 0 μ1 4 [(0, .ref (ga G 46)), (1, .int b1), (2, .int b2)] []) (h : q_X11_best_40 P4 post v1 v2 μ) : qV Z G 3 0 0 μ 40 [(0, .ref (ga G 46)), (1, .int v1), (2, .int v2)] [] := by
  unfold q_X11_best_40 at h
  refine x_iinc C 2 (v := 1) (L' := [(2, .int ((v2 + 1))), (0, .ref (ga G 46)), (1, .int v1)]) dX11_best_40 rfl (by decide) (by decide) rfl ?_
  refine x_goto C dX11_best_43 (tgt := 4) (by decide) ?_
  exact qV_sub [1, 2, 0] rfl ((hP4 _ _ _ h))
theorem b_X11_best_30 {Z : qZ} {G : qG} {v1 : Int32} {v2 : Int32} {μ : qM} {P4 : Int32 → Int32 → qM → Prop} {post : Int32 → qM → Prop} (C : qX Z G RX11 cX11_best 3 ({ frames := 6, cells := 0, slots := 0, locals := 136 } : Room) (some .int)) (hQ : qQi Z G 0 0 post) (hn : 66 ≤ gn G) (hP4 : ∀ (b1 : Int32) (b2 : Int32) (μ1 : qM), P4 b1 b2 μ1 → qV Z G 3 0 0 μ1 4 [(0, .ref (ga G 46)), (1, .int b1), (2, .int b2)] []) (h : q_X11_best_30 P4 post v1 v2 μ) : qV Z G 3 0 0 μ 30 [(0, .ref (ga G 46)), (1, .int v1), (2, .int v2)] [] := by
  unfold q_X11_best_30 at h
  refine x_aload_n C 0 dX11_best_30 rfl rfl ?_
  refine x_iload_n C 2 dX11_best_31 rfl rfl ?_
  refine i_RX11_109 (rest := []) C hn  rfl (by decide) rfl dX11_best_32 h (fun r32 μ32 h => ?_)
  refine x_if_eq C dX11_best_35 (tgt := 40) (by decide) h (fun h => ?_) (fun h => ?_)
  · exact b_X11_best_40 C hQ hn hP4 h
  · refine x_iload_n C 2 dX11_best_38 rfl rfl ?_
    refine x_istore_n C (L' := [(1, .int v2), (0, .ref (ga G 46)), (2, .int v2)]) dX11_best_39 rfl (by decide) rfl ?_
    exact qV_sub [1, 0, 2] rfl (b_X11_best_40 C hQ hn hP4 h)
theorem b_X11_best_4 {Z : qZ} {G : qG} {v1 : Int32} {v2 : Int32} {μ : qM} {post : Int32 → qM → Prop} (C : qX Z G RX11 cX11_best 3 ({ frames := 6, cells := 0, slots := 0, locals := 136 } : Room) (some .int)) (hQ : qQi Z G 0 0 post) (hn : 66 ≤ gn G) (h : q_X11_best_4 post v1 v2 μ) : qV Z G 3 0 0 μ 4 [(0, .ref (ga G 46)), (1, .int v1), (2, .int v2)] [] := by
  refine h (fun v1 v2 μ => qV Z G 3 0 0 μ 4 [(0, .ref (ga G 46)), (1, .int v1), (2, .int v2)] []) (fun v1 v2 μ h => ?_)
  refine x_iload_n C 2 dX11_best_4 rfl rfl ?_
  refine x_sipush C dX11_best_5 (v := 144) (by decide) ?_
  refine x_icmp_ge C dX11_best_8 (tgt := 46) (by decide) h (fun h => ?_) (fun h => ?_)
  · refine x_iload_n C 1 dX11_best_46 rfl rfl ?_
    refine x_if_ge C dX11_best_47 (tgt := 58) (by decide) h (fun h => ?_) (fun h => ?_)
    · refine x_iload_n C 1 dX11_best_58 rfl rfl ?_
      exact x_iret C hQ dX11_best_59 h
    · refine x_aload_n C 0 dX11_best_50 rfl rfl ?_
      refine x_iconst C dX11_best_51 (v := 3) (by decide) ?_
      refine i_RX11_119 (rest := []) C hn  rfl (by decide) rfl dX11_best_52 h (fun r52 μ52 h => ?_)
      refine x_goto C dX11_best_55 (tgt := 59) (by decide) ?_
      exact x_iret C hQ dX11_best_59 h
  · refine x_iload_n C 1 dX11_best_11 rfl rfl ?_
    refine x_if_lt C dX11_best_12 (tgt := 30) (by decide) h (fun h => ?_) (fun h => ?_)
    · exact b_X11_best_30 C hQ hn (fun _ _ _ h => h) h
    · refine x_aload_n C 0 dX11_best_15 rfl rfl ?_
      refine g_RX11_16 C hn dX11_best_16 ?_
      refine x_iload_n C 2 dX11_best_19 rfl rfl ?_
      refine x_iald C 49 12 144 (q_lt rfl rfl hn) rfl rfl rfl rfl rfl dX11_best_20 h (fun h => ?_)
      refine x_aload_n C 0 dX11_best_21 rfl rfl ?_
      refine g_RX11_16 C hn dX11_best_22 ?_
      refine x_iload_n C 1 dX11_best_25 rfl rfl ?_
      refine x_iald C 49 12 144 (q_lt rfl rfl hn) rfl rfl rfl rfl rfl dX11_best_26 h (fun h => ?_)
      refine x_icmp_le C dX11_best_27 (tgt := 40) (by decide) h (fun h => ?_) (fun h => ?_)
      · exact b_X11_best_40 C hQ hn (fun _ _ _ h => h) h
      · exact b_X11_best_30 C hQ hn (fun _ _ _ h => h) h
theorem y_X11_best : qY yX11_best cX11_best 3 (some .int) 0 ({ frames := 6, cells := 0, slots := 0, locals := 136 } : Room) 0 0 := ⟨(qm_22 _ (List.mem_of_getElem? (i := 4) rfl)), (qm_1 _ (List.mem_of_getElem? (i := 5) rfl)), by decide +kernel, by decide +kernel, rfl, rfl⟩
theorem c_X11_best (l : Launch) (G : qG) {μ : qM} (hn : 66 ≤ gn G) : qCi l G yX11_best cX11_best 3 (some .int) ({ frames := 6, cells := 0, slots := 0, locals := 136 } : Room) 0 0 [.ref (ga G 46)] μ (fun post => w_X11_best  post μ) := by
  refine qCi_of (L := [(0, .ref (ga G 46))]) (by decide) rfl rfl ?_
  intro Z post hl C hQ h
  have C : qX Z G RX11 cX11_best 3 ({ frames := 6, cells := 0, slots := 0, locals := 136 } : Room) (some .int) := C
  have h : w_X11_best  post μ := h
  unfold w_X11_best at h
  refine x_iconst C dX11_best_0 (v := -1) (by decide) ?_
  refine x_istore_n C (L' := [(1, .int ((-1 : Int32))), (0, .ref (ga G 46))]) dX11_best_1 rfl (by decide) rfl ?_
  refine x_iconst C dX11_best_2 (v := 0) (by decide) ?_
  refine x_istore_n C (L' := [(2, .int ((0 : Int32))), (1, .int ((-1 : Int32))), (0, .ref (ga G 46))]) dX11_best_3 rfl (by decide) rfl ?_
  exact qV_sub [2, 1, 0] rfl (b_X11_best_4 C hQ hn h)
theorem dX11_lossOf_0 : decode cX11_lossOf 0 = .ok (.iconst 0, 1) := by decide +kernel
theorem dX11_lossOf_1 : decode cX11_lossOf 1 = .ok (.istore_n 3, 1) := by decide +kernel
theorem dX11_lossOf_2 : decode cX11_lossOf 2 = .ok (.iconst 0, 1) := by decide +kernel
theorem dX11_lossOf_3 : decode cX11_lossOf 3 = .ok (.istore 4, 2) := by decide +kernel
theorem dX11_lossOf_5 : decode cX11_lossOf 5 = .ok (.iload 4, 2) := by decide +kernel
theorem dX11_lossOf_7 : decode cX11_lossOf 7 = .ok (.sipush 144, 3) := by decide +kernel
theorem dX11_lossOf_10 : decode cX11_lossOf 10 = .ok (.if_icmp .ge 46, 3) := by decide +kernel
theorem dX11_lossOf_13 : decode cX11_lossOf 13 = .ok (.aload_n 0, 1) := by decide +kernel
theorem dX11_lossOf_14 : decode cX11_lossOf 14 = .ok (.iload 4, 2) := by decide +kernel
theorem dX11_lossOf_16 : decode cX11_lossOf 16 = .ok (.invokevirtual 109, 3) := by decide +kernel
theorem dX11_lossOf_19 : decode cX11_lossOf 19 = .ok (.ifCond .eq 31, 3) := by decide +kernel
theorem dX11_lossOf_22 : decode cX11_lossOf 22 = .ok (.aload_n 0, 1) := by decide +kernel
theorem dX11_lossOf_23 : decode cX11_lossOf 23 = .ok (.iload 4, 2) := by decide +kernel
theorem dX11_lossOf_25 : decode cX11_lossOf 25 = .ok (.iload_n 1, 1) := by decide +kernel
theorem dX11_lossOf_26 : decode cX11_lossOf 26 = .ok (.invokevirtual 152, 3) := by decide +kernel
theorem dX11_lossOf_29 : decode cX11_lossOf 29 = .ok (.ifCond .ne 21, 3) := by decide +kernel
theorem dX11_lossOf_32 : decode cX11_lossOf 32 = .ok (.iload_n 3, 1) := by decide +kernel
theorem dX11_lossOf_33 : decode cX11_lossOf 33 = .ok (.iload_n 2, 1) := by decide +kernel
theorem dX11_lossOf_34 : decode cX11_lossOf 34 = .ok (.ifCond .eq 13, 3) := by decide +kernel
theorem dX11_lossOf_37 : decode cX11_lossOf 37 = .ok (.aload_n 0, 1) := by decide +kernel
theorem dX11_lossOf_38 : decode cX11_lossOf 38 = .ok (.getfield 16, 3) := by decide +kernel
theorem dX11_lossOf_41 : decode cX11_lossOf 41 = .ok (.iload 4, 2) := by decide +kernel
theorem dX11_lossOf_43 : decode cX11_lossOf 43 = .ok (.iaload, 1) := by decide +kernel
theorem dX11_lossOf_44 : decode cX11_lossOf 44 = .ok (.goto 4, 3) := by decide +kernel
theorem dX11_lossOf_47 : decode cX11_lossOf 47 = .ok (.iconst 1, 1) := by decide +kernel
theorem dX11_lossOf_48 : decode cX11_lossOf 48 = .ok (.iadd, 1) := by decide +kernel
theorem dX11_lossOf_49 : decode cX11_lossOf 49 = .ok (.istore_n 3, 1) := by decide +kernel
theorem dX11_lossOf_50 : decode cX11_lossOf 50 = .ok (.iinc 4 1, 3) := by decide +kernel
theorem dX11_lossOf_53 : decode cX11_lossOf 53 = .ok (.goto (-48), 3) := by decide +kernel
theorem dX11_lossOf_56 : decode cX11_lossOf 56 = .ok (.iload_n 3, 1) := by decide +kernel
theorem dX11_lossOf_57 : decode cX11_lossOf 57 = .ok (.ireturn, 1) := by decide +kernel
theorem i_RX11_152 {Z : qZ} {G : qG} {cc : ByteArray} {nL k n : Nat} {rm : Room} {ret : Option FieldType} {μ : qM} {pc : Nat} {L : List (Nat × Value)} {rest : List Value} {K : Int32 → qM → Prop} {v1 : Int32} {v2 : Int32} (C : qX Z G RX11 cc nL rm ret) (hn : 66 ≤ gn G) (hR : (Nat.ble (5 + 1) rm.frames && Nat.ble (8 + (3 + 11) + 115) rm.locals) = true) (hf : k + 0 ≤ rm.cells ∧ n + 0 ≤ rm.slots) (hsz : Nat.ble (rest.map fun v => v.category).sum 8 = true) (hd : decode cc pc = .ok (.invokevirtual 152, 3)) (h : w_X11_isFreeWithout v1 v2 K μ) (hk : ∀ (r : Int32) (μ1 : qM), K r μ1 → qV Z G nL k n μ1 (pc + 3) L (.int r :: rest)) : qV Z G nL k n μ pc L (.int v2 :: .int v1 :: .ref (ga G 46) :: rest) := x_Vi [.int v1, .int v2] rest C 46 10 (wp := fun K => w_X11_isFreeWithout v1 v2 K μ) (y_X11_isFreeWithout : qY yX11_isFreeWithout cX11_isFreeWithout 3 (some .boolean) 2 ({ frames := 5, cells := 0, slots := 0, locals := 115 } : Room) 0 0) (qm_22 _ (List.mem_of_getElem? (i := 22) rfl)) (qm_22 _ (List.mem_of_getElem? (i := 23) rfl)) (qm_22 _ (List.mem_of_getElem? (i := 21) rfl)) (c_X11_isFreeWithout Z.2.1 G hn ) (Nat.lt_of_lt_of_le (by decide) hn) rfl (by decide) rfl rfl hR hf rfl rfl hsz hd h hk
theorem b_X11_lossOf_50 {Z : qZ} {G : qG} {v1 : Int32} {v2 : Int32} {v3 : Int32} {v4 : Int32} {μ : qM} {P5 : Int32 → Int32 → qM → Prop} {post : Int32 → qM → Prop} (C : qX Z G RX11 cX11_lossOf 5 ({ frames := 6, cells := 0, slots := 0, locals := 137 } : Room) (some .int)) (hQ : qQi Z G 0 0 post) (hn : 66 ≤ gn G) (hP5 : ∀ (b3 : Int32) (b4 : Int32) (μ1 : qM), P5 b3 b4 μ1 → qV Z G 5 0 0 μ1 5 [(0, .ref (ga G 46)), (1, .int v1), (2, .int v2), (3, .int b3), (4, .int b4)] []) (h : q_X11_lossOf_50 P5 post v1 v2 v3 v4 μ) : qV Z G 5 0 0 μ 50 [(0, .ref (ga G 46)), (1, .int v1), (2, .int v2), (3, .int v3), (4, .int v4)] [] := by
  unfold q_X11_lossOf_50 at h
  refine x_iinc C 4 (v := 1) (L' := [(4, .int ((v4 + 1))), (0, .ref (ga G 46)), (1, .int v1), (2, .int v2), (3, .int v3)]) dX11_lossOf_50 rfl (by decide) (by decide) rfl ?_
  refine x_goto C dX11_lossOf_53 (tgt := 5) (by decide) ?_
  exact qV_sub [1, 2, 3, 4, 0] rfl ((hP5 _ _ _ h))
theorem b_X11_lossOf_48 {Z : qZ} {G : qG} {v1 : Int32} {v2 : Int32} {v4 : Int32} {s0 : Int32} {s1 : Int32} {μ : qM} {P5 : Int32 → Int32 → qM → Prop} {post : Int32 → qM → Prop} (C : qX Z G RX11 cX11_lossOf 5 ({ frames := 6, cells := 0, slots := 0, locals := 137 } : Room) (some .int)) (hQ : qQi Z G 0 0 post) (hn : 66 ≤ gn G) (hP5 : ∀ (b3 : Int32) (b4 : Int32) (μ1 : qM), P5 b3 b4 μ1 → qV Z G 5 0 0 μ1 5 [(0, .ref (ga G 46)), (1, .int v1), (2, .int v2), (3, .int b3), (4, .int b4)] []) (h : q_X11_lossOf_48 P5 post v1 v2 v4 s0 s1 μ) : qV Z G 5 0 0 μ 48 [(0, .ref (ga G 46)), (1, .int v1), (2, .int v2), (4, .int v4)] [.int s0, .int s1] := by
  unfold q_X11_lossOf_48 at h
  refine x_iadd C dX11_lossOf_48 ?_
  refine x_istore_n C (L' := [(3, .int ((s1 + s0))), (0, .ref (ga G 46)), (1, .int v1), (2, .int v2), (4, .int v4)]) dX11_lossOf_49 rfl (by decide) rfl ?_
  exact qV_sub [1, 2, 3, 0, 4] rfl (b_X11_lossOf_50 C hQ hn hP5 h)
theorem b_X11_lossOf_5 {Z : qZ} {G : qG} {v1 : Int32} {v2 : Int32} {v3 : Int32} {v4 : Int32} {μ : qM} {post : Int32 → qM → Prop} (C : qX Z G RX11 cX11_lossOf 5 ({ frames := 6, cells := 0, slots := 0, locals := 137 } : Room) (some .int)) (hQ : qQi Z G 0 0 post) (hn : 66 ≤ gn G) (h : q_X11_lossOf_5 v1 v2 post v3 v4 μ) : qV Z G 5 0 0 μ 5 [(0, .ref (ga G 46)), (1, .int v1), (2, .int v2), (3, .int v3), (4, .int v4)] [] := by
  refine h (fun v3 v4 μ => qV Z G 5 0 0 μ 5 [(0, .ref (ga G 46)), (1, .int v1), (2, .int v2), (3, .int v3), (4, .int v4)] []) (fun v3 v4 μ h => ?_)
  refine x_iload C 4 dX11_lossOf_5 rfl ?_
  refine x_sipush C dX11_lossOf_7 (v := 144) (by decide) ?_
  refine x_icmp_ge C dX11_lossOf_10 (tgt := 56) (by decide) h (fun h => ?_) (fun h => ?_)
  · refine x_iload_n C 3 dX11_lossOf_56 rfl rfl ?_
    exact x_iret C hQ dX11_lossOf_57 h
  · refine x_aload_n C 0 dX11_lossOf_13 rfl rfl ?_
    refine x_iload C 4 dX11_lossOf_14 rfl ?_
    refine i_RX11_109 (rest := []) C hn  rfl (by decide) rfl dX11_lossOf_16 h (fun r16 μ16 h => ?_)
    refine x_if_eq C dX11_lossOf_19 (tgt := 50) (by decide) h (fun h => ?_) (fun h => ?_)
    · exact b_X11_lossOf_50 C hQ hn (fun _ _ _ h => h) h
    · refine x_aload_n C 0 dX11_lossOf_22 rfl rfl ?_
      refine x_iload C 4 dX11_lossOf_23 rfl ?_
      refine x_iload_n C 1 dX11_lossOf_25 rfl rfl ?_
      refine i_RX11_152 (rest := []) C hn  rfl (by decide) rfl dX11_lossOf_26 h (fun r26 μ26 h => ?_)
      refine x_if_ne C dX11_lossOf_29 (tgt := 50) (by decide) h (fun h => ?_) (fun h => ?_)
      · exact b_X11_lossOf_50 C hQ hn (fun _ _ _ h => h) h
      · refine x_iload_n C 3 dX11_lossOf_32 rfl rfl ?_
        refine x_iload_n C 2 dX11_lossOf_33 rfl rfl ?_
        refine x_if_eq C dX11_lossOf_34 (tgt := 47) (by decide) h (fun h => ?_) (fun h => ?_)
        · refine x_iconst C dX11_lossOf_47 (v := 1) (by decide) ?_
          exact qV_sub [0, 1, 2, 4] rfl (b_X11_lossOf_48 C hQ hn (fun _ _ _ h => h) h)
        · refine x_aload_n C 0 dX11_lossOf_37 rfl rfl ?_
          refine g_RX11_16 C hn dX11_lossOf_38 ?_
          refine x_iload C 4 dX11_lossOf_41 rfl ?_
          refine x_iald C 49 12 144 (q_lt rfl rfl hn) rfl rfl rfl rfl rfl dX11_lossOf_43 h (fun h => ?_)
          refine x_goto C dX11_lossOf_44 (tgt := 48) (by decide) ?_
          exact qV_sub [0, 1, 2, 4] rfl (b_X11_lossOf_48 C hQ hn (fun _ _ _ h => h) h)
theorem y_X11_lossOf : qY yX11_lossOf cX11_lossOf 5 (some .int) 2 ({ frames := 6, cells := 0, slots := 0, locals := 137 } : Room) 0 0 := ⟨(qm_22 _ (List.mem_of_getElem? (i := 20) rfl)), (qm_1 _ (List.mem_of_getElem? (i := 5) rfl)), by decide +kernel, by decide +kernel, rfl, rfl⟩
theorem c_X11_lossOf (l : Launch) (G : qG) {v1 : Int32} {v2 : Int32} {μ : qM} (hn : 66 ≤ gn G) : qCi l G yX11_lossOf cX11_lossOf 5 (some .int) ({ frames := 6, cells := 0, slots := 0, locals := 137 } : Room) 0 0 [.ref (ga G 46), .int v1, .int v2] μ (fun post => w_X11_lossOf v1 v2 post μ) := by
  refine qCi_of (L := [(0, .ref (ga G 46)), (1, .int v1), (2, .int v2)]) (by decide) rfl rfl ?_
  intro Z post hl C hQ h
  have C : qX Z G RX11 cX11_lossOf 5 ({ frames := 6, cells := 0, slots := 0, locals := 137 } : Room) (some .int) := C
  have h : w_X11_lossOf v1 v2 post μ := h
  unfold w_X11_lossOf at h
  refine x_iconst C dX11_lossOf_0 (v := 0) (by decide) ?_
  refine x_istore_n C (L' := [(3, .int ((0 : Int32))), (0, .ref (ga G 46)), (1, .int v1), (2, .int v2)]) dX11_lossOf_1 rfl (by decide) rfl ?_
  refine x_iconst C dX11_lossOf_2 (v := 0) (by decide) ?_
  refine x_istore C (L' := [(4, .int ((0 : Int32))), (3, .int ((0 : Int32))), (0, .ref (ga G 46)), (1, .int v1), (2, .int v2)]) dX11_lossOf_3 (by decide) rfl ?_
  exact qV_sub [2, 3, 4, 1, 0] rfl (b_X11_lossOf_5 C hQ hn h)
theorem dX11_loses_0 : decode cX11_loses 0 = .ok (.aload_n 0, 1) := by decide +kernel
theorem dX11_loses_1 : decode cX11_loses 1 = .ok (.iload_n 1, 1) := by decide +kernel
theorem dX11_loses_2 : decode cX11_loses 2 = .ok (.invokevirtual 132, 3) := by decide +kernel
theorem dX11_loses_5 : decode cX11_loses 5 = .ok (.ifCond .eq 12, 3) := by decide +kernel
theorem dX11_loses_8 : decode cX11_loses 8 = .ok (.aload_n 0, 1) := by decide +kernel
theorem dX11_loses_9 : decode cX11_loses 9 = .ok (.iload_n 1, 1) := by decide +kernel
theorem dX11_loses_10 : decode cX11_loses 10 = .ok (.iconst 0, 1) := by decide +kernel
theorem dX11_loses_11 : decode cX11_loses 11 = .ok (.invokevirtual 155, 3) := by decide +kernel
theorem dX11_loses_14 : decode cX11_loses 14 = .ok (.goto 8, 3) := by decide +kernel
theorem dX11_loses_17 : decode cX11_loses 17 = .ok (.aload_n 0, 1) := by decide +kernel
theorem dX11_loses_18 : decode cX11_loses 18 = .ok (.iconst 0, 1) := by decide +kernel
theorem dX11_loses_19 : decode cX11_loses 19 = .ok (.invokevirtual 119, 3) := by decide +kernel
theorem dX11_loses_22 : decode cX11_loses 22 = .ok (.ireturn, 1) := by decide +kernel
theorem i_RX11_155 {Z : qZ} {G : qG} {cc : ByteArray} {nL k n : Nat} {rm : Room} {ret : Option FieldType} {μ : qM} {pc : Nat} {L : List (Nat × Value)} {rest : List Value} {K : Int32 → qM → Prop} {v1 : Int32} {v2 : Int32} (C : qX Z G RX11 cc nL rm ret) (hn : 66 ≤ gn G) (hR : (Nat.ble (6 + 1) rm.frames && Nat.ble (8 + (5 + 11) + 137) rm.locals) = true) (hf : k + 0 ≤ rm.cells ∧ n + 0 ≤ rm.slots) (hsz : Nat.ble (rest.map fun v => v.category).sum 8 = true) (hd : decode cc pc = .ok (.invokevirtual 155, 3)) (h : w_X11_lossOf v1 v2 K μ) (hk : ∀ (r : Int32) (μ1 : qM), K r μ1 → qV Z G nL k n μ1 (pc + 3) L (.int r :: rest)) : qV Z G nL k n μ pc L (.int v2 :: .int v1 :: .ref (ga G 46) :: rest) := x_Vi [.int v1, .int v2] rest C 46 10 (wp := fun K => w_X11_lossOf v1 v2 K μ) (y_X11_lossOf : qY yX11_lossOf cX11_lossOf 5 (some .int) 2 ({ frames := 6, cells := 0, slots := 0, locals := 137 } : Room) 0 0) (qm_22 _ (List.mem_of_getElem? (i := 18) rfl)) (qm_22 _ (List.mem_of_getElem? (i := 19) rfl)) (qm_22 _ (List.mem_of_getElem? (i := 17) rfl)) (c_X11_lossOf Z.2.1 G hn ) (Nat.lt_of_lt_of_le (by decide) hn) rfl (by decide) rfl rfl hR hf rfl rfl hsz hd h hk
theorem y_X11_loses : qY yX11_loses cX11_loses 2 (some .int) 1 ({ frames := 7, cells := 0, slots := 0, locals := 161 } : Room) 0 0 := ⟨(qm_22 _ (List.mem_of_getElem? (i := 16) rfl)), (qm_1 _ (List.mem_of_getElem? (i := 5) rfl)), by decide +kernel, by decide +kernel, rfl, rfl⟩
theorem c_X11_loses (l : Launch) (G : qG) {v1 : Int32} {μ : qM} (hn : 66 ≤ gn G) : qCi l G yX11_loses cX11_loses 2 (some .int) ({ frames := 7, cells := 0, slots := 0, locals := 161 } : Room) 0 0 [.ref (ga G 46), .int v1] μ (fun post => w_X11_loses v1 post μ) := by
  refine qCi_of (L := [(0, .ref (ga G 46)), (1, .int v1)]) (by decide) rfl rfl ?_
  intro Z post hl C hQ h
  have C : qX Z G RX11 cX11_loses 2 ({ frames := 7, cells := 0, slots := 0, locals := 161 } : Room) (some .int) := C
  have h : w_X11_loses v1 post μ := h
  unfold w_X11_loses at h
  refine x_aload_n C 0 dX11_loses_0 rfl rfl ?_
  refine x_iload_n C 1 dX11_loses_1 rfl rfl ?_
  refine i_RX11_132 (rest := []) C hn  rfl (by decide) rfl dX11_loses_2 h (fun r2 μ2 h => ?_)
  refine x_if_eq C dX11_loses_5 (tgt := 17) (by decide) h (fun h => ?_) (fun h => ?_)
  · refine x_aload_n C 0 dX11_loses_17 rfl rfl ?_
    refine x_iconst C dX11_loses_18 (v := 0) (by decide) ?_
    refine i_RX11_119 (rest := []) C hn  rfl (by decide) rfl dX11_loses_19 h (fun r19 μ19 h => ?_)
    exact x_iret C hQ dX11_loses_22 h
  · refine x_aload_n C 0 dX11_loses_8 rfl rfl ?_
    refine x_iload_n C 1 dX11_loses_9 rfl rfl ?_
    refine x_iconst C dX11_loses_10 (v := 0) (by decide) ?_
    refine i_RX11_155 (rest := []) C hn  rfl (by decide) rfl dX11_loses_11 h (fun r11 μ11 h => ?_)
    refine x_goto C dX11_loses_14 (tgt := 22) (by decide) ?_
    exact x_iret C hQ dX11_loses_22 h
theorem dX11_dear_0 : decode cX11_dear 0 = .ok (.aload_n 0, 1) := by decide +kernel
theorem dX11_dear_1 : decode cX11_dear 1 = .ok (.iload_n 1, 1) := by decide +kernel
theorem dX11_dear_2 : decode cX11_dear 2 = .ok (.invokevirtual 132, 3) := by decide +kernel
theorem dX11_dear_5 : decode cX11_dear 5 = .ok (.ifCond .eq 12, 3) := by decide +kernel
theorem dX11_dear_8 : decode cX11_dear 8 = .ok (.aload_n 0, 1) := by decide +kernel
theorem dX11_dear_9 : decode cX11_dear 9 = .ok (.iload_n 1, 1) := by decide +kernel
theorem dX11_dear_10 : decode cX11_dear 10 = .ok (.iconst 1, 1) := by decide +kernel
theorem dX11_dear_11 : decode cX11_dear 11 = .ok (.invokevirtual 155, 3) := by decide +kernel
theorem dX11_dear_14 : decode cX11_dear 14 = .ok (.goto 8, 3) := by decide +kernel
theorem dX11_dear_17 : decode cX11_dear 17 = .ok (.aload_n 0, 1) := by decide +kernel
theorem dX11_dear_18 : decode cX11_dear 18 = .ok (.iconst 0, 1) := by decide +kernel
theorem dX11_dear_19 : decode cX11_dear 19 = .ok (.invokevirtual 119, 3) := by decide +kernel
theorem dX11_dear_22 : decode cX11_dear 22 = .ok (.ireturn, 1) := by decide +kernel
theorem y_X11_dear : qY yX11_dear cX11_dear 2 (some .int) 1 ({ frames := 7, cells := 0, slots := 0, locals := 161 } : Room) 0 0 := ⟨(qm_23 _ (List.mem_of_getElem? (i := 13) rfl)), (qm_1 _ (List.mem_of_getElem? (i := 5) rfl)), by decide +kernel, by decide +kernel, rfl, rfl⟩
theorem c_X11_dear (l : Launch) (G : qG) {v1 : Int32} {μ : qM} (hn : 66 ≤ gn G) : qCi l G yX11_dear cX11_dear 2 (some .int) ({ frames := 7, cells := 0, slots := 0, locals := 161 } : Room) 0 0 [.ref (ga G 46), .int v1] μ (fun post => w_X11_dear v1 post μ) := by
  refine qCi_of (L := [(0, .ref (ga G 46)), (1, .int v1)]) (by decide) rfl rfl ?_
  intro Z post hl C hQ h
  have C : qX Z G RX11 cX11_dear 2 ({ frames := 7, cells := 0, slots := 0, locals := 161 } : Room) (some .int) := C
  have h : w_X11_dear v1 post μ := h
  unfold w_X11_dear at h
  refine x_aload_n C 0 dX11_dear_0 rfl rfl ?_
  refine x_iload_n C 1 dX11_dear_1 rfl rfl ?_
  refine i_RX11_132 (rest := []) C hn  rfl (by decide) rfl dX11_dear_2 h (fun r2 μ2 h => ?_)
  refine x_if_eq C dX11_dear_5 (tgt := 17) (by decide) h (fun h => ?_) (fun h => ?_)
  · refine x_aload_n C 0 dX11_dear_17 rfl rfl ?_
    refine x_iconst C dX11_dear_18 (v := 0) (by decide) ?_
    refine i_RX11_119 (rest := []) C hn  rfl (by decide) rfl dX11_dear_19 h (fun r19 μ19 h => ?_)
    exact x_iret C hQ dX11_dear_22 h
  · refine x_aload_n C 0 dX11_dear_8 rfl rfl ?_
    refine x_iload_n C 1 dX11_dear_9 rfl rfl ?_
    refine x_iconst C dX11_dear_10 (v := 1) (by decide) ?_
    refine i_RX11_155 (rest := []) C hn  rfl (by decide) rfl dX11_dear_11 h (fun r11 μ11 h => ?_)
    refine x_goto C dX11_dear_14 (tgt := 22) (by decide) ?_
    exact x_iret C hQ dX11_dear_22 h
theorem dX11_dearest_0 : decode cX11_dearest 0 = .ok (.iconst (-1), 1) := by decide +kernel
theorem dX11_dearest_1 : decode cX11_dearest 1 = .ok (.istore_n 1, 1) := by decide +kernel
theorem dX11_dearest_2 : decode cX11_dearest 2 = .ok (.iconst (-1), 1) := by decide +kernel
theorem dX11_dearest_3 : decode cX11_dearest 3 = .ok (.istore_n 2, 1) := by decide +kernel
theorem dX11_dearest_4 : decode cX11_dearest 4 = .ok (.iconst 0, 1) := by decide +kernel
theorem dX11_dearest_5 : decode cX11_dearest 5 = .ok (.istore_n 3, 1) := by decide +kernel
theorem dX11_dearest_6 : decode cX11_dearest 6 = .ok (.iload_n 3, 1) := by decide +kernel
theorem dX11_dearest_7 : decode cX11_dearest 7 = .ok (.aload_n 0, 1) := by decide +kernel
theorem dX11_dearest_8 : decode cX11_dearest 8 = .ok (.getfield 76, 3) := by decide +kernel
theorem dX11_dearest_11 : decode cX11_dearest 11 = .ok (.if_icmp .ge 28, 3) := by decide +kernel
theorem dX11_dearest_14 : decode cX11_dearest 14 = .ok (.aload_n 0, 1) := by decide +kernel
theorem dX11_dearest_15 : decode cX11_dearest 15 = .ok (.iload_n 3, 1) := by decide +kernel
theorem dX11_dearest_16 : decode cX11_dearest 16 = .ok (.iconst 1, 1) := by decide +kernel
theorem dX11_dearest_17 : decode cX11_dearest 17 = .ok (.invokevirtual 155, 3) := by decide +kernel
theorem dX11_dearest_20 : decode cX11_dearest 20 = .ok (.istore 4, 2) := by decide +kernel
theorem dX11_dearest_22 : decode cX11_dearest 22 = .ok (.iload 4, 2) := by decide +kernel
theorem dX11_dearest_24 : decode cX11_dearest 24 = .ok (.iload_n 2, 1) := by decide +kernel
theorem dX11_dearest_25 : decode cX11_dearest 25 = .ok (.if_icmp .le 8, 3) := by decide +kernel
theorem dX11_dearest_28 : decode cX11_dearest 28 = .ok (.iload_n 3, 1) := by decide +kernel
theorem dX11_dearest_29 : decode cX11_dearest 29 = .ok (.istore_n 1, 1) := by decide +kernel
theorem dX11_dearest_30 : decode cX11_dearest 30 = .ok (.iload 4, 2) := by decide +kernel
theorem dX11_dearest_32 : decode cX11_dearest 32 = .ok (.istore_n 2, 1) := by decide +kernel
theorem dX11_dearest_33 : decode cX11_dearest 33 = .ok (.iinc 3 1, 3) := by decide +kernel
theorem dX11_dearest_36 : decode cX11_dearest 36 = .ok (.goto (-30), 3) := by decide +kernel
theorem dX11_dearest_39 : decode cX11_dearest 39 = .ok (.iload_n 1, 1) := by decide +kernel
theorem dX11_dearest_40 : decode cX11_dearest 40 = .ok (.ifCond .ge 11, 3) := by decide +kernel
theorem dX11_dearest_43 : decode cX11_dearest 43 = .ok (.aload_n 0, 1) := by decide +kernel
theorem dX11_dearest_44 : decode cX11_dearest 44 = .ok (.iconst 3, 1) := by decide +kernel
theorem dX11_dearest_45 : decode cX11_dearest 45 = .ok (.invokevirtual 119, 3) := by decide +kernel
theorem dX11_dearest_48 : decode cX11_dearest 48 = .ok (.goto 4, 3) := by decide +kernel
theorem dX11_dearest_51 : decode cX11_dearest 51 = .ok (.iload_n 1, 1) := by decide +kernel
theorem dX11_dearest_52 : decode cX11_dearest 52 = .ok (.ireturn, 1) := by decide +kernel
theorem b_X11_dearest_33 {Z : qZ} {G : qG} {v1 : Int32} {v2 : Int32} {v3 : Int32} {μ : qM} {P6 : Int32 → Int32 → Int32 → qM → Prop} {post : Int32 → qM → Prop} (C : qX Z G RX11 cX11_dearest 5 ({ frames := 7, cells := 0, slots := 0, locals := 161 } : Room) (some .int)) (hQ : qQi Z G 0 0 post) (hn : 66 ≤ gn G) (hP6 : ∀ (b1 : Int32) (b2 : Int32) (b3 : Int32) (μ1 : qM), P6 b1 b2 b3 μ1 → qV Z G 5 0 0 μ1 6 [(0, .ref (ga G 46)), (1, .int b1), (2, .int b2), (3, .int b3)] []) (h : q_X11_dearest_33 P6 post v1 v2 v3 μ) : qV Z G 5 0 0 μ 33 [(0, .ref (ga G 46)), (1, .int v1), (2, .int v2), (3, .int v3)] [] := by
  unfold q_X11_dearest_33 at h
  refine x_iinc C 3 (v := 1) (L' := [(3, .int ((v3 + 1))), (0, .ref (ga G 46)), (1, .int v1), (2, .int v2)]) dX11_dearest_33 rfl (by decide) (by decide) rfl ?_
  refine x_goto C dX11_dearest_36 (tgt := 6) (by decide) ?_
  exact qV_sub [1, 2, 3, 0] rfl ((hP6 _ _ _ _ h))
theorem b_X11_dearest_6 {Z : qZ} {G : qG} {v1 : Int32} {v2 : Int32} {v3 : Int32} {μ : qM} {post : Int32 → qM → Prop} (C : qX Z G RX11 cX11_dearest 5 ({ frames := 7, cells := 0, slots := 0, locals := 161 } : Room) (some .int)) (hQ : qQi Z G 0 0 post) (hn : 66 ≤ gn G) (h : q_X11_dearest_6 post v1 v2 v3 μ) : qV Z G 5 0 0 μ 6 [(0, .ref (ga G 46)), (1, .int v1), (2, .int v2), (3, .int v3)] [] := by
  refine h (fun v1 v2 v3 μ => qV Z G 5 0 0 μ 6 [(0, .ref (ga G 46)), (1, .int v1), (2, .int v2), (3, .int v3)] []) (fun v1 v2 v3 μ h => ?_)
  refine x_iload_n C 3 dX11_dearest_6 rfl rfl ?_
  refine x_aload_n C 0 dX11_dearest_7 rfl rfl ?_
  refine g_RX11_76 C hn dX11_dearest_8 ?_
  refine x_icmp_ge C dX11_dearest_11 (tgt := 39) (by decide) h (fun h => ?_) (fun h => ?_)
  · refine x_iload_n C 1 dX11_dearest_39 rfl rfl ?_
    refine x_if_ge C dX11_dearest_40 (tgt := 51) (by decide) h (fun h => ?_) (fun h => ?_)
    · refine x_iload_n C 1 dX11_dearest_51 rfl rfl ?_
      exact x_iret C hQ dX11_dearest_52 h
    · refine x_aload_n C 0 dX11_dearest_43 rfl rfl ?_
      refine x_iconst C dX11_dearest_44 (v := 3) (by decide) ?_
      refine i_RX11_119 (rest := []) C hn  rfl (by decide) rfl dX11_dearest_45 h (fun r45 μ45 h => ?_)
      refine x_goto C dX11_dearest_48 (tgt := 52) (by decide) ?_
      exact x_iret C hQ dX11_dearest_52 h
  · refine x_aload_n C 0 dX11_dearest_14 rfl rfl ?_
    refine x_iload_n C 3 dX11_dearest_15 rfl rfl ?_
    refine x_iconst C dX11_dearest_16 (v := 1) (by decide) ?_
    refine i_RX11_155 (rest := []) C hn  rfl (by decide) rfl dX11_dearest_17 h (fun r17 μ17 h => ?_)
    refine x_istore C (L' := [(4, .int r17), (0, .ref (ga G 46)), (1, .int v1), (2, .int v2), (3, .int v3)]) dX11_dearest_20 (by decide) rfl ?_
    refine x_iload C 0 dX11_dearest_22 rfl ?_
    refine x_iload_n C 3 dX11_dearest_24 rfl rfl ?_
    refine x_icmp_le C dX11_dearest_25 (tgt := 33) (by decide) h (fun h => ?_) (fun h => ?_)
    · exact qV_sub [1, 2, 3, 4] rfl (b_X11_dearest_33 C hQ hn (fun _ _ _ _ h => h) h)
    · refine x_iload_n C 4 dX11_dearest_28 rfl rfl ?_
      refine x_istore_n C (L' := [(1, .int v3), (4, .int r17), (0, .ref (ga G 46)), (2, .int v2), (3, .int v3)]) dX11_dearest_29 rfl (by decide) rfl ?_
      refine x_iload C 1 dX11_dearest_30 rfl ?_
      refine x_istore_n C (L' := [(2, .int r17), (1, .int v3), (4, .int r17), (0, .ref (ga G 46)), (3, .int v3)]) dX11_dearest_32 rfl (by decide) rfl ?_
      exact qV_sub [3, 1, 0, 4] rfl (b_X11_dearest_33 C hQ hn (fun _ _ _ _ h => h) h)
theorem y_X11_dearest : qY yX11_dearest cX11_dearest 5 (some .int) 0 ({ frames := 7, cells := 0, slots := 0, locals := 161 } : Room) 0 0 := ⟨(qm_23 _ (List.mem_of_getElem? (i := 21) rfl)), (qm_1 _ (List.mem_of_getElem? (i := 5) rfl)), by decide +kernel, by decide +kernel, rfl, rfl⟩
theorem c_X11_dearest (l : Launch) (G : qG) {μ : qM} (hn : 66 ≤ gn G) : qCi l G yX11_dearest cX11_dearest 5 (some .int) ({ frames := 7, cells := 0, slots := 0, locals := 161 } : Room) 0 0 [.ref (ga G 46)] μ (fun post => w_X11_dearest  post μ) := by
  refine qCi_of (L := [(0, .ref (ga G 46))]) (by decide) rfl rfl ?_
  intro Z post hl C hQ h
  have C : qX Z G RX11 cX11_dearest 5 ({ frames := 7, cells := 0, slots := 0, locals := 161 } : Room) (some .int) := C
  have h : w_X11_dearest  post μ := h
  unfold w_X11_dearest at h
  refine x_iconst C dX11_dearest_0 (v := -1) (by decide) ?_
  refine x_istore_n C (L' := [(1, .int ((-1 : Int32))), (0, .ref (ga G 46))]) dX11_dearest_1 rfl (by decide) rfl ?_
  refine x_iconst C dX11_dearest_2 (v := -1) (by decide) ?_
  refine x_istore_n C (L' := [(2, .int ((-1 : Int32))), (1, .int ((-1 : Int32))), (0, .ref (ga G 46))]) dX11_dearest_3 rfl (by decide) rfl ?_
  refine x_iconst C dX11_dearest_4 (v := 0) (by decide) ?_
  refine x_istore_n C (L' := [(3, .int ((0 : Int32))), (2, .int ((-1 : Int32))), (1, .int ((-1 : Int32))), (0, .ref (ga G 46))]) dX11_dearest_5 rfl (by decide) rfl ?_
  exact qV_sub [3, 2, 1, 0] rfl (b_X11_dearest_6 C hQ hn h)
theorem dX11_keepers_0 : decode cX11_keepers 0 = .ok (.iload_n 1, 1) := by decide +kernel
theorem dX11_keepers_1 : decode cX11_keepers 1 = .ok (.iload_n 2, 1) := by decide +kernel
theorem dX11_keepers_2 : decode cX11_keepers 2 = .ok (.invokestatic 116, 3) := by decide +kernel
theorem dX11_keepers_5 : decode cX11_keepers 5 = .ok (.ifCond .ne 9, 3) := by decide +kernel
theorem dX11_keepers_8 : decode cX11_keepers 8 = .ok (.aload_n 0, 1) := by decide +kernel
theorem dX11_keepers_9 : decode cX11_keepers 9 = .ok (.iconst 0, 1) := by decide +kernel
theorem dX11_keepers_10 : decode cX11_keepers 10 = .ok (.invokevirtual 119, 3) := by decide +kernel
theorem dX11_keepers_13 : decode cX11_keepers 13 = .ok (.ireturn, 1) := by decide +kernel
theorem dX11_keepers_14 : decode cX11_keepers 14 = .ok (.aload_n 0, 1) := by decide +kernel
theorem dX11_keepers_15 : decode cX11_keepers 15 = .ok (.bipush 12, 2) := by decide +kernel
theorem dX11_keepers_17 : decode cX11_keepers 17 = .ok (.iload_n 2, 1) := by decide +kernel
theorem dX11_keepers_18 : decode cX11_keepers 18 = .ok (.imul, 1) := by decide +kernel
theorem dX11_keepers_19 : decode cX11_keepers 19 = .ok (.iload_n 1, 1) := by decide +kernel
theorem dX11_keepers_20 : decode cX11_keepers 20 = .ok (.iadd, 1) := by decide +kernel
theorem dX11_keepers_21 : decode cX11_keepers 21 = .ok (.invokevirtual 109, 3) := by decide +kernel
theorem dX11_keepers_24 : decode cX11_keepers 24 = .ok (.ifCond .ne 9, 3) := by decide +kernel
theorem dX11_keepers_27 : decode cX11_keepers 27 = .ok (.aload_n 0, 1) := by decide +kernel
theorem dX11_keepers_28 : decode cX11_keepers 28 = .ok (.iconst 3, 1) := by decide +kernel
theorem dX11_keepers_29 : decode cX11_keepers 29 = .ok (.invokevirtual 119, 3) := by decide +kernel
theorem dX11_keepers_32 : decode cX11_keepers 32 = .ok (.ireturn, 1) := by decide +kernel
theorem dX11_keepers_33 : decode cX11_keepers 33 = .ok (.iconst 0, 1) := by decide +kernel
theorem dX11_keepers_34 : decode cX11_keepers 34 = .ok (.istore_n 3, 1) := by decide +kernel
theorem dX11_keepers_35 : decode cX11_keepers 35 = .ok (.iconst 0, 1) := by decide +kernel
theorem dX11_keepers_36 : decode cX11_keepers 36 = .ok (.istore 4, 2) := by decide +kernel
theorem dX11_keepers_38 : decode cX11_keepers 38 = .ok (.iload 4, 2) := by decide +kernel
theorem dX11_keepers_40 : decode cX11_keepers 40 = .ok (.aload_n 0, 1) := by decide +kernel
theorem dX11_keepers_41 : decode cX11_keepers 41 = .ok (.getfield 76, 3) := by decide +kernel
theorem dX11_keepers_44 : decode cX11_keepers 44 = .ok (.if_icmp .ge 35, 3) := by decide +kernel
theorem dX11_keepers_47 : decode cX11_keepers 47 = .ok (.iload_n 3, 1) := by decide +kernel
theorem dX11_keepers_48 : decode cX11_keepers 48 = .ok (.aload_n 0, 1) := by decide +kernel
theorem dX11_keepers_49 : decode cX11_keepers 49 = .ok (.bipush 12, 2) := by decide +kernel
theorem dX11_keepers_51 : decode cX11_keepers 51 = .ok (.iload_n 2, 1) := by decide +kernel
theorem dX11_keepers_52 : decode cX11_keepers 52 = .ok (.imul, 1) := by decide +kernel
theorem dX11_keepers_53 : decode cX11_keepers 53 = .ok (.iload_n 1, 1) := by decide +kernel
theorem dX11_keepers_54 : decode cX11_keepers 54 = .ok (.iadd, 1) := by decide +kernel
theorem dX11_keepers_55 : decode cX11_keepers 55 = .ok (.iload 4, 2) := by decide +kernel
theorem dX11_keepers_57 : decode cX11_keepers 57 = .ok (.invokevirtual 152, 3) := by decide +kernel
theorem dX11_keepers_60 : decode cX11_keepers 60 = .ok (.ifCond .eq 7, 3) := by decide +kernel
theorem dX11_keepers_63 : decode cX11_keepers 63 = .ok (.iconst 0, 1) := by decide +kernel
theorem dX11_keepers_64 : decode cX11_keepers 64 = .ok (.goto 7, 3) := by decide +kernel
theorem dX11_keepers_67 : decode cX11_keepers 67 = .ok (.iconst 1, 1) := by decide +kernel
theorem dX11_keepers_68 : decode cX11_keepers 68 = .ok (.iload 4, 2) := by decide +kernel
theorem dX11_keepers_70 : decode cX11_keepers 70 = .ok (.ishl, 1) := by decide +kernel
theorem dX11_keepers_71 : decode cX11_keepers 71 = .ok (.ior, 1) := by decide +kernel
theorem dX11_keepers_72 : decode cX11_keepers 72 = .ok (.istore_n 3, 1) := by decide +kernel
theorem dX11_keepers_73 : decode cX11_keepers 73 = .ok (.iinc 4 1, 3) := by decide +kernel
theorem dX11_keepers_76 : decode cX11_keepers 76 = .ok (.goto (-38), 3) := by decide +kernel
theorem dX11_keepers_79 : decode cX11_keepers 79 = .ok (.iload_n 3, 1) := by decide +kernel
theorem dX11_keepers_80 : decode cX11_keepers 80 = .ok (.ireturn, 1) := by decide +kernel
theorem b_X11_keepers_71 {Z : qZ} {G : qG} {v1 : Int32} {v2 : Int32} {v4 : Int32} {s0 : Int32} {s1 : Int32} {μ : qM} {P38 : Int32 → Int32 → qM → Prop} {post : Int32 → qM → Prop} (C : qX Z G RX11 cX11_keepers 5 ({ frames := 6, cells := 0, slots := 0, locals := 137 } : Room) (some .int)) (hQ : qQi Z G 0 0 post) (hn : 66 ≤ gn G) (hP38 : ∀ (b3 : Int32) (b4 : Int32) (μ1 : qM), P38 b3 b4 μ1 → qV Z G 5 0 0 μ1 38 [(0, .ref (ga G 46)), (1, .int v1), (2, .int v2), (3, .int b3), (4, .int b4)] []) (h : q_X11_keepers_71 P38 post v1 v2 v4 s0 s1 μ) : qV Z G 5 0 0 μ 71 [(0, .ref (ga G 46)), (1, .int v1), (2, .int v2), (4, .int v4)] [.int s0, .int s1] := by
  unfold q_X11_keepers_71 at h
  refine x_ior C dX11_keepers_71 ?_
  refine x_istore_n C (L' := [(3, .int ((s1 ||| s0))), (0, .ref (ga G 46)), (1, .int v1), (2, .int v2), (4, .int v4)]) dX11_keepers_72 rfl (by decide) rfl ?_
  refine x_iinc C 4 (v := 1) (L' := [(4, .int ((v4 + 1))), (3, .int ((s1 ||| s0))), (0, .ref (ga G 46)), (1, .int v1), (2, .int v2)]) dX11_keepers_73 rfl (by decide) (by decide) rfl ?_
  refine x_goto C dX11_keepers_76 (tgt := 38) (by decide) ?_
  exact qV_sub [2, 3, 4, 1, 0] rfl ((hP38 _ _ _ h))
theorem b_X11_keepers_38 {Z : qZ} {G : qG} {v1 : Int32} {v2 : Int32} {v3 : Int32} {v4 : Int32} {μ : qM} {post : Int32 → qM → Prop} (C : qX Z G RX11 cX11_keepers 5 ({ frames := 6, cells := 0, slots := 0, locals := 137 } : Room) (some .int)) (hQ : qQi Z G 0 0 post) (hn : 66 ≤ gn G) (h : q_X11_keepers_38 v1 v2 post v3 v4 μ) : qV Z G 5 0 0 μ 38 [(0, .ref (ga G 46)), (1, .int v1), (2, .int v2), (3, .int v3), (4, .int v4)] [] := by
  refine h (fun v3 v4 μ => qV Z G 5 0 0 μ 38 [(0, .ref (ga G 46)), (1, .int v1), (2, .int v2), (3, .int v3), (4, .int v4)] []) (fun v3 v4 μ h => ?_)
  refine x_iload C 4 dX11_keepers_38 rfl ?_
  refine x_aload_n C 0 dX11_keepers_40 rfl rfl ?_
  refine g_RX11_76 C hn dX11_keepers_41 ?_
  refine x_icmp_ge C dX11_keepers_44 (tgt := 79) (by decide) h (fun h => ?_) (fun h => ?_)
  · refine x_iload_n C 3 dX11_keepers_79 rfl rfl ?_
    exact x_iret C hQ dX11_keepers_80 h
  · refine x_iload_n C 3 dX11_keepers_47 rfl rfl ?_
    refine x_aload_n C 0 dX11_keepers_48 rfl rfl ?_
    refine x_bipush C dX11_keepers_49 (v := 12) (by decide) ?_
    refine x_iload_n C 2 dX11_keepers_51 rfl rfl ?_
    refine x_imul C dX11_keepers_52 ?_
    refine x_iload_n C 1 dX11_keepers_53 rfl rfl ?_
    refine x_iadd C dX11_keepers_54 ?_
    refine x_iload C 4 dX11_keepers_55 rfl ?_
    refine i_RX11_152 (rest := [.int v3]) C hn  rfl (by decide) rfl dX11_keepers_57 h (fun r57 μ57 h => ?_)
    refine x_if_eq C dX11_keepers_60 (tgt := 67) (by decide) h (fun h => ?_) (fun h => ?_)
    · refine x_iconst C dX11_keepers_67 (v := 1) (by decide) ?_
      refine x_iload C 4 dX11_keepers_68 rfl ?_
      refine x_ishl C dX11_keepers_70 ?_
      exact qV_sub [0, 1, 2, 4] rfl (b_X11_keepers_71 C hQ hn (fun _ _ _ h => h) h)
    · refine x_iconst C dX11_keepers_63 (v := 0) (by decide) ?_
      refine x_goto C dX11_keepers_64 (tgt := 71) (by decide) ?_
      exact qV_sub [0, 1, 2, 4] rfl (b_X11_keepers_71 C hQ hn (fun _ _ _ h => h) h)
theorem y_X11_keepers : qY yX11_keepers cX11_keepers 5 (some .int) 2 ({ frames := 6, cells := 0, slots := 0, locals := 137 } : Room) 0 0 := ⟨(qm_24 _ (List.mem_of_getElem? (i := 5) rfl)), (qm_1 _ (List.mem_of_getElem? (i := 5) rfl)), by decide +kernel, by decide +kernel, rfl, rfl⟩
theorem c_X11_keepers (l : Launch) (G : qG) {v1 : Int32} {v2 : Int32} {μ : qM} (hn : 66 ≤ gn G) : qCi l G yX11_keepers cX11_keepers 5 (some .int) ({ frames := 6, cells := 0, slots := 0, locals := 137 } : Room) 0 0 [.ref (ga G 46), .int v1, .int v2] μ (fun post => w_X11_keepers v1 v2 post μ) := by
  refine qCi_of (L := [(0, .ref (ga G 46)), (1, .int v1), (2, .int v2)]) (by decide) rfl rfl ?_
  intro Z post hl C hQ h
  have C : qX Z G RX11 cX11_keepers 5 ({ frames := 6, cells := 0, slots := 0, locals := 137 } : Room) (some .int) := C
  have h : w_X11_keepers v1 v2 post μ := h
  unfold w_X11_keepers at h
  refine x_iload_n C 1 dX11_keepers_0 rfl rfl ?_
  refine x_iload_n C 2 dX11_keepers_1 rfl rfl ?_
  refine i_RX11_116 (rest := []) C hn  rfl (by decide) rfl dX11_keepers_2 h (fun r2 μ2 h => ?_)
  refine x_if_ne C dX11_keepers_5 (tgt := 14) (by decide) h (fun h => ?_) (fun h => ?_)
  · refine x_aload_n C 0 dX11_keepers_14 rfl rfl ?_
    refine x_bipush C dX11_keepers_15 (v := 12) (by decide) ?_
    refine x_iload_n C 2 dX11_keepers_17 rfl rfl ?_
    refine x_imul C dX11_keepers_18 ?_
    refine x_iload_n C 1 dX11_keepers_19 rfl rfl ?_
    refine x_iadd C dX11_keepers_20 ?_
    refine i_RX11_109 (rest := []) C hn  rfl (by decide) rfl dX11_keepers_21 h (fun r21 μ21 h => ?_)
    refine x_if_ne C dX11_keepers_24 (tgt := 33) (by decide) h (fun h => ?_) (fun h => ?_)
    · refine x_iconst C dX11_keepers_33 (v := 0) (by decide) ?_
      refine x_istore_n C (L' := [(3, .int ((0 : Int32))), (0, .ref (ga G 46)), (1, .int v1), (2, .int v2)]) dX11_keepers_34 rfl (by decide) rfl ?_
      refine x_iconst C dX11_keepers_35 (v := 0) (by decide) ?_
      refine x_istore C (L' := [(4, .int ((0 : Int32))), (3, .int ((0 : Int32))), (0, .ref (ga G 46)), (1, .int v1), (2, .int v2)]) dX11_keepers_36 (by decide) rfl ?_
      exact qV_sub [2, 3, 4, 1, 0] rfl (b_X11_keepers_38 C hQ hn h)
    · refine x_aload_n C 0 dX11_keepers_27 rfl rfl ?_
      refine x_iconst C dX11_keepers_28 (v := 3) (by decide) ?_
      refine i_RX11_119 (rest := []) C hn  rfl (by decide) rfl dX11_keepers_29 h (fun r29 μ29 h => ?_)
      exact x_iret C hQ dX11_keepers_32 h
  · refine x_aload_n C 0 dX11_keepers_8 rfl rfl ?_
    refine x_iconst C dX11_keepers_9 (v := 0) (by decide) ?_
    refine i_RX11_119 (rest := []) C hn  rfl (by decide) rfl dX11_keepers_10 h (fun r10 μ10 h => ?_)
    exact x_iret C hQ dX11_keepers_13 h
theorem dX11_kindFor_0 : decode cX11_kindFor 0 = .ok (.aload_n 0, 1) := by decide +kernel
theorem dX11_kindFor_1 : decode cX11_kindFor 1 = .ok (.iload_n 1, 1) := by decide +kernel
theorem dX11_kindFor_2 : decode cX11_kindFor 2 = .ok (.invokevirtual 132, 3) := by decide +kernel
theorem dX11_kindFor_5 : decode cX11_kindFor 5 = .ok (.ifCond .ne 9, 3) := by decide +kernel
theorem dX11_kindFor_8 : decode cX11_kindFor 8 = .ok (.aload_n 0, 1) := by decide +kernel
theorem dX11_kindFor_9 : decode cX11_kindFor 9 = .ok (.iconst 0, 1) := by decide +kernel
theorem dX11_kindFor_10 : decode cX11_kindFor 10 = .ok (.invokevirtual 119, 3) := by decide +kernel
theorem dX11_kindFor_13 : decode cX11_kindFor 13 = .ok (.ireturn, 1) := by decide +kernel
theorem dX11_kindFor_14 : decode cX11_kindFor 14 = .ok (.aload_n 0, 1) := by decide +kernel
theorem dX11_kindFor_15 : decode cX11_kindFor 15 = .ok (.getfield 9, 3) := by decide +kernel
theorem dX11_kindFor_18 : decode cX11_kindFor 18 = .ok (.iload_n 1, 1) := by decide +kernel
theorem dX11_kindFor_19 : decode cX11_kindFor 19 = .ok (.iaload, 1) := by decide +kernel
theorem dX11_kindFor_20 : decode cX11_kindFor 20 = .ok (.istore_n 2, 1) := by decide +kernel
theorem dX11_kindFor_21 : decode cX11_kindFor 21 = .ok (.iconst 0, 1) := by decide +kernel
theorem dX11_kindFor_22 : decode cX11_kindFor 22 = .ok (.istore_n 3, 1) := by decide +kernel
theorem dX11_kindFor_23 : decode cX11_kindFor 23 = .ok (.iconst (-1), 1) := by decide +kernel
theorem dX11_kindFor_24 : decode cX11_kindFor 24 = .ok (.istore 4, 2) := by decide +kernel
theorem dX11_kindFor_26 : decode cX11_kindFor 26 = .ok (.iconst 0, 1) := by decide +kernel
theorem dX11_kindFor_27 : decode cX11_kindFor 27 = .ok (.istore 5, 2) := by decide +kernel
theorem dX11_kindFor_29 : decode cX11_kindFor 29 = .ok (.iload 5, 2) := by decide +kernel
theorem dX11_kindFor_31 : decode cX11_kindFor 31 = .ok (.bipush 7, 2) := by decide +kernel
theorem dX11_kindFor_33 : decode cX11_kindFor 33 = .ok (.if_icmp .ge 37, 3) := by decide +kernel
theorem dX11_kindFor_36 : decode cX11_kindFor 36 = .ok (.aload_n 0, 1) := by decide +kernel
theorem dX11_kindFor_37 : decode cX11_kindFor 37 = .ok (.getfield 9, 3) := by decide +kernel
theorem dX11_kindFor_40 : decode cX11_kindFor 40 = .ok (.iload_n 1, 1) := by decide +kernel
theorem dX11_kindFor_41 : decode cX11_kindFor 41 = .ok (.iload 5, 2) := by decide +kernel
theorem dX11_kindFor_43 : decode cX11_kindFor 43 = .ok (.iastore, 1) := by decide +kernel
theorem dX11_kindFor_44 : decode cX11_kindFor 44 = .ok (.aload_n 0, 1) := by decide +kernel
theorem dX11_kindFor_45 : decode cX11_kindFor 45 = .ok (.invokevirtual 159, 3) := by decide +kernel
theorem dX11_kindFor_48 : decode cX11_kindFor 48 = .ok (.istore 6, 2) := by decide +kernel
theorem dX11_kindFor_50 : decode cX11_kindFor 50 = .ok (.iload 6, 2) := by decide +kernel
theorem dX11_kindFor_52 : decode cX11_kindFor 52 = .ok (.iload 4, 2) := by decide +kernel
theorem dX11_kindFor_54 : decode cX11_kindFor 54 = .ok (.if_icmp .le 10, 3) := by decide +kernel
theorem dX11_kindFor_57 : decode cX11_kindFor 57 = .ok (.iload 5, 2) := by decide +kernel
theorem dX11_kindFor_59 : decode cX11_kindFor 59 = .ok (.istore_n 3, 1) := by decide +kernel
theorem dX11_kindFor_60 : decode cX11_kindFor 60 = .ok (.iload 6, 2) := by decide +kernel
theorem dX11_kindFor_62 : decode cX11_kindFor 62 = .ok (.istore 4, 2) := by decide +kernel
theorem dX11_kindFor_64 : decode cX11_kindFor 64 = .ok (.iinc 5 1, 3) := by decide +kernel
theorem dX11_kindFor_67 : decode cX11_kindFor 67 = .ok (.goto (-38), 3) := by decide +kernel
theorem dX11_kindFor_70 : decode cX11_kindFor 70 = .ok (.aload_n 0, 1) := by decide +kernel
theorem dX11_kindFor_71 : decode cX11_kindFor 71 = .ok (.getfield 9, 3) := by decide +kernel
theorem dX11_kindFor_74 : decode cX11_kindFor 74 = .ok (.iload_n 1, 1) := by decide +kernel
theorem dX11_kindFor_75 : decode cX11_kindFor 75 = .ok (.iload_n 2, 1) := by decide +kernel
theorem dX11_kindFor_76 : decode cX11_kindFor 76 = .ok (.iastore, 1) := by decide +kernel
theorem dX11_kindFor_77 : decode cX11_kindFor 77 = .ok (.iload_n 3, 1) := by decide +kernel
theorem dX11_kindFor_78 : decode cX11_kindFor 78 = .ok (.ireturn, 1) := by decide +kernel
theorem i_RX11_159 {Z : qZ} {G : qG} {cc : ByteArray} {nL k n : Nat} {rm : Room} {ret : Option FieldType} {μ : qM} {pc : Nat} {L : List (Nat × Value)} {rest : List Value} {K : Int32 → qM → Prop} (C : qX Z G RX11 cc nL rm ret) (hn : 66 ≤ gn G) (hR : (Nat.ble (6 + 1) rm.frames && Nat.ble (8 + (3 + 11) + 136) rm.locals) = true) (hf : k + 0 ≤ rm.cells ∧ n + 0 ≤ rm.slots) (hsz : Nat.ble (rest.map fun v => v.category).sum 8 = true) (hd : decode cc pc = .ok (.invokevirtual 159, 3)) (h : w_X11_freeLots  K μ) (hk : ∀ (r : Int32) (μ1 : qM), K r μ1 → qV Z G nL k n μ1 (pc + 3) L (.int r :: rest)) : qV Z G nL k n μ pc L (.ref (ga G 46) :: rest) := x_Vi [] rest C 46 10 (wp := fun K => w_X11_freeLots  K μ) (y_X11_freeLots : qY yX11_freeLots cX11_freeLots 3 (some .int) 0 ({ frames := 6, cells := 0, slots := 0, locals := 136 } : Room) 0 0) (qm_24 _ (List.mem_of_getElem? (i := 19) rfl)) (qm_24 _ (List.mem_of_getElem? (i := 20) rfl)) (qm_24 _ (List.mem_of_getElem? (i := 18) rfl)) (c_X11_freeLots Z.2.1 G hn ) (Nat.lt_of_lt_of_le (by decide) hn) rfl (by decide) rfl rfl hR hf rfl rfl hsz hd h hk
theorem b_X11_kindFor_64 {Z : qZ} {G : qG} {v1 : Int32} {v2 : Int32} {v3 : Int32} {v4 : Int32} {v5 : Int32} {μ : qM} {P29 : Int32 → Int32 → Int32 → qM → Prop} {post : Int32 → qM → Prop} (C : qX Z G RX11 cX11_kindFor 7 ({ frames := 7, cells := 0, slots := 0, locals := 158 } : Room) (some .int)) (hQ : qQi Z G 0 0 post) (hn : 66 ≤ gn G) (hP29 : ∀ (b3 : Int32) (b4 : Int32) (b5 : Int32) (μ1 : qM), P29 b3 b4 b5 μ1 → qV Z G 7 0 0 μ1 29 [(0, .ref (ga G 46)), (1, .int v1), (2, .int v2), (3, .int b3), (4, .int b4), (5, .int b5)] []) (h : q_X11_kindFor_64 P29 post v1 v2 v3 v4 v5 μ) : qV Z G 7 0 0 μ 64 [(0, .ref (ga G 46)), (1, .int v1), (2, .int v2), (3, .int v3), (4, .int v4), (5, .int v5)] [] := by
  unfold q_X11_kindFor_64 at h
  refine x_iinc C 5 (v := 1) (L' := [(5, .int ((v5 + 1))), (0, .ref (ga G 46)), (1, .int v1), (2, .int v2), (3, .int v3), (4, .int v4)]) dX11_kindFor_64 rfl (by decide) (by decide) rfl ?_
  refine x_goto C dX11_kindFor_67 (tgt := 29) (by decide) ?_
  exact qV_sub [1, 2, 3, 4, 5, 0] rfl ((hP29 _ _ _ _ h))
theorem b_X11_kindFor_29 {Z : qZ} {G : qG} {v1 : Int32} {v2 : Int32} {v3 : Int32} {v4 : Int32} {v5 : Int32} {μ : qM} {post : Int32 → qM → Prop} (C : qX Z G RX11 cX11_kindFor 7 ({ frames := 7, cells := 0, slots := 0, locals := 158 } : Room) (some .int)) (hQ : qQi Z G 0 0 post) (hn : 66 ≤ gn G) (h : q_X11_kindFor_29 v1 v2 post v3 v4 v5 μ) : qV Z G 7 0 0 μ 29 [(0, .ref (ga G 46)), (1, .int v1), (2, .int v2), (3, .int v3), (4, .int v4), (5, .int v5)] [] := by
  refine h (fun v3 v4 v5 μ => qV Z G 7 0 0 μ 29 [(0, .ref (ga G 46)), (1, .int v1), (2, .int v2), (3, .int v3), (4, .int v4), (5, .int v5)] []) (fun v3 v4 v5 μ h => ?_)
  refine x_iload C 5 dX11_kindFor_29 rfl ?_
  refine x_bipush C dX11_kindFor_31 (v := 7) (by decide) ?_
  refine x_icmp_ge C dX11_kindFor_33 (tgt := 70) (by decide) h (fun h => ?_) (fun h => ?_)
  · refine x_aload_n C 0 dX11_kindFor_70 rfl rfl ?_
    refine g_RX11_9 C hn dX11_kindFor_71 ?_
    refine x_iload_n C 1 dX11_kindFor_74 rfl rfl ?_
    refine x_iload_n C 2 dX11_kindFor_75 rfl rfl ?_
    refine x_iast C 47 19 154 (q_lt rfl rfl hn) rfl rfl rfl rfl rfl dX11_kindFor_76 h (fun h => ?_)
    refine x_iload_n C 3 dX11_kindFor_77 rfl rfl ?_
    exact x_iret C hQ dX11_kindFor_78 h
  · refine x_aload_n C 0 dX11_kindFor_36 rfl rfl ?_
    refine g_RX11_9 C hn dX11_kindFor_37 ?_
    refine x_iload_n C 1 dX11_kindFor_40 rfl rfl ?_
    refine x_iload C 5 dX11_kindFor_41 rfl ?_
    refine x_iast C 47 19 154 (q_lt rfl rfl hn) rfl rfl rfl rfl rfl dX11_kindFor_43 h (fun h => ?_)
    refine x_aload_n C 0 dX11_kindFor_44 rfl rfl ?_
    refine i_RX11_159 (rest := []) C hn  rfl (by decide) rfl dX11_kindFor_45 h (fun r45 μ45 h => ?_)
    refine x_istore C (L' := [(6, .int r45), (0, .ref (ga G 46)), (1, .int v1), (2, .int v2), (3, .int v3), (4, .int v4), (5, .int v5)]) dX11_kindFor_48 (by decide) rfl ?_
    refine x_iload C 0 dX11_kindFor_50 rfl ?_
    refine x_iload C 5 dX11_kindFor_52 rfl ?_
    refine x_icmp_le C dX11_kindFor_54 (tgt := 64) (by decide) h (fun h => ?_) (fun h => ?_)
    · exact qV_sub [1, 2, 3, 4, 5, 6] rfl (b_X11_kindFor_64 C hQ hn (fun _ _ _ _ h => h) h)
    · refine x_iload C 6 dX11_kindFor_57 rfl ?_
      refine x_istore_n C (L' := [(3, .int v5), (6, .int r45), (0, .ref (ga G 46)), (1, .int v1), (2, .int v2), (4, .int v4), (5, .int v5)]) dX11_kindFor_59 rfl (by decide) rfl ?_
      refine x_iload C 1 dX11_kindFor_60 rfl ?_
      refine x_istore C (L' := [(4, .int r45), (3, .int v5), (6, .int r45), (0, .ref (ga G 46)), (1, .int v1), (2, .int v2), (5, .int v5)]) dX11_kindFor_62 (by decide) rfl ?_
      exact qV_sub [3, 4, 5, 1, 0, 6] rfl (b_X11_kindFor_64 C hQ hn (fun _ _ _ _ h => h) h)
theorem y_X11_kindFor : qY yX11_kindFor cX11_kindFor 7 (some .int) 1 ({ frames := 7, cells := 0, slots := 0, locals := 158 } : Room) 0 0 := ⟨(qm_24 _ (List.mem_of_getElem? (i := 17) rfl)), (qm_1 _ (List.mem_of_getElem? (i := 5) rfl)), by decide +kernel, by decide +kernel, rfl, rfl⟩
theorem c_X11_kindFor (l : Launch) (G : qG) {v1 : Int32} {μ : qM} (hn : 66 ≤ gn G) : qCi l G yX11_kindFor cX11_kindFor 7 (some .int) ({ frames := 7, cells := 0, slots := 0, locals := 158 } : Room) 0 0 [.ref (ga G 46), .int v1] μ (fun post => w_X11_kindFor v1 post μ) := by
  refine qCi_of (L := [(0, .ref (ga G 46)), (1, .int v1)]) (by decide) rfl rfl ?_
  intro Z post hl C hQ h
  have C : qX Z G RX11 cX11_kindFor 7 ({ frames := 7, cells := 0, slots := 0, locals := 158 } : Room) (some .int) := C
  have h : w_X11_kindFor v1 post μ := h
  unfold w_X11_kindFor at h
  refine x_aload_n C 0 dX11_kindFor_0 rfl rfl ?_
  refine x_iload_n C 1 dX11_kindFor_1 rfl rfl ?_
  refine i_RX11_132 (rest := []) C hn  rfl (by decide) rfl dX11_kindFor_2 h (fun r2 μ2 h => ?_)
  refine x_if_ne C dX11_kindFor_5 (tgt := 14) (by decide) h (fun h => ?_) (fun h => ?_)
  · refine x_aload_n C 0 dX11_kindFor_14 rfl rfl ?_
    refine g_RX11_9 C hn dX11_kindFor_15 ?_
    refine x_iload_n C 1 dX11_kindFor_18 rfl rfl ?_
    refine x_iald C 47 19 154 (q_lt rfl rfl hn) rfl rfl rfl rfl rfl dX11_kindFor_19 h (fun h => ?_)
    refine x_istore_n C (L' := [(2, .int ((μ2 47 v1.toNatClampNeg))), (0, .ref (ga G 46)), (1, .int v1)]) dX11_kindFor_20 rfl (by decide) rfl ?_
    refine x_iconst C dX11_kindFor_21 (v := 0) (by decide) ?_
    refine x_istore_n C (L' := [(3, .int ((0 : Int32))), (2, .int ((μ2 47 v1.toNatClampNeg))), (0, .ref (ga G 46)), (1, .int v1)]) dX11_kindFor_22 rfl (by decide) rfl ?_
    refine x_iconst C dX11_kindFor_23 (v := -1) (by decide) ?_
    refine x_istore C (L' := [(4, .int ((-1 : Int32))), (3, .int ((0 : Int32))), (2, .int ((μ2 47 v1.toNatClampNeg))), (0, .ref (ga G 46)), (1, .int v1)]) dX11_kindFor_24 (by decide) rfl ?_
    refine x_iconst C dX11_kindFor_26 (v := 0) (by decide) ?_
    refine x_istore C (L' := [(5, .int ((0 : Int32))), (4, .int ((-1 : Int32))), (3, .int ((0 : Int32))), (2, .int ((μ2 47 v1.toNatClampNeg))), (0, .ref (ga G 46)), (1, .int v1)]) dX11_kindFor_27 (by decide) rfl ?_
    exact qV_sub [4, 5, 3, 2, 1, 0] rfl (b_X11_kindFor_29 C hQ hn h)
  · refine x_aload_n C 0 dX11_kindFor_8 rfl rfl ?_
    refine x_iconst C dX11_kindFor_9 (v := 0) (by decide) ?_
    refine i_RX11_119 (rest := []) C hn  rfl (by decide) rfl dX11_kindFor_10 h (fun r10 μ10 h => ?_)
    exact x_iret C hQ dX11_kindFor_13 h
