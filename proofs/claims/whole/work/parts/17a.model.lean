theorem dX11_finding_0 : decode cX11_finding 0 = .ok (.aload_n 0, 1) := by decide +kernel
theorem dX11_finding_1 : decode cX11_finding 1 = .ok (.getfield 44, 3) := by decide +kernel
theorem dX11_finding_4 : decode cX11_finding 4 = .ok (.iload_n 1, 1) := by decide +kernel
theorem dX11_finding_5 : decode cX11_finding 5 = .ok (.dup2, 1) := by decide +kernel
theorem dX11_finding_6 : decode cX11_finding 6 = .ok (.iaload, 1) := by decide +kernel
theorem dX11_finding_7 : decode cX11_finding 7 = .ok (.iconst 1, 1) := by decide +kernel
theorem dX11_finding_8 : decode cX11_finding 8 = .ok (.iadd, 1) := by decide +kernel
theorem dX11_finding_9 : decode cX11_finding 9 = .ok (.iastore, 1) := by decide +kernel
theorem dX11_finding_10 : decode cX11_finding 10 = .ok (.ldc 75, 2) := by decide +kernel
theorem dX11_finding_12 : decode cX11_finding 12 = .ok (.iload_n 1, 1) := by decide +kernel
theorem dX11_finding_13 : decode cX11_finding 13 = .ok (.isub, 1) := by decide +kernel
theorem dX11_finding_14 : decode cX11_finding 14 = .ok (.ireturn, 1) := by decide +kernel
theorem g_RX11_44 {Z : qZ} {G : qG} {cc : ByteArray} {nL k n : Nat} {rm : Room} {ret : Option FieldType} {μ : qM} {pc : Nat} {L : List (Nat × Value)} {st : List Value} (C : qX Z G RX11 cc nL rm ret) (hn : 66 ≤ gn G) (hd : decode cc pc = .ok (.getfield 44, 3)) (h : qV Z G nL k n μ (pc + 3) L (.ref (ga G 56) :: st)) : qV Z G nL k n μ pc L (.ref (ga G 46) :: st) := x_getr C 46 10 19 10 56 (C0 := RX11) (fn := "found") (fd := "[I") (Nat.lt_of_lt_of_le (by decide) hn) rfl (by decide) rfl (by decide) rfl inlX11 (qm_6 _ (List.mem_of_getElem? (i := 2) rfl)) rfl rfl rfl hd h
theorem y_X11_finding : qY yX11_finding cX11_finding 2 (some .int) 1 ({ frames := 0, cells := 0, slots := 0, locals := 0 } : Room) 0 0 := ⟨(qm_9 _ (List.mem_of_getElem? (i := 1) rfl)), (qm_1 _ (List.mem_of_getElem? (i := 5) rfl)), by decide +kernel, by decide +kernel, rfl, rfl⟩
theorem c_X11_finding (l : Launch) (G : qG) {v1 : Int32} {μ : qM} (hn : 66 ≤ gn G) : qCi l G yX11_finding cX11_finding 2 (some .int) ({ frames := 0, cells := 0, slots := 0, locals := 0 } : Room) 0 0 [.ref (ga G 46), .int v1] μ (fun post => w_X11_finding v1 post μ) := by
  refine qCi_of (L := [(0, .ref (ga G 46)), (1, .int v1)]) (by decide) rfl rfl ?_
  intro Z post hl C hQ h
  have C : qX Z G RX11 cX11_finding 2 ({ frames := 0, cells := 0, slots := 0, locals := 0 } : Room) (some .int) := C
  have h : w_X11_finding v1 post μ := h
  unfold w_X11_finding at h
  refine x_aload_n C 0 dX11_finding_0 rfl rfl ?_
  refine g_RX11_44 C hn dX11_finding_1 ?_
  refine x_iload_n C 1 dX11_finding_4 rfl rfl ?_
  refine x_dup2 C dX11_finding_5 rfl rfl ?_
  refine x_iald C 56 16 7 (q_lt rfl rfl hn) rfl rfl rfl rfl rfl dX11_finding_6 h (fun h => ?_)
  refine x_iconst C dX11_finding_7 (v := 1) (by decide) ?_
  refine x_iadd C dX11_finding_8 ?_
  refine x_iast C 56 16 7 (q_lt rfl rfl hn) rfl rfl rfl rfl rfl dX11_finding_9 h (fun h => ?_)
  refine x_ldc C (v := -1000001) (qm_9 _ (List.mem_of_getElem? (i := 2) rfl)) dX11_finding_10 ?_
  refine x_iload_n C 1 dX11_finding_12 rfl rfl ?_
  refine x_isub C dX11_finding_13 ?_
  exact x_iret C hQ dX11_finding_14 h
theorem dX11_within_0 : decode cX11_within 0 = .ok (.iload_n 0, 1) := by decide +kernel
theorem dX11_within_1 : decode cX11_within 1 = .ok (.iload_n 1, 1) := by decide +kernel
theorem dX11_within_2 : decode cX11_within 2 = .ok (.if_icmp .lt 12, 3) := by decide +kernel
theorem dX11_within_5 : decode cX11_within 5 = .ok (.iload_n 0, 1) := by decide +kernel
theorem dX11_within_6 : decode cX11_within 6 = .ok (.iload_n 2, 1) := by decide +kernel
theorem dX11_within_7 : decode cX11_within 7 = .ok (.if_icmp .gt 7, 3) := by decide +kernel
theorem dX11_within_10 : decode cX11_within 10 = .ok (.iconst 1, 1) := by decide +kernel
theorem dX11_within_11 : decode cX11_within 11 = .ok (.goto 4, 3) := by decide +kernel
theorem dX11_within_14 : decode cX11_within 14 = .ok (.iconst 0, 1) := by decide +kernel
theorem dX11_within_15 : decode cX11_within 15 = .ok (.ireturn, 1) := by decide +kernel
theorem b_X11_within_14 {Z : qZ} {G : qG} {μ : qM} {post : Int32 → qM → Prop} (C : qX Z G RX11 cX11_within 3 ({ frames := 0, cells := 0, slots := 0, locals := 0 } : Room) (some .boolean)) (hQ : qQi Z G 0 0 post) (hn : 66 ≤ gn G) (h : q_X11_within_14 post μ) : qV Z G 3 0 0 μ 14 [] [] := by
  unfold q_X11_within_14 at h
  refine x_iconst C dX11_within_14 (v := 0) (by decide) ?_
  exact x_zret C hQ dX11_within_15 h
theorem y_X11_within : qY yX11_within cX11_within 3 (some .boolean) 3 ({ frames := 0, cells := 0, slots := 0, locals := 0 } : Room) 0 0 := ⟨(qm_8 _ (List.mem_of_getElem? (i := 18) rfl)), (qm_1 _ (List.mem_of_getElem? (i := 5) rfl)), by decide +kernel, by decide +kernel, rfl, rfl⟩
theorem c_X11_within (l : Launch) (G : qG) {v0 : Int32} {v1 : Int32} {v2 : Int32} {μ : qM} (hn : 66 ≤ gn G) : qCi l G yX11_within cX11_within 3 (some .boolean) ({ frames := 0, cells := 0, slots := 0, locals := 0 } : Room) 0 0 [.int v0, .int v1, .int v2] μ (fun post => w_X11_within v0 v1 v2 post μ) := by
  refine qCi_of (L := [(0, .int v0), (1, .int v1), (2, .int v2)]) (by decide) rfl rfl ?_
  intro Z post hl C hQ h
  have C : qX Z G RX11 cX11_within 3 ({ frames := 0, cells := 0, slots := 0, locals := 0 } : Room) (some .boolean) := C
  have h : w_X11_within v0 v1 v2 post μ := h
  unfold w_X11_within at h
  refine x_iload_n C 0 dX11_within_0 rfl rfl ?_
  refine x_iload_n C 1 dX11_within_1 rfl rfl ?_
  refine x_icmp_lt C dX11_within_2 (tgt := 14) (by decide) h (fun h => ?_) (fun h => ?_)
  · exact qV_sub [] rfl (b_X11_within_14 C hQ hn h)
  · refine x_iload_n C 0 dX11_within_5 rfl rfl ?_
    refine x_iload_n C 2 dX11_within_6 rfl rfl ?_
    refine x_icmp_gt C dX11_within_7 (tgt := 14) (by decide) h (fun h => ?_) (fun h => ?_)
    · exact qV_sub [] rfl (b_X11_within_14 C hQ hn h)
    · refine x_iconst C dX11_within_10 (v := 1) (by decide) ?_
      refine x_goto C dX11_within_11 (tgt := 15) (by decide) ?_
      exact x_zret C hQ dX11_within_15 h
theorem dX11_isHouse_0 : decode cX11_isHouse 0 = .ok (.iload_n 1, 1) := by decide +kernel
theorem dX11_isHouse_1 : decode cX11_isHouse 1 = .ok (.iconst 0, 1) := by decide +kernel
theorem dX11_isHouse_2 : decode cX11_isHouse 2 = .ok (.aload_n 0, 1) := by decide +kernel
theorem dX11_isHouse_3 : decode cX11_isHouse 3 = .ok (.getfield 76, 3) := by decide +kernel
theorem dX11_isHouse_6 : decode cX11_isHouse 6 = .ok (.iconst 1, 1) := by decide +kernel
theorem dX11_isHouse_7 : decode cX11_isHouse 7 = .ok (.isub, 1) := by decide +kernel
theorem dX11_isHouse_8 : decode cX11_isHouse 8 = .ok (.invokestatic 79, 3) := by decide +kernel
theorem dX11_isHouse_11 : decode cX11_isHouse 11 = .ok (.ireturn, 1) := by decide +kernel
theorem i_RX11_79 {Z : qZ} {G : qG} {cc : ByteArray} {nL k n : Nat} {rm : Room} {ret : Option FieldType} {μ : qM} {pc : Nat} {L : List (Nat × Value)} {rest : List Value} {K : Int32 → qM → Prop} {v0 : Int32} {v1 : Int32} {v2 : Int32} (C : qX Z G RX11 cc nL rm ret) (hn : 66 ≤ gn G) (hR : (Nat.ble (0 + 1) rm.frames && Nat.ble (8 + (3 + 11) + 0) rm.locals) = true) (hf : k + 0 ≤ rm.cells ∧ n + 0 ≤ rm.slots) (hsz : Nat.ble (rest.map fun v => v.category).sum 8 = true) (hd : decode cc pc = .ok (.invokestatic 79, 3)) (h : w_X11_within v0 v1 v2 K μ) (hk : ∀ (r : Int32) (μ1 : qM), K r μ1 → qV Z G nL k n μ1 (pc + 3) L (.int r :: rest)) : qV Z G nL k n μ pc L (.int v2 :: .int v1 :: .int v0 :: rest) := x_Si [.int v0, .int v1, .int v2] rest C (wp := fun K => w_X11_within v0 v1 v2 K μ) (y_X11_within : qY yX11_within cX11_within 3 (some .boolean) 3 ({ frames := 0, cells := 0, slots := 0, locals := 0 } : Room) 0 0) (qm_8 _ (List.mem_of_getElem? (i := 17) rfl)) (qm_8 _ (List.mem_of_getElem? (i := 16) rfl)) (c_X11_within Z.2.1 G hn ) hR hf rfl rfl hsz hd h hk
theorem g_RX11_76 {Z : qZ} {G : qG} {cc : ByteArray} {nL k n : Nat} {rm : Room} {ret : Option FieldType} {μ : qM} {pc : Nat} {L : List (Nat × Value)} {st : List Value} (C : qX Z G RX11 cc nL rm ret) (hn : 66 ≤ gn G) (hd : decode cc pc = .ok (.getfield 76, 3)) (h : qV Z G nL k n μ (pc + 3) L (.int (μ 46 0) :: st)) : qV Z G nL k n μ pc L (.ref (ga G 46) :: st) := x_geti C 46 10 0 (C0 := RX11) (fn := "many") (fd := "I") (Nat.lt_of_lt_of_le (by decide) hn) rfl (by decide) rfl (by decide) rfl inlX11 (qm_8 _ (List.mem_of_getElem? (i := 12) rfl)) rfl hd h
theorem y_X11_isHouse : qY yX11_isHouse cX11_isHouse 2 (some .boolean) 1 ({ frames := 1, cells := 0, slots := 0, locals := 22 } : Room) 0 0 := ⟨(qm_14 _ (List.mem_of_getElem? (i := 6) rfl)), (qm_1 _ (List.mem_of_getElem? (i := 5) rfl)), by decide +kernel, by decide +kernel, rfl, rfl⟩
theorem c_X11_isHouse (l : Launch) (G : qG) {v1 : Int32} {μ : qM} (hn : 66 ≤ gn G) : qCi l G yX11_isHouse cX11_isHouse 2 (some .boolean) ({ frames := 1, cells := 0, slots := 0, locals := 22 } : Room) 0 0 [.ref (ga G 46), .int v1] μ (fun post => w_X11_isHouse v1 post μ) := by
  refine qCi_of (L := [(0, .ref (ga G 46)), (1, .int v1)]) (by decide) rfl rfl ?_
  intro Z post hl C hQ h
  have C : qX Z G RX11 cX11_isHouse 2 ({ frames := 1, cells := 0, slots := 0, locals := 22 } : Room) (some .boolean) := C
  have h : w_X11_isHouse v1 post μ := h
  unfold w_X11_isHouse at h
  refine x_iload_n C 1 dX11_isHouse_0 rfl rfl ?_
  refine x_iconst C dX11_isHouse_1 (v := 0) (by decide) ?_
  refine x_aload_n C 0 dX11_isHouse_2 rfl rfl ?_
  refine g_RX11_76 C hn dX11_isHouse_3 ?_
  refine x_iconst C dX11_isHouse_6 (v := 1) (by decide) ?_
  refine x_isub C dX11_isHouse_7 ?_
  refine i_RX11_79 (rest := []) C hn  rfl (by decide) rfl dX11_isHouse_8 h (fun r8 μ8 h => ?_)
  exact x_zret C hQ dX11_isHouse_11 h
theorem dX11_isLot_0 : decode cX11_isLot 0 = .ok (.iload_n 0, 1) := by decide +kernel
theorem dX11_isLot_1 : decode cX11_isLot 1 = .ok (.iconst 0, 1) := by decide +kernel
theorem dX11_isLot_2 : decode cX11_isLot 2 = .ok (.bipush 11, 2) := by decide +kernel
theorem dX11_isLot_4 : decode cX11_isLot 4 = .ok (.invokestatic 79, 3) := by decide +kernel
theorem dX11_isLot_7 : decode cX11_isLot 7 = .ok (.ifCond .eq 17, 3) := by decide +kernel
theorem dX11_isLot_10 : decode cX11_isLot 10 = .ok (.iload_n 1, 1) := by decide +kernel
theorem dX11_isLot_11 : decode cX11_isLot 11 = .ok (.iconst 0, 1) := by decide +kernel
theorem dX11_isLot_12 : decode cX11_isLot 12 = .ok (.bipush 11, 2) := by decide +kernel
theorem dX11_isLot_14 : decode cX11_isLot 14 = .ok (.invokestatic 79, 3) := by decide +kernel
theorem dX11_isLot_17 : decode cX11_isLot 17 = .ok (.ifCond .eq 7, 3) := by decide +kernel
theorem dX11_isLot_20 : decode cX11_isLot 20 = .ok (.iconst 1, 1) := by decide +kernel
theorem dX11_isLot_21 : decode cX11_isLot 21 = .ok (.goto 4, 3) := by decide +kernel
theorem dX11_isLot_24 : decode cX11_isLot 24 = .ok (.iconst 0, 1) := by decide +kernel
theorem dX11_isLot_25 : decode cX11_isLot 25 = .ok (.ireturn, 1) := by decide +kernel
theorem b_X11_isLot_24 {Z : qZ} {G : qG} {μ : qM} {post : Int32 → qM → Prop} (C : qX Z G RX11 cX11_isLot 2 ({ frames := 1, cells := 0, slots := 0, locals := 22 } : Room) (some .boolean)) (hQ : qQi Z G 0 0 post) (hn : 66 ≤ gn G) (h : q_X11_isLot_24 post μ) : qV Z G 2 0 0 μ 24 [] [] := by
  unfold q_X11_isLot_24 at h
  refine x_iconst C dX11_isLot_24 (v := 0) (by decide) ?_
  exact x_zret C hQ dX11_isLot_25 h
theorem y_X11_isLot : qY yX11_isLot cX11_isLot 2 (some .boolean) 2 ({ frames := 1, cells := 0, slots := 0, locals := 22 } : Room) 0 0 := ⟨(qm_8 _ (List.mem_of_getElem? (i := 21) rfl)), (qm_1 _ (List.mem_of_getElem? (i := 5) rfl)), by decide +kernel, by decide +kernel, rfl, rfl⟩
theorem c_X11_isLot (l : Launch) (G : qG) {v0 : Int32} {v1 : Int32} {μ : qM} (hn : 66 ≤ gn G) : qCi l G yX11_isLot cX11_isLot 2 (some .boolean) ({ frames := 1, cells := 0, slots := 0, locals := 22 } : Room) 0 0 [.int v0, .int v1] μ (fun post => w_X11_isLot v0 v1 post μ) := by
  refine qCi_of (L := [(0, .int v0), (1, .int v1)]) (by decide) rfl rfl ?_
  intro Z post hl C hQ h
  have C : qX Z G RX11 cX11_isLot 2 ({ frames := 1, cells := 0, slots := 0, locals := 22 } : Room) (some .boolean) := C
  have h : w_X11_isLot v0 v1 post μ := h
  unfold w_X11_isLot at h
  refine x_iload_n C 0 dX11_isLot_0 rfl rfl ?_
  refine x_iconst C dX11_isLot_1 (v := 0) (by decide) ?_
  refine x_bipush C dX11_isLot_2 (v := 11) (by decide) ?_
  refine i_RX11_79 (rest := []) C hn  rfl (by decide) rfl dX11_isLot_4 h (fun r4 μ4 h => ?_)
  refine x_if_eq C dX11_isLot_7 (tgt := 24) (by decide) h (fun h => ?_) (fun h => ?_)
  · exact qV_sub [] rfl (b_X11_isLot_24 C hQ hn h)
  · refine x_iload_n C 1 dX11_isLot_10 rfl rfl ?_
    refine x_iconst C dX11_isLot_11 (v := 0) (by decide) ?_
    refine x_bipush C dX11_isLot_12 (v := 11) (by decide) ?_
    refine i_RX11_79 (rest := []) C hn  rfl (by decide) rfl dX11_isLot_14 h (fun r14 μ14 h => ?_)
    refine x_if_eq C dX11_isLot_17 (tgt := 24) (by decide) h (fun h => ?_) (fun h => ?_)
    · exact qV_sub [] rfl (b_X11_isLot_24 C hQ hn h)
    · refine x_iconst C dX11_isLot_20 (v := 1) (by decide) ?_
      refine x_goto C dX11_isLot_21 (tgt := 25) (by decide) ?_
      exact x_zret C hQ dX11_isLot_25 h
theorem dX11_isKind_0 : decode cX11_isKind 0 = .ok (.iload_n 0, 1) := by decide +kernel
theorem dX11_isKind_1 : decode cX11_isKind 1 = .ok (.iconst 0, 1) := by decide +kernel
theorem dX11_isKind_2 : decode cX11_isKind 2 = .ok (.bipush 6, 2) := by decide +kernel
theorem dX11_isKind_4 : decode cX11_isKind 4 = .ok (.invokestatic 79, 3) := by decide +kernel
theorem dX11_isKind_7 : decode cX11_isKind 7 = .ok (.ireturn, 1) := by decide +kernel
theorem y_X11_isKind : qY yX11_isKind cX11_isKind 1 (some .boolean) 1 ({ frames := 1, cells := 0, slots := 0, locals := 22 } : Room) 0 0 := ⟨(qm_8 _ (List.mem_of_getElem? (i := 15) rfl)), (qm_1 _ (List.mem_of_getElem? (i := 5) rfl)), by decide +kernel, by decide +kernel, rfl, rfl⟩
theorem c_X11_isKind (l : Launch) (G : qG) {v0 : Int32} {μ : qM} (hn : 66 ≤ gn G) : qCi l G yX11_isKind cX11_isKind 1 (some .boolean) ({ frames := 1, cells := 0, slots := 0, locals := 22 } : Room) 0 0 [.int v0] μ (fun post => w_X11_isKind v0 post μ) := by
  refine qCi_of (L := [(0, .int v0)]) (by decide) rfl rfl ?_
  intro Z post hl C hQ h
  have C : qX Z G RX11 cX11_isKind 1 ({ frames := 1, cells := 0, slots := 0, locals := 22 } : Room) (some .boolean) := C
  have h : w_X11_isKind v0 post μ := h
  unfold w_X11_isKind at h
  refine x_iload_n C 0 dX11_isKind_0 rfl rfl ?_
  refine x_iconst C dX11_isKind_1 (v := 0) (by decide) ?_
  refine x_bipush C dX11_isKind_2 (v := 6) (by decide) ?_
  refine i_RX11_79 (rest := []) C hn  rfl (by decide) rfl dX11_isKind_4 h (fun r4 μ4 h => ?_)
  exact x_zret C hQ dX11_isKind_7 h
theorem dX11_above_0 : decode cX11_above 0 = .ok (.iload_n 0, 1) := by decide +kernel
theorem dX11_above_1 : decode cX11_above 1 = .ok (.tableswitch 51 0 6 #[43, 51, 51, 45, 47, 51, 49], 43) := by decide +kernel
theorem dX11_above_44 : decode cX11_above 44 = .ok (.iconst (-1), 1) := by decide +kernel
theorem dX11_above_45 : decode cX11_above 45 = .ok (.ireturn, 1) := by decide +kernel
theorem dX11_above_46 : decode cX11_above 46 = .ok (.iconst 1, 1) := by decide +kernel
theorem dX11_above_47 : decode cX11_above 47 = .ok (.ireturn, 1) := by decide +kernel
theorem dX11_above_48 : decode cX11_above 48 = .ok (.iconst 2, 1) := by decide +kernel
theorem dX11_above_49 : decode cX11_above 49 = .ok (.ireturn, 1) := by decide +kernel
theorem dX11_above_50 : decode cX11_above 50 = .ok (.iconst 5, 1) := by decide +kernel
theorem dX11_above_51 : decode cX11_above 51 = .ok (.ireturn, 1) := by decide +kernel
theorem dX11_above_52 : decode cX11_above 52 = .ok (.iconst 0, 1) := by decide +kernel
theorem dX11_above_53 : decode cX11_above 53 = .ok (.ireturn, 1) := by decide +kernel
theorem b_X11_above_52 {Z : qZ} {G : qG} {μ : qM} {post : Int32 → qM → Prop} (C : qX Z G RX11 cX11_above 1 ({ frames := 0, cells := 0, slots := 0, locals := 0 } : Room) (some .int)) (hQ : qQi Z G 0 0 post) (hn : 66 ≤ gn G) (h : q_X11_above_52 post μ) : qV Z G 1 0 0 μ 52 [] [] := by
  unfold q_X11_above_52 at h
  refine x_iconst C dX11_above_52 (v := 0) (by decide) ?_
  exact x_iret C hQ dX11_above_53 h
theorem y_X11_above : qY yX11_above cX11_above 1 (some .int) 1 ({ frames := 0, cells := 0, slots := 0, locals := 0 } : Room) 0 0 := ⟨(qm_46 _ (List.mem_of_getElem? (i := 14) rfl)), (qm_1 _ (List.mem_of_getElem? (i := 5) rfl)), by decide +kernel, by decide +kernel, rfl, rfl⟩
theorem c_X11_above (l : Launch) (G : qG) {v0 : Int32} {μ : qM} (hn : 66 ≤ gn G) : qCi l G yX11_above cX11_above 1 (some .int) ({ frames := 0, cells := 0, slots := 0, locals := 0 } : Room) 0 0 [.int v0] μ (fun post => w_X11_above v0 post μ) := by
  refine qCi_of (L := [(0, .int v0)]) (by decide) rfl rfl ?_
  intro Z post hl C hQ h
  have C : qX Z G RX11 cX11_above 1 ({ frames := 0, cells := 0, slots := 0, locals := 0 } : Room) (some .int) := C
  have h : w_X11_above v0 post μ := h
  unfold w_X11_above at h
  refine x_iload_n C 0 dX11_above_0 rfl rfl ?_
  by_cases hv0 : v0 = (0 : Int32)
  · have h := h.1 hv0
    refine x_tin C (v := 0) dX11_above_1 hv0 (by decide) (by decide) rfl (tgt := 44) (by decide) ?_
    refine x_iconst C dX11_above_44 (v := -1) (by decide) ?_
    exact x_iret C hQ dX11_above_45 h
  have h := h.2 hv0
  by_cases hv1 : v0 = (1 : Int32)
  · have h := h.1 hv1
    refine x_tin C (v := 1) dX11_above_1 hv1 (by decide) (by decide) rfl (tgt := 52) (by decide) ?_
    exact qV_sub [] rfl (b_X11_above_52 C hQ hn h)
  have h := h.2 hv1
  by_cases hv2 : v0 = (2 : Int32)
  · have h := h.1 hv2
    refine x_tin C (v := 2) dX11_above_1 hv2 (by decide) (by decide) rfl (tgt := 52) (by decide) ?_
    exact qV_sub [] rfl (b_X11_above_52 C hQ hn h)
  have h := h.2 hv2
  by_cases hv3 : v0 = (3 : Int32)
  · have h := h.1 hv3
    refine x_tin C (v := 3) dX11_above_1 hv3 (by decide) (by decide) rfl (tgt := 46) (by decide) ?_
    refine x_iconst C dX11_above_46 (v := 1) (by decide) ?_
    exact x_iret C hQ dX11_above_47 h
  have h := h.2 hv3
  by_cases hv4 : v0 = (4 : Int32)
  · have h := h.1 hv4
    refine x_tin C (v := 4) dX11_above_1 hv4 (by decide) (by decide) rfl (tgt := 48) (by decide) ?_
    refine x_iconst C dX11_above_48 (v := 2) (by decide) ?_
    exact x_iret C hQ dX11_above_49 h
  have h := h.2 hv4
  by_cases hv5 : v0 = (5 : Int32)
  · have h := h.1 hv5
    refine x_tin C (v := 5) dX11_above_1 hv5 (by decide) (by decide) rfl (tgt := 52) (by decide) ?_
    exact qV_sub [] rfl (b_X11_above_52 C hQ hn h)
  have h := h.2 hv5
  by_cases hv6 : v0 = (6 : Int32)
  · have h := h.1 hv6
    refine x_tin C (v := 6) dX11_above_1 hv6 (by decide) (by decide) rfl (tgt := 50) (by decide) ?_
    refine x_iconst C dX11_above_50 (v := 5) (by decide) ?_
    exact x_iret C hQ dX11_above_51 h
  have h := h.2 hv6
  refine x_tout C [(0 : Int32), (1 : Int32), (2 : Int32), (3 : Int32), (4 : Int32), (5 : Int32), (6 : Int32)] (List.forall_mem_cons.mpr ⟨hv0, List.forall_mem_cons.mpr ⟨hv1, List.forall_mem_cons.mpr ⟨hv2, List.forall_mem_cons.mpr ⟨hv3, List.forall_mem_cons.mpr ⟨hv4, List.forall_mem_cons.mpr ⟨hv5, List.forall_mem_cons.mpr ⟨hv6, fun _ h => absurd h List.not_mem_nil⟩⟩⟩⟩⟩⟩⟩) dX11_above_1 (by decide) (tgt := 52) (by decide) ?_
  exact qV_sub [] rfl (b_X11_above_52 C hQ hn h)
theorem dX11_isUnder_0 : decode cX11_isUnder 0 = .ok (.iload_n 0, 1) := by decide +kernel
theorem dX11_isUnder_1 : decode cX11_isUnder 1 = .ok (.istore_n 2, 1) := by decide +kernel
theorem dX11_isUnder_2 : decode cX11_isUnder 2 = .ok (.iload_n 2, 1) := by decide +kernel
theorem dX11_isUnder_3 : decode cX11_isUnder 3 = .ok (.ifCond .lt 16, 3) := by decide +kernel
theorem dX11_isUnder_6 : decode cX11_isUnder 6 = .ok (.iload_n 2, 1) := by decide +kernel
theorem dX11_isUnder_7 : decode cX11_isUnder 7 = .ok (.iload_n 1, 1) := by decide +kernel
theorem dX11_isUnder_8 : decode cX11_isUnder 8 = .ok (.if_icmp .eq 11, 3) := by decide +kernel
theorem dX11_isUnder_11 : decode cX11_isUnder 11 = .ok (.iload_n 2, 1) := by decide +kernel
theorem dX11_isUnder_12 : decode cX11_isUnder 12 = .ok (.invokestatic 83, 3) := by decide +kernel
theorem dX11_isUnder_15 : decode cX11_isUnder 15 = .ok (.istore_n 2, 1) := by decide +kernel
theorem dX11_isUnder_16 : decode cX11_isUnder 16 = .ok (.goto (-14), 3) := by decide +kernel
theorem dX11_isUnder_19 : decode cX11_isUnder 19 = .ok (.iload_n 2, 1) := by decide +kernel
theorem dX11_isUnder_20 : decode cX11_isUnder 20 = .ok (.ifCond .lt 7, 3) := by decide +kernel
theorem dX11_isUnder_23 : decode cX11_isUnder 23 = .ok (.iconst 1, 1) := by decide +kernel
theorem dX11_isUnder_24 : decode cX11_isUnder 24 = .ok (.goto 4, 3) := by decide +kernel
theorem dX11_isUnder_27 : decode cX11_isUnder 27 = .ok (.iconst 0, 1) := by decide +kernel
theorem dX11_isUnder_28 : decode cX11_isUnder 28 = .ok (.ireturn, 1) := by decide +kernel
theorem i_RX11_83 {Z : qZ} {G : qG} {cc : ByteArray} {nL k n : Nat} {rm : Room} {ret : Option FieldType} {μ : qM} {pc : Nat} {L : List (Nat × Value)} {rest : List Value} {K : Int32 → qM → Prop} {v0 : Int32} (C : qX Z G RX11 cc nL rm ret) (hn : 66 ≤ gn G) (hR : (Nat.ble (0 + 1) rm.frames && Nat.ble (8 + (1 + 11) + 0) rm.locals) = true) (hf : k + 0 ≤ rm.cells ∧ n + 0 ≤ rm.slots) (hsz : Nat.ble (rest.map fun v => v.category).sum 8 = true) (hd : decode cc pc = .ok (.invokestatic 83, 3)) (h : w_X11_above v0 K μ) (hk : ∀ (r : Int32) (μ1 : qM), K r μ1 → qV Z G nL k n μ1 (pc + 3) L (.int r :: rest)) : qV Z G nL k n μ pc L (.int v0 :: rest) := x_Si [.int v0] rest C (wp := fun K => w_X11_above v0 K μ) (y_X11_above : qY yX11_above cX11_above 1 (some .int) 1 ({ frames := 0, cells := 0, slots := 0, locals := 0 } : Room) 0 0) (qm_46 _ (List.mem_of_getElem? (i := 13) rfl)) (qm_46 _ (List.mem_of_getElem? (i := 12) rfl)) (c_X11_above Z.2.1 G hn ) hR hf rfl rfl hsz hd h hk
theorem b_X11_isUnder_19 {Z : qZ} {G : qG} {v2 : Int32} {μ : qM} {post : Int32 → qM → Prop} (C : qX Z G RX11 cX11_isUnder 3 ({ frames := 1, cells := 0, slots := 0, locals := 20 } : Room) (some .boolean)) (hQ : qQi Z G 0 0 post) (hn : 66 ≤ gn G) (h : q_X11_isUnder_19 post v2 μ) : qV Z G 3 0 0 μ 19 [(2, .int v2)] [] := by
  unfold q_X11_isUnder_19 at h
  refine x_iload_n C 0 dX11_isUnder_19 rfl rfl ?_
  refine x_if_lt C dX11_isUnder_20 (tgt := 27) (by decide) h (fun h => ?_) (fun h => ?_)
  · refine x_iconst C dX11_isUnder_27 (v := 0) (by decide) ?_
    exact x_zret C hQ dX11_isUnder_28 h
  · refine x_iconst C dX11_isUnder_23 (v := 1) (by decide) ?_
    refine x_goto C dX11_isUnder_24 (tgt := 28) (by decide) ?_
    exact x_zret C hQ dX11_isUnder_28 h
theorem b_X11_isUnder_2 {Z : qZ} {G : qG} {v1 : Int32} {v2 : Int32} {μ : qM} {post : Int32 → qM → Prop} (C : qX Z G RX11 cX11_isUnder 3 ({ frames := 1, cells := 0, slots := 0, locals := 20 } : Room) (some .boolean)) (hQ : qQi Z G 0 0 post) (hn : 66 ≤ gn G) (h : q_X11_isUnder_2 v1 post v2 μ) : qV Z G 3 0 0 μ 2 [(1, .int v1), (2, .int v2)] [] := by
  refine h (fun v2 μ => qV Z G 3 0 0 μ 2 [(1, .int v1), (2, .int v2)] []) (fun v2 μ h => ?_)
  refine x_iload_n C 1 dX11_isUnder_2 rfl rfl ?_
  refine x_if_lt C dX11_isUnder_3 (tgt := 19) (by decide) h (fun h => ?_) (fun h => ?_)
  · exact qV_sub [1] rfl (b_X11_isUnder_19 C hQ hn h)
  · refine x_iload_n C 1 dX11_isUnder_6 rfl rfl ?_
    refine x_iload_n C 0 dX11_isUnder_7 rfl rfl ?_
    refine x_icmp_eq C dX11_isUnder_8 (tgt := 19) (by decide) h (fun h => ?_) (fun h => ?_)
    · exact qV_sub [1] rfl (b_X11_isUnder_19 C hQ hn h)
    · refine x_iload_n C 1 dX11_isUnder_11 rfl rfl ?_
      refine i_RX11_83 (rest := []) C hn  rfl (by decide) rfl dX11_isUnder_12 h (fun r12 μ12 h => ?_)
      refine x_istore_n C (L' := [(2, .int r12), (1, .int v1)]) dX11_isUnder_15 rfl (by decide) rfl ?_
      refine x_goto C dX11_isUnder_16 (tgt := 2) (by decide) ?_
      exact qV_sub [1, 0] rfl (h)
theorem y_X11_isUnder : qY yX11_isUnder cX11_isUnder 3 (some .boolean) 2 ({ frames := 1, cells := 0, slots := 0, locals := 20 } : Room) 0 0 := ⟨(qm_46 _ (List.mem_of_getElem? (i := 11) rfl)), (qm_1 _ (List.mem_of_getElem? (i := 5) rfl)), by decide +kernel, by decide +kernel, rfl, rfl⟩
theorem c_X11_isUnder (l : Launch) (G : qG) {v0 : Int32} {v1 : Int32} {μ : qM} (hn : 66 ≤ gn G) : qCi l G yX11_isUnder cX11_isUnder 3 (some .boolean) ({ frames := 1, cells := 0, slots := 0, locals := 20 } : Room) 0 0 [.int v0, .int v1] μ (fun post => w_X11_isUnder v0 v1 post μ) := by
  refine qCi_of (L := [(0, .int v0), (1, .int v1)]) (by decide) rfl rfl ?_
  intro Z post hl C hQ h
  have C : qX Z G RX11 cX11_isUnder 3 ({ frames := 1, cells := 0, slots := 0, locals := 20 } : Room) (some .boolean) := C
  have h : w_X11_isUnder v0 v1 post μ := h
  unfold w_X11_isUnder at h
  refine x_iload_n C 0 dX11_isUnder_0 rfl rfl ?_
  refine x_istore_n C (L' := [(2, .int v0), (0, .int v0), (1, .int v1)]) dX11_isUnder_1 rfl (by decide) rfl ?_
  exact qV_sub [2, 0] rfl (b_X11_isUnder_2 C hQ hn h)
theorem dX11_costs_0 : decode cX11_costs 0 = .ok (.iload_n 0, 1) := by decide +kernel
theorem dX11_costs_1 : decode cX11_costs 1 = .ok (.tableswitch 49 1 6 #[39, 43, 41, 43, 49, 46], 39) := by decide +kernel
theorem dX11_costs_40 : decode cX11_costs 40 = .ok (.iconst 3, 1) := by decide +kernel
theorem dX11_costs_41 : decode cX11_costs 41 = .ok (.ireturn, 1) := by decide +kernel
theorem dX11_costs_42 : decode cX11_costs 42 = .ok (.iconst 4, 1) := by decide +kernel
theorem dX11_costs_43 : decode cX11_costs 43 = .ok (.ireturn, 1) := by decide +kernel
theorem dX11_costs_44 : decode cX11_costs 44 = .ok (.bipush 25, 2) := by decide +kernel
theorem dX11_costs_46 : decode cX11_costs 46 = .ok (.ireturn, 1) := by decide +kernel
theorem dX11_costs_47 : decode cX11_costs 47 = .ok (.bipush 40, 2) := by decide +kernel
theorem dX11_costs_49 : decode cX11_costs 49 = .ok (.ireturn, 1) := by decide +kernel
theorem dX11_costs_50 : decode cX11_costs 50 = .ok (.bipush 10, 2) := by decide +kernel
theorem dX11_costs_52 : decode cX11_costs 52 = .ok (.ireturn, 1) := by decide +kernel
theorem b_X11_costs_50 {Z : qZ} {G : qG} {μ : qM} {post : Int32 → qM → Prop} (C : qX Z G RX11 cX11_costs 1 ({ frames := 0, cells := 0, slots := 0, locals := 0 } : Room) (some .int)) (hQ : qQi Z G 0 0 post) (hn : 66 ≤ gn G) (h : q_X11_costs_50 post μ) : qV Z G 1 0 0 μ 50 [] [] := by
  unfold q_X11_costs_50 at h
  refine x_bipush C dX11_costs_50 (v := 10) (by decide) ?_
  exact x_iret C hQ dX11_costs_52 h
theorem b_X11_costs_44 {Z : qZ} {G : qG} {μ : qM} {post : Int32 → qM → Prop} (C : qX Z G RX11 cX11_costs 1 ({ frames := 0, cells := 0, slots := 0, locals := 0 } : Room) (some .int)) (hQ : qQi Z G 0 0 post) (hn : 66 ≤ gn G) (h : q_X11_costs_44 post μ) : qV Z G 1 0 0 μ 44 [] [] := by
  unfold q_X11_costs_44 at h
  refine x_bipush C dX11_costs_44 (v := 25) (by decide) ?_
  exact x_iret C hQ dX11_costs_46 h
theorem y_X11_costs : qY yX11_costs cX11_costs 1 (some .int) 1 ({ frames := 0, cells := 0, slots := 0, locals := 0 } : Room) 0 0 := ⟨(qm_12 _ (List.mem_of_getElem? (i := 16) rfl)), (qm_1 _ (List.mem_of_getElem? (i := 5) rfl)), by decide +kernel, by decide +kernel, rfl, rfl⟩
theorem c_X11_costs (l : Launch) (G : qG) {v0 : Int32} {μ : qM} (hn : 66 ≤ gn G) : qCi l G yX11_costs cX11_costs 1 (some .int) ({ frames := 0, cells := 0, slots := 0, locals := 0 } : Room) 0 0 [.int v0] μ (fun post => w_X11_costs v0 post μ) := by
  refine qCi_of (L := [(0, .int v0)]) (by decide) rfl rfl ?_
  intro Z post hl C hQ h
  have C : qX Z G RX11 cX11_costs 1 ({ frames := 0, cells := 0, slots := 0, locals := 0 } : Room) (some .int) := C
  have h : w_X11_costs v0 post μ := h
  unfold w_X11_costs at h
  refine x_iload_n C 0 dX11_costs_0 rfl rfl ?_
  by_cases hv1 : v0 = (1 : Int32)
  · have h := h.1 hv1
    refine x_tin C (v := 1) dX11_costs_1 hv1 (by decide) (by decide) rfl (tgt := 40) (by decide) ?_
    refine x_iconst C dX11_costs_40 (v := 3) (by decide) ?_
    exact x_iret C hQ dX11_costs_41 h
  have h := h.2 hv1
  by_cases hv2 : v0 = (2 : Int32)
  · have h := h.1 hv2
    refine x_tin C (v := 2) dX11_costs_1 hv2 (by decide) (by decide) rfl (tgt := 44) (by decide) ?_
    exact qV_sub [] rfl (b_X11_costs_44 C hQ hn h)
  have h := h.2 hv2
  by_cases hv3 : v0 = (3 : Int32)
  · have h := h.1 hv3
    refine x_tin C (v := 3) dX11_costs_1 hv3 (by decide) (by decide) rfl (tgt := 42) (by decide) ?_
    refine x_iconst C dX11_costs_42 (v := 4) (by decide) ?_
    exact x_iret C hQ dX11_costs_43 h
  have h := h.2 hv3
  by_cases hv4 : v0 = (4 : Int32)
  · have h := h.1 hv4
    refine x_tin C (v := 4) dX11_costs_1 hv4 (by decide) (by decide) rfl (tgt := 44) (by decide) ?_
    exact qV_sub [] rfl (b_X11_costs_44 C hQ hn h)
  have h := h.2 hv4
  by_cases hv5 : v0 = (5 : Int32)
  · have h := h.1 hv5
    refine x_tin C (v := 5) dX11_costs_1 hv5 (by decide) (by decide) rfl (tgt := 50) (by decide) ?_
    exact qV_sub [] rfl (b_X11_costs_50 C hQ hn h)
  have h := h.2 hv5
  by_cases hv6 : v0 = (6 : Int32)
  · have h := h.1 hv6
    refine x_tin C (v := 6) dX11_costs_1 hv6 (by decide) (by decide) rfl (tgt := 47) (by decide) ?_
    refine x_bipush C dX11_costs_47 (v := 40) (by decide) ?_
    exact x_iret C hQ dX11_costs_49 h
  have h := h.2 hv6
  refine x_tout C [(1 : Int32), (2 : Int32), (3 : Int32), (4 : Int32), (5 : Int32), (6 : Int32)] (List.forall_mem_cons.mpr ⟨hv1, List.forall_mem_cons.mpr ⟨hv2, List.forall_mem_cons.mpr ⟨hv3, List.forall_mem_cons.mpr ⟨hv4, List.forall_mem_cons.mpr ⟨hv5, List.forall_mem_cons.mpr ⟨hv6, fun _ h => absurd h List.not_mem_nil⟩⟩⟩⟩⟩⟩) dX11_costs_1 (by decide) (tgt := 50) (by decide) ?_
  exact qV_sub [] rfl (b_X11_costs_50 C hQ hn h)
theorem dX11_farOf_0 : decode cX11_farOf 0 = .ok (.iload_n 1, 1) := by decide +kernel
theorem dX11_farOf_1 : decode cX11_farOf 1 = .ok (.bipush 12, 2) := by decide +kernel
theorem dX11_farOf_3 : decode cX11_farOf 3 = .ok (.irem, 1) := by decide +kernel
theorem dX11_farOf_4 : decode cX11_farOf 4 = .ok (.iload_n 2, 1) := by decide +kernel
theorem dX11_farOf_5 : decode cX11_farOf 5 = .ok (.bipush 12, 2) := by decide +kernel
theorem dX11_farOf_7 : decode cX11_farOf 7 = .ok (.irem, 1) := by decide +kernel
theorem dX11_farOf_8 : decode cX11_farOf 8 = .ok (.isub, 1) := by decide +kernel
theorem dX11_farOf_9 : decode cX11_farOf 9 = .ok (.invokestatic 87, 3) := by decide +kernel
theorem dX11_farOf_12 : decode cX11_farOf 12 = .ok (.istore_n 3, 1) := by decide +kernel
theorem dX11_farOf_13 : decode cX11_farOf 13 = .ok (.iload_n 1, 1) := by decide +kernel
theorem dX11_farOf_14 : decode cX11_farOf 14 = .ok (.bipush 12, 2) := by decide +kernel
theorem dX11_farOf_16 : decode cX11_farOf 16 = .ok (.idiv, 1) := by decide +kernel
theorem dX11_farOf_17 : decode cX11_farOf 17 = .ok (.iload_n 2, 1) := by decide +kernel
theorem dX11_farOf_18 : decode cX11_farOf 18 = .ok (.bipush 12, 2) := by decide +kernel
theorem dX11_farOf_20 : decode cX11_farOf 20 = .ok (.idiv, 1) := by decide +kernel
theorem dX11_farOf_21 : decode cX11_farOf 21 = .ok (.isub, 1) := by decide +kernel
theorem dX11_farOf_22 : decode cX11_farOf 22 = .ok (.invokestatic 87, 3) := by decide +kernel
theorem dX11_farOf_25 : decode cX11_farOf 25 = .ok (.istore 4, 2) := by decide +kernel
theorem dX11_farOf_27 : decode cX11_farOf 27 = .ok (.iload_n 0, 1) := by decide +kernel
theorem dX11_farOf_28 : decode cX11_farOf 28 = .ok (.tableswitch 62 4 6 #[50, 28, 38], 28) := by decide +kernel
theorem dX11_farOf_56 : decode cX11_farOf 56 = .ok (.iload_n 3, 1) := by decide +kernel
theorem dX11_farOf_57 : decode cX11_farOf 57 = .ok (.iload 4, 2) := by decide +kernel
theorem dX11_farOf_59 : decode cX11_farOf 59 = .ok (.iadd, 1) := by decide +kernel
theorem dX11_farOf_60 : decode cX11_farOf 60 = .ok (.iload_n 3, 1) := by decide +kernel
theorem dX11_farOf_61 : decode cX11_farOf 61 = .ok (.iload 4, 2) := by decide +kernel
theorem dX11_farOf_63 : decode cX11_farOf 63 = .ok (.iadd, 1) := by decide +kernel
theorem dX11_farOf_64 : decode cX11_farOf 64 = .ok (.imul, 1) := by decide +kernel
theorem dX11_farOf_65 : decode cX11_farOf 65 = .ok (.ireturn, 1) := by decide +kernel
theorem dX11_farOf_66 : decode cX11_farOf 66 = .ok (.iload_n 3, 1) := by decide +kernel
theorem dX11_farOf_67 : decode cX11_farOf 67 = .ok (.iload 4, 2) := by decide +kernel
theorem dX11_farOf_69 : decode cX11_farOf 69 = .ok (.iadd, 1) := by decide +kernel
theorem dX11_farOf_70 : decode cX11_farOf 70 = .ok (.iload_n 3, 1) := by decide +kernel
theorem dX11_farOf_71 : decode cX11_farOf 71 = .ok (.iload 4, 2) := by decide +kernel
theorem dX11_farOf_73 : decode cX11_farOf 73 = .ok (.iadd, 1) := by decide +kernel
theorem dX11_farOf_74 : decode cX11_farOf 74 = .ok (.imul, 1) := by decide +kernel
theorem dX11_farOf_75 : decode cX11_farOf 75 = .ok (.iconst 1, 1) := by decide +kernel
theorem dX11_farOf_76 : decode cX11_farOf 76 = .ok (.isub, 1) := by decide +kernel
theorem dX11_farOf_77 : decode cX11_farOf 77 = .ok (.ireturn, 1) := by decide +kernel
theorem dX11_farOf_78 : decode cX11_farOf 78 = .ok (.iload_n 3, 1) := by decide +kernel
theorem dX11_farOf_79 : decode cX11_farOf 79 = .ok (.iload_n 3, 1) := by decide +kernel
theorem dX11_farOf_80 : decode cX11_farOf 80 = .ok (.imul, 1) := by decide +kernel
theorem dX11_farOf_81 : decode cX11_farOf 81 = .ok (.iload 4, 2) := by decide +kernel
theorem dX11_farOf_83 : decode cX11_farOf 83 = .ok (.iload 4, 2) := by decide +kernel
theorem dX11_farOf_85 : decode cX11_farOf 85 = .ok (.imul, 1) := by decide +kernel
theorem dX11_farOf_86 : decode cX11_farOf 86 = .ok (.iadd, 1) := by decide +kernel
theorem dX11_farOf_87 : decode cX11_farOf 87 = .ok (.iconst 1, 1) := by decide +kernel
theorem dX11_farOf_88 : decode cX11_farOf 88 = .ok (.iadd, 1) := by decide +kernel
theorem dX11_farOf_89 : decode cX11_farOf 89 = .ok (.ireturn, 1) := by decide +kernel
theorem dX11_farOf_90 : decode cX11_farOf 90 = .ok (.iload_n 3, 1) := by decide +kernel
theorem dX11_farOf_91 : decode cX11_farOf 91 = .ok (.iload_n 3, 1) := by decide +kernel
theorem dX11_farOf_92 : decode cX11_farOf 92 = .ok (.imul, 1) := by decide +kernel
theorem dX11_farOf_93 : decode cX11_farOf 93 = .ok (.iload 4, 2) := by decide +kernel
theorem dX11_farOf_95 : decode cX11_farOf 95 = .ok (.iload 4, 2) := by decide +kernel
theorem dX11_farOf_97 : decode cX11_farOf 97 = .ok (.imul, 1) := by decide +kernel
theorem dX11_farOf_98 : decode cX11_farOf 98 = .ok (.iadd, 1) := by decide +kernel
theorem dX11_farOf_99 : decode cX11_farOf 99 = .ok (.ireturn, 1) := by decide +kernel
theorem y_X11_farOf : qY yX11_farOf cX11_farOf 5 (some .int) 3 ({ frames := 1, cells := 0, slots := 0, locals := 21 } : Room) 0 0 := ⟨(qm_12 _ (List.mem_of_getElem? (i := 1) rfl)), (qm_1 _ (List.mem_of_getElem? (i := 5) rfl)), by decide +kernel, by decide +kernel, rfl, rfl⟩
theorem c_X11_farOf (l : Launch) (G : qG) {v0 : Int32} {v1 : Int32} {v2 : Int32} {μ : qM} (hn : 66 ≤ gn G) : qCi l G yX11_farOf cX11_farOf 5 (some .int) ({ frames := 1, cells := 0, slots := 0, locals := 21 } : Room) 0 0 [.int v0, .int v1, .int v2] μ (fun post => w_X11_farOf v0 v1 v2 post μ) := by
  refine qCi_of (L := [(0, .int v0), (1, .int v1), (2, .int v2)]) (by decide) rfl rfl ?_
  intro Z post hl C hQ h
  have C : qX Z G RX11 cX11_farOf 5 ({ frames := 1, cells := 0, slots := 0, locals := 21 } : Room) (some .int) := C
  have h : w_X11_farOf v0 v1 v2 post μ := h
  unfold w_X11_farOf at h
  refine x_iload_n C 1 dX11_farOf_0 rfl rfl ?_
  refine x_bipush C dX11_farOf_1 (v := 12) (by decide) ?_
  refine x_irem C dX11_farOf_3 h (fun h => ?_)
  refine x_iload_n C 2 dX11_farOf_4 rfl rfl ?_
  refine x_bipush C dX11_farOf_5 (v := 12) (by decide) ?_
  refine x_irem C dX11_farOf_7 h (fun h => ?_)
  refine x_isub C dX11_farOf_8 ?_
  refine x_abs C (qm_12 _ (List.mem_of_getElem? (i := 2) rfl)) rfl rfl dX11_farOf_9 (by decide) ?_
  refine x_name (fun x12 hx12 => ?_)
  have h := h x12 hx12
  refine x_istore_n C (L' := [(3, .int x12), (0, .int v0), (1, .int v1), (2, .int v2)]) dX11_farOf_12 rfl (by decide) rfl ?_
  refine x_iload_n C 2 dX11_farOf_13 rfl rfl ?_
  refine x_bipush C dX11_farOf_14 (v := 12) (by decide) ?_
  refine x_idiv C dX11_farOf_16 h (fun h => ?_)
  refine x_iload_n C 3 dX11_farOf_17 rfl rfl ?_
  refine x_bipush C dX11_farOf_18 (v := 12) (by decide) ?_
  refine x_idiv C dX11_farOf_20 h (fun h => ?_)
  refine x_isub C dX11_farOf_21 ?_
  refine x_abs C (qm_12 _ (List.mem_of_getElem? (i := 2) rfl)) rfl rfl dX11_farOf_22 (by decide) ?_
  refine x_name (fun x25 hx25 => ?_)
  have h := h x25 hx25
  refine x_istore C (L' := [(4, .int x25), (3, .int x12), (0, .int v0), (1, .int v1), (2, .int v2)]) dX11_farOf_25 (by decide) rfl ?_
  refine x_iload_n C 2 dX11_farOf_27 rfl rfl ?_
  by_cases hv4 : v0 = (4 : Int32)
  · have h := h.1 hv4
    refine x_tin C (v := 4) dX11_farOf_28 hv4 (by decide) (by decide) rfl (tgt := 78) (by decide) ?_
    refine x_iload_n C 1 dX11_farOf_78 rfl rfl ?_
    refine x_iload_n C 1 dX11_farOf_79 rfl rfl ?_
    refine x_imul C dX11_farOf_80 ?_
    refine x_iload C 0 dX11_farOf_81 rfl ?_
    refine x_iload C 0 dX11_farOf_83 rfl ?_
    refine x_imul C dX11_farOf_85 ?_
    refine x_iadd C dX11_farOf_86 ?_
    refine x_iconst C dX11_farOf_87 (v := 1) (by decide) ?_
    refine x_iadd C dX11_farOf_88 ?_
    exact x_iret C hQ dX11_farOf_89 h
  have h := h.2 hv4
  by_cases hv5 : v0 = (5 : Int32)
  · have h := h.1 hv5
    refine x_tin C (v := 5) dX11_farOf_28 hv5 (by decide) (by decide) rfl (tgt := 56) (by decide) ?_
    refine x_iload_n C 1 dX11_farOf_56 rfl rfl ?_
    refine x_iload C 0 dX11_farOf_57 rfl ?_
    refine x_iadd C dX11_farOf_59 ?_
    refine x_iload_n C 1 dX11_farOf_60 rfl rfl ?_
    refine x_iload C 0 dX11_farOf_61 rfl ?_
    refine x_iadd C dX11_farOf_63 ?_
    refine x_imul C dX11_farOf_64 ?_
    exact x_iret C hQ dX11_farOf_65 h
  have h := h.2 hv5
  by_cases hv6 : v0 = (6 : Int32)
  · have h := h.1 hv6
    refine x_tin C (v := 6) dX11_farOf_28 hv6 (by decide) (by decide) rfl (tgt := 66) (by decide) ?_
    refine x_iload_n C 1 dX11_farOf_66 rfl rfl ?_
    refine x_iload C 0 dX11_farOf_67 rfl ?_
    refine x_iadd C dX11_farOf_69 ?_
    refine x_iload_n C 1 dX11_farOf_70 rfl rfl ?_
    refine x_iload C 0 dX11_farOf_71 rfl ?_
    refine x_iadd C dX11_farOf_73 ?_
    refine x_imul C dX11_farOf_74 ?_
    refine x_iconst C dX11_farOf_75 (v := 1) (by decide) ?_
    refine x_isub C dX11_farOf_76 ?_
    exact x_iret C hQ dX11_farOf_77 h
  have h := h.2 hv6
  refine x_tout C [(4 : Int32), (5 : Int32), (6 : Int32)] (List.forall_mem_cons.mpr ⟨hv4, List.forall_mem_cons.mpr ⟨hv5, List.forall_mem_cons.mpr ⟨hv6, fun _ h => absurd h List.not_mem_nil⟩⟩⟩) dX11_farOf_28 (by decide) (tgt := 90) (by decide) ?_
  refine x_iload_n C 1 dX11_farOf_90 rfl rfl ?_
  refine x_iload_n C 1 dX11_farOf_91 rfl rfl ?_
  refine x_imul C dX11_farOf_92 ?_
  refine x_iload C 0 dX11_farOf_93 rfl ?_
  refine x_iload C 0 dX11_farOf_95 rfl ?_
  refine x_imul C dX11_farOf_97 ?_
  refine x_iadd C dX11_farOf_98 ?_
  exact x_iret C hQ dX11_farOf_99 h
theorem dX11_counts_0 : decode cX11_counts 0 = .ok (.aload_n 0, 1) := by decide +kernel
theorem dX11_counts_1 : decode cX11_counts 1 = .ok (.getfield 9, 3) := by decide +kernel
theorem dX11_counts_4 : decode cX11_counts 4 = .ok (.iload_n 1, 1) := by decide +kernel
theorem dX11_counts_5 : decode cX11_counts 5 = .ok (.iaload, 1) := by decide +kernel
theorem dX11_counts_6 : decode cX11_counts 6 = .ok (.tableswitch 90 1 4 #[30, 58, 56, 58], 30) := by decide +kernel
theorem dX11_counts_36 : decode cX11_counts 36 = .ok (.aload_n 0, 1) := by decide +kernel
theorem dX11_counts_37 : decode cX11_counts 37 = .ok (.getfield 9, 3) := by decide +kernel
theorem dX11_counts_40 : decode cX11_counts 40 = .ok (.iload_n 2, 1) := by decide +kernel
theorem dX11_counts_41 : decode cX11_counts 41 = .ok (.iaload, 1) := by decide +kernel
theorem dX11_counts_42 : decode cX11_counts 42 = .ok (.iconst 1, 1) := by decide +kernel
theorem dX11_counts_43 : decode cX11_counts 43 = .ok (.if_icmp .eq 17, 3) := by decide +kernel
theorem dX11_counts_46 : decode cX11_counts 46 = .ok (.aload_n 0, 1) := by decide +kernel
theorem dX11_counts_47 : decode cX11_counts 47 = .ok (.getfield 9, 3) := by decide +kernel
theorem dX11_counts_50 : decode cX11_counts 50 = .ok (.iload_n 2, 1) := by decide +kernel
theorem dX11_counts_51 : decode cX11_counts 51 = .ok (.iaload, 1) := by decide +kernel
theorem dX11_counts_52 : decode cX11_counts 52 = .ok (.iconst 3, 1) := by decide +kernel
theorem dX11_counts_53 : decode cX11_counts 53 = .ok (.if_icmp .eq 7, 3) := by decide +kernel
theorem dX11_counts_56 : decode cX11_counts 56 = .ok (.iconst 1, 1) := by decide +kernel
theorem dX11_counts_57 : decode cX11_counts 57 = .ok (.goto 4, 3) := by decide +kernel
theorem dX11_counts_60 : decode cX11_counts 60 = .ok (.iconst 0, 1) := by decide +kernel
theorem dX11_counts_61 : decode cX11_counts 61 = .ok (.ireturn, 1) := by decide +kernel
theorem dX11_counts_62 : decode cX11_counts 62 = .ok (.iconst 0, 1) := by decide +kernel
theorem dX11_counts_63 : decode cX11_counts 63 = .ok (.ireturn, 1) := by decide +kernel
theorem dX11_counts_64 : decode cX11_counts 64 = .ok (.aload_n 0, 1) := by decide +kernel
theorem dX11_counts_65 : decode cX11_counts 65 = .ok (.getfield 9, 3) := by decide +kernel
theorem dX11_counts_68 : decode cX11_counts 68 = .ok (.iload_n 2, 1) := by decide +kernel
theorem dX11_counts_69 : decode cX11_counts 69 = .ok (.iaload, 1) := by decide +kernel
theorem dX11_counts_70 : decode cX11_counts 70 = .ok (.aload_n 0, 1) := by decide +kernel
theorem dX11_counts_71 : decode cX11_counts 71 = .ok (.getfield 13, 3) := by decide +kernel
theorem dX11_counts_74 : decode cX11_counts 74 = .ok (.iload_n 2, 1) := by decide +kernel
theorem dX11_counts_75 : decode cX11_counts 75 = .ok (.iaload, 1) := by decide +kernel
theorem dX11_counts_76 : decode cX11_counts 76 = .ok (.aload_n 0, 1) := by decide +kernel
theorem dX11_counts_77 : decode cX11_counts 77 = .ok (.getfield 13, 3) := by decide +kernel
theorem dX11_counts_80 : decode cX11_counts 80 = .ok (.iload_n 1, 1) := by decide +kernel
theorem dX11_counts_81 : decode cX11_counts 81 = .ok (.iaload, 1) := by decide +kernel
theorem dX11_counts_82 : decode cX11_counts 82 = .ok (.invokestatic 92, 3) := by decide +kernel
theorem dX11_counts_85 : decode cX11_counts 85 = .ok (.bipush 64, 2) := by decide +kernel
theorem dX11_counts_87 : decode cX11_counts 87 = .ok (.if_icmp .gt 7, 3) := by decide +kernel
theorem dX11_counts_90 : decode cX11_counts 90 = .ok (.iconst 1, 1) := by decide +kernel
theorem dX11_counts_91 : decode cX11_counts 91 = .ok (.goto 4, 3) := by decide +kernel
theorem dX11_counts_94 : decode cX11_counts 94 = .ok (.iconst 0, 1) := by decide +kernel
theorem dX11_counts_95 : decode cX11_counts 95 = .ok (.ireturn, 1) := by decide +kernel
theorem dX11_counts_96 : decode cX11_counts 96 = .ok (.iconst 1, 1) := by decide +kernel
theorem dX11_counts_97 : decode cX11_counts 97 = .ok (.ireturn, 1) := by decide +kernel
theorem i_RX11_92 {Z : qZ} {G : qG} {cc : ByteArray} {nL k n : Nat} {rm : Room} {ret : Option FieldType} {μ : qM} {pc : Nat} {L : List (Nat × Value)} {rest : List Value} {K : Int32 → qM → Prop} {v0 : Int32} {v1 : Int32} {v2 : Int32} (C : qX Z G RX11 cc nL rm ret) (hn : 66 ≤ gn G) (hR : (Nat.ble (1 + 1) rm.frames && Nat.ble (8 + (5 + 11) + 21) rm.locals) = true) (hf : k + 0 ≤ rm.cells ∧ n + 0 ≤ rm.slots) (hsz : Nat.ble (rest.map fun v => v.category).sum 8 = true) (hd : decode cc pc = .ok (.invokestatic 92, 3)) (h : w_X11_farOf v0 v1 v2 K μ) (hk : ∀ (r : Int32) (μ1 : qM), K r μ1 → qV Z G nL k n μ1 (pc + 3) L (.int r :: rest)) : qV Z G nL k n μ pc L (.int v2 :: .int v1 :: .int v0 :: rest) := x_Si [.int v0, .int v1, .int v2] rest C (wp := fun K => w_X11_farOf v0 v1 v2 K μ) (y_X11_farOf : qY yX11_farOf cX11_farOf 5 (some .int) 3 ({ frames := 1, cells := 0, slots := 0, locals := 21 } : Room) 0 0) (qm_12 _ (List.mem_of_getElem? (i := 0) rfl)) (qm_11 _ (List.mem_of_getElem? (i := 23) rfl)) (c_X11_farOf Z.2.1 G hn ) hR hf rfl rfl hsz hd h hk
theorem g_RX11_9 {Z : qZ} {G : qG} {cc : ByteArray} {nL k n : Nat} {rm : Room} {ret : Option FieldType} {μ : qM} {pc : Nat} {L : List (Nat × Value)} {st : List Value} (C : qX Z G RX11 cc nL rm ret) (hn : 66 ≤ gn G) (hd : decode cc pc = .ok (.getfield 9, 3)) (h : qV Z G nL k n μ (pc + 3) L (.ref (ga G 47) :: st)) : qV Z G nL k n μ pc L (.ref (ga G 46) :: st) := x_getr C 46 10 1 1 47 (C0 := RX11) (fn := "kind") (fd := "[I") (Nat.lt_of_lt_of_le (by decide) hn) rfl (by decide) rfl (by decide) rfl inlX11 (qm_5 _ (List.mem_of_getElem? (i := 15) rfl)) rfl rfl rfl hd h
theorem g_RX11_13 {Z : qZ} {G : qG} {cc : ByteArray} {nL k n : Nat} {rm : Room} {ret : Option FieldType} {μ : qM} {pc : Nat} {L : List (Nat × Value)} {st : List Value} (C : qX Z G RX11 cc nL rm ret) (hn : 66 ≤ gn G) (hd : decode cc pc = .ok (.getfield 13, 3)) (h : qV Z G nL k n μ (pc + 3) L (.ref (ga G 48) :: st)) : qV Z G nL k n μ pc L (.ref (ga G 46) :: st) := x_getr C 46 10 2 2 48 (C0 := RX11) (fn := "lot") (fd := "[I") (Nat.lt_of_lt_of_le (by decide) hn) rfl (by decide) rfl (by decide) rfl inlX11 (qm_5 _ (List.mem_of_getElem? (i := 16) rfl)) rfl rfl rfl hd h
theorem b_X11_counts_60 {Z : qZ} {G : qG} {μ : qM} {post : Int32 → qM → Prop} (C : qX Z G RX11 cX11_counts 3 ({ frames := 2, cells := 0, slots := 0, locals := 45 } : Room) (some .boolean)) (hQ : qQi Z G 0 0 post) (hn : 66 ≤ gn G) (h : q_X11_counts_60 post μ) : qV Z G 3 0 0 μ 60 [] [] := by
  unfold q_X11_counts_60 at h
  refine x_iconst C dX11_counts_60 (v := 0) (by decide) ?_
  exact x_zret C hQ dX11_counts_61 h
theorem b_X11_counts_64 {Z : qZ} {G : qG} {v1 : Int32} {v2 : Int32} {μ : qM} {post : Int32 → qM → Prop} (C : qX Z G RX11 cX11_counts 3 ({ frames := 2, cells := 0, slots := 0, locals := 45 } : Room) (some .boolean)) (hQ : qQi Z G 0 0 post) (hn : 66 ≤ gn G) (h : q_X11_counts_64 post v1 v2 μ) : qV Z G 3 0 0 μ 64 [(0, .ref (ga G 46)), (1, .int v1), (2, .int v2)] [] := by
  unfold q_X11_counts_64 at h
  refine x_aload_n C 0 dX11_counts_64 rfl rfl ?_
  refine g_RX11_9 C hn dX11_counts_65 ?_
  refine x_iload_n C 2 dX11_counts_68 rfl rfl ?_
  refine x_iald C 47 19 154 (q_lt rfl rfl hn) rfl rfl rfl rfl rfl dX11_counts_69 h (fun h => ?_)
  refine x_aload_n C 0 dX11_counts_70 rfl rfl ?_
  refine g_RX11_13 C hn dX11_counts_71 ?_
  refine x_iload_n C 2 dX11_counts_74 rfl rfl ?_
  refine x_iald C 48 19 154 (q_lt rfl rfl hn) rfl rfl rfl rfl rfl dX11_counts_75 h (fun h => ?_)
  refine x_aload_n C 0 dX11_counts_76 rfl rfl ?_
  refine g_RX11_13 C hn dX11_counts_77 ?_
  refine x_iload_n C 1 dX11_counts_80 rfl rfl ?_
  refine x_iald C 48 19 154 (q_lt rfl rfl hn) rfl rfl rfl rfl rfl dX11_counts_81 h (fun h => ?_)
  refine i_RX11_92 (rest := []) C hn  rfl (by decide) rfl dX11_counts_82 h (fun r82 μ82 h => ?_)
  refine x_bipush C dX11_counts_85 (v := 64) (by decide) ?_
  refine x_icmp_gt C dX11_counts_87 (tgt := 94) (by decide) h (fun h => ?_) (fun h => ?_)
  · refine x_iconst C dX11_counts_94 (v := 0) (by decide) ?_
    exact x_zret C hQ dX11_counts_95 h
  · refine x_iconst C dX11_counts_90 (v := 1) (by decide) ?_
    refine x_goto C dX11_counts_91 (tgt := 95) (by decide) ?_
    exact x_zret C hQ dX11_counts_95 h
theorem y_X11_counts : qY yX11_counts cX11_counts 3 (some .boolean) 2 ({ frames := 2, cells := 0, slots := 0, locals := 45 } : Room) 0 0 := ⟨(qm_12 _ (List.mem_of_getElem? (i := 13) rfl)), (qm_1 _ (List.mem_of_getElem? (i := 5) rfl)), by decide +kernel, by decide +kernel, rfl, rfl⟩
theorem c_X11_counts (l : Launch) (G : qG) {v1 : Int32} {v2 : Int32} {μ : qM} (hn : 66 ≤ gn G) : qCi l G yX11_counts cX11_counts 3 (some .boolean) ({ frames := 2, cells := 0, slots := 0, locals := 45 } : Room) 0 0 [.ref (ga G 46), .int v1, .int v2] μ (fun post => w_X11_counts v1 v2 post μ) := by
  refine qCi_of (L := [(0, .ref (ga G 46)), (1, .int v1), (2, .int v2)]) (by decide) rfl rfl ?_
  intro Z post hl C hQ h
  have C : qX Z G RX11 cX11_counts 3 ({ frames := 2, cells := 0, slots := 0, locals := 45 } : Room) (some .boolean) := C
  have h : w_X11_counts v1 v2 post μ := h
  unfold w_X11_counts at h
  refine x_aload_n C 0 dX11_counts_0 rfl rfl ?_
  refine g_RX11_9 C hn dX11_counts_1 ?_
  refine x_iload_n C 1 dX11_counts_4 rfl rfl ?_
  refine x_iald C 47 19 154 (q_lt rfl rfl hn) rfl rfl rfl rfl rfl dX11_counts_5 h (fun h => ?_)
  by_cases hv1 : (μ 47 v1.toNatClampNeg) = (1 : Int32)
  · have h := h.1 hv1
    refine x_tin C (v := 1) dX11_counts_6 hv1 (by decide) (by decide) rfl (tgt := 36) (by decide) ?_
    refine x_aload_n C 0 dX11_counts_36 rfl rfl ?_
    refine g_RX11_9 C hn dX11_counts_37 ?_
    refine x_iload_n C 2 dX11_counts_40 rfl rfl ?_
    refine x_iald C 47 19 154 (q_lt rfl rfl hn) rfl rfl rfl rfl rfl dX11_counts_41 h (fun h => ?_)
    refine x_iconst C dX11_counts_42 (v := 1) (by decide) ?_
    refine x_icmp_eq C dX11_counts_43 (tgt := 60) (by decide) h (fun h => ?_) (fun h => ?_)
    · exact qV_sub [] rfl (b_X11_counts_60 C hQ hn h)
    · refine x_aload_n C 0 dX11_counts_46 rfl rfl ?_
      refine g_RX11_9 C hn dX11_counts_47 ?_
      refine x_iload_n C 2 dX11_counts_50 rfl rfl ?_
      refine x_iald C 47 19 154 (q_lt rfl rfl hn) rfl rfl rfl rfl rfl dX11_counts_51 h (fun h => ?_)
      refine x_iconst C dX11_counts_52 (v := 3) (by decide) ?_
      refine x_icmp_eq C dX11_counts_53 (tgt := 60) (by decide) h (fun h => ?_) (fun h => ?_)
      · exact qV_sub [] rfl (b_X11_counts_60 C hQ hn h)
      · refine x_iconst C dX11_counts_56 (v := 1) (by decide) ?_
        refine x_goto C dX11_counts_57 (tgt := 61) (by decide) ?_
        exact x_zret C hQ dX11_counts_61 h
  have h := h.2 hv1
  by_cases hv2 : (μ 47 v1.toNatClampNeg) = (2 : Int32)
  · have h := h.1 hv2
    refine x_tin C (v := 2) dX11_counts_6 hv2 (by decide) (by decide) rfl (tgt := 64) (by decide) ?_
    exact b_X11_counts_64 C hQ hn h
  have h := h.2 hv2
  by_cases hv3 : (μ 47 v1.toNatClampNeg) = (3 : Int32)
  · have h := h.1 hv3
    refine x_tin C (v := 3) dX11_counts_6 hv3 (by decide) (by decide) rfl (tgt := 62) (by decide) ?_
    refine x_iconst C dX11_counts_62 (v := 0) (by decide) ?_
    exact x_zret C hQ dX11_counts_63 h
  have h := h.2 hv3
  by_cases hv4 : (μ 47 v1.toNatClampNeg) = (4 : Int32)
  · have h := h.1 hv4
    refine x_tin C (v := 4) dX11_counts_6 hv4 (by decide) (by decide) rfl (tgt := 64) (by decide) ?_
    exact b_X11_counts_64 C hQ hn h
  have h := h.2 hv4
  refine x_tout C [(1 : Int32), (2 : Int32), (3 : Int32), (4 : Int32)] (List.forall_mem_cons.mpr ⟨hv1, List.forall_mem_cons.mpr ⟨hv2, List.forall_mem_cons.mpr ⟨hv3, List.forall_mem_cons.mpr ⟨hv4, fun _ h => absurd h List.not_mem_nil⟩⟩⟩⟩) dX11_counts_6 (by decide) (tgt := 96) (by decide) ?_
  refine x_iconst C dX11_counts_96 (v := 1) (by decide) ?_
  exact x_zret C hQ dX11_counts_97 h
theorem dX11_arePair_0 : decode cX11_arePair 0 = .ok (.iload_n 1, 1) := by decide +kernel
theorem dX11_arePair_1 : decode cX11_arePair 1 = .ok (.iload_n 2, 1) := by decide +kernel
theorem dX11_arePair_2 : decode cX11_arePair 2 = .ok (.if_icmp .eq 25, 3) := by decide +kernel
theorem dX11_arePair_5 : decode cX11_arePair 5 = .ok (.aload_n 0, 1) := by decide +kernel
theorem dX11_arePair_6 : decode cX11_arePair 6 = .ok (.iload_n 1, 1) := by decide +kernel
theorem dX11_arePair_7 : decode cX11_arePair 7 = .ok (.iload_n 2, 1) := by decide +kernel
theorem dX11_arePair_8 : decode cX11_arePair 8 = .ok (.invokevirtual 96, 3) := by decide +kernel
theorem dX11_arePair_11 : decode cX11_arePair 11 = .ok (.ifCond .eq 16, 3) := by decide +kernel
theorem dX11_arePair_14 : decode cX11_arePair 14 = .ok (.aload_n 0, 1) := by decide +kernel
theorem dX11_arePair_15 : decode cX11_arePair 15 = .ok (.iload_n 2, 1) := by decide +kernel
theorem dX11_arePair_16 : decode cX11_arePair 16 = .ok (.iload_n 1, 1) := by decide +kernel
theorem dX11_arePair_17 : decode cX11_arePair 17 = .ok (.invokevirtual 96, 3) := by decide +kernel
theorem dX11_arePair_20 : decode cX11_arePair 20 = .ok (.ifCond .eq 7, 3) := by decide +kernel
theorem dX11_arePair_23 : decode cX11_arePair 23 = .ok (.iconst 1, 1) := by decide +kernel
theorem dX11_arePair_24 : decode cX11_arePair 24 = .ok (.goto 4, 3) := by decide +kernel
theorem dX11_arePair_27 : decode cX11_arePair 27 = .ok (.iconst 0, 1) := by decide +kernel
theorem dX11_arePair_28 : decode cX11_arePair 28 = .ok (.ireturn, 1) := by decide +kernel
theorem i_RX11_96 {Z : qZ} {G : qG} {cc : ByteArray} {nL k n : Nat} {rm : Room} {ret : Option FieldType} {μ : qM} {pc : Nat} {L : List (Nat × Value)} {rest : List Value} {K : Int32 → qM → Prop} {v1 : Int32} {v2 : Int32} (C : qX Z G RX11 cc nL rm ret) (hn : 66 ≤ gn G) (hR : (Nat.ble (2 + 1) rm.frames && Nat.ble (8 + (3 + 11) + 45) rm.locals) = true) (hf : k + 0 ≤ rm.cells ∧ n + 0 ≤ rm.slots) (hsz : Nat.ble (rest.map fun v => v.category).sum 8 = true) (hd : decode cc pc = .ok (.invokevirtual 96, 3)) (h : w_X11_counts v1 v2 K μ) (hk : ∀ (r : Int32) (μ1 : qM), K r μ1 → qV Z G nL k n μ1 (pc + 3) L (.int r :: rest)) : qV Z G nL k n μ pc L (.int v2 :: .int v1 :: .ref (ga G 46) :: rest) := x_Vi [.int v1, .int v2] rest C 46 10 (wp := fun K => w_X11_counts v1 v2 K μ) (y_X11_counts : qY yX11_counts cX11_counts 3 (some .boolean) 2 ({ frames := 2, cells := 0, slots := 0, locals := 45 } : Room) 0 0) (qm_12 _ (List.mem_of_getElem? (i := 11) rfl)) (qm_12 _ (List.mem_of_getElem? (i := 12) rfl)) (qm_12 _ (List.mem_of_getElem? (i := 10) rfl)) (c_X11_counts Z.2.1 G hn ) (Nat.lt_of_lt_of_le (by decide) hn) rfl (by decide) rfl rfl hR hf rfl rfl hsz hd h hk
theorem b_X11_arePair_27 {Z : qZ} {G : qG} {μ : qM} {post : Int32 → qM → Prop} (C : qX Z G RX11 cX11_arePair 3 ({ frames := 3, cells := 0, slots := 0, locals := 67 } : Room) (some .boolean)) (hQ : qQi Z G 0 0 post) (hn : 66 ≤ gn G) (h : q_X11_arePair_27 post μ) : qV Z G 3 0 0 μ 27 [] [] := by
  unfold q_X11_arePair_27 at h
  refine x_iconst C dX11_arePair_27 (v := 0) (by decide) ?_
  exact x_zret C hQ dX11_arePair_28 h
theorem y_X11_arePair : qY yX11_arePair cX11_arePair 3 (some .boolean) 2 ({ frames := 3, cells := 0, slots := 0, locals := 67 } : Room) 0 0 := ⟨(qm_12 _ (List.mem_of_getElem? (i := 9) rfl)), (qm_1 _ (List.mem_of_getElem? (i := 5) rfl)), by decide +kernel, by decide +kernel, rfl, rfl⟩
theorem c_X11_arePair (l : Launch) (G : qG) {v1 : Int32} {v2 : Int32} {μ : qM} (hn : 66 ≤ gn G) : qCi l G yX11_arePair cX11_arePair 3 (some .boolean) ({ frames := 3, cells := 0, slots := 0, locals := 67 } : Room) 0 0 [.ref (ga G 46), .int v1, .int v2] μ (fun post => w_X11_arePair v1 v2 post μ) := by
  refine qCi_of (L := [(0, .ref (ga G 46)), (1, .int v1), (2, .int v2)]) (by decide) rfl rfl ?_
  intro Z post hl C hQ h
  have C : qX Z G RX11 cX11_arePair 3 ({ frames := 3, cells := 0, slots := 0, locals := 67 } : Room) (some .boolean) := C
  have h : w_X11_arePair v1 v2 post μ := h
  unfold w_X11_arePair at h
  refine x_iload_n C 1 dX11_arePair_0 rfl rfl ?_
  refine x_iload_n C 2 dX11_arePair_1 rfl rfl ?_
  refine x_icmp_eq C dX11_arePair_2 (tgt := 27) (by decide) h (fun h => ?_) (fun h => ?_)
  · exact qV_sub [] rfl (b_X11_arePair_27 C hQ hn h)
  · refine x_aload_n C 0 dX11_arePair_5 rfl rfl ?_
    refine x_iload_n C 1 dX11_arePair_6 rfl rfl ?_
    refine x_iload_n C 2 dX11_arePair_7 rfl rfl ?_
    refine i_RX11_96 (rest := []) C hn  rfl (by decide) rfl dX11_arePair_8 h (fun r8 μ8 h => ?_)
    refine x_if_eq C dX11_arePair_11 (tgt := 27) (by decide) h (fun h => ?_) (fun h => ?_)
    · exact qV_sub [] rfl (b_X11_arePair_27 C hQ hn h)
    · refine x_aload_n C 0 dX11_arePair_14 rfl rfl ?_
      refine x_iload_n C 2 dX11_arePair_15 rfl rfl ?_
      refine x_iload_n C 1 dX11_arePair_16 rfl rfl ?_
      refine i_RX11_96 (rest := []) C hn  rfl (by decide) rfl dX11_arePair_17 h (fun r17 μ17 h => ?_)
      refine x_if_eq C dX11_arePair_20 (tgt := 27) (by decide) h (fun h => ?_) (fun h => ?_)
      · exact qV_sub [] rfl (b_X11_arePair_27 C hQ hn h)
      · refine x_iconst C dX11_arePair_23 (v := 1) (by decide) ?_
        refine x_goto C dX11_arePair_24 (tgt := 28) (by decide) ?_
        exact x_zret C hQ dX11_arePair_28 h
theorem dX11_houseOn_0 : decode cX11_houseOn 0 = .ok (.aload_n 0, 1) := by decide +kernel
theorem dX11_houseOn_1 : decode cX11_houseOn 1 = .ok (.getfield 76, 3) := by decide +kernel
theorem dX11_houseOn_4 : decode cX11_houseOn 4 = .ok (.iconst 1, 1) := by decide +kernel
theorem dX11_houseOn_5 : decode cX11_houseOn 5 = .ok (.isub, 1) := by decide +kernel
theorem dX11_houseOn_6 : decode cX11_houseOn 6 = .ok (.istore_n 2, 1) := by decide +kernel
theorem dX11_houseOn_7 : decode cX11_houseOn 7 = .ok (.iload_n 2, 1) := by decide +kernel
theorem dX11_houseOn_8 : decode cX11_houseOn 8 = .ok (.ifCond .lt 19, 3) := by decide +kernel
theorem dX11_houseOn_11 : decode cX11_houseOn 11 = .ok (.aload_n 0, 1) := by decide +kernel
theorem dX11_houseOn_12 : decode cX11_houseOn 12 = .ok (.getfield 13, 3) := by decide +kernel
theorem dX11_houseOn_15 : decode cX11_houseOn 15 = .ok (.iload_n 2, 1) := by decide +kernel
theorem dX11_houseOn_16 : decode cX11_houseOn 16 = .ok (.iaload, 1) := by decide +kernel
theorem dX11_houseOn_17 : decode cX11_houseOn 17 = .ok (.iload_n 1, 1) := by decide +kernel
theorem dX11_houseOn_18 : decode cX11_houseOn 18 = .ok (.if_icmp .eq 9, 3) := by decide +kernel
theorem dX11_houseOn_21 : decode cX11_houseOn 21 = .ok (.iinc 2 (-1), 3) := by decide +kernel
theorem dX11_houseOn_24 : decode cX11_houseOn 24 = .ok (.goto (-17), 3) := by decide +kernel
theorem dX11_houseOn_27 : decode cX11_houseOn 27 = .ok (.iload_n 2, 1) := by decide +kernel
theorem dX11_houseOn_28 : decode cX11_houseOn 28 = .ok (.ireturn, 1) := by decide +kernel
theorem b_X11_houseOn_27 {Z : qZ} {G : qG} {v2 : Int32} {μ : qM} {post : Int32 → qM → Prop} (C : qX Z G RX11 cX11_houseOn 3 ({ frames := 0, cells := 0, slots := 0, locals := 0 } : Room) (some .int)) (hQ : qQi Z G 0 0 post) (hn : 66 ≤ gn G) (h : q_X11_houseOn_27 post v2 μ) : qV Z G 3 0 0 μ 27 [(2, .int v2)] [] := by
  unfold q_X11_houseOn_27 at h
  refine x_iload_n C 0 dX11_houseOn_27 rfl rfl ?_
  exact x_iret C hQ dX11_houseOn_28 h
theorem b_X11_houseOn_7 {Z : qZ} {G : qG} {v1 : Int32} {v2 : Int32} {μ : qM} {post : Int32 → qM → Prop} (C : qX Z G RX11 cX11_houseOn 3 ({ frames := 0, cells := 0, slots := 0, locals := 0 } : Room) (some .int)) (hQ : qQi Z G 0 0 post) (hn : 66 ≤ gn G) (h : q_X11_houseOn_7 v1 post v2 μ) : qV Z G 3 0 0 μ 7 [(0, .ref (ga G 46)), (1, .int v1), (2, .int v2)] [] := by
  refine h (fun v2 μ => qV Z G 3 0 0 μ 7 [(0, .ref (ga G 46)), (1, .int v1), (2, .int v2)] []) (fun v2 μ h => ?_)
  refine x_iload_n C 2 dX11_houseOn_7 rfl rfl ?_
  refine x_if_lt C dX11_houseOn_8 (tgt := 27) (by decide) h (fun h => ?_) (fun h => ?_)
  · exact qV_sub [2] rfl (b_X11_houseOn_27 C hQ hn h)
  · refine x_aload_n C 0 dX11_houseOn_11 rfl rfl ?_
    refine g_RX11_13 C hn dX11_houseOn_12 ?_
    refine x_iload_n C 2 dX11_houseOn_15 rfl rfl ?_
    refine x_iald C 48 19 154 (q_lt rfl rfl hn) rfl rfl rfl rfl rfl dX11_houseOn_16 h (fun h => ?_)
    refine x_iload_n C 1 dX11_houseOn_17 rfl rfl ?_
    refine x_icmp_eq C dX11_houseOn_18 (tgt := 27) (by decide) h (fun h => ?_) (fun h => ?_)
    · exact qV_sub [2] rfl (b_X11_houseOn_27 C hQ hn h)
    · refine x_iinc C 2 (v := -1) (L' := [(2, .int ((v2 + -1))), (0, .ref (ga G 46)), (1, .int v1)]) dX11_houseOn_21 rfl (by decide) (by decide) rfl ?_
      refine x_goto C dX11_houseOn_24 (tgt := 7) (by decide) ?_
      exact qV_sub [1, 2, 0] rfl (h)
theorem y_X11_houseOn : qY yX11_houseOn cX11_houseOn 3 (some .int) 1 ({ frames := 0, cells := 0, slots := 0, locals := 0 } : Room) 0 0 := ⟨(qm_9 _ (List.mem_of_getElem? (i := 6) rfl)), (qm_1 _ (List.mem_of_getElem? (i := 5) rfl)), by decide +kernel, by decide +kernel, rfl, rfl⟩
theorem c_X11_houseOn (l : Launch) (G : qG) {v1 : Int32} {μ : qM} (hn : 66 ≤ gn G) : qCi l G yX11_houseOn cX11_houseOn 3 (some .int) ({ frames := 0, cells := 0, slots := 0, locals := 0 } : Room) 0 0 [.ref (ga G 46), .int v1] μ (fun post => w_X11_houseOn v1 post μ) := by
  refine qCi_of (L := [(0, .ref (ga G 46)), (1, .int v1)]) (by decide) rfl rfl ?_
  intro Z post hl C hQ h
  have C : qX Z G RX11 cX11_houseOn 3 ({ frames := 0, cells := 0, slots := 0, locals := 0 } : Room) (some .int) := C
  have h : w_X11_houseOn v1 post μ := h
  unfold w_X11_houseOn at h
  refine x_aload_n C 0 dX11_houseOn_0 rfl rfl ?_
  refine g_RX11_76 C hn dX11_houseOn_1 ?_
  refine x_iconst C dX11_houseOn_4 (v := 1) (by decide) ?_
  refine x_isub C dX11_houseOn_5 ?_
  refine x_istore_n C (L' := [(2, .int (((μ 46 0) - (1 : Int32)))), (0, .ref (ga G 46)), (1, .int v1)]) dX11_houseOn_6 rfl (by decide) rfl ?_
  exact qV_sub [1, 2, 0] rfl (b_X11_houseOn_7 C hQ hn h)
theorem dX11_pairBy_0 : decode cX11_pairBy 0 = .ok (.iconst 0, 1) := by decide +kernel
theorem dX11_pairBy_1 : decode cX11_pairBy 1 = .ok (.istore 4, 2) := by decide +kernel
theorem dX11_pairBy_3 : decode cX11_pairBy 3 = .ok (.iload 4, 2) := by decide +kernel
theorem dX11_pairBy_5 : decode cX11_pairBy 5 = .ok (.aload_n 0, 1) := by decide +kernel
theorem dX11_pairBy_6 : decode cX11_pairBy 6 = .ok (.getfield 76, 3) := by decide +kernel
theorem dX11_pairBy_9 : decode cX11_pairBy 9 = .ok (.if_icmp .ge 47, 3) := by decide +kernel
theorem dX11_pairBy_12 : decode cX11_pairBy 12 = .ok (.aload_n 0, 1) := by decide +kernel
theorem dX11_pairBy_13 : decode cX11_pairBy 13 = .ok (.getfield 47, 3) := by decide +kernel
theorem dX11_pairBy_16 : decode cX11_pairBy 16 = .ok (.iload 4, 2) := by decide +kernel
theorem dX11_pairBy_18 : decode cX11_pairBy 18 = .ok (.iload 4, 2) := by decide +kernel
theorem dX11_pairBy_20 : decode cX11_pairBy 20 = .ok (.iload_n 3, 1) := by decide +kernel
theorem dX11_pairBy_21 : decode cX11_pairBy 21 = .ok (.if_icmp .ne 10, 3) := by decide +kernel
theorem dX11_pairBy_24 : decode cX11_pairBy 24 = .ok (.iconst (-1), 1) := by decide +kernel
theorem dX11_pairBy_25 : decode cX11_pairBy 25 = .ok (.iload 4, 2) := by decide +kernel
theorem dX11_pairBy_27 : decode cX11_pairBy 27 = .ok (.isub, 1) := by decide +kernel
theorem dX11_pairBy_28 : decode cX11_pairBy 28 = .ok (.goto 21, 3) := by decide +kernel
theorem dX11_pairBy_31 : decode cX11_pairBy 31 = .ok (.aload_n 0, 1) := by decide +kernel
theorem dX11_pairBy_32 : decode cX11_pairBy 32 = .ok (.getfield 9, 3) := by decide +kernel
theorem dX11_pairBy_35 : decode cX11_pairBy 35 = .ok (.iload 4, 2) := by decide +kernel
theorem dX11_pairBy_37 : decode cX11_pairBy 37 = .ok (.iaload, 1) := by decide +kernel
theorem dX11_pairBy_38 : decode cX11_pairBy 38 = .ok (.aload_n 0, 1) := by decide +kernel
theorem dX11_pairBy_39 : decode cX11_pairBy 39 = .ok (.getfield 13, 3) := by decide +kernel
theorem dX11_pairBy_42 : decode cX11_pairBy 42 = .ok (.iload 4, 2) := by decide +kernel
theorem dX11_pairBy_44 : decode cX11_pairBy 44 = .ok (.iaload, 1) := by decide +kernel
theorem dX11_pairBy_45 : decode cX11_pairBy 45 = .ok (.iload_n 1, 1) := by decide +kernel
theorem dX11_pairBy_46 : decode cX11_pairBy 46 = .ok (.invokestatic 92, 3) := by decide +kernel
theorem dX11_pairBy_49 : decode cX11_pairBy 49 = .ok (.iastore, 1) := by decide +kernel
theorem dX11_pairBy_50 : decode cX11_pairBy 50 = .ok (.iinc 4 1, 3) := by decide +kernel
theorem dX11_pairBy_53 : decode cX11_pairBy 53 = .ok (.goto (-50), 3) := by decide +kernel
theorem dX11_pairBy_56 : decode cX11_pairBy 56 = .ok (.iload_n 2, 1) := by decide +kernel
theorem dX11_pairBy_57 : decode cX11_pairBy 57 = .ok (.istore 4, 2) := by decide +kernel
theorem dX11_pairBy_59 : decode cX11_pairBy 59 = .ok (.iconst 0, 1) := by decide +kernel
theorem dX11_pairBy_60 : decode cX11_pairBy 60 = .ok (.istore 5, 2) := by decide +kernel
theorem dX11_pairBy_62 : decode cX11_pairBy 62 = .ok (.iload 5, 2) := by decide +kernel
theorem dX11_pairBy_64 : decode cX11_pairBy 64 = .ok (.aload_n 0, 1) := by decide +kernel
theorem dX11_pairBy_65 : decode cX11_pairBy 65 = .ok (.getfield 76, 3) := by decide +kernel
theorem dX11_pairBy_68 : decode cX11_pairBy 68 = .ok (.if_icmp .ge 76, 3) := by decide +kernel
theorem dX11_pairBy_71 : decode cX11_pairBy 71 = .ok (.iload 5, 2) := by decide +kernel
theorem dX11_pairBy_73 : decode cX11_pairBy 73 = .ok (.iconst 1, 1) := by decide +kernel
theorem dX11_pairBy_74 : decode cX11_pairBy 74 = .ok (.iadd, 1) := by decide +kernel
theorem dX11_pairBy_75 : decode cX11_pairBy 75 = .ok (.istore 6, 2) := by decide +kernel
theorem dX11_pairBy_77 : decode cX11_pairBy 77 = .ok (.iload 6, 2) := by decide +kernel
theorem dX11_pairBy_79 : decode cX11_pairBy 79 = .ok (.aload_n 0, 1) := by decide +kernel
theorem dX11_pairBy_80 : decode cX11_pairBy 80 = .ok (.getfield 76, 3) := by decide +kernel
theorem dX11_pairBy_83 : decode cX11_pairBy 83 = .ok (.if_icmp .ge 55, 3) := by decide +kernel
theorem dX11_pairBy_86 : decode cX11_pairBy 86 = .ok (.aload_n 0, 1) := by decide +kernel
theorem dX11_pairBy_87 : decode cX11_pairBy 87 = .ok (.getfield 47, 3) := by decide +kernel
theorem dX11_pairBy_90 : decode cX11_pairBy 90 = .ok (.iload 5, 2) := by decide +kernel
theorem dX11_pairBy_92 : decode cX11_pairBy 92 = .ok (.iaload, 1) := by decide +kernel
theorem dX11_pairBy_93 : decode cX11_pairBy 93 = .ok (.aload_n 0, 1) := by decide +kernel
theorem dX11_pairBy_94 : decode cX11_pairBy 94 = .ok (.getfield 47, 3) := by decide +kernel
theorem dX11_pairBy_97 : decode cX11_pairBy 97 = .ok (.iload 6, 2) := by decide +kernel
theorem dX11_pairBy_99 : decode cX11_pairBy 99 = .ok (.iaload, 1) := by decide +kernel
theorem dX11_pairBy_100 : decode cX11_pairBy 100 = .ok (.if_icmp .ne 32, 3) := by decide +kernel
theorem dX11_pairBy_103 : decode cX11_pairBy 103 = .ok (.aload_n 0, 1) := by decide +kernel
theorem dX11_pairBy_104 : decode cX11_pairBy 104 = .ok (.iload 5, 2) := by decide +kernel
theorem dX11_pairBy_106 : decode cX11_pairBy 106 = .ok (.iload 6, 2) := by decide +kernel
theorem dX11_pairBy_108 : decode cX11_pairBy 108 = .ok (.invokevirtual 100, 3) := by decide +kernel
theorem dX11_pairBy_111 : decode cX11_pairBy 111 = .ok (.ifCond .eq 21, 3) := by decide +kernel
theorem dX11_pairBy_114 : decode cX11_pairBy 114 = .ok (.iload 4, 2) := by decide +kernel
theorem dX11_pairBy_116 : decode cX11_pairBy 116 = .ok (.ifCond .ne 13, 3) := by decide +kernel
theorem dX11_pairBy_119 : decode cX11_pairBy 119 = .ok (.sipush 154, 3) := by decide +kernel
theorem dX11_pairBy_122 : decode cX11_pairBy 122 = .ok (.iload 5, 2) := by decide +kernel
theorem dX11_pairBy_124 : decode cX11_pairBy 124 = .ok (.imul, 1) := by decide +kernel
theorem dX11_pairBy_125 : decode cX11_pairBy 125 = .ok (.iload 6, 2) := by decide +kernel
theorem dX11_pairBy_127 : decode cX11_pairBy 127 = .ok (.iadd, 1) := by decide +kernel
theorem dX11_pairBy_128 : decode cX11_pairBy 128 = .ok (.ireturn, 1) := by decide +kernel
theorem dX11_pairBy_129 : decode cX11_pairBy 129 = .ok (.iinc 4 (-1), 3) := by decide +kernel
theorem dX11_pairBy_132 : decode cX11_pairBy 132 = .ok (.iinc 6 1, 3) := by decide +kernel
theorem dX11_pairBy_135 : decode cX11_pairBy 135 = .ok (.goto (-58), 3) := by decide +kernel
theorem dX11_pairBy_138 : decode cX11_pairBy 138 = .ok (.iinc 5 1, 3) := by decide +kernel
theorem dX11_pairBy_141 : decode cX11_pairBy 141 = .ok (.goto (-79), 3) := by decide +kernel
theorem dX11_pairBy_144 : decode cX11_pairBy 144 = .ok (.iconst (-1), 1) := by decide +kernel
theorem dX11_pairBy_145 : decode cX11_pairBy 145 = .ok (.ireturn, 1) := by decide +kernel
theorem i_RX11_100 {Z : qZ} {G : qG} {cc : ByteArray} {nL k n : Nat} {rm : Room} {ret : Option FieldType} {μ : qM} {pc : Nat} {L : List (Nat × Value)} {rest : List Value} {K : Int32 → qM → Prop} {v1 : Int32} {v2 : Int32} (C : qX Z G RX11 cc nL rm ret) (hn : 66 ≤ gn G) (hR : (Nat.ble (3 + 1) rm.frames && Nat.ble (8 + (3 + 11) + 67) rm.locals) = true) (hf : k + 0 ≤ rm.cells ∧ n + 0 ≤ rm.slots) (hsz : Nat.ble (rest.map fun v => v.category).sum 8 = true) (hd : decode cc pc = .ok (.invokevirtual 100, 3)) (h : w_X11_arePair v1 v2 K μ) (hk : ∀ (r : Int32) (μ1 : qM), K r μ1 → qV Z G nL k n μ1 (pc + 3) L (.int r :: rest)) : qV Z G nL k n μ pc L (.int v2 :: .int v1 :: .ref (ga G 46) :: rest) := x_Vi [.int v1, .int v2] rest C 46 10 (wp := fun K => w_X11_arePair v1 v2 K μ) (y_X11_arePair : qY yX11_arePair cX11_arePair 3 (some .boolean) 2 ({ frames := 3, cells := 0, slots := 0, locals := 67 } : Room) 0 0) (qm_12 _ (List.mem_of_getElem? (i := 7) rfl)) (qm_12 _ (List.mem_of_getElem? (i := 8) rfl)) (qm_12 _ (List.mem_of_getElem? (i := 6) rfl)) (c_X11_arePair Z.2.1 G hn ) (Nat.lt_of_lt_of_le (by decide) hn) rfl (by decide) rfl rfl hR hf rfl rfl hsz hd h hk
theorem g_RX11_47 {Z : qZ} {G : qG} {cc : ByteArray} {nL k n : Nat} {rm : Room} {ret : Option FieldType} {μ : qM} {pc : Nat} {L : List (Nat × Value)} {st : List Value} (C : qX Z G RX11 cc nL rm ret) (hn : 66 ≤ gn G) (hd : decode cc pc = .ok (.getfield 47, 3)) (h : qV Z G nL k n μ (pc + 3) L (.ref (ga G 57) :: st)) : qV Z G nL k n μ pc L (.ref (ga G 46) :: st) := x_getr C 46 10 20 11 57 (C0 := RX11) (fn := "away") (fd := "[I") (Nat.lt_of_lt_of_le (by decide) hn) rfl (by decide) rfl (by decide) rfl inlX11 (qm_6 _ (List.mem_of_getElem? (i := 3) rfl)) rfl rfl rfl hd h
theorem b_X11_pairBy_132 {Z : qZ} {G : qG} {v4 : Int32} {v5 : Int32} {v6 : Int32} {μ : qM} {P62 : Int32 → Int32 → qM → Prop} {P77 : Int32 → Int32 → qM → Prop} {post : Int32 → qM → Prop} (C : qX Z G RX11 cX11_pairBy 7 ({ frames := 4, cells := 0, slots := 0, locals := 89 } : Room) (some .int)) (hQ : qQi Z G 0 0 post) (hn : 66 ≤ gn G) (hP62 : ∀ (b4 : Int32) (b5 : Int32) (μ1 : qM), P62 b4 b5 μ1 → qV Z G 7 0 0 μ1 62 [(0, .ref (ga G 46)), (4, .int b4), (5, .int b5)] []) (hP77 : ∀ (b4 : Int32) (b6 : Int32) (μ1 : qM), P77 b4 b6 μ1 → qV Z G 7 0 0 μ1 77 [(0, .ref (ga G 46)), (4, .int b4), (5, .int v5), (6, .int b6)] []) (h : q_X11_pairBy_132 P62 P77 post v4 v5 v6 μ) : qV Z G 7 0 0 μ 132 [(0, .ref (ga G 46)), (4, .int v4), (5, .int v5), (6, .int v6)] [] := by
  unfold q_X11_pairBy_132 at h
  refine x_iinc C 3 (v := 1) (L' := [(6, .int ((v6 + 1))), (0, .ref (ga G 46)), (4, .int v4), (5, .int v5)]) dX11_pairBy_132 rfl (by decide) (by decide) rfl ?_
  refine x_goto C dX11_pairBy_135 (tgt := 77) (by decide) ?_
  exact qV_sub [1, 2, 3, 0] rfl ((hP77 _ _ _ h))
theorem b_X11_pairBy_77 {Z : qZ} {G : qG} {v4 : Int32} {v5 : Int32} {v6 : Int32} {μ : qM} {P62 : Int32 → Int32 → qM → Prop} {post : Int32 → qM → Prop} (C : qX Z G RX11 cX11_pairBy 7 ({ frames := 4, cells := 0, slots := 0, locals := 89 } : Room) (some .int)) (hQ : qQi Z G 0 0 post) (hn : 66 ≤ gn G) (hP62 : ∀ (b4 : Int32) (b5 : Int32) (μ1 : qM), P62 b4 b5 μ1 → qV Z G 7 0 0 μ1 62 [(0, .ref (ga G 46)), (4, .int b4), (5, .int b5)] []) (h : q_X11_pairBy_77 v5 P62 post v4 v6 μ) : qV Z G 7 0 0 μ 77 [(0, .ref (ga G 46)), (4, .int v4), (5, .int v5), (6, .int v6)] [] := by
  refine h (fun v4 v6 μ => qV Z G 7 0 0 μ 77 [(0, .ref (ga G 46)), (4, .int v4), (5, .int v5), (6, .int v6)] []) (fun v4 v6 μ h => ?_)
  refine x_iload C 3 dX11_pairBy_77 rfl ?_
  refine x_aload_n C 0 dX11_pairBy_79 rfl rfl ?_
  refine g_RX11_76 C hn dX11_pairBy_80 ?_
  refine x_icmp_ge C dX11_pairBy_83 (tgt := 138) (by decide) h (fun h => ?_) (fun h => ?_)
  · refine x_iinc C 2 (v := 1) (L' := [(5, .int ((v5 + 1))), (0, .ref (ga G 46)), (4, .int v4), (6, .int v6)]) dX11_pairBy_138 rfl (by decide) (by decide) rfl ?_
    refine x_goto C dX11_pairBy_141 (tgt := 62) (by decide) ?_
    exact qV_sub [1, 2, 0] rfl ((hP62 _ _ _ h))
  · refine x_aload_n C 0 dX11_pairBy_86 rfl rfl ?_
    refine g_RX11_47 C hn dX11_pairBy_87 ?_
    refine x_iload C 2 dX11_pairBy_90 rfl ?_
    refine x_iald C 57 19 154 (q_lt rfl rfl hn) rfl rfl rfl rfl rfl dX11_pairBy_92 h (fun h => ?_)
    refine x_aload_n C 0 dX11_pairBy_93 rfl rfl ?_
    refine g_RX11_47 C hn dX11_pairBy_94 ?_
    refine x_iload C 3 dX11_pairBy_97 rfl ?_
    refine x_iald C 57 19 154 (q_lt rfl rfl hn) rfl rfl rfl rfl rfl dX11_pairBy_99 h (fun h => ?_)
    refine x_icmp_ne C dX11_pairBy_100 (tgt := 132) (by decide) h (fun h => ?_) (fun h => ?_)
    · exact b_X11_pairBy_132 C hQ hn hP62 (fun _ _ _ h => h) h
    · refine x_aload_n C 0 dX11_pairBy_103 rfl rfl ?_
      refine x_iload C 2 dX11_pairBy_104 rfl ?_
      refine x_iload C 3 dX11_pairBy_106 rfl ?_
      refine i_RX11_100 (rest := []) C hn  rfl (by decide) rfl dX11_pairBy_108 h (fun r108 μ108 h => ?_)
      refine x_if_eq C dX11_pairBy_111 (tgt := 132) (by decide) h (fun h => ?_) (fun h => ?_)
      · exact b_X11_pairBy_132 C hQ hn hP62 (fun _ _ _ h => h) h
      · refine x_iload C 1 dX11_pairBy_114 rfl ?_
        refine x_if_ne C dX11_pairBy_116 (tgt := 129) (by decide) h (fun h => ?_) (fun h => ?_)
        · refine x_iinc C 1 (v := -1) (L' := [(4, .int ((v4 + -1))), (0, .ref (ga G 46)), (5, .int v5), (6, .int v6)]) dX11_pairBy_129 rfl (by decide) (by decide) rfl ?_
          exact qV_sub [1, 0, 2, 3] rfl (b_X11_pairBy_132 C hQ hn hP62 (fun _ _ _ h => h) h)
        · refine x_sipush C dX11_pairBy_119 (v := 154) (by decide) ?_
          refine x_iload C 2 dX11_pairBy_122 rfl ?_
          refine x_imul C dX11_pairBy_124 ?_
          refine x_iload C 3 dX11_pairBy_125 rfl ?_
          refine x_iadd C dX11_pairBy_127 ?_
          exact x_iret C hQ dX11_pairBy_128 h
theorem b_X11_pairBy_62 {Z : qZ} {G : qG} {v4 : Int32} {v5 : Int32} {μ : qM} {post : Int32 → qM → Prop} (C : qX Z G RX11 cX11_pairBy 7 ({ frames := 4, cells := 0, slots := 0, locals := 89 } : Room) (some .int)) (hQ : qQi Z G 0 0 post) (hn : 66 ≤ gn G) (h : q_X11_pairBy_62 post v4 v5 μ) : qV Z G 7 0 0 μ 62 [(0, .ref (ga G 46)), (4, .int v4), (5, .int v5)] [] := by
  refine h (fun v4 v5 μ => qV Z G 7 0 0 μ 62 [(0, .ref (ga G 46)), (4, .int v4), (5, .int v5)] []) (fun v4 v5 μ h => ?_)
  refine x_iload C 2 dX11_pairBy_62 rfl ?_
  refine x_aload_n C 0 dX11_pairBy_64 rfl rfl ?_
  refine g_RX11_76 C hn dX11_pairBy_65 ?_
  refine x_icmp_ge C dX11_pairBy_68 (tgt := 144) (by decide) h (fun h => ?_) (fun h => ?_)
  · refine x_iconst C dX11_pairBy_144 (v := -1) (by decide) ?_
    exact x_iret C hQ dX11_pairBy_145 h
  · refine x_iload C 2 dX11_pairBy_71 rfl ?_
    refine x_iconst C dX11_pairBy_73 (v := 1) (by decide) ?_
    refine x_iadd C dX11_pairBy_74 ?_
    refine x_istore C (L' := [(6, .int ((v5 + (1 : Int32)))), (0, .ref (ga G 46)), (4, .int v4), (5, .int v5)]) dX11_pairBy_75 (by decide) rfl ?_
    exact qV_sub [1, 2, 3, 0] rfl (b_X11_pairBy_77 C hQ hn (fun _ _ _ h => h) h)
theorem b_X11_pairBy_49 {Z : qZ} {G : qG} {v1 : Int32} {v2 : Int32} {v3 : Int32} {v4 : Int32} {s0 : Int32} {s1 : Int32} {μ : qM} {P3 : Int32 → qM → Prop} {post : Int32 → qM → Prop} (C : qX Z G RX11 cX11_pairBy 7 ({ frames := 4, cells := 0, slots := 0, locals := 89 } : Room) (some .int)) (hQ : qQi Z G 0 0 post) (hn : 66 ≤ gn G) (hP3 : ∀ (b4 : Int32) (μ1 : qM), P3 b4 μ1 → qV Z G 7 0 0 μ1 3 [(0, .ref (ga G 46)), (1, .int v1), (2, .int v2), (3, .int v3), (4, .int b4)] []) (h : q_X11_pairBy_49 P3 post v1 v2 v3 v4 s0 s1 μ) : qV Z G 7 0 0 μ 49 [(0, .ref (ga G 46)), (1, .int v1), (2, .int v2), (3, .int v3), (4, .int v4)] [.int s0, .int s1, .ref (ga G 57)] := by
  unfold q_X11_pairBy_49 at h
  refine x_iast C 57 19 154 (q_lt rfl rfl hn) rfl rfl rfl rfl rfl dX11_pairBy_49 h (fun h => ?_)
  refine x_iinc C 4 (v := 1) (L' := [(4, .int ((v4 + 1))), (0, .ref (ga G 46)), (1, .int v1), (2, .int v2), (3, .int v3)]) dX11_pairBy_50 rfl (by decide) (by decide) rfl ?_
  refine x_goto C dX11_pairBy_53 (tgt := 3) (by decide) ?_
  exact qV_sub [1, 2, 3, 4, 0] rfl ((hP3 _ _ h))
theorem b_X11_pairBy_3 {Z : qZ} {G : qG} {v1 : Int32} {v2 : Int32} {v3 : Int32} {v4 : Int32} {μ : qM} {post : Int32 → qM → Prop} (C : qX Z G RX11 cX11_pairBy 7 ({ frames := 4, cells := 0, slots := 0, locals := 89 } : Room) (some .int)) (hQ : qQi Z G 0 0 post) (hn : 66 ≤ gn G) (h : q_X11_pairBy_3 v1 v2 v3 post v4 μ) : qV Z G 7 0 0 μ 3 [(0, .ref (ga G 46)), (1, .int v1), (2, .int v2), (3, .int v3), (4, .int v4)] [] := by
  refine h (fun v4 μ => qV Z G 7 0 0 μ 3 [(0, .ref (ga G 46)), (1, .int v1), (2, .int v2), (3, .int v3), (4, .int v4)] []) (fun v4 μ h => ?_)
  refine x_iload C 4 dX11_pairBy_3 rfl ?_
  refine x_aload_n C 0 dX11_pairBy_5 rfl rfl ?_
  refine g_RX11_76 C hn dX11_pairBy_6 ?_
  refine x_icmp_ge C dX11_pairBy_9 (tgt := 56) (by decide) h (fun h => ?_) (fun h => ?_)
  · refine x_iload_n C 2 dX11_pairBy_56 rfl rfl ?_
    refine x_istore C (L' := [(4, .int v2), (0, .ref (ga G 46)), (1, .int v1), (2, .int v2), (3, .int v3)]) dX11_pairBy_57 (by decide) rfl ?_
    refine x_iconst C dX11_pairBy_59 (v := 0) (by decide) ?_
    refine x_istore C (L' := [(5, .int ((0 : Int32))), (4, .int v2), (0, .ref (ga G 46)), (1, .int v1), (2, .int v2), (3, .int v3)]) dX11_pairBy_60 (by decide) rfl ?_
    exact qV_sub [2, 1, 0] rfl (b_X11_pairBy_62 C hQ hn h)
  · refine x_aload_n C 0 dX11_pairBy_12 rfl rfl ?_
    refine g_RX11_47 C hn dX11_pairBy_13 ?_
    refine x_iload C 4 dX11_pairBy_16 rfl ?_
    refine x_iload C 4 dX11_pairBy_18 rfl ?_
    refine x_iload_n C 3 dX11_pairBy_20 rfl rfl ?_
    refine x_icmp_ne C dX11_pairBy_21 (tgt := 31) (by decide) h (fun h => ?_) (fun h => ?_)
    · refine x_aload_n C 0 dX11_pairBy_31 rfl rfl ?_
      refine g_RX11_9 C hn dX11_pairBy_32 ?_
      refine x_iload C 4 dX11_pairBy_35 rfl ?_
      refine x_iald C 47 19 154 (q_lt rfl rfl hn) rfl rfl rfl rfl rfl dX11_pairBy_37 h (fun h => ?_)
      refine x_aload_n C 0 dX11_pairBy_38 rfl rfl ?_
      refine g_RX11_13 C hn dX11_pairBy_39 ?_
      refine x_iload C 4 dX11_pairBy_42 rfl ?_
      refine x_iald C 48 19 154 (q_lt rfl rfl hn) rfl rfl rfl rfl rfl dX11_pairBy_44 h (fun h => ?_)
      refine x_iload_n C 1 dX11_pairBy_45 rfl rfl ?_
      refine i_RX11_92 (rest := [.int v4, .ref (ga G 57)]) C hn  rfl (by decide) rfl dX11_pairBy_46 h (fun r46 μ46 h => ?_)
      exact b_X11_pairBy_49 C hQ hn (fun _ _ h => h) h
    · refine x_iconst C dX11_pairBy_24 (v := -1) (by decide) ?_
      refine x_iload C 4 dX11_pairBy_25 rfl ?_
      refine x_isub C dX11_pairBy_27 ?_
      refine x_goto C dX11_pairBy_28 (tgt := 49) (by decide) ?_
      exact b_X11_pairBy_49 C hQ hn (fun _ _ h => h) h
theorem y_X11_pairBy : qY yX11_pairBy cX11_pairBy 7 (some .int) 3 ({ frames := 4, cells := 0, slots := 0, locals := 89 } : Room) 0 0 := ⟨(qm_11 _ (List.mem_of_getElem? (i := 22) rfl)), (qm_1 _ (List.mem_of_getElem? (i := 5) rfl)), by decide +kernel, by decide +kernel, rfl, rfl⟩
theorem c_X11_pairBy (l : Launch) (G : qG) {v1 : Int32} {v2 : Int32} {v3 : Int32} {μ : qM} (hn : 66 ≤ gn G) : qCi l G yX11_pairBy cX11_pairBy 7 (some .int) ({ frames := 4, cells := 0, slots := 0, locals := 89 } : Room) 0 0 [.ref (ga G 46), .int v1, .int v2, .int v3] μ (fun post => w_X11_pairBy v1 v2 v3 post μ) := by
  refine qCi_of (L := [(0, .ref (ga G 46)), (1, .int v1), (2, .int v2), (3, .int v3)]) (by decide) rfl rfl ?_
  intro Z post hl C hQ h
  have C : qX Z G RX11 cX11_pairBy 7 ({ frames := 4, cells := 0, slots := 0, locals := 89 } : Room) (some .int) := C
  have h : w_X11_pairBy v1 v2 v3 post μ := h
  unfold w_X11_pairBy at h
  refine x_iconst C dX11_pairBy_0 (v := 0) (by decide) ?_
  refine x_istore C (L' := [(4, .int ((0 : Int32))), (0, .ref (ga G 46)), (1, .int v1), (2, .int v2), (3, .int v3)]) dX11_pairBy_1 (by decide) rfl ?_
  exact qV_sub [1, 2, 3, 4, 0] rfl (b_X11_pairBy_3 C hQ hn h)
theorem dX11_isFree_0 : decode cX11_isFree 0 = .ok (.aload_n 0, 1) := by decide +kernel
theorem dX11_isFree_1 : decode cX11_isFree 1 = .ok (.iload_n 1, 1) := by decide +kernel
theorem dX11_isFree_2 : decode cX11_isFree 2 = .ok (.invokevirtual 103, 3) := by decide +kernel
theorem dX11_isFree_5 : decode cX11_isFree 5 = .ok (.ifCond .ge 17, 3) := by decide +kernel
theorem dX11_isFree_8 : decode cX11_isFree 8 = .ok (.aload_n 0, 1) := by decide +kernel
theorem dX11_isFree_9 : decode cX11_isFree 9 = .ok (.iload_n 1, 1) := by decide +kernel
theorem dX11_isFree_10 : decode cX11_isFree 10 = .ok (.iconst 0, 1) := by decide +kernel
theorem dX11_isFree_11 : decode cX11_isFree 11 = .ok (.iconst (-1), 1) := by decide +kernel
theorem dX11_isFree_12 : decode cX11_isFree 12 = .ok (.invokevirtual 106, 3) := by decide +kernel
theorem dX11_isFree_15 : decode cX11_isFree 15 = .ok (.ifCond .lt 7, 3) := by decide +kernel
theorem dX11_isFree_18 : decode cX11_isFree 18 = .ok (.iconst 1, 1) := by decide +kernel
theorem dX11_isFree_19 : decode cX11_isFree 19 = .ok (.goto 4, 3) := by decide +kernel
theorem dX11_isFree_22 : decode cX11_isFree 22 = .ok (.iconst 0, 1) := by decide +kernel
theorem dX11_isFree_23 : decode cX11_isFree 23 = .ok (.ireturn, 1) := by decide +kernel
theorem i_RX11_103 {Z : qZ} {G : qG} {cc : ByteArray} {nL k n : Nat} {rm : Room} {ret : Option FieldType} {μ : qM} {pc : Nat} {L : List (Nat × Value)} {rest : List Value} {K : Int32 → qM → Prop} {v1 : Int32} (C : qX Z G RX11 cc nL rm ret) (hn : 66 ≤ gn G) (hR : (Nat.ble (0 + 1) rm.frames && Nat.ble (8 + (3 + 11) + 0) rm.locals) = true) (hf : k + 0 ≤ rm.cells ∧ n + 0 ≤ rm.slots) (hsz : Nat.ble (rest.map fun v => v.category).sum 8 = true) (hd : decode cc pc = .ok (.invokevirtual 103, 3)) (h : w_X11_houseOn v1 K μ) (hk : ∀ (r : Int32) (μ1 : qM), K r μ1 → qV Z G nL k n μ1 (pc + 3) L (.int r :: rest)) : qV Z G nL k n μ pc L (.int v1 :: .ref (ga G 46) :: rest) := x_Vi [.int v1] rest C 46 10 (wp := fun K => w_X11_houseOn v1 K μ) (y_X11_houseOn : qY yX11_houseOn cX11_houseOn 3 (some .int) 1 ({ frames := 0, cells := 0, slots := 0, locals := 0 } : Room) 0 0) (qm_9 _ (List.mem_of_getElem? (i := 4) rfl)) (qm_9 _ (List.mem_of_getElem? (i := 5) rfl)) (qm_9 _ (List.mem_of_getElem? (i := 3) rfl)) (c_X11_houseOn Z.2.1 G hn ) (Nat.lt_of_lt_of_le (by decide) hn) rfl (by decide) rfl rfl hR hf rfl rfl hsz hd h hk
theorem i_RX11_106 {Z : qZ} {G : qG} {cc : ByteArray} {nL k n : Nat} {rm : Room} {ret : Option FieldType} {μ : qM} {pc : Nat} {L : List (Nat × Value)} {rest : List Value} {K : Int32 → qM → Prop} {v1 : Int32} {v2 : Int32} {v3 : Int32} (C : qX Z G RX11 cc nL rm ret) (hn : 66 ≤ gn G) (hR : (Nat.ble (4 + 1) rm.frames && Nat.ble (8 + (7 + 11) + 89) rm.locals) = true) (hf : k + 0 ≤ rm.cells ∧ n + 0 ≤ rm.slots) (hsz : Nat.ble (rest.map fun v => v.category).sum 8 = true) (hd : decode cc pc = .ok (.invokevirtual 106, 3)) (h : w_X11_pairBy v1 v2 v3 K μ) (hk : ∀ (r : Int32) (μ1 : qM), K r μ1 → qV Z G nL k n μ1 (pc + 3) L (.int r :: rest)) : qV Z G nL k n μ pc L (.int v3 :: .int v2 :: .int v1 :: .ref (ga G 46) :: rest) := x_Vi [.int v1, .int v2, .int v3] rest C 46 10 (wp := fun K => w_X11_pairBy v1 v2 v3 K μ) (y_X11_pairBy : qY yX11_pairBy cX11_pairBy 7 (some .int) 3 ({ frames := 4, cells := 0, slots := 0, locals := 89 } : Room) 0 0) (qm_11 _ (List.mem_of_getElem? (i := 20) rfl)) (qm_11 _ (List.mem_of_getElem? (i := 21) rfl)) (qm_11 _ (List.mem_of_getElem? (i := 19) rfl)) (c_X11_pairBy Z.2.1 G hn ) (Nat.lt_of_lt_of_le (by decide) hn) rfl (by decide) rfl rfl hR hf rfl rfl hsz hd h hk
theorem b_X11_isFree_22 {Z : qZ} {G : qG} {μ : qM} {post : Int32 → qM → Prop} (C : qX Z G RX11 cX11_isFree 2 ({ frames := 5, cells := 0, slots := 0, locals := 115 } : Room) (some .boolean)) (hQ : qQi Z G 0 0 post) (hn : 66 ≤ gn G) (h : q_X11_isFree_22 post μ) : qV Z G 2 0 0 μ 22 [] [] := by
  unfold q_X11_isFree_22 at h
  refine x_iconst C dX11_isFree_22 (v := 0) (by decide) ?_
  exact x_zret C hQ dX11_isFree_23 h
theorem y_X11_isFree : qY yX11_isFree cX11_isFree 2 (some .boolean) 1 ({ frames := 5, cells := 0, slots := 0, locals := 115 } : Room) 0 0 := ⟨(qm_11 _ (List.mem_of_getElem? (i := 18) rfl)), (qm_1 _ (List.mem_of_getElem? (i := 5) rfl)), by decide +kernel, by decide +kernel, rfl, rfl⟩
theorem c_X11_isFree (l : Launch) (G : qG) {v1 : Int32} {μ : qM} (hn : 66 ≤ gn G) : qCi l G yX11_isFree cX11_isFree 2 (some .boolean) ({ frames := 5, cells := 0, slots := 0, locals := 115 } : Room) 0 0 [.ref (ga G 46), .int v1] μ (fun post => w_X11_isFree v1 post μ) := by
  refine qCi_of (L := [(0, .ref (ga G 46)), (1, .int v1)]) (by decide) rfl rfl ?_
  intro Z post hl C hQ h
  have C : qX Z G RX11 cX11_isFree 2 ({ frames := 5, cells := 0, slots := 0, locals := 115 } : Room) (some .boolean) := C
  have h : w_X11_isFree v1 post μ := h
  unfold w_X11_isFree at h
  refine x_aload_n C 0 dX11_isFree_0 rfl rfl ?_
  refine x_iload_n C 1 dX11_isFree_1 rfl rfl ?_
  refine i_RX11_103 (rest := []) C hn  rfl (by decide) rfl dX11_isFree_2 h (fun r2 μ2 h => ?_)
  refine x_if_ge C dX11_isFree_5 (tgt := 22) (by decide) h (fun h => ?_) (fun h => ?_)
  · exact qV_sub [] rfl (b_X11_isFree_22 C hQ hn h)
  · refine x_aload_n C 0 dX11_isFree_8 rfl rfl ?_
    refine x_iload_n C 1 dX11_isFree_9 rfl rfl ?_
    refine x_iconst C dX11_isFree_10 (v := 0) (by decide) ?_
    refine x_iconst C dX11_isFree_11 (v := -1) (by decide) ?_
    refine i_RX11_106 (rest := []) C hn  rfl (by decide) rfl dX11_isFree_12 h (fun r12 μ12 h => ?_)
    refine x_if_lt C dX11_isFree_15 (tgt := 22) (by decide) h (fun h => ?_) (fun h => ?_)
    · exact qV_sub [] rfl (b_X11_isFree_22 C hQ hn h)
    · refine x_iconst C dX11_isFree_18 (v := 1) (by decide) ?_
      refine x_goto C dX11_isFree_19 (tgt := 23) (by decide) ?_
      exact x_zret C hQ dX11_isFree_23 h
theorem dX11_isFreeWithout_0 : decode cX11_isFreeWithout 0 = .ok (.aload_n 0, 1) := by decide +kernel
theorem dX11_isFreeWithout_1 : decode cX11_isFreeWithout 1 = .ok (.iload_n 1, 1) := by decide +kernel
theorem dX11_isFreeWithout_2 : decode cX11_isFreeWithout 2 = .ok (.invokevirtual 103, 3) := by decide +kernel
theorem dX11_isFreeWithout_5 : decode cX11_isFreeWithout 5 = .ok (.ifCond .lt 12, 3) := by decide +kernel
theorem dX11_isFreeWithout_8 : decode cX11_isFreeWithout 8 = .ok (.aload_n 0, 1) := by decide +kernel
theorem dX11_isFreeWithout_9 : decode cX11_isFreeWithout 9 = .ok (.iload_n 1, 1) := by decide +kernel
theorem dX11_isFreeWithout_10 : decode cX11_isFreeWithout 10 = .ok (.invokevirtual 103, 3) := by decide +kernel
theorem dX11_isFreeWithout_13 : decode cX11_isFreeWithout 13 = .ok (.iload_n 2, 1) := by decide +kernel
theorem dX11_isFreeWithout_14 : decode cX11_isFreeWithout 14 = .ok (.if_icmp .ne 17, 3) := by decide +kernel
theorem dX11_isFreeWithout_17 : decode cX11_isFreeWithout 17 = .ok (.aload_n 0, 1) := by decide +kernel
theorem dX11_isFreeWithout_18 : decode cX11_isFreeWithout 18 = .ok (.iload_n 1, 1) := by decide +kernel
theorem dX11_isFreeWithout_19 : decode cX11_isFreeWithout 19 = .ok (.iconst 0, 1) := by decide +kernel
theorem dX11_isFreeWithout_20 : decode cX11_isFreeWithout 20 = .ok (.iload_n 2, 1) := by decide +kernel
theorem dX11_isFreeWithout_21 : decode cX11_isFreeWithout 21 = .ok (.invokevirtual 106, 3) := by decide +kernel
theorem dX11_isFreeWithout_24 : decode cX11_isFreeWithout 24 = .ok (.ifCond .lt 7, 3) := by decide +kernel
theorem dX11_isFreeWithout_27 : decode cX11_isFreeWithout 27 = .ok (.iconst 1, 1) := by decide +kernel
theorem dX11_isFreeWithout_28 : decode cX11_isFreeWithout 28 = .ok (.goto 4, 3) := by decide +kernel
theorem dX11_isFreeWithout_31 : decode cX11_isFreeWithout 31 = .ok (.iconst 0, 1) := by decide +kernel
theorem dX11_isFreeWithout_32 : decode cX11_isFreeWithout 32 = .ok (.ireturn, 1) := by decide +kernel
theorem b_X11_isFreeWithout_31 {Z : qZ} {G : qG} {μ : qM} {post : Int32 → qM → Prop} (C : qX Z G RX11 cX11_isFreeWithout 3 ({ frames := 5, cells := 0, slots := 0, locals := 115 } : Room) (some .boolean)) (hQ : qQi Z G 0 0 post) (hn : 66 ≤ gn G) (h : q_X11_isFreeWithout_31 post μ) : qV Z G 3 0 0 μ 31 [] [] := by
  unfold q_X11_isFreeWithout_31 at h
  refine x_iconst C dX11_isFreeWithout_31 (v := 0) (by decide) ?_
  exact x_zret C hQ dX11_isFreeWithout_32 h
theorem b_X11_isFreeWithout_17 {Z : qZ} {G : qG} {v1 : Int32} {v2 : Int32} {μ : qM} {post : Int32 → qM → Prop} (C : qX Z G RX11 cX11_isFreeWithout 3 ({ frames := 5, cells := 0, slots := 0, locals := 115 } : Room) (some .boolean)) (hQ : qQi Z G 0 0 post) (hn : 66 ≤ gn G) (h : q_X11_isFreeWithout_17 post v1 v2 μ) : qV Z G 3 0 0 μ 17 [(0, .ref (ga G 46)), (1, .int v1), (2, .int v2)] [] := by
  unfold q_X11_isFreeWithout_17 at h
  refine x_aload_n C 0 dX11_isFreeWithout_17 rfl rfl ?_
  refine x_iload_n C 1 dX11_isFreeWithout_18 rfl rfl ?_
  refine x_iconst C dX11_isFreeWithout_19 (v := 0) (by decide) ?_
  refine x_iload_n C 2 dX11_isFreeWithout_20 rfl rfl ?_
  refine i_RX11_106 (rest := []) C hn  rfl (by decide) rfl dX11_isFreeWithout_21 h (fun r21 μ21 h => ?_)
  refine x_if_lt C dX11_isFreeWithout_24 (tgt := 31) (by decide) h (fun h => ?_) (fun h => ?_)
  · exact qV_sub [] rfl (b_X11_isFreeWithout_31 C hQ hn h)
  · refine x_iconst C dX11_isFreeWithout_27 (v := 1) (by decide) ?_
    refine x_goto C dX11_isFreeWithout_28 (tgt := 32) (by decide) ?_
    exact x_zret C hQ dX11_isFreeWithout_32 h
theorem y_X11_isFreeWithout : qY yX11_isFreeWithout cX11_isFreeWithout 3 (some .boolean) 2 ({ frames := 5, cells := 0, slots := 0, locals := 115 } : Room) 0 0 := ⟨(qm_23 _ (List.mem_of_getElem? (i := 0) rfl)), (qm_1 _ (List.mem_of_getElem? (i := 5) rfl)), by decide +kernel, by decide +kernel, rfl, rfl⟩
theorem c_X11_isFreeWithout (l : Launch) (G : qG) {v1 : Int32} {v2 : Int32} {μ : qM} (hn : 66 ≤ gn G) : qCi l G yX11_isFreeWithout cX11_isFreeWithout 3 (some .boolean) ({ frames := 5, cells := 0, slots := 0, locals := 115 } : Room) 0 0 [.ref (ga G 46), .int v1, .int v2] μ (fun post => w_X11_isFreeWithout v1 v2 post μ) := by
  refine qCi_of (L := [(0, .ref (ga G 46)), (1, .int v1), (2, .int v2)]) (by decide) rfl rfl ?_
  intro Z post hl C hQ h
  have C : qX Z G RX11 cX11_isFreeWithout 3 ({ frames := 5, cells := 0, slots := 0, locals := 115 } : Room) (some .boolean) := C
  have h : w_X11_isFreeWithout v1 v2 post μ := h
  unfold w_X11_isFreeWithout at h
  refine x_aload_n C 0 dX11_isFreeWithout_0 rfl rfl ?_
  refine x_iload_n C 1 dX11_isFreeWithout_1 rfl rfl ?_
  refine i_RX11_103 (rest := []) C hn  rfl (by decide) rfl dX11_isFreeWithout_2 h (fun r2 μ2 h => ?_)
  refine x_if_lt C dX11_isFreeWithout_5 (tgt := 17) (by decide) h (fun h => ?_) (fun h => ?_)
  · exact b_X11_isFreeWithout_17 C hQ hn h
  · refine x_aload_n C 0 dX11_isFreeWithout_8 rfl rfl ?_
    refine x_iload_n C 1 dX11_isFreeWithout_9 rfl rfl ?_
    refine i_RX11_103 (rest := []) C hn  rfl (by decide) rfl dX11_isFreeWithout_10 h (fun r10 μ10 h => ?_)
    refine x_iload_n C 2 dX11_isFreeWithout_13 rfl rfl ?_
    refine x_icmp_ne C dX11_isFreeWithout_14 (tgt := 31) (by decide) h (fun h => ?_) (fun h => ?_)
    · exact qV_sub [] rfl (b_X11_isFreeWithout_31 C hQ hn h)
    · exact b_X11_isFreeWithout_17 C hQ hn h
theorem dX11_freeLots_0 : decode cX11_freeLots 0 = .ok (.iconst 0, 1) := by decide +kernel
theorem dX11_freeLots_1 : decode cX11_freeLots 1 = .ok (.istore_n 1, 1) := by decide +kernel
theorem dX11_freeLots_2 : decode cX11_freeLots 2 = .ok (.iconst 0, 1) := by decide +kernel
theorem dX11_freeLots_3 : decode cX11_freeLots 3 = .ok (.istore_n 2, 1) := by decide +kernel
theorem dX11_freeLots_4 : decode cX11_freeLots 4 = .ok (.iload_n 2, 1) := by decide +kernel
theorem dX11_freeLots_5 : decode cX11_freeLots 5 = .ok (.sipush 144, 3) := by decide +kernel
theorem dX11_freeLots_8 : decode cX11_freeLots 8 = .ok (.if_icmp .ge 25, 3) := by decide +kernel
theorem dX11_freeLots_11 : decode cX11_freeLots 11 = .ok (.iload_n 1, 1) := by decide +kernel
theorem dX11_freeLots_12 : decode cX11_freeLots 12 = .ok (.aload_n 0, 1) := by decide +kernel
theorem dX11_freeLots_13 : decode cX11_freeLots 13 = .ok (.iload_n 2, 1) := by decide +kernel
theorem dX11_freeLots_14 : decode cX11_freeLots 14 = .ok (.invokevirtual 109, 3) := by decide +kernel
theorem dX11_freeLots_17 : decode cX11_freeLots 17 = .ok (.ifCond .eq 7, 3) := by decide +kernel
theorem dX11_freeLots_20 : decode cX11_freeLots 20 = .ok (.iconst 1, 1) := by decide +kernel
theorem dX11_freeLots_21 : decode cX11_freeLots 21 = .ok (.goto 4, 3) := by decide +kernel
theorem dX11_freeLots_24 : decode cX11_freeLots 24 = .ok (.iconst 0, 1) := by decide +kernel
theorem dX11_freeLots_25 : decode cX11_freeLots 25 = .ok (.iadd, 1) := by decide +kernel
theorem dX11_freeLots_26 : decode cX11_freeLots 26 = .ok (.istore_n 1, 1) := by decide +kernel
theorem dX11_freeLots_27 : decode cX11_freeLots 27 = .ok (.iinc 2 1, 3) := by decide +kernel
theorem dX11_freeLots_30 : decode cX11_freeLots 30 = .ok (.goto (-26), 3) := by decide +kernel
theorem dX11_freeLots_33 : decode cX11_freeLots 33 = .ok (.iload_n 1, 1) := by decide +kernel
theorem dX11_freeLots_34 : decode cX11_freeLots 34 = .ok (.ireturn, 1) := by decide +kernel
theorem i_RX11_109 {Z : qZ} {G : qG} {cc : ByteArray} {nL k n : Nat} {rm : Room} {ret : Option FieldType} {μ : qM} {pc : Nat} {L : List (Nat × Value)} {rest : List Value} {K : Int32 → qM → Prop} {v1 : Int32} (C : qX Z G RX11 cc nL rm ret) (hn : 66 ≤ gn G) (hR : (Nat.ble (5 + 1) rm.frames && Nat.ble (8 + (2 + 11) + 115) rm.locals) = true) (hf : k + 0 ≤ rm.cells ∧ n + 0 ≤ rm.slots) (hsz : Nat.ble (rest.map fun v => v.category).sum 8 = true) (hd : decode cc pc = .ok (.invokevirtual 109, 3)) (h : w_X11_isFree v1 K μ) (hk : ∀ (r : Int32) (μ1 : qM), K r μ1 → qV Z G nL k n μ1 (pc + 3) L (.int r :: rest)) : qV Z G nL k n μ pc L (.int v1 :: .ref (ga G 46) :: rest) := x_Vi [.int v1] rest C 46 10 (wp := fun K => w_X11_isFree v1 K μ) (y_X11_isFree : qY yX11_isFree cX11_isFree 2 (some .boolean) 1 ({ frames := 5, cells := 0, slots := 0, locals := 115 } : Room) 0 0) (qm_11 _ (List.mem_of_getElem? (i := 16) rfl)) (qm_11 _ (List.mem_of_getElem? (i := 17) rfl)) (qm_11 _ (List.mem_of_getElem? (i := 15) rfl)) (c_X11_isFree Z.2.1 G hn ) (Nat.lt_of_lt_of_le (by decide) hn) rfl (by decide) rfl rfl hR hf rfl rfl hsz hd h hk
theorem b_X11_freeLots_25 {Z : qZ} {G : qG} {v2 : Int32} {s0 : Int32} {s1 : Int32} {μ : qM} {P4 : Int32 → Int32 → qM → Prop} {post : Int32 → qM → Prop} (C : qX Z G RX11 cX11_freeLots 3 ({ frames := 6, cells := 0, slots := 0, locals := 136 } : Room) (some .int)) (hQ : qQi Z G 0 0 post) (hn : 66 ≤ gn G) (hP4 : ∀ (b1 : Int32) (b2 : Int32) (μ1 : qM), P4 b1 b2 μ1 → qV Z G 3 0 0 μ1 4 [(0, .ref (ga G 46)), (1, .int b1), (2, .int b2)] []) (h : q_X11_freeLots_25 P4 post v2 s0 s1 μ) : qV Z G 3 0 0 μ 25 [(0, .ref (ga G 46)), (2, .int v2)] [.int s0, .int s1] := by
  unfold q_X11_freeLots_25 at h
  refine x_iadd C dX11_freeLots_25 ?_
  refine x_istore_n C (L' := [(1, .int ((s1 + s0))), (0, .ref (ga G 46)), (2, .int v2)]) dX11_freeLots_26 rfl (by decide) rfl ?_
  refine x_iinc C 2 (v := 1) (L' := [(2, .int ((v2 + 1))), (1, .int ((s1 + s0))), (0, .ref (ga G 46))]) dX11_freeLots_27 rfl (by decide) (by decide) rfl ?_
  refine x_goto C dX11_freeLots_30 (tgt := 4) (by decide) ?_
  exact qV_sub [2, 1, 0] rfl ((hP4 _ _ _ h))
theorem b_X11_freeLots_4 {Z : qZ} {G : qG} {v1 : Int32} {v2 : Int32} {μ : qM} {post : Int32 → qM → Prop} (C : qX Z G RX11 cX11_freeLots 3 ({ frames := 6, cells := 0, slots := 0, locals := 136 } : Room) (some .int)) (hQ : qQi Z G 0 0 post) (hn : 66 ≤ gn G) (h : q_X11_freeLots_4 post v1 v2 μ) : qV Z G 3 0 0 μ 4 [(0, .ref (ga G 46)), (1, .int v1), (2, .int v2)] [] := by
  refine h (fun v1 v2 μ => qV Z G 3 0 0 μ 4 [(0, .ref (ga G 46)), (1, .int v1), (2, .int v2)] []) (fun v1 v2 μ h => ?_)
  refine x_iload_n C 2 dX11_freeLots_4 rfl rfl ?_
  refine x_sipush C dX11_freeLots_5 (v := 144) (by decide) ?_
  refine x_icmp_ge C dX11_freeLots_8 (tgt := 33) (by decide) h (fun h => ?_) (fun h => ?_)
  · refine x_iload_n C 1 dX11_freeLots_33 rfl rfl ?_
    exact x_iret C hQ dX11_freeLots_34 h
  · refine x_iload_n C 1 dX11_freeLots_11 rfl rfl ?_
    refine x_aload_n C 0 dX11_freeLots_12 rfl rfl ?_
    refine x_iload_n C 2 dX11_freeLots_13 rfl rfl ?_
    refine i_RX11_109 (rest := [.int v1]) C hn  rfl (by decide) rfl dX11_freeLots_14 h (fun r14 μ14 h => ?_)
    refine x_if_eq C dX11_freeLots_17 (tgt := 24) (by decide) h (fun h => ?_) (fun h => ?_)
    · refine x_iconst C dX11_freeLots_24 (v := 0) (by decide) ?_
      exact qV_sub [0, 2] rfl (b_X11_freeLots_25 C hQ hn (fun _ _ _ h => h) h)
    · refine x_iconst C dX11_freeLots_20 (v := 1) (by decide) ?_
      refine x_goto C dX11_freeLots_21 (tgt := 25) (by decide) ?_
      exact qV_sub [0, 2] rfl (b_X11_freeLots_25 C hQ hn (fun _ _ _ h => h) h)
theorem y_X11_freeLots : qY yX11_freeLots cX11_freeLots 3 (some .int) 0 ({ frames := 6, cells := 0, slots := 0, locals := 136 } : Room) 0 0 := ⟨(qm_24 _ (List.mem_of_getElem? (i := 21) rfl)), (qm_1 _ (List.mem_of_getElem? (i := 5) rfl)), by decide +kernel, by decide +kernel, rfl, rfl⟩
theorem c_X11_freeLots (l : Launch) (G : qG) {μ : qM} (hn : 66 ≤ gn G) : qCi l G yX11_freeLots cX11_freeLots 3 (some .int) ({ frames := 6, cells := 0, slots := 0, locals := 136 } : Room) 0 0 [.ref (ga G 46)] μ (fun post => w_X11_freeLots  post μ) := by
  refine qCi_of (L := [(0, .ref (ga G 46))]) (by decide) rfl rfl ?_
  intro Z post hl C hQ h
  have C : qX Z G RX11 cX11_freeLots 3 ({ frames := 6, cells := 0, slots := 0, locals := 136 } : Room) (some .int) := C
  have h : w_X11_freeLots  post μ := h
  unfold w_X11_freeLots at h
  refine x_iconst C dX11_freeLots_0 (v := 0) (by decide) ?_
  refine x_istore_n C (L' := [(1, .int ((0 : Int32))), (0, .ref (ga G 46))]) dX11_freeLots_1 rfl (by decide) rfl ?_
  refine x_iconst C dX11_freeLots_2 (v := 0) (by decide) ?_
  refine x_istore_n C (L' := [(2, .int ((0 : Int32))), (1, .int ((0 : Int32))), (0, .ref (ga G 46))]) dX11_freeLots_3 rfl (by decide) rfl ?_
  exact qV_sub [2, 1, 0] rfl (b_X11_freeLots_4 C hQ hn h)
theorem dX11_put_0 : decode cX11_put 0 = .ok (.aload_n 0, 1) := by decide +kernel
theorem dX11_put_1 : decode cX11_put 1 = .ok (.getfield 9, 3) := by decide +kernel
theorem dX11_put_4 : decode cX11_put 4 = .ok (.aload_n 0, 1) := by decide +kernel
theorem dX11_put_5 : decode cX11_put 5 = .ok (.getfield 76, 3) := by decide +kernel
theorem dX11_put_8 : decode cX11_put 8 = .ok (.iload_n 1, 1) := by decide +kernel
theorem dX11_put_9 : decode cX11_put 9 = .ok (.iastore, 1) := by decide +kernel
theorem dX11_put_10 : decode cX11_put 10 = .ok (.aload_n 0, 1) := by decide +kernel
theorem dX11_put_11 : decode cX11_put 11 = .ok (.getfield 13, 3) := by decide +kernel
theorem dX11_put_14 : decode cX11_put 14 = .ok (.aload_n 0, 1) := by decide +kernel
theorem dX11_put_15 : decode cX11_put 15 = .ok (.getfield 76, 3) := by decide +kernel
theorem dX11_put_18 : decode cX11_put 18 = .ok (.iload_n 2, 1) := by decide +kernel
theorem dX11_put_19 : decode cX11_put 19 = .ok (.iastore, 1) := by decide +kernel
theorem dX11_put_20 : decode cX11_put 20 = .ok (.aload_n 0, 1) := by decide +kernel
theorem dX11_put_21 : decode cX11_put 21 = .ok (.dup, 1) := by decide +kernel
theorem dX11_put_22 : decode cX11_put 22 = .ok (.getfield 76, 3) := by decide +kernel
theorem dX11_put_25 : decode cX11_put 25 = .ok (.iconst 1, 1) := by decide +kernel
theorem dX11_put_26 : decode cX11_put 26 = .ok (.iadd, 1) := by decide +kernel
theorem dX11_put_27 : decode cX11_put 27 = .ok (.putfield 76, 3) := by decide +kernel
theorem dX11_put_30 : decode cX11_put 30 = .ok (.return_, 1) := by decide +kernel
theorem p_RX11_76 {Z : qZ} {G : qG} {cc : ByteArray} {nL k n : Nat} {rm : Room} {ret : Option FieldType} {μ : qM} {pc : Nat} {L : List (Nat × Value)} {st : List Value} {x : Int32} (C : qX Z G RX11 cc nL rm ret) (hn : 66 ≤ gn G) (hd : decode cc pc = .ok (.putfield 76, 3)) (h : qV Z G nL k n (qu μ 46 0 x) (pc + 3) L st) : qV Z G nL k n μ pc L (.int x :: .ref (ga G 46) :: st) := x_puti C 46 10 0 (C0 := RX11) (fn := "many") (fd := "I") (ty := .int) (Nat.lt_of_lt_of_le (by decide) hn) rfl (by decide) rfl (by decide) rfl inlX11 tyX11_ok nmX11 (qm_8 _ (List.mem_of_getElem? (i := 12) rfl)) rfl (by decide +kernel) rfl rfl hd h
theorem y_X11_put : qY yX11_put cX11_put 3 none 2 ({ frames := 0, cells := 0, slots := 0, locals := 0 } : Room) 0 0 := ⟨(qm_9 _ (List.mem_of_getElem? (i := 10) rfl)), (qm_1 _ (List.mem_of_getElem? (i := 5) rfl)), by decide +kernel, by decide +kernel, rfl, rfl⟩
theorem c_X11_put (l : Launch) (G : qG) {v1 : Int32} {v2 : Int32} {μ : qM} (hn : 66 ≤ gn G) : qCv l G yX11_put cX11_put 3 none ({ frames := 0, cells := 0, slots := 0, locals := 0 } : Room) 0 0 [.ref (ga G 46), .int v1, .int v2] μ (fun post => w_X11_put v1 v2 post μ) := by
  refine qCv_of (L := [(0, .ref (ga G 46)), (1, .int v1), (2, .int v2)]) (by decide) rfl rfl ?_
  intro Z post hl C hQ h
  have C : qX Z G RX11 cX11_put 3 ({ frames := 0, cells := 0, slots := 0, locals := 0 } : Room) none := C
  have h : w_X11_put v1 v2 post μ := h
  unfold w_X11_put at h
  refine x_aload_n C 0 dX11_put_0 rfl rfl ?_
  refine g_RX11_9 C hn dX11_put_1 ?_
  refine x_aload_n C 0 dX11_put_4 rfl rfl ?_
  refine g_RX11_76 C hn dX11_put_5 ?_
  refine x_iload_n C 1 dX11_put_8 rfl rfl ?_
  refine x_iast C 47 19 154 (q_lt rfl rfl hn) rfl rfl rfl rfl rfl dX11_put_9 h (fun h => ?_)
  refine x_aload_n C 0 dX11_put_10 rfl rfl ?_
  refine g_RX11_13 C hn dX11_put_11 ?_
  refine x_aload_n C 0 dX11_put_14 rfl rfl ?_
  refine g_RX11_76 C hn dX11_put_15 ?_
  refine x_iload_n C 2 dX11_put_18 rfl rfl ?_
  refine x_iast C 48 19 154 (q_lt rfl rfl hn) rfl rfl rfl rfl rfl dX11_put_19 h (fun h => ?_)
  refine x_aload_n C 0 dX11_put_20 rfl rfl ?_
  refine x_dup C dX11_put_21 rfl ?_
  refine g_RX11_76 C hn dX11_put_22 ?_
  refine x_iconst C dX11_put_25 (v := 1) (by decide) ?_
  refine x_iadd C dX11_put_26 ?_
  refine p_RX11_76 C hn dX11_put_27 ?_
  exact x_vret C hQ dX11_put_30 h
theorem dX11_grace_0 : decode cX11_grace 0 = .ok (.iload_n 1, 1) := by decide +kernel
theorem dX11_grace_1 : decode cX11_grace 1 = .ok (.invokestatic 113, 3) := by decide +kernel
theorem dX11_grace_4 : decode cX11_grace 4 = .ok (.ifCond .eq 11, 3) := by decide +kernel
theorem dX11_grace_7 : decode cX11_grace 7 = .ok (.iload_n 2, 1) := by decide +kernel
theorem dX11_grace_8 : decode cX11_grace 8 = .ok (.iload_n 3, 1) := by decide +kernel
theorem dX11_grace_9 : decode cX11_grace 9 = .ok (.invokestatic 116, 3) := by decide +kernel
theorem dX11_grace_12 : decode cX11_grace 12 = .ok (.ifCond .ne 9, 3) := by decide +kernel
theorem dX11_grace_15 : decode cX11_grace 15 = .ok (.aload_n 0, 1) := by decide +kernel
theorem dX11_grace_16 : decode cX11_grace 16 = .ok (.iconst 0, 1) := by decide +kernel
theorem dX11_grace_17 : decode cX11_grace 17 = .ok (.invokevirtual 119, 3) := by decide +kernel
theorem dX11_grace_20 : decode cX11_grace 20 = .ok (.ireturn, 1) := by decide +kernel
theorem dX11_grace_21 : decode cX11_grace 21 = .ok (.aload_n 0, 1) := by decide +kernel
theorem dX11_grace_22 : decode cX11_grace 22 = .ok (.bipush 12, 2) := by decide +kernel
theorem dX11_grace_24 : decode cX11_grace 24 = .ok (.iload_n 3, 1) := by decide +kernel
theorem dX11_grace_25 : decode cX11_grace 25 = .ok (.imul, 1) := by decide +kernel
theorem dX11_grace_26 : decode cX11_grace 26 = .ok (.iload_n 2, 1) := by decide +kernel
theorem dX11_grace_27 : decode cX11_grace 27 = .ok (.iadd, 1) := by decide +kernel
theorem dX11_grace_28 : decode cX11_grace 28 = .ok (.invokevirtual 103, 3) := by decide +kernel
theorem dX11_grace_31 : decode cX11_grace 31 = .ok (.ifCond .lt 9, 3) := by decide +kernel
theorem dX11_grace_34 : decode cX11_grace 34 = .ok (.aload_n 0, 1) := by decide +kernel
theorem dX11_grace_35 : decode cX11_grace 35 = .ok (.iconst 4, 1) := by decide +kernel
theorem dX11_grace_36 : decode cX11_grace 36 = .ok (.invokevirtual 119, 3) := by decide +kernel
theorem dX11_grace_39 : decode cX11_grace 39 = .ok (.ireturn, 1) := by decide +kernel
theorem dX11_grace_40 : decode cX11_grace 40 = .ok (.aload_n 0, 1) := by decide +kernel
theorem dX11_grace_41 : decode cX11_grace 41 = .ok (.getfield 76, 3) := by decide +kernel
theorem dX11_grace_44 : decode cX11_grace 44 = .ok (.bipush 10, 2) := by decide +kernel
theorem dX11_grace_46 : decode cX11_grace 46 = .ok (.if_icmp .ne 9, 3) := by decide +kernel
theorem dX11_grace_49 : decode cX11_grace 49 = .ok (.aload_n 0, 1) := by decide +kernel
theorem dX11_grace_50 : decode cX11_grace 50 = .ok (.iconst 1, 1) := by decide +kernel
theorem dX11_grace_51 : decode cX11_grace 51 = .ok (.invokevirtual 119, 3) := by decide +kernel
theorem dX11_grace_54 : decode cX11_grace 54 = .ok (.ireturn, 1) := by decide +kernel
theorem dX11_grace_55 : decode cX11_grace 55 = .ok (.aload_n 0, 1) := by decide +kernel
theorem dX11_grace_56 : decode cX11_grace 56 = .ok (.iload_n 1, 1) := by decide +kernel
theorem dX11_grace_57 : decode cX11_grace 57 = .ok (.bipush 12, 2) := by decide +kernel
theorem dX11_grace_59 : decode cX11_grace 59 = .ok (.iload_n 3, 1) := by decide +kernel
theorem dX11_grace_60 : decode cX11_grace 60 = .ok (.imul, 1) := by decide +kernel
theorem dX11_grace_61 : decode cX11_grace 61 = .ok (.iload_n 2, 1) := by decide +kernel
theorem dX11_grace_62 : decode cX11_grace 62 = .ok (.iadd, 1) := by decide +kernel
theorem dX11_grace_63 : decode cX11_grace 63 = .ok (.invokevirtual 122, 3) := by decide +kernel
theorem dX11_grace_66 : decode cX11_grace 66 = .ok (.aload_n 0, 1) := by decide +kernel
theorem dX11_grace_67 : decode cX11_grace 67 = .ok (.getfield 76, 3) := by decide +kernel
theorem dX11_grace_70 : decode cX11_grace 70 = .ok (.iconst 1, 1) := by decide +kernel
theorem dX11_grace_71 : decode cX11_grace 71 = .ok (.isub, 1) := by decide +kernel
theorem dX11_grace_72 : decode cX11_grace 72 = .ok (.ireturn, 1) := by decide +kernel
theorem i_RX11_113 {Z : qZ} {G : qG} {cc : ByteArray} {nL k n : Nat} {rm : Room} {ret : Option FieldType} {μ : qM} {pc : Nat} {L : List (Nat × Value)} {rest : List Value} {K : Int32 → qM → Prop} {v0 : Int32} (C : qX Z G RX11 cc nL rm ret) (hn : 66 ≤ gn G) (hR : (Nat.ble (1 + 1) rm.frames && Nat.ble (8 + (1 + 11) + 22) rm.locals) = true) (hf : k + 0 ≤ rm.cells ∧ n + 0 ≤ rm.slots) (hsz : Nat.ble (rest.map fun v => v.category).sum 8 = true) (hd : decode cc pc = .ok (.invokestatic 113, 3)) (h : w_X11_isKind v0 K μ) (hk : ∀ (r : Int32) (μ1 : qM), K r μ1 → qV Z G nL k n μ1 (pc + 3) L (.int r :: rest)) : qV Z G nL k n μ pc L (.int v0 :: rest) := x_Si [.int v0] rest C (wp := fun K => w_X11_isKind v0 K μ) (y_X11_isKind : qY yX11_isKind cX11_isKind 1 (some .boolean) 1 ({ frames := 1, cells := 0, slots := 0, locals := 22 } : Room) 0 0) (qm_8 _ (List.mem_of_getElem? (i := 14) rfl)) (qm_8 _ (List.mem_of_getElem? (i := 13) rfl)) (c_X11_isKind Z.2.1 G hn ) hR hf rfl rfl hsz hd h hk
theorem i_RX11_116 {Z : qZ} {G : qG} {cc : ByteArray} {nL k n : Nat} {rm : Room} {ret : Option FieldType} {μ : qM} {pc : Nat} {L : List (Nat × Value)} {rest : List Value} {K : Int32 → qM → Prop} {v0 : Int32} {v1 : Int32} (C : qX Z G RX11 cc nL rm ret) (hn : 66 ≤ gn G) (hR : (Nat.ble (1 + 1) rm.frames && Nat.ble (8 + (2 + 11) + 22) rm.locals) = true) (hf : k + 0 ≤ rm.cells ∧ n + 0 ≤ rm.slots) (hsz : Nat.ble (rest.map fun v => v.category).sum 8 = true) (hd : decode cc pc = .ok (.invokestatic 116, 3)) (h : w_X11_isLot v0 v1 K μ) (hk : ∀ (r : Int32) (μ1 : qM), K r μ1 → qV Z G nL k n μ1 (pc + 3) L (.int r :: rest)) : qV Z G nL k n μ pc L (.int v1 :: .int v0 :: rest) := x_Si [.int v0, .int v1] rest C (wp := fun K => w_X11_isLot v0 v1 K μ) (y_X11_isLot : qY yX11_isLot cX11_isLot 2 (some .boolean) 2 ({ frames := 1, cells := 0, slots := 0, locals := 22 } : Room) 0 0) (qm_8 _ (List.mem_of_getElem? (i := 20) rfl)) (qm_8 _ (List.mem_of_getElem? (i := 19) rfl)) (c_X11_isLot Z.2.1 G hn ) hR hf rfl rfl hsz hd h hk
theorem i_RX11_119 {Z : qZ} {G : qG} {cc : ByteArray} {nL k n : Nat} {rm : Room} {ret : Option FieldType} {μ : qM} {pc : Nat} {L : List (Nat × Value)} {rest : List Value} {K : Int32 → qM → Prop} {v1 : Int32} (C : qX Z G RX11 cc nL rm ret) (hn : 66 ≤ gn G) (hR : (Nat.ble (0 + 1) rm.frames && Nat.ble (8 + (2 + 11) + 0) rm.locals) = true) (hf : k + 0 ≤ rm.cells ∧ n + 0 ≤ rm.slots) (hsz : Nat.ble (rest.map fun v => v.category).sum 8 = true) (hd : decode cc pc = .ok (.invokevirtual 119, 3)) (h : w_X11_finding v1 K μ) (hk : ∀ (r : Int32) (μ1 : qM), K r μ1 → qV Z G nL k n μ1 (pc + 3) L (.int r :: rest)) : qV Z G nL k n μ pc L (.int v1 :: .ref (ga G 46) :: rest) := x_Vi [.int v1] rest C 46 10 (wp := fun K => w_X11_finding v1 K μ) (y_X11_finding : qY yX11_finding cX11_finding 2 (some .int) 1 ({ frames := 0, cells := 0, slots := 0, locals := 0 } : Room) 0 0) (qm_8 _ (List.mem_of_getElem? (i := 23) rfl)) (qm_9 _ (List.mem_of_getElem? (i := 0) rfl)) (qm_8 _ (List.mem_of_getElem? (i := 22) rfl)) (c_X11_finding Z.2.1 G hn ) (Nat.lt_of_lt_of_le (by decide) hn) rfl (by decide) rfl rfl hR hf rfl rfl hsz hd h hk
theorem i_RX11_122 {Z : qZ} {G : qG} {cc : ByteArray} {nL k n : Nat} {rm : Room} {ret : Option FieldType} {μ : qM} {pc : Nat} {L : List (Nat × Value)} {rest : List Value} {K : qM → Prop} {v1 : Int32} {v2 : Int32} (C : qX Z G RX11 cc nL rm ret) (hn : 66 ≤ gn G) (hR : (Nat.ble (0 + 1) rm.frames && Nat.ble (8 + (3 + 11) + 0) rm.locals) = true) (hf : k + 0 ≤ rm.cells ∧ n + 0 ≤ rm.slots) (hsz : Nat.ble (rest.map fun v => v.category).sum 8 = true) (hd : decode cc pc = .ok (.invokevirtual 122, 3)) (h : w_X11_put v1 v2 K μ) (hk : ∀ (μ1 : qM), K μ1 → qV Z G nL k n μ1 (pc + 3) L rest) : qV Z G nL k n μ pc L (.int v2 :: .int v1 :: .ref (ga G 46) :: rest) := x_Vv [.int v1, .int v2] rest C 46 10 (wp := fun K => w_X11_put v1 v2 K μ) (y_X11_put : qY yX11_put cX11_put 3 none 2 ({ frames := 0, cells := 0, slots := 0, locals := 0 } : Room) 0 0) (qm_9 _ (List.mem_of_getElem? (i := 8) rfl)) (qm_9 _ (List.mem_of_getElem? (i := 9) rfl)) (qm_9 _ (List.mem_of_getElem? (i := 7) rfl)) (c_X11_put Z.2.1 G hn ) (Nat.lt_of_lt_of_le (by decide) hn) rfl (by decide) rfl rfl hR hf rfl rfl hsz hd h hk
theorem b_X11_grace_15 {Z : qZ} {G : qG} {μ : qM} {post : Int32 → qM → Prop} (C : qX Z G RX11 cX11_grace 4 ({ frames := 2, cells := 0, slots := 0, locals := 43 } : Room) (some .int)) (hQ : qQi Z G 0 0 post) (hn : 66 ≤ gn G) (h : q_X11_grace_15 post μ) : qV Z G 4 0 0 μ 15 [(0, .ref (ga G 46))] [] := by
  unfold q_X11_grace_15 at h
  refine x_aload_n C 0 dX11_grace_15 rfl rfl ?_
  refine x_iconst C dX11_grace_16 (v := 0) (by decide) ?_
  refine i_RX11_119 (rest := []) C hn  rfl (by decide) rfl dX11_grace_17 h (fun r17 μ17 h => ?_)
  exact x_iret C hQ dX11_grace_20 h
theorem y_X11_grace : qY yX11_grace cX11_grace 4 (some .int) 3 ({ frames := 2, cells := 0, slots := 0, locals := 43 } : Room) 0 0 := ⟨(qm_8 _ (List.mem_of_getElem? (i := 11) rfl)), (qm_1 _ (List.mem_of_getElem? (i := 5) rfl)), by decide +kernel, by decide +kernel, rfl, rfl⟩
theorem c_X11_grace (l : Launch) (G : qG) {v1 : Int32} {v2 : Int32} {v3 : Int32} {μ : qM} (hn : 66 ≤ gn G) : qCi l G yX11_grace cX11_grace 4 (some .int) ({ frames := 2, cells := 0, slots := 0, locals := 43 } : Room) 0 0 [.ref (ga G 46), .int v1, .int v2, .int v3] μ (fun post => w_X11_grace v1 v2 v3 post μ) := by
  refine qCi_of (L := [(0, .ref (ga G 46)), (1, .int v1), (2, .int v2), (3, .int v3)]) (by decide) rfl rfl ?_
  intro Z post hl C hQ h
  have C : qX Z G RX11 cX11_grace 4 ({ frames := 2, cells := 0, slots := 0, locals := 43 } : Room) (some .int) := C
  have h : w_X11_grace v1 v2 v3 post μ := h
  unfold w_X11_grace at h
  refine x_iload_n C 1 dX11_grace_0 rfl rfl ?_
  refine i_RX11_113 (rest := []) C hn  rfl (by decide) rfl dX11_grace_1 h (fun r1 μ1 h => ?_)
  refine x_if_eq C dX11_grace_4 (tgt := 15) (by decide) h (fun h => ?_) (fun h => ?_)
  · exact qV_sub [0] rfl (b_X11_grace_15 C hQ hn h)
  · refine x_iload_n C 2 dX11_grace_7 rfl rfl ?_
    refine x_iload_n C 3 dX11_grace_8 rfl rfl ?_
    refine i_RX11_116 (rest := []) C hn  rfl (by decide) rfl dX11_grace_9 h (fun r9 μ9 h => ?_)
    refine x_if_ne C dX11_grace_12 (tgt := 21) (by decide) h (fun h => ?_) (fun h => ?_)
    · refine x_aload_n C 0 dX11_grace_21 rfl rfl ?_
      refine x_bipush C dX11_grace_22 (v := 12) (by decide) ?_
      refine x_iload_n C 3 dX11_grace_24 rfl rfl ?_
      refine x_imul C dX11_grace_25 ?_
      refine x_iload_n C 2 dX11_grace_26 rfl rfl ?_
      refine x_iadd C dX11_grace_27 ?_
      refine i_RX11_103 (rest := []) C hn  rfl (by decide) rfl dX11_grace_28 h (fun r28 μ28 h => ?_)
      refine x_if_lt C dX11_grace_31 (tgt := 40) (by decide) h (fun h => ?_) (fun h => ?_)
      · refine x_aload_n C 0 dX11_grace_40 rfl rfl ?_
        refine g_RX11_76 C hn dX11_grace_41 ?_
        refine x_bipush C dX11_grace_44 (v := 10) (by decide) ?_
        refine x_icmp_ne C dX11_grace_46 (tgt := 55) (by decide) h (fun h => ?_) (fun h => ?_)
        · refine x_aload_n C 0 dX11_grace_55 rfl rfl ?_
          refine x_iload_n C 1 dX11_grace_56 rfl rfl ?_
          refine x_bipush C dX11_grace_57 (v := 12) (by decide) ?_
          refine x_iload_n C 3 dX11_grace_59 rfl rfl ?_
          refine x_imul C dX11_grace_60 ?_
          refine x_iload_n C 2 dX11_grace_61 rfl rfl ?_
          refine x_iadd C dX11_grace_62 ?_
          refine i_RX11_122 (rest := []) C hn  rfl (by decide) rfl dX11_grace_63 h (fun μ63 h => ?_)
          refine x_aload_n C 0 dX11_grace_66 rfl rfl ?_
          refine g_RX11_76 C hn dX11_grace_67 ?_
          refine x_iconst C dX11_grace_70 (v := 1) (by decide) ?_
          refine x_isub C dX11_grace_71 ?_
          exact x_iret C hQ dX11_grace_72 h
        · refine x_aload_n C 0 dX11_grace_49 rfl rfl ?_
          refine x_iconst C dX11_grace_50 (v := 1) (by decide) ?_
          refine i_RX11_119 (rest := []) C hn  rfl (by decide) rfl dX11_grace_51 h (fun r51 μ51 h => ?_)
          exact x_iret C hQ dX11_grace_54 h
      · refine x_aload_n C 0 dX11_grace_34 rfl rfl ?_
        refine x_iconst C dX11_grace_35 (v := 4) (by decide) ?_
        refine i_RX11_119 (rest := []) C hn  rfl (by decide) rfl dX11_grace_36 h (fun r36 μ36 h => ?_)
        exact x_iret C hQ dX11_grace_39 h
    · exact qV_sub [0] rfl (b_X11_grace_15 C hQ hn h)
theorem dX11_builds_0 : decode cX11_builds 0 = .ok (.aload_n 0, 1) := by decide +kernel
theorem dX11_builds_1 : decode cX11_builds 1 = .ok (.aload_n 0, 1) := by decide +kernel
theorem dX11_builds_2 : decode cX11_builds 2 = .ok (.getfield 22, 3) := by decide +kernel
theorem dX11_builds_5 : decode cX11_builds 5 = .ok (.iload_n 1, 1) := by decide +kernel
theorem dX11_builds_6 : decode cX11_builds 6 = .ok (.invokestatic 126, 3) := by decide +kernel
theorem dX11_builds_9 : decode cX11_builds 9 = .ok (.isub, 1) := by decide +kernel
theorem dX11_builds_10 : decode cX11_builds 10 = .ok (.aload_n 0, 1) := by decide +kernel
theorem dX11_builds_11 : decode cX11_builds 11 = .ok (.getfield 16, 3) := by decide +kernel
theorem dX11_builds_14 : decode cX11_builds 14 = .ok (.iload_n 2, 1) := by decide +kernel
theorem dX11_builds_15 : decode cX11_builds 15 = .ok (.iaload, 1) := by decide +kernel
theorem dX11_builds_16 : decode cX11_builds 16 = .ok (.iadd, 1) := by decide +kernel
theorem dX11_builds_17 : decode cX11_builds 17 = .ok (.putfield 22, 3) := by decide +kernel
theorem dX11_builds_20 : decode cX11_builds 20 = .ok (.aload_n 0, 1) := by decide +kernel
theorem dX11_builds_21 : decode cX11_builds 21 = .ok (.iload_n 1, 1) := by decide +kernel
theorem dX11_builds_22 : decode cX11_builds 22 = .ok (.iload_n 2, 1) := by decide +kernel
theorem dX11_builds_23 : decode cX11_builds 23 = .ok (.invokevirtual 122, 3) := by decide +kernel
theorem dX11_builds_26 : decode cX11_builds 26 = .ok (.return_, 1) := by decide +kernel
theorem i_RX11_126 {Z : qZ} {G : qG} {cc : ByteArray} {nL k n : Nat} {rm : Room} {ret : Option FieldType} {μ : qM} {pc : Nat} {L : List (Nat × Value)} {rest : List Value} {K : Int32 → qM → Prop} {v0 : Int32} (C : qX Z G RX11 cc nL rm ret) (hn : 66 ≤ gn G) (hR : (Nat.ble (0 + 1) rm.frames && Nat.ble (8 + (1 + 11) + 0) rm.locals) = true) (hf : k + 0 ≤ rm.cells ∧ n + 0 ≤ rm.slots) (hsz : Nat.ble (rest.map fun v => v.category).sum 8 = true) (hd : decode cc pc = .ok (.invokestatic 126, 3)) (h : w_X11_costs v0 K μ) (hk : ∀ (r : Int32) (μ1 : qM), K r μ1 → qV Z G nL k n μ1 (pc + 3) L (.int r :: rest)) : qV Z G nL k n μ pc L (.int v0 :: rest) := x_Si [.int v0] rest C (wp := fun K => w_X11_costs v0 K μ) (y_X11_costs : qY yX11_costs cX11_costs 1 (some .int) 1 ({ frames := 0, cells := 0, slots := 0, locals := 0 } : Room) 0 0) (qm_12 _ (List.mem_of_getElem? (i := 15) rfl)) (qm_12 _ (List.mem_of_getElem? (i := 14) rfl)) (c_X11_costs Z.2.1 G hn ) hR hf rfl rfl hsz hd h hk
theorem g_RX11_16 {Z : qZ} {G : qG} {cc : ByteArray} {nL k n : Nat} {rm : Room} {ret : Option FieldType} {μ : qM} {pc : Nat} {L : List (Nat × Value)} {st : List Value} (C : qX Z G RX11 cc nL rm ret) (hn : 66 ≤ gn G) (hd : decode cc pc = .ok (.getfield 16, 3)) (h : qV Z G nL k n μ (pc + 3) L (.ref (ga G 49) :: st)) : qV Z G nL k n μ pc L (.ref (ga G 46) :: st) := x_getr C 46 10 3 3 49 (C0 := RX11) (fn := "worth") (fd := "[I") (Nat.lt_of_lt_of_le (by decide) hn) rfl (by decide) rfl (by decide) rfl inlX11 (qm_5 _ (List.mem_of_getElem? (i := 17) rfl)) rfl rfl rfl hd h
theorem g_RX11_22 {Z : qZ} {G : qG} {cc : ByteArray} {nL k n : Nat} {rm : Room} {ret : Option FieldType} {μ : qM} {pc : Nat} {L : List (Nat × Value)} {st : List Value} (C : qX Z G RX11 cc nL rm ret) (hn : 66 ≤ gn G) (hd : decode cc pc = .ok (.getfield 22, 3)) (h : qV Z G nL k n μ (pc + 3) L (.int (μ 46 5) :: st)) : qV Z G nL k n μ pc L (.ref (ga G 46) :: st) := x_geti C 46 10 5 (C0 := RX11) (fn := "coin") (fd := "I") (Nat.lt_of_lt_of_le (by decide) hn) rfl (by decide) rfl (by decide) rfl inlX11 (qm_5 _ (List.mem_of_getElem? (i := 19) rfl)) rfl hd h
theorem p_RX11_22 {Z : qZ} {G : qG} {cc : ByteArray} {nL k n : Nat} {rm : Room} {ret : Option FieldType} {μ : qM} {pc : Nat} {L : List (Nat × Value)} {st : List Value} {x : Int32} (C : qX Z G RX11 cc nL rm ret) (hn : 66 ≤ gn G) (hd : decode cc pc = .ok (.putfield 22, 3)) (h : qV Z G nL k n (qu μ 46 5 x) (pc + 3) L st) : qV Z G nL k n μ pc L (.int x :: .ref (ga G 46) :: st) := x_puti C 46 10 5 (C0 := RX11) (fn := "coin") (fd := "I") (ty := .int) (Nat.lt_of_lt_of_le (by decide) hn) rfl (by decide) rfl (by decide) rfl inlX11 tyX11_ok nmX11 (qm_5 _ (List.mem_of_getElem? (i := 19) rfl)) rfl (by decide +kernel) rfl rfl hd h
theorem y_X11_builds : qY yX11_builds cX11_builds 3 none 2 ({ frames := 1, cells := 0, slots := 0, locals := 22 } : Room) 0 0 := ⟨(qm_12 _ (List.mem_of_getElem? (i := 20) rfl)), (qm_1 _ (List.mem_of_getElem? (i := 5) rfl)), by decide +kernel, by decide +kernel, rfl, rfl⟩
theorem c_X11_builds (l : Launch) (G : qG) {v1 : Int32} {v2 : Int32} {μ : qM} (hn : 66 ≤ gn G) : qCv l G yX11_builds cX11_builds 3 none ({ frames := 1, cells := 0, slots := 0, locals := 22 } : Room) 0 0 [.ref (ga G 46), .int v1, .int v2] μ (fun post => w_X11_builds v1 v2 post μ) := by
  refine qCv_of (L := [(0, .ref (ga G 46)), (1, .int v1), (2, .int v2)]) (by decide) rfl rfl ?_
  intro Z post hl C hQ h
  have C : qX Z G RX11 cX11_builds 3 ({ frames := 1, cells := 0, slots := 0, locals := 22 } : Room) none := C
  have h : w_X11_builds v1 v2 post μ := h
  unfold w_X11_builds at h
  refine x_aload_n C 0 dX11_builds_0 rfl rfl ?_
  refine x_aload_n C 0 dX11_builds_1 rfl rfl ?_
  refine g_RX11_22 C hn dX11_builds_2 ?_
  refine x_iload_n C 1 dX11_builds_5 rfl rfl ?_
  refine i_RX11_126 (rest := [.int ((μ 46 5)), .ref (ga G 46)]) C hn  rfl (by decide) rfl dX11_builds_6 h (fun r6 μ6 h => ?_)
  refine x_isub C dX11_builds_9 ?_
  refine x_aload_n C 0 dX11_builds_10 rfl rfl ?_
  refine g_RX11_16 C hn dX11_builds_11 ?_
  refine x_iload_n C 2 dX11_builds_14 rfl rfl ?_
  refine x_iald C 49 12 144 (q_lt rfl rfl hn) rfl rfl rfl rfl rfl dX11_builds_15 h (fun h => ?_)
  refine x_iadd C dX11_builds_16 ?_
  refine p_RX11_22 C hn dX11_builds_17 ?_
  refine x_aload_n C 0 dX11_builds_20 rfl rfl ?_
  refine x_iload_n C 1 dX11_builds_21 rfl rfl ?_
  refine x_iload_n C 2 dX11_builds_22 rfl rfl ?_
  refine i_RX11_122 (rest := []) C hn  rfl (by decide) rfl dX11_builds_23 h (fun μ23 h => ?_)
  exact x_vret C hQ dX11_builds_26 h
theorem dX11_build_0 : decode cX11_build 0 = .ok (.iload_n 1, 1) := by decide +kernel
theorem dX11_build_1 : decode cX11_build 1 = .ok (.invokestatic 113, 3) := by decide +kernel
theorem dX11_build_4 : decode cX11_build 4 = .ok (.ifCond .eq 11, 3) := by decide +kernel
theorem dX11_build_7 : decode cX11_build 7 = .ok (.iload_n 2, 1) := by decide +kernel
theorem dX11_build_8 : decode cX11_build 8 = .ok (.iload_n 3, 1) := by decide +kernel
theorem dX11_build_9 : decode cX11_build 9 = .ok (.invokestatic 116, 3) := by decide +kernel
theorem dX11_build_12 : decode cX11_build 12 = .ok (.ifCond .ne 9, 3) := by decide +kernel
theorem dX11_build_15 : decode cX11_build 15 = .ok (.aload_n 0, 1) := by decide +kernel
theorem dX11_build_16 : decode cX11_build 16 = .ok (.iconst 0, 1) := by decide +kernel
theorem dX11_build_17 : decode cX11_build 17 = .ok (.invokevirtual 119, 3) := by decide +kernel
theorem dX11_build_20 : decode cX11_build 20 = .ok (.ireturn, 1) := by decide +kernel
theorem dX11_build_21 : decode cX11_build 21 = .ok (.aload_n 0, 1) := by decide +kernel
theorem dX11_build_22 : decode cX11_build 22 = .ok (.bipush 12, 2) := by decide +kernel
theorem dX11_build_24 : decode cX11_build 24 = .ok (.iload_n 3, 1) := by decide +kernel
theorem dX11_build_25 : decode cX11_build 25 = .ok (.imul, 1) := by decide +kernel
theorem dX11_build_26 : decode cX11_build 26 = .ok (.iload_n 2, 1) := by decide +kernel
theorem dX11_build_27 : decode cX11_build 27 = .ok (.iadd, 1) := by decide +kernel
theorem dX11_build_28 : decode cX11_build 28 = .ok (.invokevirtual 109, 3) := by decide +kernel
theorem dX11_build_31 : decode cX11_build 31 = .ok (.ifCond .eq 14, 3) := by decide +kernel
theorem dX11_build_34 : decode cX11_build 34 = .ok (.aload_n 0, 1) := by decide +kernel
theorem dX11_build_35 : decode cX11_build 35 = .ok (.getfield 22, 3) := by decide +kernel
theorem dX11_build_38 : decode cX11_build 38 = .ok (.iload_n 1, 1) := by decide +kernel
theorem dX11_build_39 : decode cX11_build 39 = .ok (.invokestatic 126, 3) := by decide +kernel
theorem dX11_build_42 : decode cX11_build 42 = .ok (.if_icmp .ge 9, 3) := by decide +kernel
theorem dX11_build_45 : decode cX11_build 45 = .ok (.aload_n 0, 1) := by decide +kernel
theorem dX11_build_46 : decode cX11_build 46 = .ok (.iconst 4, 1) := by decide +kernel
theorem dX11_build_47 : decode cX11_build 47 = .ok (.invokevirtual 119, 3) := by decide +kernel
theorem dX11_build_50 : decode cX11_build 50 = .ok (.ireturn, 1) := by decide +kernel
theorem dX11_build_51 : decode cX11_build 51 = .ok (.aload_n 0, 1) := by decide +kernel
theorem dX11_build_52 : decode cX11_build 52 = .ok (.getfield 76, 3) := by decide +kernel
theorem dX11_build_55 : decode cX11_build 55 = .ok (.bipush 10, 2) := by decide +kernel
theorem dX11_build_57 : decode cX11_build 57 = .ok (.if_icmp .ne 9, 3) := by decide +kernel
theorem dX11_build_60 : decode cX11_build 60 = .ok (.aload_n 0, 1) := by decide +kernel
theorem dX11_build_61 : decode cX11_build 61 = .ok (.iconst 1, 1) := by decide +kernel
theorem dX11_build_62 : decode cX11_build 62 = .ok (.invokevirtual 119, 3) := by decide +kernel
theorem dX11_build_65 : decode cX11_build 65 = .ok (.ireturn, 1) := by decide +kernel
theorem dX11_build_66 : decode cX11_build 66 = .ok (.aload_n 0, 1) := by decide +kernel
theorem dX11_build_67 : decode cX11_build 67 = .ok (.iload_n 1, 1) := by decide +kernel
theorem dX11_build_68 : decode cX11_build 68 = .ok (.bipush 12, 2) := by decide +kernel
theorem dX11_build_70 : decode cX11_build 70 = .ok (.iload_n 3, 1) := by decide +kernel
theorem dX11_build_71 : decode cX11_build 71 = .ok (.imul, 1) := by decide +kernel
theorem dX11_build_72 : decode cX11_build 72 = .ok (.iload_n 2, 1) := by decide +kernel
theorem dX11_build_73 : decode cX11_build 73 = .ok (.iadd, 1) := by decide +kernel
theorem dX11_build_74 : decode cX11_build 74 = .ok (.invokevirtual 129, 3) := by decide +kernel
theorem dX11_build_77 : decode cX11_build 77 = .ok (.aload_n 0, 1) := by decide +kernel
theorem dX11_build_78 : decode cX11_build 78 = .ok (.getfield 22, 3) := by decide +kernel
theorem dX11_build_81 : decode cX11_build 81 = .ok (.ireturn, 1) := by decide +kernel
theorem i_RX11_129 {Z : qZ} {G : qG} {cc : ByteArray} {nL k n : Nat} {rm : Room} {ret : Option FieldType} {μ : qM} {pc : Nat} {L : List (Nat × Value)} {rest : List Value} {K : qM → Prop} {v1 : Int32} {v2 : Int32} (C : qX Z G RX11 cc nL rm ret) (hn : 66 ≤ gn G) (hR : (Nat.ble (1 + 1) rm.frames && Nat.ble (8 + (3 + 11) + 22) rm.locals) = true) (hf : k + 0 ≤ rm.cells ∧ n + 0 ≤ rm.slots) (hsz : Nat.ble (rest.map fun v => v.category).sum 8 = true) (hd : decode cc pc = .ok (.invokevirtual 129, 3)) (h : w_X11_builds v1 v2 K μ) (hk : ∀ (μ1 : qM), K μ1 → qV Z G nL k n μ1 (pc + 3) L rest) : qV Z G nL k n μ pc L (.int v2 :: .int v1 :: .ref (ga G 46) :: rest) := x_Vv [.int v1, .int v2] rest C 46 10 (wp := fun K => w_X11_builds v1 v2 K μ) (y_X11_builds : qY yX11_builds cX11_builds 3 none 2 ({ frames := 1, cells := 0, slots := 0, locals := 22 } : Room) 0 0) (qm_12 _ (List.mem_of_getElem? (i := 18) rfl)) (qm_12 _ (List.mem_of_getElem? (i := 19) rfl)) (qm_12 _ (List.mem_of_getElem? (i := 17) rfl)) (c_X11_builds Z.2.1 G hn ) (Nat.lt_of_lt_of_le (by decide) hn) rfl (by decide) rfl rfl hR hf rfl rfl hsz hd h hk
theorem b_X11_build_15 {Z : qZ} {G : qG} {μ : qM} {post : Int32 → qM → Prop} (C : qX Z G RX11 cX11_build 4 ({ frames := 6, cells := 0, slots := 0, locals := 136 } : Room) (some .int)) (hQ : qQi Z G 0 0 post) (hn : 66 ≤ gn G) (h : q_X11_build_15 post μ) : qV Z G 4 0 0 μ 15 [(0, .ref (ga G 46))] [] := by
  unfold q_X11_build_15 at h
  refine x_aload_n C 0 dX11_build_15 rfl rfl ?_
  refine x_iconst C dX11_build_16 (v := 0) (by decide) ?_
  refine i_RX11_119 (rest := []) C hn  rfl (by decide) rfl dX11_build_17 h (fun r17 μ17 h => ?_)
  exact x_iret C hQ dX11_build_20 h
theorem b_X11_build_45 {Z : qZ} {G : qG} {μ : qM} {post : Int32 → qM → Prop} (C : qX Z G RX11 cX11_build 4 ({ frames := 6, cells := 0, slots := 0, locals := 136 } : Room) (some .int)) (hQ : qQi Z G 0 0 post) (hn : 66 ≤ gn G) (h : q_X11_build_45 post μ) : qV Z G 4 0 0 μ 45 [(0, .ref (ga G 46))] [] := by
  unfold q_X11_build_45 at h
  refine x_aload_n C 0 dX11_build_45 rfl rfl ?_
  refine x_iconst C dX11_build_46 (v := 4) (by decide) ?_
  refine i_RX11_119 (rest := []) C hn  rfl (by decide) rfl dX11_build_47 h (fun r47 μ47 h => ?_)
  exact x_iret C hQ dX11_build_50 h
theorem y_X11_build : qY yX11_build cX11_build 4 (some .int) 3 ({ frames := 6, cells := 0, slots := 0, locals := 136 } : Room) 0 0 := ⟨(qm_11 _ (List.mem_of_getElem? (i := 14) rfl)), (qm_1 _ (List.mem_of_getElem? (i := 5) rfl)), by decide +kernel, by decide +kernel, rfl, rfl⟩
theorem c_X11_build (l : Launch) (G : qG) {v1 : Int32} {v2 : Int32} {v3 : Int32} {μ : qM} (hn : 66 ≤ gn G) : qCi l G yX11_build cX11_build 4 (some .int) ({ frames := 6, cells := 0, slots := 0, locals := 136 } : Room) 0 0 [.ref (ga G 46), .int v1, .int v2, .int v3] μ (fun post => w_X11_build v1 v2 v3 post μ) := by
  refine qCi_of (L := [(0, .ref (ga G 46)), (1, .int v1), (2, .int v2), (3, .int v3)]) (by decide) rfl rfl ?_
  intro Z post hl C hQ h
  have C : qX Z G RX11 cX11_build 4 ({ frames := 6, cells := 0, slots := 0, locals := 136 } : Room) (some .int) := C
  have h : w_X11_build v1 v2 v3 post μ := h
  unfold w_X11_build at h
  refine x_iload_n C 1 dX11_build_0 rfl rfl ?_
  refine i_RX11_113 (rest := []) C hn  rfl (by decide) rfl dX11_build_1 h (fun r1 μ1 h => ?_)
  refine x_if_eq C dX11_build_4 (tgt := 15) (by decide) h (fun h => ?_) (fun h => ?_)
  · exact qV_sub [0] rfl (b_X11_build_15 C hQ hn h)
  · refine x_iload_n C 2 dX11_build_7 rfl rfl ?_
    refine x_iload_n C 3 dX11_build_8 rfl rfl ?_
    refine i_RX11_116 (rest := []) C hn  rfl (by decide) rfl dX11_build_9 h (fun r9 μ9 h => ?_)
    refine x_if_ne C dX11_build_12 (tgt := 21) (by decide) h (fun h => ?_) (fun h => ?_)
    · refine x_aload_n C 0 dX11_build_21 rfl rfl ?_
      refine x_bipush C dX11_build_22 (v := 12) (by decide) ?_
      refine x_iload_n C 3 dX11_build_24 rfl rfl ?_
      refine x_imul C dX11_build_25 ?_
      refine x_iload_n C 2 dX11_build_26 rfl rfl ?_
      refine x_iadd C dX11_build_27 ?_
      refine i_RX11_109 (rest := []) C hn  rfl (by decide) rfl dX11_build_28 h (fun r28 μ28 h => ?_)
      refine x_if_eq C dX11_build_31 (tgt := 45) (by decide) h (fun h => ?_) (fun h => ?_)
      · exact qV_sub [0] rfl (b_X11_build_45 C hQ hn h)
      · refine x_aload_n C 0 dX11_build_34 rfl rfl ?_
        refine g_RX11_22 C hn dX11_build_35 ?_
        refine x_iload_n C 1 dX11_build_38 rfl rfl ?_
        refine i_RX11_126 (rest := [.int ((μ28 46 5))]) C hn  rfl (by decide) rfl dX11_build_39 h (fun r39 μ39 h => ?_)
        refine x_icmp_ge C dX11_build_42 (tgt := 51) (by decide) h (fun h => ?_) (fun h => ?_)
        · refine x_aload_n C 0 dX11_build_51 rfl rfl ?_
          refine g_RX11_76 C hn dX11_build_52 ?_
          refine x_bipush C dX11_build_55 (v := 10) (by decide) ?_
          refine x_icmp_ne C dX11_build_57 (tgt := 66) (by decide) h (fun h => ?_) (fun h => ?_)
          · refine x_aload_n C 0 dX11_build_66 rfl rfl ?_
            refine x_iload_n C 1 dX11_build_67 rfl rfl ?_
            refine x_bipush C dX11_build_68 (v := 12) (by decide) ?_
            refine x_iload_n C 3 dX11_build_70 rfl rfl ?_
            refine x_imul C dX11_build_71 ?_
            refine x_iload_n C 2 dX11_build_72 rfl rfl ?_
            refine x_iadd C dX11_build_73 ?_
            refine i_RX11_129 (rest := []) C hn  rfl (by decide) rfl dX11_build_74 h (fun μ74 h => ?_)
            refine x_aload_n C 0 dX11_build_77 rfl rfl ?_
            refine g_RX11_22 C hn dX11_build_78 ?_
            exact x_iret C hQ dX11_build_81 h
          · refine x_aload_n C 0 dX11_build_60 rfl rfl ?_
            refine x_iconst C dX11_build_61 (v := 1) (by decide) ?_
            refine i_RX11_119 (rest := []) C hn  rfl (by decide) rfl dX11_build_62 h (fun r62 μ62 h => ?_)
            exact x_iret C hQ dX11_build_65 h
        · exact qV_sub [0] rfl (b_X11_build_45 C hQ hn h)
    · exact qV_sub [0] rfl (b_X11_build_15 C hQ hn h)
theorem dX11_pairsOf_0 : decode cX11_pairsOf 0 = .ok (.iconst 0, 1) := by decide +kernel
theorem dX11_pairsOf_1 : decode cX11_pairsOf 1 = .ok (.istore_n 2, 1) := by decide +kernel
theorem dX11_pairsOf_2 : decode cX11_pairsOf 2 = .ok (.iconst 0, 1) := by decide +kernel
theorem dX11_pairsOf_3 : decode cX11_pairsOf 3 = .ok (.istore_n 3, 1) := by decide +kernel
theorem dX11_pairsOf_4 : decode cX11_pairsOf 4 = .ok (.iload_n 3, 1) := by decide +kernel
theorem dX11_pairsOf_5 : decode cX11_pairsOf 5 = .ok (.aload_n 0, 1) := by decide +kernel
theorem dX11_pairsOf_6 : decode cX11_pairsOf 6 = .ok (.getfield 76, 3) := by decide +kernel
theorem dX11_pairsOf_9 : decode cX11_pairsOf 9 = .ok (.if_icmp .ge 28, 3) := by decide +kernel
theorem dX11_pairsOf_12 : decode cX11_pairsOf 12 = .ok (.iload_n 2, 1) := by decide +kernel
theorem dX11_pairsOf_13 : decode cX11_pairsOf 13 = .ok (.aload_n 0, 1) := by decide +kernel
theorem dX11_pairsOf_14 : decode cX11_pairsOf 14 = .ok (.iload_n 1, 1) := by decide +kernel
theorem dX11_pairsOf_15 : decode cX11_pairsOf 15 = .ok (.iload_n 3, 1) := by decide +kernel
theorem dX11_pairsOf_16 : decode cX11_pairsOf 16 = .ok (.invokevirtual 100, 3) := by decide +kernel
theorem dX11_pairsOf_19 : decode cX11_pairsOf 19 = .ok (.ifCond .eq 9, 3) := by decide +kernel
theorem dX11_pairsOf_22 : decode cX11_pairsOf 22 = .ok (.iconst 1, 1) := by decide +kernel
theorem dX11_pairsOf_23 : decode cX11_pairsOf 23 = .ok (.iload_n 3, 1) := by decide +kernel
theorem dX11_pairsOf_24 : decode cX11_pairsOf 24 = .ok (.ishl, 1) := by decide +kernel
theorem dX11_pairsOf_25 : decode cX11_pairsOf 25 = .ok (.goto 4, 3) := by decide +kernel
theorem dX11_pairsOf_28 : decode cX11_pairsOf 28 = .ok (.iconst 0, 1) := by decide +kernel
theorem dX11_pairsOf_29 : decode cX11_pairsOf 29 = .ok (.ior, 1) := by decide +kernel
theorem dX11_pairsOf_30 : decode cX11_pairsOf 30 = .ok (.istore_n 2, 1) := by decide +kernel
theorem dX11_pairsOf_31 : decode cX11_pairsOf 31 = .ok (.iinc 3 1, 3) := by decide +kernel
theorem dX11_pairsOf_34 : decode cX11_pairsOf 34 = .ok (.goto (-30), 3) := by decide +kernel
theorem dX11_pairsOf_37 : decode cX11_pairsOf 37 = .ok (.iload_n 2, 1) := by decide +kernel
theorem dX11_pairsOf_38 : decode cX11_pairsOf 38 = .ok (.ireturn, 1) := by decide +kernel
theorem b_X11_pairsOf_29 {Z : qZ} {G : qG} {v1 : Int32} {v3 : Int32} {s0 : Int32} {s1 : Int32} {μ : qM} {P4 : Int32 → Int32 → qM → Prop} {post : Int32 → qM → Prop} (C : qX Z G RX11 cX11_pairsOf 4 ({ frames := 4, cells := 0, slots := 0, locals := 89 } : Room) (some .int)) (hQ : qQi Z G 0 0 post) (hn : 66 ≤ gn G) (hP4 : ∀ (b2 : Int32) (b3 : Int32) (μ1 : qM), P4 b2 b3 μ1 → qV Z G 4 0 0 μ1 4 [(0, .ref (ga G 46)), (1, .int v1), (2, .int b2), (3, .int b3)] []) (h : q_X11_pairsOf_29 P4 post v1 v3 s0 s1 μ) : qV Z G 4 0 0 μ 29 [(0, .ref (ga G 46)), (1, .int v1), (3, .int v3)] [.int s0, .int s1] := by
  unfold q_X11_pairsOf_29 at h
  refine x_ior C dX11_pairsOf_29 ?_
  refine x_istore_n C (L' := [(2, .int ((s1 ||| s0))), (0, .ref (ga G 46)), (1, .int v1), (3, .int v3)]) dX11_pairsOf_30 rfl (by decide) rfl ?_
  refine x_iinc C 3 (v := 1) (L' := [(3, .int ((v3 + 1))), (2, .int ((s1 ||| s0))), (0, .ref (ga G 46)), (1, .int v1)]) dX11_pairsOf_31 rfl (by decide) (by decide) rfl ?_
  refine x_goto C dX11_pairsOf_34 (tgt := 4) (by decide) ?_
  exact qV_sub [2, 3, 1, 0] rfl ((hP4 _ _ _ h))
theorem b_X11_pairsOf_4 {Z : qZ} {G : qG} {v1 : Int32} {v2 : Int32} {v3 : Int32} {μ : qM} {post : Int32 → qM → Prop} (C : qX Z G RX11 cX11_pairsOf 4 ({ frames := 4, cells := 0, slots := 0, locals := 89 } : Room) (some .int)) (hQ : qQi Z G 0 0 post) (hn : 66 ≤ gn G) (h : q_X11_pairsOf_4 v1 post v2 v3 μ) : qV Z G 4 0 0 μ 4 [(0, .ref (ga G 46)), (1, .int v1), (2, .int v2), (3, .int v3)] [] := by
  refine h (fun v2 v3 μ => qV Z G 4 0 0 μ 4 [(0, .ref (ga G 46)), (1, .int v1), (2, .int v2), (3, .int v3)] []) (fun v2 v3 μ h => ?_)
  refine x_iload_n C 3 dX11_pairsOf_4 rfl rfl ?_
  refine x_aload_n C 0 dX11_pairsOf_5 rfl rfl ?_
  refine g_RX11_76 C hn dX11_pairsOf_6 ?_
  refine x_icmp_ge C dX11_pairsOf_9 (tgt := 37) (by decide) h (fun h => ?_) (fun h => ?_)
  · refine x_iload_n C 2 dX11_pairsOf_37 rfl rfl ?_
    exact x_iret C hQ dX11_pairsOf_38 h
  · refine x_iload_n C 2 dX11_pairsOf_12 rfl rfl ?_
    refine x_aload_n C 0 dX11_pairsOf_13 rfl rfl ?_
    refine x_iload_n C 1 dX11_pairsOf_14 rfl rfl ?_
    refine x_iload_n C 3 dX11_pairsOf_15 rfl rfl ?_
    refine i_RX11_100 (rest := [.int v2]) C hn  rfl (by decide) rfl dX11_pairsOf_16 h (fun r16 μ16 h => ?_)
    refine x_if_eq C dX11_pairsOf_19 (tgt := 28) (by decide) h (fun h => ?_) (fun h => ?_)
    · refine x_iconst C dX11_pairsOf_28 (v := 0) (by decide) ?_
      exact qV_sub [0, 1, 3] rfl (b_X11_pairsOf_29 C hQ hn (fun _ _ _ h => h) h)
    · refine x_iconst C dX11_pairsOf_22 (v := 1) (by decide) ?_
      refine x_iload_n C 3 dX11_pairsOf_23 rfl rfl ?_
      refine x_ishl C dX11_pairsOf_24 ?_
      refine x_goto C dX11_pairsOf_25 (tgt := 29) (by decide) ?_
      exact qV_sub [0, 1, 3] rfl (b_X11_pairsOf_29 C hQ hn (fun _ _ _ h => h) h)
theorem y_X11_pairsOf : qY yX11_pairsOf cX11_pairsOf 4 (some .int) 1 ({ frames := 4, cells := 0, slots := 0, locals := 89 } : Room) 0 0 := ⟨(qm_14 _ (List.mem_of_getElem? (i := 10) rfl)), (qm_1 _ (List.mem_of_getElem? (i := 5) rfl)), by decide +kernel, by decide +kernel, rfl, rfl⟩
theorem c_X11_pairsOf (l : Launch) (G : qG) {v1 : Int32} {μ : qM} (hn : 66 ≤ gn G) : qCi l G yX11_pairsOf cX11_pairsOf 4 (some .int) ({ frames := 4, cells := 0, slots := 0, locals := 89 } : Room) 0 0 [.ref (ga G 46), .int v1] μ (fun post => w_X11_pairsOf v1 post μ) := by
  refine qCi_of (L := [(0, .ref (ga G 46)), (1, .int v1)]) (by decide) rfl rfl ?_
  intro Z post hl C hQ h
  have C : qX Z G RX11 cX11_pairsOf 4 ({ frames := 4, cells := 0, slots := 0, locals := 89 } : Room) (some .int) := C
  have h : w_X11_pairsOf v1 post μ := h
  unfold w_X11_pairsOf at h
  refine x_iconst C dX11_pairsOf_0 (v := 0) (by decide) ?_
  refine x_istore_n C (L' := [(2, .int ((0 : Int32))), (0, .ref (ga G 46)), (1, .int v1)]) dX11_pairsOf_1 rfl (by decide) rfl ?_
  refine x_iconst C dX11_pairsOf_2 (v := 0) (by decide) ?_
  refine x_istore_n C (L' := [(3, .int ((0 : Int32))), (2, .int ((0 : Int32))), (0, .ref (ga G 46)), (1, .int v1)]) dX11_pairsOf_3 rfl (by decide) rfl ?_
  exact qV_sub [2, 3, 1, 0] rfl (b_X11_pairsOf_4 C hQ hn h)
theorem dX11_of_0 : decode cX11_of 0 = .ok (.aload_n 0, 1) := by decide +kernel
theorem dX11_of_1 : decode cX11_of 1 = .ok (.iload_n 1, 1) := by decide +kernel
theorem dX11_of_2 : decode cX11_of 2 = .ok (.invokevirtual 132, 3) := by decide +kernel
theorem dX11_of_5 : decode cX11_of 5 = .ok (.ifCond .eq 12, 3) := by decide +kernel
theorem dX11_of_8 : decode cX11_of 8 = .ok (.iload_n 2, 1) := by decide +kernel
theorem dX11_of_9 : decode cX11_of 9 = .ok (.iconst 0, 1) := by decide +kernel
theorem dX11_of_10 : decode cX11_of 10 = .ok (.iconst 4, 1) := by decide +kernel
theorem dX11_of_11 : decode cX11_of 11 = .ok (.invokestatic 79, 3) := by decide +kernel
theorem dX11_of_14 : decode cX11_of 14 = .ok (.ifCond .ne 9, 3) := by decide +kernel
theorem dX11_of_17 : decode cX11_of 17 = .ok (.aload_n 0, 1) := by decide +kernel
theorem dX11_of_18 : decode cX11_of 18 = .ok (.iconst 0, 1) := by decide +kernel
theorem dX11_of_19 : decode cX11_of 19 = .ok (.invokevirtual 119, 3) := by decide +kernel
theorem dX11_of_22 : decode cX11_of 22 = .ok (.ireturn, 1) := by decide +kernel
theorem dX11_of_23 : decode cX11_of 23 = .ok (.iload_n 2, 1) := by decide +kernel
theorem dX11_of_24 : decode cX11_of 24 = .ok (.tableswitch 69 0 3 #[32, 39, 49, 59], 32) := by decide +kernel
theorem dX11_of_56 : decode cX11_of 56 = .ok (.aload_n 0, 1) := by decide +kernel
theorem dX11_of_57 : decode cX11_of 57 = .ok (.getfield 9, 3) := by decide +kernel
theorem dX11_of_60 : decode cX11_of 60 = .ok (.iload_n 1, 1) := by decide +kernel
theorem dX11_of_61 : decode cX11_of 61 = .ok (.iaload, 1) := by decide +kernel
theorem dX11_of_62 : decode cX11_of 62 = .ok (.ireturn, 1) := by decide +kernel
theorem dX11_of_63 : decode cX11_of 63 = .ok (.aload_n 0, 1) := by decide +kernel
theorem dX11_of_64 : decode cX11_of 64 = .ok (.getfield 13, 3) := by decide +kernel
theorem dX11_of_67 : decode cX11_of 67 = .ok (.iload_n 1, 1) := by decide +kernel
theorem dX11_of_68 : decode cX11_of 68 = .ok (.iaload, 1) := by decide +kernel
theorem dX11_of_69 : decode cX11_of 69 = .ok (.bipush 12, 2) := by decide +kernel
theorem dX11_of_71 : decode cX11_of 71 = .ok (.irem, 1) := by decide +kernel
theorem dX11_of_72 : decode cX11_of 72 = .ok (.ireturn, 1) := by decide +kernel
theorem dX11_of_73 : decode cX11_of 73 = .ok (.aload_n 0, 1) := by decide +kernel
theorem dX11_of_74 : decode cX11_of 74 = .ok (.getfield 13, 3) := by decide +kernel
theorem dX11_of_77 : decode cX11_of 77 = .ok (.iload_n 1, 1) := by decide +kernel
theorem dX11_of_78 : decode cX11_of 78 = .ok (.iaload, 1) := by decide +kernel
theorem dX11_of_79 : decode cX11_of 79 = .ok (.bipush 12, 2) := by decide +kernel
theorem dX11_of_81 : decode cX11_of 81 = .ok (.idiv, 1) := by decide +kernel
theorem dX11_of_82 : decode cX11_of 82 = .ok (.ireturn, 1) := by decide +kernel
theorem dX11_of_83 : decode cX11_of 83 = .ok (.aload_n 0, 1) := by decide +kernel
theorem dX11_of_84 : decode cX11_of 84 = .ok (.getfield 9, 3) := by decide +kernel
theorem dX11_of_87 : decode cX11_of 87 = .ok (.iload_n 1, 1) := by decide +kernel
theorem dX11_of_88 : decode cX11_of 88 = .ok (.iaload, 1) := by decide +kernel
theorem dX11_of_89 : decode cX11_of 89 = .ok (.invokestatic 126, 3) := by decide +kernel
theorem dX11_of_92 : decode cX11_of 92 = .ok (.ireturn, 1) := by decide +kernel
theorem dX11_of_93 : decode cX11_of 93 = .ok (.aload_n 0, 1) := by decide +kernel
theorem dX11_of_94 : decode cX11_of 94 = .ok (.iload_n 1, 1) := by decide +kernel
theorem dX11_of_95 : decode cX11_of 95 = .ok (.invokevirtual 135, 3) := by decide +kernel
theorem dX11_of_98 : decode cX11_of 98 = .ok (.ireturn, 1) := by decide +kernel
theorem i_RX11_132 {Z : qZ} {G : qG} {cc : ByteArray} {nL k n : Nat} {rm : Room} {ret : Option FieldType} {μ : qM} {pc : Nat} {L : List (Nat × Value)} {rest : List Value} {K : Int32 → qM → Prop} {v1 : Int32} (C : qX Z G RX11 cc nL rm ret) (hn : 66 ≤ gn G) (hR : (Nat.ble (1 + 1) rm.frames && Nat.ble (8 + (2 + 11) + 22) rm.locals) = true) (hf : k + 0 ≤ rm.cells ∧ n + 0 ≤ rm.slots) (hsz : Nat.ble (rest.map fun v => v.category).sum 8 = true) (hd : decode cc pc = .ok (.invokevirtual 132, 3)) (h : w_X11_isHouse v1 K μ) (hk : ∀ (r : Int32) (μ1 : qM), K r μ1 → qV Z G nL k n μ1 (pc + 3) L (.int r :: rest)) : qV Z G nL k n μ pc L (.int v1 :: .ref (ga G 46) :: rest) := x_Vi [.int v1] rest C 46 10 (wp := fun K => w_X11_isHouse v1 K μ) (y_X11_isHouse : qY yX11_isHouse cX11_isHouse 2 (some .boolean) 1 ({ frames := 1, cells := 0, slots := 0, locals := 22 } : Room) 0 0) (qm_14 _ (List.mem_of_getElem? (i := 4) rfl)) (qm_14 _ (List.mem_of_getElem? (i := 5) rfl)) (qm_14 _ (List.mem_of_getElem? (i := 3) rfl)) (c_X11_isHouse Z.2.1 G hn ) (Nat.lt_of_lt_of_le (by decide) hn) rfl (by decide) rfl rfl hR hf rfl rfl hsz hd h hk
theorem i_RX11_135 {Z : qZ} {G : qG} {cc : ByteArray} {nL k n : Nat} {rm : Room} {ret : Option FieldType} {μ : qM} {pc : Nat} {L : List (Nat × Value)} {rest : List Value} {K : Int32 → qM → Prop} {v1 : Int32} (C : qX Z G RX11 cc nL rm ret) (hn : 66 ≤ gn G) (hR : (Nat.ble (4 + 1) rm.frames && Nat.ble (8 + (4 + 11) + 89) rm.locals) = true) (hf : k + 0 ≤ rm.cells ∧ n + 0 ≤ rm.slots) (hsz : Nat.ble (rest.map fun v => v.category).sum 8 = true) (hd : decode cc pc = .ok (.invokevirtual 135, 3)) (h : w_X11_pairsOf v1 K μ) (hk : ∀ (r : Int32) (μ1 : qM), K r μ1 → qV Z G nL k n μ1 (pc + 3) L (.int r :: rest)) : qV Z G nL k n μ pc L (.int v1 :: .ref (ga G 46) :: rest) := x_Vi [.int v1] rest C 46 10 (wp := fun K => w_X11_pairsOf v1 K μ) (y_X11_pairsOf : qY yX11_pairsOf cX11_pairsOf 4 (some .int) 1 ({ frames := 4, cells := 0, slots := 0, locals := 89 } : Room) 0 0) (qm_14 _ (List.mem_of_getElem? (i := 8) rfl)) (qm_14 _ (List.mem_of_getElem? (i := 9) rfl)) (qm_14 _ (List.mem_of_getElem? (i := 7) rfl)) (c_X11_pairsOf Z.2.1 G hn ) (Nat.lt_of_lt_of_le (by decide) hn) rfl (by decide) rfl rfl hR hf rfl rfl hsz hd h hk
theorem b_X11_of_17 {Z : qZ} {G : qG} {μ : qM} {post : Int32 → qM → Prop} (C : qX Z G RX11 cX11_of 3 ({ frames := 5, cells := 0, slots := 0, locals := 112 } : Room) (some .int)) (hQ : qQi Z G 0 0 post) (hn : 66 ≤ gn G) (h : q_X11_of_17 post μ) : qV Z G 3 0 0 μ 17 [(0, .ref (ga G 46))] [] := by
  unfold q_X11_of_17 at h
  refine x_aload_n C 0 dX11_of_17 rfl rfl ?_
  refine x_iconst C dX11_of_18 (v := 0) (by decide) ?_
  refine i_RX11_119 (rest := []) C hn  rfl (by decide) rfl dX11_of_19 h (fun r19 μ19 h => ?_)
  exact x_iret C hQ dX11_of_22 h
theorem y_X11_of : qY yX11_of cX11_of 3 (some .int) 2 ({ frames := 5, cells := 0, slots := 0, locals := 112 } : Room) 0 0 := ⟨(qm_14 _ (List.mem_of_getElem? (i := 2) rfl)), (qm_1 _ (List.mem_of_getElem? (i := 5) rfl)), by decide +kernel, by decide +kernel, rfl, rfl⟩
theorem c_X11_of (l : Launch) (G : qG) {v1 : Int32} {v2 : Int32} {μ : qM} (hn : 66 ≤ gn G) : qCi l G yX11_of cX11_of 3 (some .int) ({ frames := 5, cells := 0, slots := 0, locals := 112 } : Room) 0 0 [.ref (ga G 46), .int v1, .int v2] μ (fun post => w_X11_of v1 v2 post μ) := by
  refine qCi_of (L := [(0, .ref (ga G 46)), (1, .int v1), (2, .int v2)]) (by decide) rfl rfl ?_
  intro Z post hl C hQ h
  have C : qX Z G RX11 cX11_of 3 ({ frames := 5, cells := 0, slots := 0, locals := 112 } : Room) (some .int) := C
  have h : w_X11_of v1 v2 post μ := h
  unfold w_X11_of at h
  refine x_aload_n C 0 dX11_of_0 rfl rfl ?_
  refine x_iload_n C 1 dX11_of_1 rfl rfl ?_
  refine i_RX11_132 (rest := []) C hn  rfl (by decide) rfl dX11_of_2 h (fun r2 μ2 h => ?_)
  refine x_if_eq C dX11_of_5 (tgt := 17) (by decide) h (fun h => ?_) (fun h => ?_)
  · exact qV_sub [0] rfl (b_X11_of_17 C hQ hn h)
  · refine x_iload_n C 2 dX11_of_8 rfl rfl ?_
    refine x_iconst C dX11_of_9 (v := 0) (by decide) ?_
    refine x_iconst C dX11_of_10 (v := 4) (by decide) ?_
    refine i_RX11_79 (rest := []) C hn  rfl (by decide) rfl dX11_of_11 h (fun r11 μ11 h => ?_)
    refine x_if_ne C dX11_of_14 (tgt := 23) (by decide) h (fun h => ?_) (fun h => ?_)
    · refine x_iload_n C 2 dX11_of_23 rfl rfl ?_
      by_cases hv0 : v2 = (0 : Int32)
      · have h := h.1 hv0
        refine x_tin C (v := 0) dX11_of_24 hv0 (by decide) (by decide) rfl (tgt := 56) (by decide) ?_
        refine x_aload_n C 0 dX11_of_56 rfl rfl ?_
        refine g_RX11_9 C hn dX11_of_57 ?_
        refine x_iload_n C 1 dX11_of_60 rfl rfl ?_
        refine x_iald C 47 19 154 (q_lt rfl rfl hn) rfl rfl rfl rfl rfl dX11_of_61 h (fun h => ?_)
        exact x_iret C hQ dX11_of_62 h
      have h := h.2 hv0
      by_cases hv1 : v2 = (1 : Int32)
      · have h := h.1 hv1
        refine x_tin C (v := 1) dX11_of_24 hv1 (by decide) (by decide) rfl (tgt := 63) (by decide) ?_
        refine x_aload_n C 0 dX11_of_63 rfl rfl ?_
        refine g_RX11_13 C hn dX11_of_64 ?_
        refine x_iload_n C 1 dX11_of_67 rfl rfl ?_
        refine x_iald C 48 19 154 (q_lt rfl rfl hn) rfl rfl rfl rfl rfl dX11_of_68 h (fun h => ?_)
        refine x_bipush C dX11_of_69 (v := 12) (by decide) ?_
        refine x_irem C dX11_of_71 h (fun h => ?_)
        exact x_iret C hQ dX11_of_72 h
      have h := h.2 hv1
      by_cases hv2 : v2 = (2 : Int32)
      · have h := h.1 hv2
        refine x_tin C (v := 2) dX11_of_24 hv2 (by decide) (by decide) rfl (tgt := 73) (by decide) ?_
        refine x_aload_n C 0 dX11_of_73 rfl rfl ?_
        refine g_RX11_13 C hn dX11_of_74 ?_
        refine x_iload_n C 1 dX11_of_77 rfl rfl ?_
        refine x_iald C 48 19 154 (q_lt rfl rfl hn) rfl rfl rfl rfl rfl dX11_of_78 h (fun h => ?_)
        refine x_bipush C dX11_of_79 (v := 12) (by decide) ?_
        refine x_idiv C dX11_of_81 h (fun h => ?_)
        exact x_iret C hQ dX11_of_82 h
      have h := h.2 hv2
      by_cases hv3 : v2 = (3 : Int32)
      · have h := h.1 hv3
        refine x_tin C (v := 3) dX11_of_24 hv3 (by decide) (by decide) rfl (tgt := 83) (by decide) ?_
        refine x_aload_n C 0 dX11_of_83 rfl rfl ?_
        refine g_RX11_9 C hn dX11_of_84 ?_
        refine x_iload_n C 1 dX11_of_87 rfl rfl ?_
        refine x_iald C 47 19 154 (q_lt rfl rfl hn) rfl rfl rfl rfl rfl dX11_of_88 h (fun h => ?_)
        refine i_RX11_126 (rest := []) C hn  rfl (by decide) rfl dX11_of_89 h (fun r89 μ89 h => ?_)
        exact x_iret C hQ dX11_of_92 h
      have h := h.2 hv3
      refine x_tout C [(0 : Int32), (1 : Int32), (2 : Int32), (3 : Int32)] (List.forall_mem_cons.mpr ⟨hv0, List.forall_mem_cons.mpr ⟨hv1, List.forall_mem_cons.mpr ⟨hv2, List.forall_mem_cons.mpr ⟨hv3, fun _ h => absurd h List.not_mem_nil⟩⟩⟩⟩) dX11_of_24 (by decide) (tgt := 93) (by decide) ?_
      refine x_aload_n C 0 dX11_of_93 rfl rfl ?_
      refine x_iload_n C 1 dX11_of_94 rfl rfl ?_
      refine i_RX11_135 (rest := []) C hn  rfl (by decide) rfl dX11_of_95 h (fun r95 μ95 h => ?_)
      exact x_iret C hQ dX11_of_98 h
    · exact qV_sub [0] rfl (b_X11_of_17 C hQ hn h)
