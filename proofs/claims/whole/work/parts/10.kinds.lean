theorem dX2_measure_0 : decode cX2_measure 0 = .ok (.iload_n 1, 1) := by decide +kernel
theorem dX2_measure_1 : decode cX2_measure 1 = .ok (.bipush 12, 2) := by decide +kernel
theorem dX2_measure_3 : decode cX2_measure 3 = .ok (.irem, 1) := by decide +kernel
theorem dX2_measure_4 : decode cX2_measure 4 = .ok (.iload_n 2, 1) := by decide +kernel
theorem dX2_measure_5 : decode cX2_measure 5 = .ok (.bipush 12, 2) := by decide +kernel
theorem dX2_measure_7 : decode cX2_measure 7 = .ok (.irem, 1) := by decide +kernel
theorem dX2_measure_8 : decode cX2_measure 8 = .ok (.isub, 1) := by decide +kernel
theorem dX2_measure_9 : decode cX2_measure 9 = .ok (.istore_n 3, 1) := by decide +kernel
theorem dX2_measure_10 : decode cX2_measure 10 = .ok (.iload_n 1, 1) := by decide +kernel
theorem dX2_measure_11 : decode cX2_measure 11 = .ok (.bipush 12, 2) := by decide +kernel
theorem dX2_measure_13 : decode cX2_measure 13 = .ok (.idiv, 1) := by decide +kernel
theorem dX2_measure_14 : decode cX2_measure 14 = .ok (.iload_n 2, 1) := by decide +kernel
theorem dX2_measure_15 : decode cX2_measure 15 = .ok (.bipush 12, 2) := by decide +kernel
theorem dX2_measure_17 : decode cX2_measure 17 = .ok (.idiv, 1) := by decide +kernel
theorem dX2_measure_18 : decode cX2_measure 18 = .ok (.isub, 1) := by decide +kernel
theorem dX2_measure_19 : decode cX2_measure 19 = .ok (.istore 4, 2) := by decide +kernel
theorem dX2_measure_21 : decode cX2_measure 21 = .ok (.iload_n 3, 1) := by decide +kernel
theorem dX2_measure_22 : decode cX2_measure 22 = .ok (.ifCond .ge 8, 3) := by decide +kernel
theorem dX2_measure_25 : decode cX2_measure 25 = .ok (.iload_n 3, 1) := by decide +kernel
theorem dX2_measure_26 : decode cX2_measure 26 = .ok (.ineg, 1) := by decide +kernel
theorem dX2_measure_27 : decode cX2_measure 27 = .ok (.goto 4, 3) := by decide +kernel
theorem dX2_measure_30 : decode cX2_measure 30 = .ok (.iload_n 3, 1) := by decide +kernel
theorem dX2_measure_31 : decode cX2_measure 31 = .ok (.iload 4, 2) := by decide +kernel
theorem dX2_measure_33 : decode cX2_measure 33 = .ok (.ifCond .ge 9, 3) := by decide +kernel
theorem dX2_measure_36 : decode cX2_measure 36 = .ok (.iload 4, 2) := by decide +kernel
theorem dX2_measure_38 : decode cX2_measure 38 = .ok (.ineg, 1) := by decide +kernel
theorem dX2_measure_39 : decode cX2_measure 39 = .ok (.goto 5, 3) := by decide +kernel
theorem dX2_measure_42 : decode cX2_measure 42 = .ok (.iload 4, 2) := by decide +kernel
theorem dX2_measure_44 : decode cX2_measure 44 = .ok (.iadd, 1) := by decide +kernel
theorem dX2_measure_45 : decode cX2_measure 45 = .ok (.istore 5, 2) := by decide +kernel
theorem dX2_measure_47 : decode cX2_measure 47 = .ok (.iload_n 0, 1) := by decide +kernel
theorem dX2_measure_48 : decode cX2_measure 48 = .ok (.tableswitch 54 4 6 #[42, 28, 34], 28) := by decide +kernel
theorem dX2_measure_76 : decode cX2_measure 76 = .ok (.iload 5, 2) := by decide +kernel
theorem dX2_measure_78 : decode cX2_measure 78 = .ok (.iload 5, 2) := by decide +kernel
theorem dX2_measure_80 : decode cX2_measure 80 = .ok (.imul, 1) := by decide +kernel
theorem dX2_measure_81 : decode cX2_measure 81 = .ok (.ireturn, 1) := by decide +kernel
theorem dX2_measure_82 : decode cX2_measure 82 = .ok (.iload 5, 2) := by decide +kernel
theorem dX2_measure_84 : decode cX2_measure 84 = .ok (.iload 5, 2) := by decide +kernel
theorem dX2_measure_86 : decode cX2_measure 86 = .ok (.imul, 1) := by decide +kernel
theorem dX2_measure_87 : decode cX2_measure 87 = .ok (.iconst 1, 1) := by decide +kernel
theorem dX2_measure_88 : decode cX2_measure 88 = .ok (.isub, 1) := by decide +kernel
theorem dX2_measure_89 : decode cX2_measure 89 = .ok (.ireturn, 1) := by decide +kernel
theorem dX2_measure_90 : decode cX2_measure 90 = .ok (.iload_n 3, 1) := by decide +kernel
theorem dX2_measure_91 : decode cX2_measure 91 = .ok (.iload_n 3, 1) := by decide +kernel
theorem dX2_measure_92 : decode cX2_measure 92 = .ok (.imul, 1) := by decide +kernel
theorem dX2_measure_93 : decode cX2_measure 93 = .ok (.iload 4, 2) := by decide +kernel
theorem dX2_measure_95 : decode cX2_measure 95 = .ok (.iload 4, 2) := by decide +kernel
theorem dX2_measure_97 : decode cX2_measure 97 = .ok (.imul, 1) := by decide +kernel
theorem dX2_measure_98 : decode cX2_measure 98 = .ok (.iadd, 1) := by decide +kernel
theorem dX2_measure_99 : decode cX2_measure 99 = .ok (.iconst 1, 1) := by decide +kernel
theorem dX2_measure_100 : decode cX2_measure 100 = .ok (.iadd, 1) := by decide +kernel
theorem dX2_measure_101 : decode cX2_measure 101 = .ok (.ireturn, 1) := by decide +kernel
theorem dX2_measure_102 : decode cX2_measure 102 = .ok (.iload_n 3, 1) := by decide +kernel
theorem dX2_measure_103 : decode cX2_measure 103 = .ok (.iload_n 3, 1) := by decide +kernel
theorem dX2_measure_104 : decode cX2_measure 104 = .ok (.imul, 1) := by decide +kernel
theorem dX2_measure_105 : decode cX2_measure 105 = .ok (.iload 4, 2) := by decide +kernel
theorem dX2_measure_107 : decode cX2_measure 107 = .ok (.iload 4, 2) := by decide +kernel
theorem dX2_measure_109 : decode cX2_measure 109 = .ok (.imul, 1) := by decide +kernel
theorem dX2_measure_110 : decode cX2_measure 110 = .ok (.iadd, 1) := by decide +kernel
theorem dX2_measure_111 : decode cX2_measure 111 = .ok (.ireturn, 1) := by decide +kernel
theorem b_X2_measure_44 {Z : qZ} {G : qG} {v0 : Int32} {v3 : Int32} {v4 : Int32} {s0 : Int32} {s1 : Int32} {μ : qM} {post : Int32 → qM → Prop} (C : qX Z G RX2 cX2_measure 6 ({ frames := 0, cells := 0, slots := 0, locals := 0 } : Room) (some .int)) (hQ : qQi Z G 0 0 post) (hn : 66 ≤ gn G) (h : q_X2_measure_44 post v0 v3 v4 s0 s1 μ) : qV Z G 6 0 0 μ 44 [(0, .int v0), (3, .int v3), (4, .int v4)] [.int s0, .int s1] := by
  unfold q_X2_measure_44 at h
  refine x_iadd C dX2_measure_44 ?_
  refine x_istore C (L' := [(5, .int ((s1 + s0))), (0, .int v0), (3, .int v3), (4, .int v4)]) dX2_measure_45 (by decide) rfl ?_
  refine x_iload_n C 1 dX2_measure_47 rfl rfl ?_
  by_cases hv4 : v0 = (4 : Int32)
  · have h := h.1 hv4
    refine x_tin C (v := 4) dX2_measure_48 hv4 (by decide) (by decide) rfl (tgt := 90) (by decide) ?_
    refine x_iload_n C 2 dX2_measure_90 rfl rfl ?_
    refine x_iload_n C 2 dX2_measure_91 rfl rfl ?_
    refine x_imul C dX2_measure_92 ?_
    refine x_iload C 3 dX2_measure_93 rfl ?_
    refine x_iload C 3 dX2_measure_95 rfl ?_
    refine x_imul C dX2_measure_97 ?_
    refine x_iadd C dX2_measure_98 ?_
    refine x_iconst C dX2_measure_99 (v := 1) (by decide) ?_
    refine x_iadd C dX2_measure_100 ?_
    exact x_iret C hQ dX2_measure_101 h
  have h := h.2 hv4
  by_cases hv5 : v0 = (5 : Int32)
  · have h := h.1 hv5
    refine x_tin C (v := 5) dX2_measure_48 hv5 (by decide) (by decide) rfl (tgt := 76) (by decide) ?_
    refine x_iload C 0 dX2_measure_76 rfl ?_
    refine x_iload C 0 dX2_measure_78 rfl ?_
    refine x_imul C dX2_measure_80 ?_
    exact x_iret C hQ dX2_measure_81 h
  have h := h.2 hv5
  by_cases hv6 : v0 = (6 : Int32)
  · have h := h.1 hv6
    refine x_tin C (v := 6) dX2_measure_48 hv6 (by decide) (by decide) rfl (tgt := 82) (by decide) ?_
    refine x_iload C 0 dX2_measure_82 rfl ?_
    refine x_iload C 0 dX2_measure_84 rfl ?_
    refine x_imul C dX2_measure_86 ?_
    refine x_iconst C dX2_measure_87 (v := 1) (by decide) ?_
    refine x_isub C dX2_measure_88 ?_
    exact x_iret C hQ dX2_measure_89 h
  have h := h.2 hv6
  refine x_tout C [(4 : Int32), (5 : Int32), (6 : Int32)] (List.forall_mem_cons.mpr ⟨hv4, List.forall_mem_cons.mpr ⟨hv5, List.forall_mem_cons.mpr ⟨hv6, fun _ h => absurd h List.not_mem_nil⟩⟩⟩) dX2_measure_48 (by decide) (tgt := 102) (by decide) ?_
  refine x_iload_n C 2 dX2_measure_102 rfl rfl ?_
  refine x_iload_n C 2 dX2_measure_103 rfl rfl ?_
  refine x_imul C dX2_measure_104 ?_
  refine x_iload C 3 dX2_measure_105 rfl ?_
  refine x_iload C 3 dX2_measure_107 rfl ?_
  refine x_imul C dX2_measure_109 ?_
  refine x_iadd C dX2_measure_110 ?_
  exact x_iret C hQ dX2_measure_111 h
theorem b_X2_measure_31 {Z : qZ} {G : qG} {v0 : Int32} {v3 : Int32} {v4 : Int32} {s0 : Int32} {μ : qM} {post : Int32 → qM → Prop} (C : qX Z G RX2 cX2_measure 6 ({ frames := 0, cells := 0, slots := 0, locals := 0 } : Room) (some .int)) (hQ : qQi Z G 0 0 post) (hn : 66 ≤ gn G) (h : q_X2_measure_31 post v0 v3 v4 s0 μ) : qV Z G 6 0 0 μ 31 [(0, .int v0), (3, .int v3), (4, .int v4)] [.int s0] := by
  unfold q_X2_measure_31 at h
  refine x_iload C 2 dX2_measure_31 rfl ?_
  refine x_if_ge C dX2_measure_33 (tgt := 42) (by decide) h (fun h => ?_) (fun h => ?_)
  · refine x_iload C 2 dX2_measure_42 rfl ?_
    exact b_X2_measure_44 C hQ hn h
  · refine x_iload C 2 dX2_measure_36 rfl ?_
    refine x_ineg C dX2_measure_38 ?_
    refine x_goto C dX2_measure_39 (tgt := 44) (by decide) ?_
    exact b_X2_measure_44 C hQ hn h
theorem y_X2_measure : qY yX2_measure cX2_measure 6 (some .int) 3 ({ frames := 0, cells := 0, slots := 0, locals := 0 } : Room) 0 0 := ⟨(qm_10 _ (List.mem_of_getElem? (i := 14) rfl)), (qm_9 _ (List.mem_of_getElem? (i := 21) rfl)), by decide +kernel, by decide +kernel, rfl, rfl⟩
theorem c_X2_measure (l : Launch) (G : qG) {v0 : Int32} {v1 : Int32} {v2 : Int32} {μ : qM} (hn : 66 ≤ gn G) : qCi l G yX2_measure cX2_measure 6 (some .int) ({ frames := 0, cells := 0, slots := 0, locals := 0 } : Room) 0 0 [.int v0, .int v1, .int v2] μ (fun post => w_X2_measure v0 v1 v2 post μ) := by
  refine qCi_of (L := [(0, .int v0), (1, .int v1), (2, .int v2)]) (by decide) rfl rfl ?_
  intro Z post hl C hQ h
  have C : qX Z G RX2 cX2_measure 6 ({ frames := 0, cells := 0, slots := 0, locals := 0 } : Room) (some .int) := C
  have h : w_X2_measure v0 v1 v2 post μ := h
  unfold w_X2_measure at h
  refine x_iload_n C 1 dX2_measure_0 rfl rfl ?_
  refine x_bipush C dX2_measure_1 (v := 12) (by decide) ?_
  refine x_irem C dX2_measure_3 h (fun h => ?_)
  refine x_iload_n C 2 dX2_measure_4 rfl rfl ?_
  refine x_bipush C dX2_measure_5 (v := 12) (by decide) ?_
  refine x_irem C dX2_measure_7 h (fun h => ?_)
  refine x_isub C dX2_measure_8 ?_
  refine x_istore_n C (L' := [(3, .int (((v1 - v1 / (12 : Int32) * (12 : Int32)) - (v2 - v2 / (12 : Int32) * (12 : Int32))))), (0, .int v0), (1, .int v1), (2, .int v2)]) dX2_measure_9 rfl (by decide) rfl ?_
  refine x_iload_n C 2 dX2_measure_10 rfl rfl ?_
  refine x_bipush C dX2_measure_11 (v := 12) (by decide) ?_
  refine x_idiv C dX2_measure_13 h (fun h => ?_)
  refine x_iload_n C 3 dX2_measure_14 rfl rfl ?_
  refine x_bipush C dX2_measure_15 (v := 12) (by decide) ?_
  refine x_idiv C dX2_measure_17 h (fun h => ?_)
  refine x_isub C dX2_measure_18 ?_
  refine x_istore C (L' := [(4, .int (((v1 / (12 : Int32)) - (v2 / (12 : Int32))))), (3, .int (((v1 - v1 / (12 : Int32) * (12 : Int32)) - (v2 - v2 / (12 : Int32) * (12 : Int32))))), (0, .int v0), (1, .int v1), (2, .int v2)]) dX2_measure_19 (by decide) rfl ?_
  refine x_iload_n C 1 dX2_measure_21 rfl rfl ?_
  refine x_if_ge C dX2_measure_22 (tgt := 30) (by decide) h (fun h => ?_) (fun h => ?_)
  · refine x_iload_n C 1 dX2_measure_30 rfl rfl ?_
    exact qV_sub [2, 1, 0] rfl (b_X2_measure_31 C hQ hn h)
  · refine x_iload_n C 1 dX2_measure_25 rfl rfl ?_
    refine x_ineg C dX2_measure_26 ?_
    refine x_goto C dX2_measure_27 (tgt := 31) (by decide) ?_
    exact qV_sub [2, 1, 0] rfl (b_X2_measure_31 C hQ hn h)
theorem dX2_accepts_0 : decode cX2_accepts 0 = .ok (.iload_n 0, 1) := by decide +kernel
theorem dX2_accepts_1 : decode cX2_accepts 1 = .ok (.tableswitch 66 1 4 #[31, 49, 47, 49], 31) := by decide +kernel
theorem dX2_accepts_32 : decode cX2_accepts 32 = .ok (.iload_n 2, 1) := by decide +kernel
theorem dX2_accepts_33 : decode cX2_accepts 33 = .ok (.iconst 1, 1) := by decide +kernel
theorem dX2_accepts_34 : decode cX2_accepts 34 = .ok (.if_icmp .eq 12, 3) := by decide +kernel
theorem dX2_accepts_37 : decode cX2_accepts 37 = .ok (.iload_n 2, 1) := by decide +kernel
theorem dX2_accepts_38 : decode cX2_accepts 38 = .ok (.iconst 3, 1) := by decide +kernel
theorem dX2_accepts_39 : decode cX2_accepts 39 = .ok (.if_icmp .eq 7, 3) := by decide +kernel
theorem dX2_accepts_42 : decode cX2_accepts 42 = .ok (.iconst 1, 1) := by decide +kernel
theorem dX2_accepts_43 : decode cX2_accepts 43 = .ok (.goto 4, 3) := by decide +kernel
theorem dX2_accepts_46 : decode cX2_accepts 46 = .ok (.iconst 0, 1) := by decide +kernel
theorem dX2_accepts_47 : decode cX2_accepts 47 = .ok (.ireturn, 1) := by decide +kernel
theorem dX2_accepts_48 : decode cX2_accepts 48 = .ok (.iconst 0, 1) := by decide +kernel
theorem dX2_accepts_49 : decode cX2_accepts 49 = .ok (.ireturn, 1) := by decide +kernel
theorem dX2_accepts_50 : decode cX2_accepts 50 = .ok (.iload_n 2, 1) := by decide +kernel
theorem dX2_accepts_51 : decode cX2_accepts 51 = .ok (.iload_n 3, 1) := by decide +kernel
theorem dX2_accepts_52 : decode cX2_accepts 52 = .ok (.iload_n 1, 1) := by decide +kernel
theorem dX2_accepts_53 : decode cX2_accepts 53 = .ok (.invokestatic 9, 3) := by decide +kernel
theorem dX2_accepts_56 : decode cX2_accepts 56 = .ok (.bipush 64, 2) := by decide +kernel
theorem dX2_accepts_58 : decode cX2_accepts 58 = .ok (.if_icmp .gt 7, 3) := by decide +kernel
theorem dX2_accepts_61 : decode cX2_accepts 61 = .ok (.iconst 1, 1) := by decide +kernel
theorem dX2_accepts_62 : decode cX2_accepts 62 = .ok (.goto 4, 3) := by decide +kernel
theorem dX2_accepts_65 : decode cX2_accepts 65 = .ok (.iconst 0, 1) := by decide +kernel
theorem dX2_accepts_66 : decode cX2_accepts 66 = .ok (.ireturn, 1) := by decide +kernel
theorem dX2_accepts_67 : decode cX2_accepts 67 = .ok (.iconst 1, 1) := by decide +kernel
theorem dX2_accepts_68 : decode cX2_accepts 68 = .ok (.ireturn, 1) := by decide +kernel
theorem i_RX2_9 {Z : qZ} {G : qG} {cc : ByteArray} {nL k n : Nat} {rm : Room} {ret : Option FieldType} {μ : qM} {pc : Nat} {L : List (Nat × Value)} {rest : List Value} {K : Int32 → qM → Prop} {v0 : Int32} {v1 : Int32} {v2 : Int32} (C : qX Z G RX2 cc nL rm ret) (hn : 66 ≤ gn G) (hR : (Nat.ble (0 + 1) rm.frames && Nat.ble (8 + (6 + 11) + 0) rm.locals) = true) (hf : k + 0 ≤ rm.cells ∧ n + 0 ≤ rm.slots) (hsz : Nat.ble (rest.map fun v => v.category).sum 8 = true) (hd : decode cc pc = .ok (.invokestatic 9, 3)) (h : w_X2_measure v0 v1 v2 K μ) (hk : ∀ (r : Int32) (μ1 : qM), K r μ1 → qV Z G nL k n μ1 (pc + 3) L (.int r :: rest)) : qV Z G nL k n μ pc L (.int v2 :: .int v1 :: .int v0 :: rest) := x_Si [.int v0, .int v1, .int v2] rest C (wp := fun K => w_X2_measure v0 v1 v2 K μ) (y_X2_measure : qY yX2_measure cX2_measure 6 (some .int) 3 ({ frames := 0, cells := 0, slots := 0, locals := 0 } : Room) 0 0) (qm_10 _ (List.mem_of_getElem? (i := 13) rfl)) (qm_10 _ (List.mem_of_getElem? (i := 21) rfl)) (c_X2_measure Z.2.1 G hn ) hR hf rfl rfl hsz hd h hk
theorem b_X2_accepts_46 {Z : qZ} {G : qG} {μ : qM} {post : Int32 → qM → Prop} (C : qX Z G RX2 cX2_accepts 4 ({ frames := 1, cells := 0, slots := 0, locals := 25 } : Room) (some .boolean)) (hQ : qQi Z G 0 0 post) (hn : 66 ≤ gn G) (h : q_X2_accepts_46 post μ) : qV Z G 4 0 0 μ 46 [] [] := by
  unfold q_X2_accepts_46 at h
  refine x_iconst C dX2_accepts_46 (v := 0) (by decide) ?_
  exact x_zret C hQ dX2_accepts_47 h
theorem b_X2_accepts_50 {Z : qZ} {G : qG} {v1 : Int32} {v2 : Int32} {v3 : Int32} {μ : qM} {post : Int32 → qM → Prop} (C : qX Z G RX2 cX2_accepts 4 ({ frames := 1, cells := 0, slots := 0, locals := 25 } : Room) (some .boolean)) (hQ : qQi Z G 0 0 post) (hn : 66 ≤ gn G) (h : q_X2_accepts_50 post v1 v2 v3 μ) : qV Z G 4 0 0 μ 50 [(1, .int v1), (2, .int v2), (3, .int v3)] [] := by
  unfold q_X2_accepts_50 at h
  refine x_iload_n C 1 dX2_accepts_50 rfl rfl ?_
  refine x_iload_n C 2 dX2_accepts_51 rfl rfl ?_
  refine x_iload_n C 0 dX2_accepts_52 rfl rfl ?_
  refine i_RX2_9 (rest := []) C hn  rfl (by decide) rfl dX2_accepts_53 h (fun r53 μ53 h => ?_)
  refine x_bipush C dX2_accepts_56 (v := 64) (by decide) ?_
  refine x_icmp_gt C dX2_accepts_58 (tgt := 65) (by decide) h (fun h => ?_) (fun h => ?_)
  · refine x_iconst C dX2_accepts_65 (v := 0) (by decide) ?_
    exact x_zret C hQ dX2_accepts_66 h
  · refine x_iconst C dX2_accepts_61 (v := 1) (by decide) ?_
    refine x_goto C dX2_accepts_62 (tgt := 66) (by decide) ?_
    exact x_zret C hQ dX2_accepts_66 h
theorem y_X2_accepts : qY yX2_accepts cX2_accepts 4 (some .boolean) 4 ({ frames := 1, cells := 0, slots := 0, locals := 25 } : Room) 0 0 := ⟨(qm_10 _ (List.mem_of_getElem? (i := 20) rfl)), (qm_9 _ (List.mem_of_getElem? (i := 21) rfl)), by decide +kernel, by decide +kernel, rfl, rfl⟩
theorem c_X2_accepts (l : Launch) (G : qG) {v0 : Int32} {v1 : Int32} {v2 : Int32} {v3 : Int32} {μ : qM} (hn : 66 ≤ gn G) : qCi l G yX2_accepts cX2_accepts 4 (some .boolean) ({ frames := 1, cells := 0, slots := 0, locals := 25 } : Room) 0 0 [.int v0, .int v1, .int v2, .int v3] μ (fun post => w_X2_accepts v0 v1 v2 v3 post μ) := by
  refine qCi_of (L := [(0, .int v0), (1, .int v1), (2, .int v2), (3, .int v3)]) (by decide) rfl rfl ?_
  intro Z post hl C hQ h
  have C : qX Z G RX2 cX2_accepts 4 ({ frames := 1, cells := 0, slots := 0, locals := 25 } : Room) (some .boolean) := C
  have h : w_X2_accepts v0 v1 v2 v3 post μ := h
  unfold w_X2_accepts at h
  refine x_iload_n C 0 dX2_accepts_0 rfl rfl ?_
  by_cases hv1 : v0 = (1 : Int32)
  · have h := h.1 hv1
    refine x_tin C (v := 1) dX2_accepts_1 hv1 (by decide) (by decide) rfl (tgt := 32) (by decide) ?_
    refine x_iload_n C 2 dX2_accepts_32 rfl rfl ?_
    refine x_iconst C dX2_accepts_33 (v := 1) (by decide) ?_
    refine x_icmp_eq C dX2_accepts_34 (tgt := 46) (by decide) h (fun h => ?_) (fun h => ?_)
    · exact qV_sub [] rfl (b_X2_accepts_46 C hQ hn h)
    · refine x_iload_n C 2 dX2_accepts_37 rfl rfl ?_
      refine x_iconst C dX2_accepts_38 (v := 3) (by decide) ?_
      refine x_icmp_eq C dX2_accepts_39 (tgt := 46) (by decide) h (fun h => ?_) (fun h => ?_)
      · exact qV_sub [] rfl (b_X2_accepts_46 C hQ hn h)
      · refine x_iconst C dX2_accepts_42 (v := 1) (by decide) ?_
        refine x_goto C dX2_accepts_43 (tgt := 47) (by decide) ?_
        exact x_zret C hQ dX2_accepts_47 h
  have h := h.2 hv1
  by_cases hv2 : v0 = (2 : Int32)
  · have h := h.1 hv2
    refine x_tin C (v := 2) dX2_accepts_1 hv2 (by decide) (by decide) rfl (tgt := 50) (by decide) ?_
    exact qV_sub [1, 2, 3] rfl (b_X2_accepts_50 C hQ hn h)
  have h := h.2 hv2
  by_cases hv3 : v0 = (3 : Int32)
  · have h := h.1 hv3
    refine x_tin C (v := 3) dX2_accepts_1 hv3 (by decide) (by decide) rfl (tgt := 48) (by decide) ?_
    refine x_iconst C dX2_accepts_48 (v := 0) (by decide) ?_
    exact x_zret C hQ dX2_accepts_49 h
  have h := h.2 hv3
  by_cases hv4 : v0 = (4 : Int32)
  · have h := h.1 hv4
    refine x_tin C (v := 4) dX2_accepts_1 hv4 (by decide) (by decide) rfl (tgt := 50) (by decide) ?_
    exact qV_sub [1, 2, 3] rfl (b_X2_accepts_50 C hQ hn h)
  have h := h.2 hv4
  refine x_tout C [(1 : Int32), (2 : Int32), (3 : Int32), (4 : Int32)] (List.forall_mem_cons.mpr ⟨hv1, List.forall_mem_cons.mpr ⟨hv2, List.forall_mem_cons.mpr ⟨hv3, List.forall_mem_cons.mpr ⟨hv4, fun _ h => absurd h List.not_mem_nil⟩⟩⟩⟩) dX2_accepts_1 (by decide) (tgt := 67) (by decide) ?_
  refine x_iconst C dX2_accepts_67 (v := 1) (by decide) ?_
  exact x_zret C hQ dX2_accepts_68 h
theorem dX2_isPair_0 : decode cX2_isPair 0 = .ok (.iload_n 0, 1) := by decide +kernel
theorem dX2_isPair_1 : decode cX2_isPair 1 = .ok (.iload_n 1, 1) := by decide +kernel
theorem dX2_isPair_2 : decode cX2_isPair 2 = .ok (.iload_n 2, 1) := by decide +kernel
theorem dX2_isPair_3 : decode cX2_isPair 3 = .ok (.iload_n 3, 1) := by decide +kernel
theorem dX2_isPair_4 : decode cX2_isPair 4 = .ok (.invokestatic 15, 3) := by decide +kernel
theorem dX2_isPair_7 : decode cX2_isPair 7 = .ok (.ifCond .eq 17, 3) := by decide +kernel
theorem dX2_isPair_10 : decode cX2_isPair 10 = .ok (.iload_n 2, 1) := by decide +kernel
theorem dX2_isPair_11 : decode cX2_isPair 11 = .ok (.iload_n 3, 1) := by decide +kernel
theorem dX2_isPair_12 : decode cX2_isPair 12 = .ok (.iload_n 0, 1) := by decide +kernel
theorem dX2_isPair_13 : decode cX2_isPair 13 = .ok (.iload_n 1, 1) := by decide +kernel
theorem dX2_isPair_14 : decode cX2_isPair 14 = .ok (.invokestatic 15, 3) := by decide +kernel
theorem dX2_isPair_17 : decode cX2_isPair 17 = .ok (.ifCond .eq 7, 3) := by decide +kernel
theorem dX2_isPair_20 : decode cX2_isPair 20 = .ok (.iconst 1, 1) := by decide +kernel
theorem dX2_isPair_21 : decode cX2_isPair 21 = .ok (.goto 4, 3) := by decide +kernel
theorem dX2_isPair_24 : decode cX2_isPair 24 = .ok (.iconst 0, 1) := by decide +kernel
theorem dX2_isPair_25 : decode cX2_isPair 25 = .ok (.ireturn, 1) := by decide +kernel
theorem i_RX2_15 {Z : qZ} {G : qG} {cc : ByteArray} {nL k n : Nat} {rm : Room} {ret : Option FieldType} {μ : qM} {pc : Nat} {L : List (Nat × Value)} {rest : List Value} {K : Int32 → qM → Prop} {v0 : Int32} {v1 : Int32} {v2 : Int32} {v3 : Int32} (C : qX Z G RX2 cc nL rm ret) (hn : 66 ≤ gn G) (hR : (Nat.ble (1 + 1) rm.frames && Nat.ble (8 + (4 + 11) + 25) rm.locals) = true) (hf : k + 0 ≤ rm.cells ∧ n + 0 ≤ rm.slots) (hsz : Nat.ble (rest.map fun v => v.category).sum 8 = true) (hd : decode cc pc = .ok (.invokestatic 15, 3)) (h : w_X2_accepts v0 v1 v2 v3 K μ) (hk : ∀ (r : Int32) (μ1 : qM), K r μ1 → qV Z G nL k n μ1 (pc + 3) L (.int r :: rest)) : qV Z G nL k n μ pc L (.int v3 :: .int v2 :: .int v1 :: .int v0 :: rest) := x_Si [.int v0, .int v1, .int v2, .int v3] rest C (wp := fun K => w_X2_accepts v0 v1 v2 v3 K μ) (y_X2_accepts : qY yX2_accepts cX2_accepts 4 (some .boolean) 4 ({ frames := 1, cells := 0, slots := 0, locals := 25 } : Room) 0 0) (qm_10 _ (List.mem_of_getElem? (i := 19) rfl)) (qm_10 _ (List.mem_of_getElem? (i := 18) rfl)) (c_X2_accepts Z.2.1 G hn ) hR hf rfl rfl hsz hd h hk
theorem b_X2_isPair_24 {Z : qZ} {G : qG} {μ : qM} {post : Int32 → qM → Prop} (C : qX Z G RX2 cX2_isPair 4 ({ frames := 2, cells := 0, slots := 0, locals := 48 } : Room) (some .boolean)) (hQ : qQi Z G 0 0 post) (hn : 66 ≤ gn G) (h : q_X2_isPair_24 post μ) : qV Z G 4 0 0 μ 24 [] [] := by
  unfold q_X2_isPair_24 at h
  refine x_iconst C dX2_isPair_24 (v := 0) (by decide) ?_
  exact x_zret C hQ dX2_isPair_25 h
theorem y_X2_isPair : qY yX2_isPair cX2_isPair 4 (some .boolean) 4 ({ frames := 2, cells := 0, slots := 0, locals := 48 } : Room) 0 0 := ⟨(qm_10 _ (List.mem_of_getElem? (i := 17) rfl)), (qm_9 _ (List.mem_of_getElem? (i := 21) rfl)), by decide +kernel, by decide +kernel, rfl, rfl⟩
theorem c_X2_isPair (l : Launch) (G : qG) {v0 : Int32} {v1 : Int32} {v2 : Int32} {v3 : Int32} {μ : qM} (hn : 66 ≤ gn G) : qCi l G yX2_isPair cX2_isPair 4 (some .boolean) ({ frames := 2, cells := 0, slots := 0, locals := 48 } : Room) 0 0 [.int v0, .int v1, .int v2, .int v3] μ (fun post => w_X2_isPair v0 v1 v2 v3 post μ) := by
  refine qCi_of (L := [(0, .int v0), (1, .int v1), (2, .int v2), (3, .int v3)]) (by decide) rfl rfl ?_
  intro Z post hl C hQ h
  have C : qX Z G RX2 cX2_isPair 4 ({ frames := 2, cells := 0, slots := 0, locals := 48 } : Room) (some .boolean) := C
  have h : w_X2_isPair v0 v1 v2 v3 post μ := h
  unfold w_X2_isPair at h
  refine x_iload_n C 0 dX2_isPair_0 rfl rfl ?_
  refine x_iload_n C 1 dX2_isPair_1 rfl rfl ?_
  refine x_iload_n C 2 dX2_isPair_2 rfl rfl ?_
  refine x_iload_n C 3 dX2_isPair_3 rfl rfl ?_
  refine i_RX2_15 (rest := []) C hn  rfl (by decide) rfl dX2_isPair_4 h (fun r4 μ4 h => ?_)
  refine x_if_eq C dX2_isPair_7 (tgt := 24) (by decide) h (fun h => ?_) (fun h => ?_)
  · exact qV_sub [] rfl (b_X2_isPair_24 C hQ hn h)
  · refine x_iload_n C 2 dX2_isPair_10 rfl rfl ?_
    refine x_iload_n C 3 dX2_isPair_11 rfl rfl ?_
    refine x_iload_n C 0 dX2_isPair_12 rfl rfl ?_
    refine x_iload_n C 1 dX2_isPair_13 rfl rfl ?_
    refine i_RX2_15 (rest := []) C hn  rfl (by decide) rfl dX2_isPair_14 h (fun r14 μ14 h => ?_)
    refine x_if_eq C dX2_isPair_17 (tgt := 24) (by decide) h (fun h => ?_) (fun h => ?_)
    · exact qV_sub [] rfl (b_X2_isPair_24 C hQ hn h)
    · refine x_iconst C dX2_isPair_20 (v := 1) (by decide) ?_
      refine x_goto C dX2_isPair_21 (tgt := 25) (by decide) ?_
      exact x_zret C hQ dX2_isPair_25 h
theorem dX2_costs_0 : decode cX2_costs 0 = .ok (.iload_n 0, 1) := by decide +kernel
theorem dX2_costs_1 : decode cX2_costs 1 = .ok (.tableswitch 49 1 6 #[39, 43, 41, 43, 49, 46], 39) := by decide +kernel
theorem dX2_costs_40 : decode cX2_costs 40 = .ok (.iconst 3, 1) := by decide +kernel
theorem dX2_costs_41 : decode cX2_costs 41 = .ok (.ireturn, 1) := by decide +kernel
theorem dX2_costs_42 : decode cX2_costs 42 = .ok (.iconst 4, 1) := by decide +kernel
theorem dX2_costs_43 : decode cX2_costs 43 = .ok (.ireturn, 1) := by decide +kernel
theorem dX2_costs_44 : decode cX2_costs 44 = .ok (.bipush 25, 2) := by decide +kernel
theorem dX2_costs_46 : decode cX2_costs 46 = .ok (.ireturn, 1) := by decide +kernel
theorem dX2_costs_47 : decode cX2_costs 47 = .ok (.bipush 40, 2) := by decide +kernel
theorem dX2_costs_49 : decode cX2_costs 49 = .ok (.ireturn, 1) := by decide +kernel
theorem dX2_costs_50 : decode cX2_costs 50 = .ok (.bipush 10, 2) := by decide +kernel
theorem dX2_costs_52 : decode cX2_costs 52 = .ok (.ireturn, 1) := by decide +kernel
theorem b_X2_costs_50 {Z : qZ} {G : qG} {μ : qM} {post : Int32 → qM → Prop} (C : qX Z G RX2 cX2_costs 1 ({ frames := 0, cells := 0, slots := 0, locals := 0 } : Room) (some .int)) (hQ : qQi Z G 0 0 post) (hn : 66 ≤ gn G) (h : q_X2_costs_50 post μ) : qV Z G 1 0 0 μ 50 [] [] := by
  unfold q_X2_costs_50 at h
  refine x_bipush C dX2_costs_50 (v := 10) (by decide) ?_
  exact x_iret C hQ dX2_costs_52 h
theorem b_X2_costs_44 {Z : qZ} {G : qG} {μ : qM} {post : Int32 → qM → Prop} (C : qX Z G RX2 cX2_costs 1 ({ frames := 0, cells := 0, slots := 0, locals := 0 } : Room) (some .int)) (hQ : qQi Z G 0 0 post) (hn : 66 ≤ gn G) (h : q_X2_costs_44 post μ) : qV Z G 1 0 0 μ 44 [] [] := by
  unfold q_X2_costs_44 at h
  refine x_bipush C dX2_costs_44 (v := 25) (by decide) ?_
  exact x_iret C hQ dX2_costs_46 h
theorem y_X2_costs : qY yX2_costs cX2_costs 1 (some .int) 1 ({ frames := 0, cells := 0, slots := 0, locals := 0 } : Room) 0 0 := ⟨(qm_9 _ (List.mem_of_getElem? (i := 22) rfl)), (qm_9 _ (List.mem_of_getElem? (i := 21) rfl)), by decide +kernel, by decide +kernel, rfl, rfl⟩
theorem c_X2_costs (l : Launch) (G : qG) {v0 : Int32} {μ : qM} (hn : 66 ≤ gn G) : qCi l G yX2_costs cX2_costs 1 (some .int) ({ frames := 0, cells := 0, slots := 0, locals := 0 } : Room) 0 0 [.int v0] μ (fun post => w_X2_costs v0 post μ) := by
  refine qCi_of (L := [(0, .int v0)]) (by decide) rfl rfl ?_
  intro Z post hl C hQ h
  have C : qX Z G RX2 cX2_costs 1 ({ frames := 0, cells := 0, slots := 0, locals := 0 } : Room) (some .int) := C
  have h : w_X2_costs v0 post μ := h
  unfold w_X2_costs at h
  refine x_iload_n C 0 dX2_costs_0 rfl rfl ?_
  by_cases hv1 : v0 = (1 : Int32)
  · have h := h.1 hv1
    refine x_tin C (v := 1) dX2_costs_1 hv1 (by decide) (by decide) rfl (tgt := 40) (by decide) ?_
    refine x_iconst C dX2_costs_40 (v := 3) (by decide) ?_
    exact x_iret C hQ dX2_costs_41 h
  have h := h.2 hv1
  by_cases hv2 : v0 = (2 : Int32)
  · have h := h.1 hv2
    refine x_tin C (v := 2) dX2_costs_1 hv2 (by decide) (by decide) rfl (tgt := 44) (by decide) ?_
    exact qV_sub [] rfl (b_X2_costs_44 C hQ hn h)
  have h := h.2 hv2
  by_cases hv3 : v0 = (3 : Int32)
  · have h := h.1 hv3
    refine x_tin C (v := 3) dX2_costs_1 hv3 (by decide) (by decide) rfl (tgt := 42) (by decide) ?_
    refine x_iconst C dX2_costs_42 (v := 4) (by decide) ?_
    exact x_iret C hQ dX2_costs_43 h
  have h := h.2 hv3
  by_cases hv4 : v0 = (4 : Int32)
  · have h := h.1 hv4
    refine x_tin C (v := 4) dX2_costs_1 hv4 (by decide) (by decide) rfl (tgt := 44) (by decide) ?_
    exact qV_sub [] rfl (b_X2_costs_44 C hQ hn h)
  have h := h.2 hv4
  by_cases hv5 : v0 = (5 : Int32)
  · have h := h.1 hv5
    refine x_tin C (v := 5) dX2_costs_1 hv5 (by decide) (by decide) rfl (tgt := 50) (by decide) ?_
    exact qV_sub [] rfl (b_X2_costs_50 C hQ hn h)
  have h := h.2 hv5
  by_cases hv6 : v0 = (6 : Int32)
  · have h := h.1 hv6
    refine x_tin C (v := 6) dX2_costs_1 hv6 (by decide) (by decide) rfl (tgt := 47) (by decide) ?_
    refine x_bipush C dX2_costs_47 (v := 40) (by decide) ?_
    exact x_iret C hQ dX2_costs_49 h
  have h := h.2 hv6
  refine x_tout C [(1 : Int32), (2 : Int32), (3 : Int32), (4 : Int32), (5 : Int32), (6 : Int32)] (List.forall_mem_cons.mpr ⟨hv1, List.forall_mem_cons.mpr ⟨hv2, List.forall_mem_cons.mpr ⟨hv3, List.forall_mem_cons.mpr ⟨hv4, List.forall_mem_cons.mpr ⟨hv5, List.forall_mem_cons.mpr ⟨hv6, fun _ h => absurd h List.not_mem_nil⟩⟩⟩⟩⟩⟩) dX2_costs_1 (by decide) (tgt := 50) (by decide) ?_
  exact qV_sub [] rfl (b_X2_costs_50 C hQ hn h)
theorem dX2_above_0 : decode cX2_above 0 = .ok (.iload_n 0, 1) := by decide +kernel
theorem dX2_above_1 : decode cX2_above 1 = .ok (.tableswitch 47 1 6 #[39, 39, 41, 43, 39, 45], 39) := by decide +kernel
theorem dX2_above_40 : decode cX2_above 40 = .ok (.iconst 0, 1) := by decide +kernel
theorem dX2_above_41 : decode cX2_above 41 = .ok (.ireturn, 1) := by decide +kernel
theorem dX2_above_42 : decode cX2_above 42 = .ok (.iconst 1, 1) := by decide +kernel
theorem dX2_above_43 : decode cX2_above 43 = .ok (.ireturn, 1) := by decide +kernel
theorem dX2_above_44 : decode cX2_above 44 = .ok (.iconst 2, 1) := by decide +kernel
theorem dX2_above_45 : decode cX2_above 45 = .ok (.ireturn, 1) := by decide +kernel
theorem dX2_above_46 : decode cX2_above 46 = .ok (.iconst 5, 1) := by decide +kernel
theorem dX2_above_47 : decode cX2_above 47 = .ok (.ireturn, 1) := by decide +kernel
theorem dX2_above_48 : decode cX2_above 48 = .ok (.iconst (-1), 1) := by decide +kernel
theorem dX2_above_49 : decode cX2_above 49 = .ok (.ireturn, 1) := by decide +kernel
theorem b_X2_above_40 {Z : qZ} {G : qG} {μ : qM} {post : Int32 → qM → Prop} (C : qX Z G RX2 cX2_above 1 ({ frames := 0, cells := 0, slots := 0, locals := 0 } : Room) (some .int)) (hQ : qQi Z G 0 0 post) (hn : 66 ≤ gn G) (h : q_X2_above_40 post μ) : qV Z G 1 0 0 μ 40 [] [] := by
  unfold q_X2_above_40 at h
  refine x_iconst C dX2_above_40 (v := 0) (by decide) ?_
  exact x_iret C hQ dX2_above_41 h
theorem y_X2_above : qY yX2_above cX2_above 1 (some .int) 1 ({ frames := 0, cells := 0, slots := 0, locals := 0 } : Room) 0 0 := ⟨(qm_46 _ (List.mem_of_getElem? (i := 4) rfl)), (qm_9 _ (List.mem_of_getElem? (i := 21) rfl)), by decide +kernel, by decide +kernel, rfl, rfl⟩
theorem c_X2_above (l : Launch) (G : qG) {v0 : Int32} {μ : qM} (hn : 66 ≤ gn G) : qCi l G yX2_above cX2_above 1 (some .int) ({ frames := 0, cells := 0, slots := 0, locals := 0 } : Room) 0 0 [.int v0] μ (fun post => w_X2_above v0 post μ) := by
  refine qCi_of (L := [(0, .int v0)]) (by decide) rfl rfl ?_
  intro Z post hl C hQ h
  have C : qX Z G RX2 cX2_above 1 ({ frames := 0, cells := 0, slots := 0, locals := 0 } : Room) (some .int) := C
  have h : w_X2_above v0 post μ := h
  unfold w_X2_above at h
  refine x_iload_n C 0 dX2_above_0 rfl rfl ?_
  by_cases hv1 : v0 = (1 : Int32)
  · have h := h.1 hv1
    refine x_tin C (v := 1) dX2_above_1 hv1 (by decide) (by decide) rfl (tgt := 40) (by decide) ?_
    exact qV_sub [] rfl (b_X2_above_40 C hQ hn h)
  have h := h.2 hv1
  by_cases hv2 : v0 = (2 : Int32)
  · have h := h.1 hv2
    refine x_tin C (v := 2) dX2_above_1 hv2 (by decide) (by decide) rfl (tgt := 40) (by decide) ?_
    exact qV_sub [] rfl (b_X2_above_40 C hQ hn h)
  have h := h.2 hv2
  by_cases hv3 : v0 = (3 : Int32)
  · have h := h.1 hv3
    refine x_tin C (v := 3) dX2_above_1 hv3 (by decide) (by decide) rfl (tgt := 42) (by decide) ?_
    refine x_iconst C dX2_above_42 (v := 1) (by decide) ?_
    exact x_iret C hQ dX2_above_43 h
  have h := h.2 hv3
  by_cases hv4 : v0 = (4 : Int32)
  · have h := h.1 hv4
    refine x_tin C (v := 4) dX2_above_1 hv4 (by decide) (by decide) rfl (tgt := 44) (by decide) ?_
    refine x_iconst C dX2_above_44 (v := 2) (by decide) ?_
    exact x_iret C hQ dX2_above_45 h
  have h := h.2 hv4
  by_cases hv5 : v0 = (5 : Int32)
  · have h := h.1 hv5
    refine x_tin C (v := 5) dX2_above_1 hv5 (by decide) (by decide) rfl (tgt := 40) (by decide) ?_
    exact qV_sub [] rfl (b_X2_above_40 C hQ hn h)
  have h := h.2 hv5
  by_cases hv6 : v0 = (6 : Int32)
  · have h := h.1 hv6
    refine x_tin C (v := 6) dX2_above_1 hv6 (by decide) (by decide) rfl (tgt := 46) (by decide) ?_
    refine x_iconst C dX2_above_46 (v := 5) (by decide) ?_
    exact x_iret C hQ dX2_above_47 h
  have h := h.2 hv6
  refine x_tout C [(1 : Int32), (2 : Int32), (3 : Int32), (4 : Int32), (5 : Int32), (6 : Int32)] (List.forall_mem_cons.mpr ⟨hv1, List.forall_mem_cons.mpr ⟨hv2, List.forall_mem_cons.mpr ⟨hv3, List.forall_mem_cons.mpr ⟨hv4, List.forall_mem_cons.mpr ⟨hv5, List.forall_mem_cons.mpr ⟨hv6, fun _ h => absurd h List.not_mem_nil⟩⟩⟩⟩⟩⟩) dX2_above_1 (by decide) (tgt := 48) (by decide) ?_
  refine x_iconst C dX2_above_48 (v := -1) (by decide) ?_
  exact x_iret C hQ dX2_above_49 h
theorem dX2_isUnder_0 : decode cX2_isUnder 0 = .ok (.iload_n 0, 1) := by decide +kernel
theorem dX2_isUnder_1 : decode cX2_isUnder 1 = .ok (.istore_n 2, 1) := by decide +kernel
theorem dX2_isUnder_2 : decode cX2_isUnder 2 = .ok (.iconst 0, 1) := by decide +kernel
theorem dX2_isUnder_3 : decode cX2_isUnder 3 = .ok (.istore_n 3, 1) := by decide +kernel
theorem dX2_isUnder_4 : decode cX2_isUnder 4 = .ok (.iload_n 3, 1) := by decide +kernel
theorem dX2_isUnder_5 : decode cX2_isUnder 5 = .ok (.bipush 7, 2) := by decide +kernel
theorem dX2_isUnder_7 : decode cX2_isUnder 7 = .ok (.if_icmp .ge 25, 3) := by decide +kernel
theorem dX2_isUnder_10 : decode cX2_isUnder 10 = .ok (.iload_n 2, 1) := by decide +kernel
theorem dX2_isUnder_11 : decode cX2_isUnder 11 = .ok (.ifCond .lt 21, 3) := by decide +kernel
theorem dX2_isUnder_14 : decode cX2_isUnder 14 = .ok (.iload_n 2, 1) := by decide +kernel
theorem dX2_isUnder_15 : decode cX2_isUnder 15 = .ok (.iload_n 1, 1) := by decide +kernel
theorem dX2_isUnder_16 : decode cX2_isUnder 16 = .ok (.if_icmp .ne 5, 3) := by decide +kernel
theorem dX2_isUnder_19 : decode cX2_isUnder 19 = .ok (.iconst 1, 1) := by decide +kernel
theorem dX2_isUnder_20 : decode cX2_isUnder 20 = .ok (.ireturn, 1) := by decide +kernel
theorem dX2_isUnder_21 : decode cX2_isUnder 21 = .ok (.iload_n 2, 1) := by decide +kernel
theorem dX2_isUnder_22 : decode cX2_isUnder 22 = .ok (.invokestatic 19, 3) := by decide +kernel
theorem dX2_isUnder_25 : decode cX2_isUnder 25 = .ok (.istore_n 2, 1) := by decide +kernel
theorem dX2_isUnder_26 : decode cX2_isUnder 26 = .ok (.iinc 3 1, 3) := by decide +kernel
theorem dX2_isUnder_29 : decode cX2_isUnder 29 = .ok (.goto (-25), 3) := by decide +kernel
theorem dX2_isUnder_32 : decode cX2_isUnder 32 = .ok (.iconst 0, 1) := by decide +kernel
theorem dX2_isUnder_33 : decode cX2_isUnder 33 = .ok (.ireturn, 1) := by decide +kernel
theorem i_RX2_19 {Z : qZ} {G : qG} {cc : ByteArray} {nL k n : Nat} {rm : Room} {ret : Option FieldType} {μ : qM} {pc : Nat} {L : List (Nat × Value)} {rest : List Value} {K : Int32 → qM → Prop} {v0 : Int32} (C : qX Z G RX2 cc nL rm ret) (hn : 66 ≤ gn G) (hR : (Nat.ble (0 + 1) rm.frames && Nat.ble (8 + (1 + 11) + 0) rm.locals) = true) (hf : k + 0 ≤ rm.cells ∧ n + 0 ≤ rm.slots) (hsz : Nat.ble (rest.map fun v => v.category).sum 8 = true) (hd : decode cc pc = .ok (.invokestatic 19, 3)) (h : w_X2_above v0 K μ) (hk : ∀ (r : Int32) (μ1 : qM), K r μ1 → qV Z G nL k n μ1 (pc + 3) L (.int r :: rest)) : qV Z G nL k n μ pc L (.int v0 :: rest) := x_Si [.int v0] rest C (wp := fun K => w_X2_above v0 K μ) (y_X2_above : qY yX2_above cX2_above 1 (some .int) 1 ({ frames := 0, cells := 0, slots := 0, locals := 0 } : Room) 0 0) (qm_46 _ (List.mem_of_getElem? (i := 3) rfl)) (qm_46 _ (List.mem_of_getElem? (i := 2) rfl)) (c_X2_above Z.2.1 G hn ) hR hf rfl rfl hsz hd h hk
theorem b_X2_isUnder_32 {Z : qZ} {G : qG} {μ : qM} {post : Int32 → qM → Prop} (C : qX Z G RX2 cX2_isUnder 4 ({ frames := 1, cells := 0, slots := 0, locals := 20 } : Room) (some .boolean)) (hQ : qQi Z G 0 0 post) (hn : 66 ≤ gn G) (h : q_X2_isUnder_32 post μ) : qV Z G 4 0 0 μ 32 [] [] := by
  unfold q_X2_isUnder_32 at h
  refine x_iconst C dX2_isUnder_32 (v := 0) (by decide) ?_
  exact x_zret C hQ dX2_isUnder_33 h
theorem b_X2_isUnder_4 {Z : qZ} {G : qG} {v1 : Int32} {v2 : Int32} {v3 : Int32} {μ : qM} {post : Int32 → qM → Prop} (C : qX Z G RX2 cX2_isUnder 4 ({ frames := 1, cells := 0, slots := 0, locals := 20 } : Room) (some .boolean)) (hQ : qQi Z G 0 0 post) (hn : 66 ≤ gn G) (h : q_X2_isUnder_4 v1 post v2 v3 μ) : qV Z G 4 0 0 μ 4 [(1, .int v1), (2, .int v2), (3, .int v3)] [] := by
  refine h (fun v2 v3 μ => qV Z G 4 0 0 μ 4 [(1, .int v1), (2, .int v2), (3, .int v3)] []) (fun v2 v3 μ h => ?_)
  refine x_iload_n C 2 dX2_isUnder_4 rfl rfl ?_
  refine x_bipush C dX2_isUnder_5 (v := 7) (by decide) ?_
  refine x_icmp_ge C dX2_isUnder_7 (tgt := 32) (by decide) h (fun h => ?_) (fun h => ?_)
  · exact qV_sub [] rfl (b_X2_isUnder_32 C hQ hn h)
  · refine x_iload_n C 1 dX2_isUnder_10 rfl rfl ?_
    refine x_if_lt C dX2_isUnder_11 (tgt := 32) (by decide) h (fun h => ?_) (fun h => ?_)
    · exact qV_sub [] rfl (b_X2_isUnder_32 C hQ hn h)
    · refine x_iload_n C 1 dX2_isUnder_14 rfl rfl ?_
      refine x_iload_n C 0 dX2_isUnder_15 rfl rfl ?_
      refine x_icmp_ne C dX2_isUnder_16 (tgt := 21) (by decide) h (fun h => ?_) (fun h => ?_)
      · refine x_iload_n C 1 dX2_isUnder_21 rfl rfl ?_
        refine i_RX2_19 (rest := []) C hn  rfl (by decide) rfl dX2_isUnder_22 h (fun r22 μ22 h => ?_)
        refine x_istore_n C (L' := [(2, .int r22), (1, .int v1), (3, .int v3)]) dX2_isUnder_25 rfl (by decide) rfl ?_
        refine x_iinc C 2 (v := 1) (L' := [(3, .int ((v3 + 1))), (2, .int r22), (1, .int v1)]) dX2_isUnder_26 rfl (by decide) (by decide) rfl ?_
        refine x_goto C dX2_isUnder_29 (tgt := 4) (by decide) ?_
        exact qV_sub [2, 1, 0] rfl (h)
      · refine x_iconst C dX2_isUnder_19 (v := 1) (by decide) ?_
        exact x_zret C hQ dX2_isUnder_20 h
theorem y_X2_isUnder : qY yX2_isUnder cX2_isUnder 4 (some .boolean) 2 ({ frames := 1, cells := 0, slots := 0, locals := 20 } : Room) 0 0 := ⟨(qm_46 _ (List.mem_of_getElem? (i := 1) rfl)), (qm_9 _ (List.mem_of_getElem? (i := 21) rfl)), by decide +kernel, by decide +kernel, rfl, rfl⟩
theorem c_X2_isUnder (l : Launch) (G : qG) {v0 : Int32} {v1 : Int32} {μ : qM} (hn : 66 ≤ gn G) : qCi l G yX2_isUnder cX2_isUnder 4 (some .boolean) ({ frames := 1, cells := 0, slots := 0, locals := 20 } : Room) 0 0 [.int v0, .int v1] μ (fun post => w_X2_isUnder v0 v1 post μ) := by
  refine qCi_of (L := [(0, .int v0), (1, .int v1)]) (by decide) rfl rfl ?_
  intro Z post hl C hQ h
  have C : qX Z G RX2 cX2_isUnder 4 ({ frames := 1, cells := 0, slots := 0, locals := 20 } : Room) (some .boolean) := C
  have h : w_X2_isUnder v0 v1 post μ := h
  unfold w_X2_isUnder at h
  refine x_iload_n C 0 dX2_isUnder_0 rfl rfl ?_
  refine x_istore_n C (L' := [(2, .int v0), (0, .int v0), (1, .int v1)]) dX2_isUnder_1 rfl (by decide) rfl ?_
  refine x_iconst C dX2_isUnder_2 (v := 0) (by decide) ?_
  refine x_istore_n C (L' := [(3, .int ((0 : Int32))), (2, .int v0), (0, .int v0), (1, .int v1)]) dX2_isUnder_3 rfl (by decide) rfl ?_
  exact qV_sub [3, 1, 0] rfl (b_X2_isUnder_4 C hQ hn h)
theorem dX2_word_0 : decode cX2_word 0 = .ok (.iload_n 0, 1) := by decide +kernel
theorem dX2_word_1 : decode cX2_word 1 = .ok (.tableswitch 57 0 5 #[39, 42, 45, 48, 51, 54], 39) := by decide +kernel
theorem dX2_word_40 : decode cX2_word 40 = .ok (.ldc 23, 2) := by decide +kernel
theorem dX2_word_42 : decode cX2_word 42 = .ok (.areturn, 1) := by decide +kernel
theorem dX2_word_43 : decode cX2_word 43 = .ok (.ldc 25, 2) := by decide +kernel
theorem dX2_word_45 : decode cX2_word 45 = .ok (.areturn, 1) := by decide +kernel
theorem dX2_word_46 : decode cX2_word 46 = .ok (.ldc 27, 2) := by decide +kernel
theorem dX2_word_48 : decode cX2_word 48 = .ok (.areturn, 1) := by decide +kernel
theorem dX2_word_49 : decode cX2_word 49 = .ok (.ldc 29, 2) := by decide +kernel
theorem dX2_word_51 : decode cX2_word 51 = .ok (.areturn, 1) := by decide +kernel
theorem dX2_word_52 : decode cX2_word 52 = .ok (.ldc 31, 2) := by decide +kernel
theorem dX2_word_54 : decode cX2_word 54 = .ok (.areturn, 1) := by decide +kernel
theorem dX2_word_55 : decode cX2_word 55 = .ok (.ldc 33, 2) := by decide +kernel
theorem dX2_word_57 : decode cX2_word 57 = .ok (.areturn, 1) := by decide +kernel
theorem dX2_word_58 : decode cX2_word 58 = .ok (.ldc 35, 2) := by decide +kernel
theorem dX2_word_60 : decode cX2_word 60 = .ok (.areturn, 1) := by decide +kernel
theorem y_X2_word : qY yX2_word cX2_word 1 (some (.object "java/lang/String")) 1 ({ frames := 0, cells := 0, slots := 0, locals := 0 } : Room) 0 0 := ⟨(qm_39 _ (List.mem_of_getElem? (i := 6) rfl)), (qm_9 _ (List.mem_of_getElem? (i := 21) rfl)), by decide +kernel, by decide +kernel, rfl, rfl⟩
theorem c_X2_word (l : Launch) (G : qG) {v0 : Int32} {μ : qM} (hn : 66 ≤ gn G) : qCs l G yX2_word cX2_word 1 (some (.object "java/lang/String")) ({ frames := 0, cells := 0, slots := 0, locals := 0 } : Room) 0 0 [.int v0] μ (fun post => w_X2_word v0 post μ) := by
  refine qCs_of (L := [(0, .int v0)]) (by decide) rfl rfl ?_
  intro Z post hl C hQ h
  have C : qX Z G RX2 cX2_word 1 ({ frames := 0, cells := 0, slots := 0, locals := 0 } : Room) (some (.object "java/lang/String")) := C
  have h : w_X2_word v0 post μ := h
  unfold w_X2_word at h
  refine x_iload_n C 0 dX2_word_0 rfl rfl ?_
  by_cases hv0 : v0 = (0 : Int32)
  · have h := h.1 hv0
    refine x_tin C (v := 0) dX2_word_1 hv0 (by decide) (by decide) rfl (tgt := 40) (by decide) ?_
    refine x_ldcs C (i := 23) (q := 0) (tx := "house") (by decide) dX2_word_40 ?_
    exact x_sret C hQ dX2_word_42 h
  have h := h.2 hv0
  by_cases hv1 : v0 = (1 : Int32)
  · have h := h.1 hv1
    refine x_tin C (v := 1) dX2_word_1 hv1 (by decide) (by decide) rfl (tgt := 43) (by decide) ?_
    refine x_ldcs C (i := 25) (q := 1) (tx := "hut") (by decide) dX2_word_43 ?_
    exact x_sret C hQ dX2_word_45 h
  have h := h.2 hv1
  by_cases hv2 : v0 = (2 : Int32)
  · have h := h.1 hv2
    refine x_tin C (v := 2) dX2_word_1 hv2 (by decide) (by decide) rfl (tgt := 46) (by decide) ?_
    refine x_ldcs C (i := 27) (q := 2) (tx := "inn") (by decide) dX2_word_46 ?_
    exact x_sret C hQ dX2_word_48 h
  have h := h.2 hv2
  by_cases hv3 : v0 = (3 : Int32)
  · have h := h.1 hv3
    refine x_tin C (v := 3) dX2_word_1 hv3 (by decide) (by decide) rfl (tgt := 49) (by decide) ?_
    refine x_ldcs C (i := 29) (q := 3) (tx := "ruin") (by decide) dX2_word_49 ?_
    exact x_sret C hQ dX2_word_51 h
  have h := h.2 hv3
  by_cases hv4 : v0 = (4 : Int32)
  · have h := h.1 hv4
    refine x_tin C (v := 4) dX2_word_1 hv4 (by decide) (by decide) rfl (tgt := 52) (by decide) ?_
    refine x_ldcs C (i := 31) (q := 4) (tx := "church") (by decide) dX2_word_52 ?_
    exact x_sret C hQ dX2_word_54 h
  have h := h.2 hv4
  by_cases hv5 : v0 = (5 : Int32)
  · have h := h.1 hv5
    refine x_tin C (v := 5) dX2_word_1 hv5 (by decide) (by decide) rfl (tgt := 55) (by decide) ?_
    refine x_ldcs C (i := 33) (q := 5) (tx := "streeted") (by decide) dX2_word_55 ?_
    exact x_sret C hQ dX2_word_57 h
  have h := h.2 hv5
  refine x_tout C [(0 : Int32), (1 : Int32), (2 : Int32), (3 : Int32), (4 : Int32), (5 : Int32)] (List.forall_mem_cons.mpr ⟨hv0, List.forall_mem_cons.mpr ⟨hv1, List.forall_mem_cons.mpr ⟨hv2, List.forall_mem_cons.mpr ⟨hv3, List.forall_mem_cons.mpr ⟨hv4, List.forall_mem_cons.mpr ⟨hv5, fun _ h => absurd h List.not_mem_nil⟩⟩⟩⟩⟩⟩) dX2_word_1 (by decide) (tgt := 58) (by decide) ?_
  refine x_ldcs C (i := 35) (q := 6) (tx := "tower") (by decide) dX2_word_58 ?_
  exact x_sret C hQ dX2_word_60 h
