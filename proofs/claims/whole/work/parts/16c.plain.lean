theorem dX10_load_0 : decode cX10_load 0 = .ok (.aload_n 0, 1) := by decide +kernel
theorem dX10_load_1 : decode cX10_load 1 = .ok (.iload_n 1, 1) := by decide +kernel
theorem dX10_load_2 : decode cX10_load 2 = .ok (.invokevirtual 263, 3) := by decide +kernel
theorem dX10_load_5 : decode cX10_load 5 = .ok (.astore_n 2, 1) := by decide +kernel
theorem dX10_load_6 : decode cX10_load 6 = .ok (.aload_n 2, 1) := by decide +kernel
theorem dX10_load_7 : decode cX10_load 7 = .ok (.ifnonnull 10, 3) := by decide +kernel
theorem dX10_load_10 : decode cX10_load 10 = .ok (.aload_n 0, 1) := by decide +kernel
theorem dX10_load_11 : decode cX10_load 11 = .ok (.ldc 80, 2) := by decide +kernel
theorem dX10_load_13 : decode cX10_load 13 = .ok (.invokevirtual 81, 3) := by decide +kernel
theorem dX10_load_16 : decode cX10_load 16 = .ok (.ireturn, 1) := by decide +kernel
theorem dX10_load_17 : decode cX10_load 17 = .ok (.aload_n 2, 1) := by decide +kernel
theorem dX10_load_18 : decode cX10_load 18 = .ok (.invokevirtual 272, 3) := by decide +kernel
theorem dX10_load_21 : decode cX10_load 21 = .ok (.ifCond .eq 11, 3) := by decide +kernel
theorem dX10_load_24 : decode cX10_load 24 = .ok (.aload_n 0, 1) := by decide +kernel
theorem dX10_load_25 : decode cX10_load 25 = .ok (.ldc_w 258, 3) := by decide +kernel
theorem dX10_load_28 : decode cX10_load 28 = .ok (.invokevirtual 81, 3) := by decide +kernel
theorem dX10_load_31 : decode cX10_load 31 = .ok (.ireturn, 1) := by decide +kernel
theorem dX10_load_32 : decode cX10_load 32 = .ok (.iconst 0, 1) := by decide +kernel
theorem dX10_load_33 : decode cX10_load 33 = .ok (.istore_n 3, 1) := by decide +kernel
theorem dX10_load_34 : decode cX10_load 34 = .ok (.iload_n 3, 1) := by decide +kernel
theorem dX10_load_35 : decode cX10_load 35 = .ok (.aload_n 2, 1) := by decide +kernel
theorem dX10_load_36 : decode cX10_load 36 = .ok (.invokevirtual 271, 3) := by decide +kernel
theorem dX10_load_39 : decode cX10_load 39 = .ok (.if_icmp .ge 40, 3) := by decide +kernel
theorem dX10_load_42 : decode cX10_load 42 = .ok (.aload_n 2, 1) := by decide +kernel
theorem dX10_load_43 : decode cX10_load 43 = .ok (.iload_n 3, 1) := by decide +kernel
theorem dX10_load_44 : decode cX10_load 44 = .ok (.invokevirtual 288, 3) := by decide +kernel
theorem dX10_load_47 : decode cX10_load 47 = .ok (.istore 4, 2) := by decide +kernel
theorem dX10_load_49 : decode cX10_load 49 = .ok (.iload 4, 2) := by decide +kernel
theorem dX10_load_51 : decode cX10_load 51 = .ok (.ifCond .lt 10, 3) := by decide +kernel
theorem dX10_load_54 : decode cX10_load 54 = .ok (.iload 4, 2) := by decide +kernel
theorem dX10_load_56 : decode cX10_load 56 = .ok (.bipush 99, 2) := by decide +kernel
theorem dX10_load_58 : decode cX10_load 58 = .ok (.if_icmp .le 5, 3) := by decide +kernel
theorem dX10_load_61 : decode cX10_load 61 = .ok (.iload_n 3, 1) := by decide +kernel
theorem dX10_load_62 : decode cX10_load 62 = .ok (.ireturn, 1) := by decide +kernel
theorem dX10_load_63 : decode cX10_load 63 = .ok (.aload_n 0, 1) := by decide +kernel
theorem dX10_load_64 : decode cX10_load 64 = .ok (.getfield 10, 3) := by decide +kernel
theorem dX10_load_67 : decode cX10_load 67 = .ok (.iload_n 3, 1) := by decide +kernel
theorem dX10_load_68 : decode cX10_load 68 = .ok (.iload 4, 2) := by decide +kernel
theorem dX10_load_70 : decode cX10_load 70 = .ok (.invokevirtual 148, 3) := by decide +kernel
theorem dX10_load_73 : decode cX10_load 73 = .ok (.iinc 3 1, 3) := by decide +kernel
theorem dX10_load_76 : decode cX10_load 76 = .ok (.goto (-42), 3) := by decide +kernel
theorem dX10_load_79 : decode cX10_load 79 = .ok (.aload_n 2, 1) := by decide +kernel
theorem dX10_load_80 : decode cX10_load 80 = .ok (.invokevirtual 271, 3) := by decide +kernel
theorem dX10_load_83 : decode cX10_load 83 = .ok (.ireturn, 1) := by decide +kernel
theorem i_RX10_288 {Z : qZ} {G : qG} {cc : ByteArray} {nL k n : Nat} {rm : Room} {ret : Option FieldType} {μ : qM} {pc : Nat} {L : List (Nat × Value)} {rest : List Value} {K : Int32 → qM → Prop} {o : Nat} {v1 : Int32} (C : qX Z G RX10 cc nL rm ret) (hn : 66 ≤ gn G) (hk_o : qk o = 5) (hR : (Nat.ble (0 + 1) rm.frames && Nat.ble (8 + (2 + 11) + 0) rm.locals) = true) (hf : k + 0 ≤ rm.cells ∧ n + 0 ≤ rm.slots) (hsz : Nat.ble (rest.map fun v => v.category).sum 8 = true) (hd : decode cc pc = .ok (.invokevirtual 288, 3)) (h : w_X6_get o v1 K μ) (hk : ∀ (r : Int32) (μ1 : qM), K r μ1 → qV Z G nL k n μ1 (pc + 3) L (.int r :: rest)) : qV Z G nL k n μ pc L (.int v1 :: .ref (ga G o) :: rest) := x_Vi [.int v1] rest C o 5 (wp := fun K => w_X6_get o v1 K μ) (y_X6_get : qY yX6_get cX6_get 2 (some .int) 1 ({ frames := 0, cells := 0, slots := 0, locals := 0 } : Room) 0 0) (qm_49 _ (List.mem_of_getElem? (i := 18) rfl)) (qm_49 _ (List.mem_of_getElem? (i := 19) rfl)) (qm_49 _ (List.mem_of_getElem? (i := 17) rfl)) (c_X6_get Z.2.1 G hn hk_o) (q_lt hk_o rfl hn) hk_o (by decide) rfl rfl hR hf rfl rfl hsz hd h hk
theorem b_X10_load_61 {Z : qZ} {G : qG} {v3 : Int32} {μ : qM} {post : Int32 → qM → Prop} (C : qX Z G RX10 cX10_load 5 ({ frames := 1, cells := 0, slots := 0, locals := 22 } : Room) (some .int)) (hQ : qQi Z G 0 0 post) (hn : 66 ≤ gn G) (h : q_X10_load_61 post v3 μ) : qV Z G 5 0 0 μ 61 [(3, .int v3)] [] := by
  unfold q_X10_load_61 at h
  refine x_iload_n C 0 dX10_load_61 rfl rfl ?_
  exact x_iret C hQ dX10_load_62 h
theorem b_X10_load_34 {Z : qZ} {G : qG} {v1 : Int32} {v3 : Int32} {μ : qM} {post : Int32 → qM → Prop} (C : qX Z G RX10 cX10_load 5 ({ frames := 1, cells := 0, slots := 0, locals := 22 } : Room) (some .int)) (hQ : qQi Z G 0 0 post) (hn : 66 ≤ gn G) (hs2 : qk (25 + 2 * v1.toNatClampNeg) = 5) (h : q_X10_load_34 v1 post v3 μ) : qV Z G 5 0 0 μ 34 [(0, .ref (ga G 0)), (1, .int v1), (2, .ref (ga G (25 + 2 * v1.toNatClampNeg))), (3, .int v3)] [] := by
  refine h (fun v3 μ => qV Z G 5 0 0 μ 34 [(0, .ref (ga G 0)), (1, .int v1), (2, .ref (ga G (25 + 2 * v1.toNatClampNeg))), (3, .int v3)] []) (fun v3 μ h => ?_)
  refine x_iload_n C 3 dX10_load_34 rfl rfl ?_
  refine x_aload_n C 2 dX10_load_35 rfl rfl ?_
  refine i_RX10_271 (rest := [.int v3]) C hn hs2 rfl (by decide) rfl dX10_load_36 h (fun r36 μ36 h => ?_)
  refine x_icmp_ge C dX10_load_39 (tgt := 79) (by decide) h (fun h => ?_) (fun h => ?_)
  · refine x_aload_n C 2 dX10_load_79 rfl rfl ?_
    refine i_RX10_271 (rest := []) C hn hs2 rfl (by decide) rfl dX10_load_80 h (fun r80 μ80 h => ?_)
    exact x_iret C hQ dX10_load_83 h
  · refine x_aload_n C 2 dX10_load_42 rfl rfl ?_
    refine x_iload_n C 3 dX10_load_43 rfl rfl ?_
    refine i_RX10_288 (rest := []) C hn hs2 rfl (by decide) rfl dX10_load_44 h (fun r44 μ44 h => ?_)
    refine x_istore C (L' := [(4, .int r44), (0, .ref (ga G 0)), (1, .int v1), (2, .ref (ga G (25 + 2 * v1.toNatClampNeg))), (3, .int v3)]) dX10_load_47 (by decide) rfl ?_
    refine x_iload C 0 dX10_load_49 rfl ?_
    refine x_if_lt C dX10_load_51 (tgt := 61) (by decide) h (fun h => ?_) (fun h => ?_)
    · exact qV_sub [4] rfl (b_X10_load_61 C hQ hn h)
    · refine x_iload C 0 dX10_load_54 rfl ?_
      refine x_bipush C dX10_load_56 (v := 99) (by decide) ?_
      refine x_icmp_le C dX10_load_58 (tgt := 63) (by decide) h (fun h => ?_) (fun h => ?_)
      · refine x_aload_n C 1 dX10_load_63 rfl rfl ?_
        refine g_RX10_10 C hn dX10_load_64 ?_
        refine x_iload_n C 4 dX10_load_67 rfl rfl ?_
        refine x_iload C 0 dX10_load_68 rfl ?_
        refine i_RX10_148 (rest := []) C hn rfl rfl (by decide) rfl dX10_load_70 h (fun μ70 h => ?_)
        refine x_iinc C 4 (v := 1) (L' := [(3, .int ((v3 + 1))), (4, .int r44), (0, .ref (ga G 0)), (1, .int v1), (2, .ref (ga G (25 + 2 * v1.toNatClampNeg)))]) dX10_load_73 rfl (by decide) (by decide) rfl ?_
        refine x_goto C dX10_load_76 (tgt := 34) (by decide) ?_
        exact qV_sub [2, 3, 4, 0] rfl (h)
      · exact qV_sub [4] rfl (b_X10_load_61 C hQ hn h)
theorem y_X10_load : qY yX10_load cX10_load 5 (some .int) 1 ({ frames := 1, cells := 0, slots := 0, locals := 22 } : Room) 0 0 := ⟨(qm_49 _ (List.mem_of_getElem? (i := 16) rfl)), (qm_1 _ (List.mem_of_getElem? (i := 2) rfl)), by decide +kernel, by decide +kernel, rfl, rfl⟩
theorem c_X10_load (l : Launch) (G : qG) {v1 : Int32} {μ : qM} (hn : 66 ≤ gn G) : qCi l G yX10_load cX10_load 5 (some .int) ({ frames := 1, cells := 0, slots := 0, locals := 22 } : Room) 0 0 [.ref (ga G 0), .int v1] μ (fun post => w_X10_load v1 post μ) := by
  refine qCi_of (L := [(0, .ref (ga G 0)), (1, .int v1)]) (by decide) rfl rfl ?_
  intro Z post hl C hQ h
  have C : qX Z G RX10 cX10_load 5 ({ frames := 1, cells := 0, slots := 0, locals := 22 } : Room) (some .int) := C
  have h : w_X10_load v1 post μ := h
  unfold w_X10_load at h
  refine x_aload_n C 0 dX10_load_0 rfl rfl ?_
  refine x_iload_n C 1 dX10_load_1 rfl rfl ?_
  refine i_RX10_263 (rest := []) C hn  rfl (by decide) rfl dX10_load_2 h (fun r2 μ2 h => ?_)
  refine x_q2 h (fun h => ?_) (fun hs2 h => ?_)
  · refine x_astore_nN C (L' := [(2, .null), (0, .ref (ga G 0)), (1, .int v1)]) dX10_load_5 rfl (by decide) rfl ?_
    refine x_aload_nN C 0 dX10_load_6 rfl rfl ?_
    refine x_ifnonnullN C dX10_load_7 ?_
    refine x_aload_n C 1 dX10_load_10 rfl rfl ?_
    refine x_ldc C (v := -1000001) (qm_6 _ (List.mem_of_getElem? (i := 16) rfl)) dX10_load_11 ?_
    refine i_RX10_81 (rest := []) C hn  rfl (by decide) rfl dX10_load_13 h (fun r13 μ13 h => ?_)
    exact x_iret C hQ dX10_load_16 h
  · refine x_astore_n C (L' := [(2, .ref (ga G (25 + 2 * v1.toNatClampNeg))), (0, .ref (ga G 0)), (1, .int v1)]) dX10_load_5 rfl (by decide) rfl ?_
    refine x_aload_n C 0 dX10_load_6 rfl rfl ?_
    refine x_ifnonnull C dX10_load_7 (tgt := 17) (by decide) ?_
    refine x_aload_n C 0 dX10_load_17 rfl rfl ?_
    refine i_RX10_272 (rest := []) C hn hs2 rfl (by decide) rfl dX10_load_18 h (fun r18 μ18 h => ?_)
    refine x_if_eq C dX10_load_21 (tgt := 32) (by decide) h (fun h => ?_) (fun h => ?_)
    · refine x_iconst C dX10_load_32 (v := 0) (by decide) ?_
      refine x_istore_n C (L' := [(3, .int ((0 : Int32))), (2, .ref (ga G (25 + 2 * v1.toNatClampNeg))), (0, .ref (ga G 0)), (1, .int v1)]) dX10_load_33 rfl (by decide) rfl ?_
      exact qV_sub [2, 3, 1, 0] rfl (b_X10_load_34 C hQ hn hs2 h)
    · refine x_aload_n C 1 dX10_load_24 rfl rfl ?_
      refine x_ldcw C (v := -1000006) (qm_45 _ (List.mem_of_getElem? (i := 17) rfl)) dX10_load_25 ?_
      refine i_RX10_81 (rest := []) C hn  rfl (by decide) rfl dX10_load_28 h (fun r28 μ28 h => ?_)
      exact x_iret C hQ dX10_load_31 h
theorem dX10_judge_0 : decode cX10_judge 0 = .ok (.aload_n 0, 1) := by decide +kernel
theorem dX10_judge_1 : decode cX10_judge 1 = .ok (.iload_n 1, 1) := by decide +kernel
theorem dX10_judge_2 : decode cX10_judge 2 = .ok (.invokevirtual 263, 3) := by decide +kernel
theorem dX10_judge_5 : decode cX10_judge 5 = .ok (.astore_n 2, 1) := by decide +kernel
theorem dX10_judge_6 : decode cX10_judge 6 = .ok (.aload_n 2, 1) := by decide +kernel
theorem dX10_judge_7 : decode cX10_judge 7 = .ok (.ifnonnull 10, 3) := by decide +kernel
theorem dX10_judge_10 : decode cX10_judge 10 = .ok (.aload_n 0, 1) := by decide +kernel
theorem dX10_judge_11 : decode cX10_judge 11 = .ok (.ldc 80, 2) := by decide +kernel
theorem dX10_judge_13 : decode cX10_judge 13 = .ok (.invokevirtual 81, 3) := by decide +kernel
theorem dX10_judge_16 : decode cX10_judge 16 = .ok (.ireturn, 1) := by decide +kernel
theorem dX10_judge_17 : decode cX10_judge 17 = .ok (.aload_n 2, 1) := by decide +kernel
theorem dX10_judge_18 : decode cX10_judge 18 = .ok (.invokevirtual 272, 3) := by decide +kernel
theorem dX10_judge_21 : decode cX10_judge 21 = .ok (.ifCond .eq 11, 3) := by decide +kernel
theorem dX10_judge_24 : decode cX10_judge 24 = .ok (.aload_n 0, 1) := by decide +kernel
theorem dX10_judge_25 : decode cX10_judge 25 = .ok (.ldc_w 258, 3) := by decide +kernel
theorem dX10_judge_28 : decode cX10_judge 28 = .ok (.invokevirtual 81, 3) := by decide +kernel
theorem dX10_judge_31 : decode cX10_judge 31 = .ok (.ireturn, 1) := by decide +kernel
theorem dX10_judge_32 : decode cX10_judge 32 = .ok (.aload_n 0, 1) := by decide +kernel
theorem dX10_judge_33 : decode cX10_judge 33 = .ok (.getfield 10, 3) := by decide +kernel
theorem dX10_judge_36 : decode cX10_judge 36 = .ok (.invokevirtual 85, 3) := by decide +kernel
theorem dX10_judge_39 : decode cX10_judge 39 = .ok (.invokevirtual 108, 3) := by decide +kernel
theorem dX10_judge_42 : decode cX10_judge 42 = .ok (.aload_n 2, 1) := by decide +kernel
theorem dX10_judge_43 : decode cX10_judge 43 = .ok (.invokevirtual 271, 3) := by decide +kernel
theorem dX10_judge_46 : decode cX10_judge 46 = .ok (.iadd, 1) := by decide +kernel
theorem dX10_judge_47 : decode cX10_judge 47 = .ok (.bipush 10, 2) := by decide +kernel
theorem dX10_judge_49 : decode cX10_judge 49 = .ok (.if_icmp .le 11, 3) := by decide +kernel
theorem dX10_judge_52 : decode cX10_judge 52 = .ok (.aload_n 0, 1) := by decide +kernel
theorem dX10_judge_53 : decode cX10_judge 53 = .ok (.ldc_w 267, 3) := by decide +kernel
theorem dX10_judge_56 : decode cX10_judge 56 = .ok (.invokevirtual 81, 3) := by decide +kernel
theorem dX10_judge_59 : decode cX10_judge 59 = .ok (.ireturn, 1) := by decide +kernel
theorem dX10_judge_60 : decode cX10_judge 60 = .ok (.aload_n 0, 1) := by decide +kernel
theorem dX10_judge_61 : decode cX10_judge 61 = .ok (.getfield 23, 3) := by decide +kernel
theorem dX10_judge_64 : decode cX10_judge 64 = .ok (.invokevirtual 85, 3) := by decide +kernel
theorem dX10_judge_67 : decode cX10_judge 67 = .ok (.astore_n 3, 1) := by decide +kernel
theorem dX10_judge_68 : decode cX10_judge 68 = .ok (.aload_n 3, 1) := by decide +kernel
theorem dX10_judge_69 : decode cX10_judge 69 = .ok (.aload_n 0, 1) := by decide +kernel
theorem dX10_judge_70 : decode cX10_judge 70 = .ok (.getfield 10, 3) := by decide +kernel
theorem dX10_judge_73 : decode cX10_judge 73 = .ok (.invokevirtual 85, 3) := by decide +kernel
theorem dX10_judge_76 : decode cX10_judge 76 = .ok (.invokevirtual 190, 3) := by decide +kernel
theorem dX10_judge_79 : decode cX10_judge 79 = .ok (.iconst 0, 1) := by decide +kernel
theorem dX10_judge_80 : decode cX10_judge 80 = .ok (.istore 4, 2) := by decide +kernel
theorem dX10_judge_82 : decode cX10_judge 82 = .ok (.iload 4, 2) := by decide +kernel
theorem dX10_judge_84 : decode cX10_judge 84 = .ok (.aload_n 2, 1) := by decide +kernel
theorem dX10_judge_85 : decode cX10_judge 85 = .ok (.invokevirtual 271, 3) := by decide +kernel
theorem dX10_judge_88 : decode cX10_judge 88 = .ok (.if_icmp .ge 51, 3) := by decide +kernel
theorem dX10_judge_91 : decode cX10_judge 91 = .ok (.aload_n 2, 1) := by decide +kernel
theorem dX10_judge_92 : decode cX10_judge 92 = .ok (.iload 4, 2) := by decide +kernel
theorem dX10_judge_94 : decode cX10_judge 94 = .ok (.invokevirtual 288, 3) := by decide +kernel
theorem dX10_judge_97 : decode cX10_judge 97 = .ok (.istore 5, 2) := by decide +kernel
theorem dX10_judge_99 : decode cX10_judge 99 = .ok (.iload 5, 2) := by decide +kernel
theorem dX10_judge_101 : decode cX10_judge 101 = .ok (.ifCond .lt 20, 3) := by decide +kernel
theorem dX10_judge_104 : decode cX10_judge 104 = .ok (.iload 5, 2) := by decide +kernel
theorem dX10_judge_106 : decode cX10_judge 106 = .ok (.sipush 144, 3) := by decide +kernel
theorem dX10_judge_109 : decode cX10_judge 109 = .ok (.if_icmp .ge 12, 3) := by decide +kernel
theorem dX10_judge_112 : decode cX10_judge 112 = .ok (.aload_n 3, 1) := by decide +kernel
theorem dX10_judge_113 : decode cX10_judge 113 = .ok (.iload 5, 2) := by decide +kernel
theorem dX10_judge_115 : decode cX10_judge 115 = .ok (.invokevirtual 162, 3) := by decide +kernel
theorem dX10_judge_118 : decode cX10_judge 118 = .ok (.ifCond .ne 8, 3) := by decide +kernel
theorem dX10_judge_121 : decode cX10_judge 121 = .ok (.iconst 1, 1) := by decide +kernel
theorem dX10_judge_122 : decode cX10_judge 122 = .ok (.iload 4, 2) := by decide +kernel
theorem dX10_judge_124 : decode cX10_judge 124 = .ok (.iadd, 1) := by decide +kernel
theorem dX10_judge_125 : decode cX10_judge 125 = .ok (.ireturn, 1) := by decide +kernel
theorem dX10_judge_126 : decode cX10_judge 126 = .ok (.aload_n 3, 1) := by decide +kernel
theorem dX10_judge_127 : decode cX10_judge 127 = .ok (.iconst 0, 1) := by decide +kernel
theorem dX10_judge_128 : decode cX10_judge 128 = .ok (.iload 5, 2) := by decide +kernel
theorem dX10_judge_130 : decode cX10_judge 130 = .ok (.invokevirtual 104, 3) := by decide +kernel
theorem dX10_judge_133 : decode cX10_judge 133 = .ok (.iinc 4 1, 3) := by decide +kernel
theorem dX10_judge_136 : decode cX10_judge 136 = .ok (.goto (-54), 3) := by decide +kernel
theorem dX10_judge_139 : decode cX10_judge 139 = .ok (.iconst 0, 1) := by decide +kernel
theorem dX10_judge_140 : decode cX10_judge 140 = .ok (.ireturn, 1) := by decide +kernel
theorem b_X10_judge_121 {Z : qZ} {G : qG} {v4 : Int32} {μ : qM} {post : Int32 → qM → Prop} (C : qX Z G RX10 cX10_judge 6 ({ frames := 5, cells := 0, slots := 0, locals := 118 } : Room) (some .int)) (hQ : qQi Z G 0 0 post) (hn : 66 ≤ gn G) (h : q_X10_judge_121 post v4 μ) : qV Z G 6 0 0 μ 121 [(4, .int v4)] [] := by
  unfold q_X10_judge_121 at h
  refine x_iconst C dX10_judge_121 (v := 1) (by decide) ?_
  refine x_iload C 0 dX10_judge_122 rfl ?_
  refine x_iadd C dX10_judge_124 ?_
  exact x_iret C hQ dX10_judge_125 h
theorem b_X10_judge_82 {Z : qZ} {G : qG} {v1 : Int32} {v4 : Int32} {μ : qM} {post : Int32 → qM → Prop} (C : qX Z G RX10 cX10_judge 6 ({ frames := 5, cells := 0, slots := 0, locals := 118 } : Room) (some .int)) (hQ : qQi Z G 0 0 post) (hn : 66 ≤ gn G) (hs2 : qk (25 + 2 * v1.toNatClampNeg) = 5) (h : q_X10_judge_82 v1 post v4 μ) : qV Z G 6 0 0 μ 82 [(1, .int v1), (2, .ref (ga G (25 + 2 * v1.toNatClampNeg))), (3, .ref (ga G 16)), (4, .int v4)] [] := by
  refine h (fun v4 μ => qV Z G 6 0 0 μ 82 [(1, .int v1), (2, .ref (ga G (25 + 2 * v1.toNatClampNeg))), (3, .ref (ga G 16)), (4, .int v4)] []) (fun v4 μ h => ?_)
  refine x_iload C 3 dX10_judge_82 rfl ?_
  refine x_aload_n C 1 dX10_judge_84 rfl rfl ?_
  refine i_RX10_271 (rest := [.int v4]) C hn hs2 rfl (by decide) rfl dX10_judge_85 h (fun r85 μ85 h => ?_)
  refine x_icmp_ge C dX10_judge_88 (tgt := 139) (by decide) h (fun h => ?_) (fun h => ?_)
  · refine x_iconst C dX10_judge_139 (v := 0) (by decide) ?_
    exact x_iret C hQ dX10_judge_140 h
  · refine x_aload_n C 1 dX10_judge_91 rfl rfl ?_
    refine x_iload C 3 dX10_judge_92 rfl ?_
    refine i_RX10_288 (rest := []) C hn hs2 rfl (by decide) rfl dX10_judge_94 h (fun r94 μ94 h => ?_)
    refine x_istore C (L' := [(5, .int r94), (1, .int v1), (2, .ref (ga G (25 + 2 * v1.toNatClampNeg))), (3, .ref (ga G 16)), (4, .int v4)]) dX10_judge_97 (by decide) rfl ?_
    refine x_iload C 0 dX10_judge_99 rfl ?_
    refine x_if_lt C dX10_judge_101 (tgt := 121) (by decide) h (fun h => ?_) (fun h => ?_)
    · exact qV_sub [4] rfl (b_X10_judge_121 C hQ hn h)
    · refine x_iload C 0 dX10_judge_104 rfl ?_
      refine x_sipush C dX10_judge_106 (v := 144) (by decide) ?_
      refine x_icmp_ge C dX10_judge_109 (tgt := 121) (by decide) h (fun h => ?_) (fun h => ?_)
      · exact qV_sub [4] rfl (b_X10_judge_121 C hQ hn h)
      · refine x_aload_n C 3 dX10_judge_112 rfl rfl ?_
        refine x_iload C 0 dX10_judge_113 rfl ?_
        refine i_RX10_162 (rest := []) C hn rfl rfl (by decide) rfl dX10_judge_115 h (fun r115 μ115 h => ?_)
        refine x_if_ne C dX10_judge_118 (tgt := 126) (by decide) h (fun h => ?_) (fun h => ?_)
        · refine x_aload_n C 3 dX10_judge_126 rfl rfl ?_
          refine x_iconst C dX10_judge_127 (v := 0) (by decide) ?_
          refine x_iload C 0 dX10_judge_128 rfl ?_
          refine i_RX10_104 (rest := []) C hn rfl rfl (by decide) rfl dX10_judge_130 h (fun μ130 h => ?_)
          refine x_iinc C 4 (v := 1) (L' := [(4, .int ((v4 + 1))), (5, .int r94), (1, .int v1), (2, .ref (ga G (25 + 2 * v1.toNatClampNeg))), (3, .ref (ga G 16))]) dX10_judge_133 rfl (by decide) (by decide) rfl ?_
          refine x_goto C dX10_judge_136 (tgt := 82) (by decide) ?_
          exact qV_sub [2, 3, 4, 0] rfl (h)
        · exact qV_sub [4] rfl (b_X10_judge_121 C hQ hn h)
theorem y_X10_judge : qY yX10_judge cX10_judge 6 (some .int) 1 ({ frames := 5, cells := 0, slots := 0, locals := 118 } : Room) 0 0 := ⟨(qm_50 _ (List.mem_of_getElem? (i := 4) rfl)), (qm_1 _ (List.mem_of_getElem? (i := 2) rfl)), by decide +kernel, by decide +kernel, rfl, rfl⟩
theorem c_X10_judge (l : Launch) (G : qG) {v1 : Int32} {μ : qM} (hn : 66 ≤ gn G) : qCi l G yX10_judge cX10_judge 6 (some .int) ({ frames := 5, cells := 0, slots := 0, locals := 118 } : Room) 0 0 [.ref (ga G 0), .int v1] μ (fun post => w_X10_judge v1 post μ) := by
  refine qCi_of (L := [(0, .ref (ga G 0)), (1, .int v1)]) (by decide) rfl rfl ?_
  intro Z post hl C hQ h
  have C : qX Z G RX10 cX10_judge 6 ({ frames := 5, cells := 0, slots := 0, locals := 118 } : Room) (some .int) := C
  have h : w_X10_judge v1 post μ := h
  unfold w_X10_judge at h
  refine x_aload_n C 0 dX10_judge_0 rfl rfl ?_
  refine x_iload_n C 1 dX10_judge_1 rfl rfl ?_
  refine i_RX10_263 (rest := []) C hn  rfl (by decide) rfl dX10_judge_2 h (fun r2 μ2 h => ?_)
  refine x_q2 h (fun h => ?_) (fun hs2 h => ?_)
  · refine x_astore_nN C (L' := [(2, .null), (0, .ref (ga G 0)), (1, .int v1)]) dX10_judge_5 rfl (by decide) rfl ?_
    refine x_aload_nN C 0 dX10_judge_6 rfl rfl ?_
    refine x_ifnonnullN C dX10_judge_7 ?_
    refine x_aload_n C 1 dX10_judge_10 rfl rfl ?_
    refine x_ldc C (v := -1000001) (qm_6 _ (List.mem_of_getElem? (i := 16) rfl)) dX10_judge_11 ?_
    refine i_RX10_81 (rest := []) C hn  rfl (by decide) rfl dX10_judge_13 h (fun r13 μ13 h => ?_)
    exact x_iret C hQ dX10_judge_16 h
  · refine x_astore_n C (L' := [(2, .ref (ga G (25 + 2 * v1.toNatClampNeg))), (0, .ref (ga G 0)), (1, .int v1)]) dX10_judge_5 rfl (by decide) rfl ?_
    refine x_aload_n C 0 dX10_judge_6 rfl rfl ?_
    refine x_ifnonnull C dX10_judge_7 (tgt := 17) (by decide) ?_
    refine x_aload_n C 0 dX10_judge_17 rfl rfl ?_
    refine i_RX10_272 (rest := []) C hn hs2 rfl (by decide) rfl dX10_judge_18 h (fun r18 μ18 h => ?_)
    refine x_if_eq C dX10_judge_21 (tgt := 32) (by decide) h (fun h => ?_) (fun h => ?_)
    · refine x_aload_n C 1 dX10_judge_32 rfl rfl ?_
      refine g_RX10_10 C hn dX10_judge_33 ?_
      refine i_RX10_85 (rest := []) C hn rfl rfl (by decide) rfl dX10_judge_36 h (fun r36 μ36 h => ?_)
      obtain ⟨rfl, h⟩ := h
      refine i_RX10_108 (rest := []) C hn rfl rfl (by decide) rfl dX10_judge_39 h (fun r39 μ39 h => ?_)
      refine x_aload_n C 0 dX10_judge_42 rfl rfl ?_
      refine i_RX10_271 (rest := [.int r39]) C hn hs2 rfl (by decide) rfl dX10_judge_43 h (fun r43 μ43 h => ?_)
      refine x_iadd C dX10_judge_46 ?_
      refine x_bipush C dX10_judge_47 (v := 10) (by decide) ?_
      refine x_icmp_le C dX10_judge_49 (tgt := 60) (by decide) h (fun h => ?_) (fun h => ?_)
      · refine x_aload_n C 1 dX10_judge_60 rfl rfl ?_
        refine g_RX10_23 C hn dX10_judge_61 ?_
        refine i_RX10_85 (rest := []) C hn rfl rfl (by decide) rfl dX10_judge_64 h (fun r64 μ64 h => ?_)
        obtain ⟨rfl, h⟩ := h
        refine x_astore_n C (L' := [(3, .ref (ga G 16)), (2, .ref (ga G (25 + 2 * v1.toNatClampNeg))), (0, .ref (ga G 0)), (1, .int v1)]) dX10_judge_67 rfl (by decide) rfl ?_
        refine x_aload_n C 0 dX10_judge_68 rfl rfl ?_
        refine x_aload_n C 2 dX10_judge_69 rfl rfl ?_
        refine g_RX10_10 C hn dX10_judge_70 ?_
        refine i_RX10_85 (rest := [.ref (ga G 16)]) C hn rfl rfl (by decide) rfl dX10_judge_73 h (fun r73 μ73 h => ?_)
        obtain ⟨rfl, h⟩ := h
        refine i_RX10_190 (rest := []) C hn rfl rfl rfl (by decide) rfl dX10_judge_76 h (fun μ76 h => ?_)
        refine x_iconst C dX10_judge_79 (v := 0) (by decide) ?_
        refine x_istore C (L' := [(4, .int ((0 : Int32))), (3, .ref (ga G 16)), (2, .ref (ga G (25 + 2 * v1.toNatClampNeg))), (0, .ref (ga G 0)), (1, .int v1)]) dX10_judge_80 (by decide) rfl ?_
        exact qV_sub [4, 2, 1, 0] rfl (b_X10_judge_82 C hQ hn hs2 h)
      · refine x_aload_n C 1 dX10_judge_52 rfl rfl ?_
        refine x_ldcw C (v := -1000007) (qm_46 _ (List.mem_of_getElem? (i := 19) rfl)) dX10_judge_53 ?_
        refine i_RX10_81 (rest := []) C hn  rfl (by decide) rfl dX10_judge_56 h (fun r56 μ56 h => ?_)
        exact x_iret C hQ dX10_judge_59 h
    · refine x_aload_n C 1 dX10_judge_24 rfl rfl ?_
      refine x_ldcw C (v := -1000006) (qm_45 _ (List.mem_of_getElem? (i := 17) rfl)) dX10_judge_25 ?_
      refine i_RX10_81 (rest := []) C hn  rfl (by decide) rfl dX10_judge_28 h (fun r28 μ28 h => ?_)
      exact x_iret C hQ dX10_judge_31 h
theorem dX10_image_0 : decode cX10_image 0 = .ok (.aload_n 0, 1) := by decide +kernel
theorem dX10_image_1 : decode cX10_image 1 = .ok (.getfield 16, 3) := by decide +kernel
theorem dX10_image_4 : decode cX10_image 4 = .ok (.aload_n 0, 1) := by decide +kernel
theorem dX10_image_5 : decode cX10_image 5 = .ok (.getfield 10, 3) := by decide +kernel
theorem dX10_image_8 : decode cX10_image 8 = .ok (.invokevirtual 223, 3) := by decide +kernel
theorem dX10_image_11 : decode cX10_image 11 = .ok (.aload_n 0, 1) := by decide +kernel
theorem dX10_image_12 : decode cX10_image 12 = .ok (.iconst 1, 1) := by decide +kernel
theorem dX10_image_13 : decode cX10_image 13 = .ok (.putfield 19, 3) := by decide +kernel
theorem dX10_image_16 : decode cX10_image 16 = .ok (.iconst 1, 1) := by decide +kernel
theorem dX10_image_17 : decode cX10_image 17 = .ok (.ireturn, 1) := by decide +kernel
theorem g_RX10_16 {Z : qZ} {G : qG} {cc : ByteArray} {nL k n : Nat} {rm : Room} {ret : Option FieldType} {μ : qM} {pc : Nat} {L : List (Nat × Value)} {st : List Value} (C : qX Z G RX10 cc nL rm ret) (hn : 66 ≤ gn G) (hd : decode cc pc = .ok (.getfield 16, 3)) (h : qV Z G nL k n μ (pc + 3) L (.ref (ga G 8) :: st)) : qV Z G nL k n μ pc L (.ref (ga G 0) :: st) := x_getr C 0 9 1 8 8 (C0 := RX10) (fn := "kept") (fd := "LEqualPlain$Town;") (Nat.lt_of_lt_of_le (by decide) hn) rfl (by decide) rfl (by decide) rfl inlX10 (qm_1 _ (List.mem_of_getElem? (i := 16) rfl)) rfl rfl rfl hd h
theorem p_RX10_19 {Z : qZ} {G : qG} {cc : ByteArray} {nL k n : Nat} {rm : Room} {ret : Option FieldType} {μ : qM} {pc : Nat} {L : List (Nat × Value)} {st : List Value} {x : Int32} {A : Prop} (C : qX Z G RX10 cc nL rm ret) (hn : 66 ≤ gn G) (hd : decode cc pc = .ok (.putfield 19, 3)) (hh : (x = 0 ∨ x = 1) ∧ A) (h : A → qV Z G nL k n (qu μ 0 2 x) (pc + 3) L st) : qV Z G nL k n μ pc L (.int x :: .ref (ga G 0) :: st) := x_puti C 0 9 2 (C0 := RX10) (fn := "isKept") (fd := "Z") (ty := .boolean) (Nat.lt_of_lt_of_le (by decide) hn) rfl (by decide) rfl (by decide) rfl inlX10 tyX10_ok nmX10 (qm_1 _ (List.mem_of_getElem? (i := 17) rfl)) rfl (by decide +kernel) (by rcases hh.1 with rfl | rfl <;> decide) (by rcases hh.1 with rfl | rfl <;> decide) hd (h hh.2)
theorem y_X10_image : qY yX10_image cX10_image 1 (some .int) 0 ({ frames := 2, cells := 0, slots := 0, locals := 69 } : Room) 0 0 := ⟨(qm_50 _ (List.mem_of_getElem? (i := 12) rfl)), (qm_1 _ (List.mem_of_getElem? (i := 2) rfl)), by decide +kernel, by decide +kernel, rfl, rfl⟩
theorem c_X10_image (l : Launch) (G : qG) {μ : qM} (hn : 66 ≤ gn G) : qCi l G yX10_image cX10_image 1 (some .int) ({ frames := 2, cells := 0, slots := 0, locals := 69 } : Room) 0 0 [.ref (ga G 0)] μ (fun post => w_X10_image  post μ) := by
  refine qCi_of (L := [(0, .ref (ga G 0))]) (by decide) rfl rfl ?_
  intro Z post hl C hQ h
  have C : qX Z G RX10 cX10_image 1 ({ frames := 2, cells := 0, slots := 0, locals := 69 } : Room) (some .int) := C
  have h : w_X10_image  post μ := h
  unfold w_X10_image at h
  refine x_aload_n C 0 dX10_image_0 rfl rfl ?_
  refine g_RX10_16 C hn dX10_image_1 ?_
  refine x_aload_n C 0 dX10_image_4 rfl rfl ?_
  refine g_RX10_10 C hn dX10_image_5 ?_
  refine i_RX10_223 (rest := []) C hn rfl rfl rfl (by decide) rfl dX10_image_8 h (fun μ8 h => ?_)
  refine x_aload_n C 0 dX10_image_11 rfl rfl ?_
  refine x_iconst C dX10_image_12 (v := 1) (by decide) ?_
  refine p_RX10_19 C hn dX10_image_13 h (fun h => ?_)
  refine x_iconst C dX10_image_16 (v := 1) (by decide) ?_
  exact x_iret C hQ dX10_image_17 h
theorem dX10_undo_0 : decode cX10_undo 0 = .ok (.aload_n 0, 1) := by decide +kernel
theorem dX10_undo_1 : decode cX10_undo 1 = .ok (.getfield 19, 3) := by decide +kernel
theorem dX10_undo_4 : decode cX10_undo 4 = .ok (.ifCond .ne 10, 3) := by decide +kernel
theorem dX10_undo_7 : decode cX10_undo 7 = .ok (.aload_n 0, 1) := by decide +kernel
theorem dX10_undo_8 : decode cX10_undo 8 = .ok (.ldc 141, 2) := by decide +kernel
theorem dX10_undo_10 : decode cX10_undo 10 = .ok (.invokevirtual 81, 3) := by decide +kernel
theorem dX10_undo_13 : decode cX10_undo 13 = .ok (.ireturn, 1) := by decide +kernel
theorem dX10_undo_14 : decode cX10_undo 14 = .ok (.aload_n 0, 1) := by decide +kernel
theorem dX10_undo_15 : decode cX10_undo 15 = .ok (.getfield 10, 3) := by decide +kernel
theorem dX10_undo_18 : decode cX10_undo 18 = .ok (.aload_n 0, 1) := by decide +kernel
theorem dX10_undo_19 : decode cX10_undo 19 = .ok (.getfield 16, 3) := by decide +kernel
theorem dX10_undo_22 : decode cX10_undo 22 = .ok (.invokevirtual 223, 3) := by decide +kernel
theorem dX10_undo_25 : decode cX10_undo 25 = .ok (.aload_n 0, 1) := by decide +kernel
theorem dX10_undo_26 : decode cX10_undo 26 = .ok (.getfield 10, 3) := by decide +kernel
theorem dX10_undo_29 : decode cX10_undo 29 = .ok (.invokevirtual 217, 3) := by decide +kernel
theorem dX10_undo_32 : decode cX10_undo 32 = .ok (.ireturn, 1) := by decide +kernel
theorem g_RX10_19 {Z : qZ} {G : qG} {cc : ByteArray} {nL k n : Nat} {rm : Room} {ret : Option FieldType} {μ : qM} {pc : Nat} {L : List (Nat × Value)} {st : List Value} (C : qX Z G RX10 cc nL rm ret) (hn : 66 ≤ gn G) (hd : decode cc pc = .ok (.getfield 19, 3)) (h : qV Z G nL k n μ (pc + 3) L (.int (μ 0 2) :: st)) : qV Z G nL k n μ pc L (.ref (ga G 0) :: st) := x_geti C 0 9 2 (C0 := RX10) (fn := "isKept") (fd := "Z") (Nat.lt_of_lt_of_le (by decide) hn) rfl (by decide) rfl (by decide) rfl inlX10 (qm_1 _ (List.mem_of_getElem? (i := 17) rfl)) rfl hd h
theorem y_X10_undo : qY yX10_undo cX10_undo 1 (some .int) 0 ({ frames := 2, cells := 0, slots := 0, locals := 69 } : Room) 0 0 := ⟨(qm_51 _ (List.mem_of_getElem? (i := 4) rfl)), (qm_1 _ (List.mem_of_getElem? (i := 2) rfl)), by decide +kernel, by decide +kernel, rfl, rfl⟩
theorem c_X10_undo (l : Launch) (G : qG) {μ : qM} (hn : 66 ≤ gn G) : qCi l G yX10_undo cX10_undo 1 (some .int) ({ frames := 2, cells := 0, slots := 0, locals := 69 } : Room) 0 0 [.ref (ga G 0)] μ (fun post => w_X10_undo  post μ) := by
  refine qCi_of (L := [(0, .ref (ga G 0))]) (by decide) rfl rfl ?_
  intro Z post hl C hQ h
  have C : qX Z G RX10 cX10_undo 1 ({ frames := 2, cells := 0, slots := 0, locals := 69 } : Room) (some .int) := C
  have h : w_X10_undo  post μ := h
  unfold w_X10_undo at h
  refine x_aload_n C 0 dX10_undo_0 rfl rfl ?_
  refine g_RX10_19 C hn dX10_undo_1 ?_
  refine x_if_ne C dX10_undo_4 (tgt := 14) (by decide) h (fun h => ?_) (fun h => ?_)
  · refine x_aload_n C 0 dX10_undo_14 rfl rfl ?_
    refine g_RX10_10 C hn dX10_undo_15 ?_
    refine x_aload_n C 0 dX10_undo_18 rfl rfl ?_
    refine g_RX10_16 C hn dX10_undo_19 ?_
    refine i_RX10_223 (rest := []) C hn rfl rfl rfl (by decide) rfl dX10_undo_22 h (fun μ22 h => ?_)
    refine x_aload_n C 0 dX10_undo_25 rfl rfl ?_
    refine g_RX10_10 C hn dX10_undo_26 ?_
    refine i_RX10_217 (rest := []) C hn rfl rfl (by decide) rfl dX10_undo_29 h (fun r29 μ29 h => ?_)
    exact x_iret C hQ dX10_undo_32 h
  · refine x_aload_n C 0 dX10_undo_7 rfl rfl ?_
    refine x_ldc C (v := -1000004) (qm_15 _ (List.mem_of_getElem? (i := 3) rfl)) dX10_undo_8 ?_
    refine i_RX10_81 (rest := []) C hn  rfl (by decide) rfl dX10_undo_10 h (fun r10 μ10 h => ?_)
    exact x_iret C hQ dX10_undo_13 h
theorem dX10_tear_0 : decode cX10_tear 0 = .ok (.aload_n 0, 1) := by decide +kernel
theorem dX10_tear_1 : decode cX10_tear 1 = .ok (.getfield 19, 3) := by decide +kernel
theorem dX10_tear_4 : decode cX10_tear 4 = .ok (.ifCond .eq 7, 3) := by decide +kernel
theorem dX10_tear_7 : decode cX10_tear 7 = .ok (.iconst 1, 1) := by decide +kernel
theorem dX10_tear_8 : decode cX10_tear 8 = .ok (.goto 4, 3) := by decide +kernel
theorem dX10_tear_11 : decode cX10_tear 11 = .ok (.iconst 0, 1) := by decide +kernel
theorem dX10_tear_12 : decode cX10_tear 12 = .ok (.istore_n 1, 1) := by decide +kernel
theorem dX10_tear_13 : decode cX10_tear 13 = .ok (.aload_n 0, 1) := by decide +kernel
theorem dX10_tear_14 : decode cX10_tear 14 = .ok (.iconst 0, 1) := by decide +kernel
theorem dX10_tear_15 : decode cX10_tear 15 = .ok (.putfield 19, 3) := by decide +kernel
theorem dX10_tear_18 : decode cX10_tear 18 = .ok (.iload_n 1, 1) := by decide +kernel
theorem dX10_tear_19 : decode cX10_tear 19 = .ok (.ireturn, 1) := by decide +kernel
theorem b_X10_tear_12 {Z : qZ} {G : qG} {s0 : Int32} {μ : qM} {post : Int32 → qM → Prop} (C : qX Z G RX10 cX10_tear 2 ({ frames := 0, cells := 0, slots := 0, locals := 0 } : Room) (some .int)) (hQ : qQi Z G 0 0 post) (hn : 66 ≤ gn G) (h : q_X10_tear_12 post s0 μ) : qV Z G 2 0 0 μ 12 [(0, .ref (ga G 0))] [.int s0] := by
  unfold q_X10_tear_12 at h
  refine x_istore_n C (L' := [(1, .int s0), (0, .ref (ga G 0))]) dX10_tear_12 rfl (by decide) rfl ?_
  refine x_aload_n C 1 dX10_tear_13 rfl rfl ?_
  refine x_iconst C dX10_tear_14 (v := 0) (by decide) ?_
  refine p_RX10_19 C hn dX10_tear_15 h (fun h => ?_)
  refine x_iload_n C 0 dX10_tear_18 rfl rfl ?_
  exact x_iret C hQ dX10_tear_19 h
theorem y_X10_tear : qY yX10_tear cX10_tear 2 (some .int) 0 ({ frames := 0, cells := 0, slots := 0, locals := 0 } : Room) 0 0 := ⟨(qm_51 _ (List.mem_of_getElem? (i := 12) rfl)), (qm_1 _ (List.mem_of_getElem? (i := 2) rfl)), by decide +kernel, by decide +kernel, rfl, rfl⟩
theorem c_X10_tear (l : Launch) (G : qG) {μ : qM} (hn : 66 ≤ gn G) : qCi l G yX10_tear cX10_tear 2 (some .int) ({ frames := 0, cells := 0, slots := 0, locals := 0 } : Room) 0 0 [.ref (ga G 0)] μ (fun post => w_X10_tear  post μ) := by
  refine qCi_of (L := [(0, .ref (ga G 0))]) (by decide) rfl rfl ?_
  intro Z post hl C hQ h
  have C : qX Z G RX10 cX10_tear 2 ({ frames := 0, cells := 0, slots := 0, locals := 0 } : Room) (some .int) := C
  have h : w_X10_tear  post μ := h
  unfold w_X10_tear at h
  refine x_aload_n C 0 dX10_tear_0 rfl rfl ?_
  refine g_RX10_19 C hn dX10_tear_1 ?_
  refine x_if_eq C dX10_tear_4 (tgt := 11) (by decide) h (fun h => ?_) (fun h => ?_)
  · refine x_iconst C dX10_tear_11 (v := 0) (by decide) ?_
    exact b_X10_tear_12 C hQ hn h
  · refine x_iconst C dX10_tear_7 (v := 1) (by decide) ?_
    refine x_goto C dX10_tear_8 (tgt := 12) (by decide) ?_
    exact b_X10_tear_12 C hQ hn h
theorem dX10_count_0 : decode cX10_count 0 = .ok (.iload_n 1, 1) := by decide +kernel
theorem dX10_count_1 : decode cX10_count 1 = .ok (.tableswitch 117 0 7 #[47, 55, 66, 74, 85, 93, 101, 109], 47) := by decide +kernel
theorem dX10_count_48 : decode cX10_count 48 = .ok (.aload_n 0, 1) := by decide +kernel
theorem dX10_count_49 : decode cX10_count 49 = .ok (.getfield 10, 3) := by decide +kernel
theorem dX10_count_52 : decode cX10_count 52 = .ok (.invokevirtual 217, 3) := by decide +kernel
theorem dX10_count_55 : decode cX10_count 55 = .ok (.ireturn, 1) := by decide +kernel
theorem dX10_count_56 : decode cX10_count 56 = .ok (.aload_n 0, 1) := by decide +kernel
theorem dX10_count_57 : decode cX10_count 57 = .ok (.getfield 10, 3) := by decide +kernel
theorem dX10_count_60 : decode cX10_count 60 = .ok (.invokevirtual 85, 3) := by decide +kernel
theorem dX10_count_63 : decode cX10_count 63 = .ok (.invokevirtual 108, 3) := by decide +kernel
theorem dX10_count_66 : decode cX10_count 66 = .ok (.ireturn, 1) := by decide +kernel
theorem dX10_count_67 : decode cX10_count 67 = .ok (.aload_n 0, 1) := by decide +kernel
theorem dX10_count_68 : decode cX10_count 68 = .ok (.getfield 10, 3) := by decide +kernel
theorem dX10_count_71 : decode cX10_count 71 = .ok (.invokevirtual 118, 3) := by decide +kernel
theorem dX10_count_74 : decode cX10_count 74 = .ok (.ireturn, 1) := by decide +kernel
theorem dX10_count_75 : decode cX10_count 75 = .ok (.aload_n 0, 1) := by decide +kernel
theorem dX10_count_76 : decode cX10_count 76 = .ok (.getfield 10, 3) := by decide +kernel
theorem dX10_count_79 : decode cX10_count 79 = .ok (.invokevirtual 85, 3) := by decide +kernel
theorem dX10_count_82 : decode cX10_count 82 = .ok (.invokevirtual 291, 3) := by decide +kernel
theorem dX10_count_85 : decode cX10_count 85 = .ok (.ireturn, 1) := by decide +kernel
theorem dX10_count_86 : decode cX10_count 86 = .ok (.aload_n 0, 1) := by decide +kernel
theorem dX10_count_87 : decode cX10_count 87 = .ok (.getfield 10, 3) := by decide +kernel
theorem dX10_count_90 : decode cX10_count 90 = .ok (.invokevirtual 294, 3) := by decide +kernel
theorem dX10_count_93 : decode cX10_count 93 = .ok (.ireturn, 1) := by decide +kernel
theorem dX10_count_94 : decode cX10_count 94 = .ok (.aload_n 0, 1) := by decide +kernel
theorem dX10_count_95 : decode cX10_count 95 = .ok (.getfield 29, 3) := by decide +kernel
theorem dX10_count_98 : decode cX10_count 98 = .ok (.invokevirtual 235, 3) := by decide +kernel
theorem dX10_count_101 : decode cX10_count 101 = .ok (.ireturn, 1) := by decide +kernel
theorem dX10_count_102 : decode cX10_count 102 = .ok (.aload_n 0, 1) := by decide +kernel
theorem dX10_count_103 : decode cX10_count 103 = .ok (.getfield 10, 3) := by decide +kernel
theorem dX10_count_106 : decode cX10_count 106 = .ok (.invokevirtual 229, 3) := by decide +kernel
theorem dX10_count_109 : decode cX10_count 109 = .ok (.ireturn, 1) := by decide +kernel
theorem dX10_count_110 : decode cX10_count 110 = .ok (.aload_n 0, 1) := by decide +kernel
theorem dX10_count_111 : decode cX10_count 111 = .ok (.getfield 10, 3) := by decide +kernel
theorem dX10_count_114 : decode cX10_count 114 = .ok (.invokevirtual 297, 3) := by decide +kernel
theorem dX10_count_117 : decode cX10_count 117 = .ok (.ireturn, 1) := by decide +kernel
theorem dX10_count_118 : decode cX10_count 118 = .ok (.aload_n 0, 1) := by decide +kernel
theorem dX10_count_119 : decode cX10_count 119 = .ok (.ldc 80, 2) := by decide +kernel
theorem dX10_count_121 : decode cX10_count 121 = .ok (.invokevirtual 81, 3) := by decide +kernel
theorem dX10_count_124 : decode cX10_count 124 = .ok (.ireturn, 1) := by decide +kernel
theorem i_RX10_291 {Z : qZ} {G : qG} {cc : ByteArray} {nL k n : Nat} {rm : Room} {ret : Option FieldType} {μ : qM} {pc : Nat} {L : List (Nat × Value)} {rest : List Value} {K : Int32 → qM → Prop} {o : Nat} (C : qX Z G RX10 cc nL rm ret) (hn : 66 ≤ gn G) (hk_o : qk o = 1) (hR : (Nat.ble (5 + 1) rm.frames && Nat.ble (8 + (3 + 11) + 116) rm.locals) = true) (hf : k + 0 ≤ rm.cells ∧ n + 0 ≤ rm.slots) (hsz : Nat.ble (rest.map fun v => v.category).sum 8 = true) (hd : decode cc pc = .ok (.invokevirtual 291, 3)) (h : w_X1_countPairs o K μ) (hk : ∀ (r : Int32) (μ1 : qM), K r μ1 → qV Z G nL k n μ1 (pc + 3) L (.int r :: rest)) : qV Z G nL k n μ pc L (.ref (ga G o) :: rest) := x_Vi [] rest C o 1 (wp := fun K => w_X1_countPairs o K μ) (y_X1_countPairs : qY yX1_countPairs cX1_countPairs 3 (some .int) 0 ({ frames := 5, cells := 0, slots := 0, locals := 116 } : Room) 0 0) (qm_51 _ (List.mem_of_getElem? (i := 22) rfl)) (qm_51 _ (List.mem_of_getElem? (i := 23) rfl)) (qm_51 _ (List.mem_of_getElem? (i := 21) rfl)) (c_X1_countPairs Z.2.1 G hn hk_o) (q_lt hk_o rfl hn) hk_o (by decide) rfl rfl hR hf rfl rfl hsz hd h hk
theorem i_RX10_294 {Z : qZ} {G : qG} {cc : ByteArray} {nL k n : Nat} {rm : Room} {ret : Option FieldType} {μ : qM} {pc : Nat} {L : List (Nat × Value)} {rest : List Value} {K : Int32 → qM → Prop} {o : Nat} (C : qX Z G RX10 cc nL rm ret) (hn : 66 ≤ gn G) (hk_o : qk o = 8) (hR : (Nat.ble (0 + 1) rm.frames && Nat.ble (8 + (3 + 11) + 0) rm.locals) = true) (hf : k + 0 ≤ rm.cells ∧ n + 0 ≤ rm.slots) (hsz : Nat.ble (rest.map fun v => v.category).sum 8 = true) (hd : decode cc pc = .ok (.invokevirtual 294, 3)) (h : w_X9_allWorth o K μ) (hk : ∀ (r : Int32) (μ1 : qM), K r μ1 → qV Z G nL k n μ1 (pc + 3) L (.int r :: rest)) : qV Z G nL k n μ pc L (.ref (ga G o) :: rest) := x_Vi [] rest C o 8 (wp := fun K => w_X9_allWorth o K μ) (y_X9_allWorth : qY yX9_allWorth cX9_allWorth 3 (some .int) 0 ({ frames := 0, cells := 0, slots := 0, locals := 0 } : Room) 0 0) (qm_52 _ (List.mem_of_getElem? (i := 4) rfl)) (qm_52 _ (List.mem_of_getElem? (i := 5) rfl)) (qm_52 _ (List.mem_of_getElem? (i := 3) rfl)) (c_X9_allWorth Z.2.1 G hn hk_o) (q_lt hk_o rfl hn) hk_o (by decide) rfl rfl hR hf rfl rfl hsz hd h hk
theorem i_RX10_297 {Z : qZ} {G : qG} {cc : ByteArray} {nL k n : Nat} {rm : Room} {ret : Option FieldType} {μ : qM} {pc : Nat} {L : List (Nat × Value)} {rest : List Value} {K : Int32 → qM → Prop} {o : Nat} (C : qX Z G RX10 cc nL rm ret) (hn : 66 ≤ gn G) (hk_o : qk o = 8) (hR : (Nat.ble (0 + 1) rm.frames && Nat.ble (8 + (3 + 11) + 0) rm.locals) = true) (hf : k + 0 ≤ rm.cells ∧ n + 0 ≤ rm.slots) (hsz : Nat.ble (rest.map fun v => v.category).sum 8 = true) (hd : decode cc pc = .ok (.invokevirtual 297, 3)) (h : w_X9_filledSpots o K μ) (hk : ∀ (r : Int32) (μ1 : qM), K r μ1 → qV Z G nL k n μ1 (pc + 3) L (.int r :: rest)) : qV Z G nL k n μ pc L (.ref (ga G o) :: rest) := x_Vi [] rest C o 8 (wp := fun K => w_X9_filledSpots o K μ) (y_X9_filledSpots : qY yX9_filledSpots cX9_filledSpots 3 (some .int) 0 ({ frames := 0, cells := 0, slots := 0, locals := 0 } : Room) 0 0) (qm_52 _ (List.mem_of_getElem? (i := 8) rfl)) (qm_52 _ (List.mem_of_getElem? (i := 9) rfl)) (qm_52 _ (List.mem_of_getElem? (i := 7) rfl)) (c_X9_filledSpots Z.2.1 G hn hk_o) (q_lt hk_o rfl hn) hk_o (by decide) rfl rfl hR hf rfl rfl hsz hd h hk
theorem y_X10_count : qY yX10_count cX10_count 2 (some .int) 1 ({ frames := 6, cells := 0, slots := 0, locals := 138 } : Room) 0 0 := ⟨(qm_51 _ (List.mem_of_getElem? (i := 20) rfl)), (qm_1 _ (List.mem_of_getElem? (i := 2) rfl)), by decide +kernel, by decide +kernel, rfl, rfl⟩
theorem c_X10_count (l : Launch) (G : qG) {v1 : Int32} {μ : qM} (hn : 66 ≤ gn G) : qCi l G yX10_count cX10_count 2 (some .int) ({ frames := 6, cells := 0, slots := 0, locals := 138 } : Room) 0 0 [.ref (ga G 0), .int v1] μ (fun post => w_X10_count v1 post μ) := by
  refine qCi_of (L := [(0, .ref (ga G 0)), (1, .int v1)]) (by decide) rfl rfl ?_
  intro Z post hl C hQ h
  have C : qX Z G RX10 cX10_count 2 ({ frames := 6, cells := 0, slots := 0, locals := 138 } : Room) (some .int) := C
  have h : w_X10_count v1 post μ := h
  unfold w_X10_count at h
  refine x_iload_n C 1 dX10_count_0 rfl rfl ?_
  by_cases hv0 : v1 = (0 : Int32)
  · have h := h.1 hv0
    refine x_tin C (v := 0) dX10_count_1 hv0 (by decide) (by decide) rfl (tgt := 48) (by decide) ?_
    refine x_aload_n C 0 dX10_count_48 rfl rfl ?_
    refine g_RX10_10 C hn dX10_count_49 ?_
    refine i_RX10_217 (rest := []) C hn rfl rfl (by decide) rfl dX10_count_52 h (fun r52 μ52 h => ?_)
    exact x_iret C hQ dX10_count_55 h
  have h := h.2 hv0
  by_cases hv1 : v1 = (1 : Int32)
  · have h := h.1 hv1
    refine x_tin C (v := 1) dX10_count_1 hv1 (by decide) (by decide) rfl (tgt := 56) (by decide) ?_
    refine x_aload_n C 0 dX10_count_56 rfl rfl ?_
    refine g_RX10_10 C hn dX10_count_57 ?_
    refine i_RX10_85 (rest := []) C hn rfl rfl (by decide) rfl dX10_count_60 h (fun r60 μ60 h => ?_)
    obtain ⟨rfl, h⟩ := h
    refine i_RX10_108 (rest := []) C hn rfl rfl (by decide) rfl dX10_count_63 h (fun r63 μ63 h => ?_)
    exact x_iret C hQ dX10_count_66 h
  have h := h.2 hv1
  by_cases hv2 : v1 = (2 : Int32)
  · have h := h.1 hv2
    refine x_tin C (v := 2) dX10_count_1 hv2 (by decide) (by decide) rfl (tgt := 67) (by decide) ?_
    refine x_aload_n C 0 dX10_count_67 rfl rfl ?_
    refine g_RX10_10 C hn dX10_count_68 ?_
    refine i_RX10_118 (rest := []) C hn rfl rfl (by decide) rfl dX10_count_71 h (fun r71 μ71 h => ?_)
    exact x_iret C hQ dX10_count_74 h
  have h := h.2 hv2
  by_cases hv3 : v1 = (3 : Int32)
  · have h := h.1 hv3
    refine x_tin C (v := 3) dX10_count_1 hv3 (by decide) (by decide) rfl (tgt := 75) (by decide) ?_
    refine x_aload_n C 0 dX10_count_75 rfl rfl ?_
    refine g_RX10_10 C hn dX10_count_76 ?_
    refine i_RX10_85 (rest := []) C hn rfl rfl (by decide) rfl dX10_count_79 h (fun r79 μ79 h => ?_)
    obtain ⟨rfl, h⟩ := h
    refine i_RX10_291 (rest := []) C hn rfl rfl (by decide) rfl dX10_count_82 h (fun r82 μ82 h => ?_)
    exact x_iret C hQ dX10_count_85 h
  have h := h.2 hv3
  by_cases hv4 : v1 = (4 : Int32)
  · have h := h.1 hv4
    refine x_tin C (v := 4) dX10_count_1 hv4 (by decide) (by decide) rfl (tgt := 86) (by decide) ?_
    refine x_aload_n C 0 dX10_count_86 rfl rfl ?_
    refine g_RX10_10 C hn dX10_count_87 ?_
    refine i_RX10_294 (rest := []) C hn rfl rfl (by decide) rfl dX10_count_90 h (fun r90 μ90 h => ?_)
    exact x_iret C hQ dX10_count_93 h
  have h := h.2 hv4
  by_cases hv5 : v1 = (5 : Int32)
  · have h := h.1 hv5
    refine x_tin C (v := 5) dX10_count_1 hv5 (by decide) (by decide) rfl (tgt := 94) (by decide) ?_
    refine x_aload_n C 0 dX10_count_94 rfl rfl ?_
    refine g_RX10_29 C hn dX10_count_95 ?_
    refine i_RX10_235 (rest := []) C hn rfl rfl (by decide) rfl dX10_count_98 h (fun r98 μ98 h => ?_)
    exact x_iret C hQ dX10_count_101 h
  have h := h.2 hv5
  by_cases hv6 : v1 = (6 : Int32)
  · have h := h.1 hv6
    refine x_tin C (v := 6) dX10_count_1 hv6 (by decide) (by decide) rfl (tgt := 102) (by decide) ?_
    refine x_aload_n C 0 dX10_count_102 rfl rfl ?_
    refine g_RX10_10 C hn dX10_count_103 ?_
    refine i_RX10_229 (rest := []) C hn rfl rfl (by decide) rfl dX10_count_106 h (fun r106 μ106 h => ?_)
    exact x_iret C hQ dX10_count_109 h
  have h := h.2 hv6
  by_cases hv7 : v1 = (7 : Int32)
  · have h := h.1 hv7
    refine x_tin C (v := 7) dX10_count_1 hv7 (by decide) (by decide) rfl (tgt := 110) (by decide) ?_
    refine x_aload_n C 0 dX10_count_110 rfl rfl ?_
    refine g_RX10_10 C hn dX10_count_111 ?_
    refine i_RX10_297 (rest := []) C hn rfl rfl (by decide) rfl dX10_count_114 h (fun r114 μ114 h => ?_)
    exact x_iret C hQ dX10_count_117 h
  have h := h.2 hv7
  refine x_tout C [(0 : Int32), (1 : Int32), (2 : Int32), (3 : Int32), (4 : Int32), (5 : Int32), (6 : Int32), (7 : Int32)] (List.forall_mem_cons.mpr ⟨hv0, List.forall_mem_cons.mpr ⟨hv1, List.forall_mem_cons.mpr ⟨hv2, List.forall_mem_cons.mpr ⟨hv3, List.forall_mem_cons.mpr ⟨hv4, List.forall_mem_cons.mpr ⟨hv5, List.forall_mem_cons.mpr ⟨hv6, List.forall_mem_cons.mpr ⟨hv7, fun _ h => absurd h List.not_mem_nil⟩⟩⟩⟩⟩⟩⟩⟩) dX10_count_1 (by decide) (tgt := 118) (by decide) ?_
  refine x_aload_n C 0 dX10_count_118 rfl rfl ?_
  refine x_ldc C (v := -1000001) (qm_6 _ (List.mem_of_getElem? (i := 16) rfl)) dX10_count_119 ?_
  refine i_RX10_81 (rest := []) C hn  rfl (by decide) rfl dX10_count_121 h (fun r121 μ121 h => ?_)
  exact x_iret C hQ dX10_count_124 h
theorem dX10_status_0 : decode cX10_status 0 = .ok (.iload_n 1, 1) := by decide +kernel
theorem dX10_status_1 : decode cX10_status 1 = .ok (.iconst (-1), 1) := by decide +kernel
theorem dX10_status_2 : decode cX10_status 2 = .ok (.if_icmp .lt 9, 3) := by decide +kernel
theorem dX10_status_5 : decode cX10_status 5 = .ok (.iload_n 1, 1) := by decide +kernel
theorem dX10_status_6 : decode cX10_status 6 = .ok (.bipush 7, 2) := by decide +kernel
theorem dX10_status_8 : decode cX10_status 8 = .ok (.if_icmp .lt 10, 3) := by decide +kernel
theorem dX10_status_11 : decode cX10_status 11 = .ok (.aload_n 0, 1) := by decide +kernel
theorem dX10_status_12 : decode cX10_status 12 = .ok (.ldc 80, 2) := by decide +kernel
theorem dX10_status_14 : decode cX10_status 14 = .ok (.invokevirtual 81, 3) := by decide +kernel
theorem dX10_status_17 : decode cX10_status 17 = .ok (.ireturn, 1) := by decide +kernel
theorem dX10_status_18 : decode cX10_status 18 = .ok (.iload_n 1, 1) := by decide +kernel
theorem dX10_status_19 : decode cX10_status 19 = .ok (.ifCond .lt 10, 3) := by decide +kernel
theorem dX10_status_22 : decode cX10_status 22 = .ok (.aload_n 0, 1) := by decide +kernel
theorem dX10_status_23 : decode cX10_status 23 = .ok (.getfield 39, 3) := by decide +kernel
theorem dX10_status_26 : decode cX10_status 26 = .ok (.iload_n 1, 1) := by decide +kernel
theorem dX10_status_27 : decode cX10_status 27 = .ok (.iaload, 1) := by decide +kernel
theorem dX10_status_28 : decode cX10_status 28 = .ok (.ireturn, 1) := by decide +kernel
theorem dX10_status_29 : decode cX10_status 29 = .ok (.iconst 0, 1) := by decide +kernel
theorem dX10_status_30 : decode cX10_status 30 = .ok (.istore_n 2, 1) := by decide +kernel
theorem dX10_status_31 : decode cX10_status 31 = .ok (.iconst 0, 1) := by decide +kernel
theorem dX10_status_32 : decode cX10_status 32 = .ok (.istore_n 3, 1) := by decide +kernel
theorem dX10_status_33 : decode cX10_status 33 = .ok (.iload_n 3, 1) := by decide +kernel
theorem dX10_status_34 : decode cX10_status 34 = .ok (.bipush 7, 2) := by decide +kernel
theorem dX10_status_36 : decode cX10_status 36 = .ok (.if_icmp .ge 18, 3) := by decide +kernel
theorem dX10_status_39 : decode cX10_status 39 = .ok (.iload_n 2, 1) := by decide +kernel
theorem dX10_status_40 : decode cX10_status 40 = .ok (.aload_n 0, 1) := by decide +kernel
theorem dX10_status_41 : decode cX10_status 41 = .ok (.getfield 39, 3) := by decide +kernel
theorem dX10_status_44 : decode cX10_status 44 = .ok (.iload_n 3, 1) := by decide +kernel
theorem dX10_status_45 : decode cX10_status 45 = .ok (.iaload, 1) := by decide +kernel
theorem dX10_status_46 : decode cX10_status 46 = .ok (.iadd, 1) := by decide +kernel
theorem dX10_status_47 : decode cX10_status 47 = .ok (.istore_n 2, 1) := by decide +kernel
theorem dX10_status_48 : decode cX10_status 48 = .ok (.iinc 3 1, 3) := by decide +kernel
theorem dX10_status_51 : decode cX10_status 51 = .ok (.goto (-18), 3) := by decide +kernel
theorem dX10_status_54 : decode cX10_status 54 = .ok (.iload_n 2, 1) := by decide +kernel
theorem dX10_status_55 : decode cX10_status 55 = .ok (.ireturn, 1) := by decide +kernel
theorem b_X10_status_11 {Z : qZ} {G : qG} {μ : qM} {post : Int32 → qM → Prop} (C : qX Z G RX10 cX10_status 4 ({ frames := 1, cells := 0, slots := 0, locals := 22 } : Room) (some .int)) (hQ : qQi Z G 0 0 post) (hn : 66 ≤ gn G) (h : q_X10_status_11 post μ) : qV Z G 4 0 0 μ 11 [(0, .ref (ga G 0))] [] := by
  unfold q_X10_status_11 at h
  refine x_aload_n C 0 dX10_status_11 rfl rfl ?_
  refine x_ldc C (v := -1000001) (qm_6 _ (List.mem_of_getElem? (i := 16) rfl)) dX10_status_12 ?_
  refine i_RX10_81 (rest := []) C hn  rfl (by decide) rfl dX10_status_14 h (fun r14 μ14 h => ?_)
  exact x_iret C hQ dX10_status_17 h
theorem b_X10_status_33 {Z : qZ} {G : qG} {v2 : Int32} {v3 : Int32} {μ : qM} {post : Int32 → qM → Prop} (C : qX Z G RX10 cX10_status 4 ({ frames := 1, cells := 0, slots := 0, locals := 22 } : Room) (some .int)) (hQ : qQi Z G 0 0 post) (hn : 66 ≤ gn G) (h : q_X10_status_33 post v2 v3 μ) : qV Z G 4 0 0 μ 33 [(0, .ref (ga G 0)), (2, .int v2), (3, .int v3)] [] := by
  refine h (fun v2 v3 μ => qV Z G 4 0 0 μ 33 [(0, .ref (ga G 0)), (2, .int v2), (3, .int v3)] []) (fun v2 v3 μ h => ?_)
  refine x_iload_n C 2 dX10_status_33 rfl rfl ?_
  refine x_bipush C dX10_status_34 (v := 7) (by decide) ?_
  refine x_icmp_ge C dX10_status_36 (tgt := 54) (by decide) h (fun h => ?_) (fun h => ?_)
  · refine x_iload_n C 1 dX10_status_54 rfl rfl ?_
    exact x_iret C hQ dX10_status_55 h
  · refine x_iload_n C 1 dX10_status_39 rfl rfl ?_
    refine x_aload_n C 0 dX10_status_40 rfl rfl ?_
    refine g_RX10_39 C hn dX10_status_41 ?_
    refine x_iload_n C 2 dX10_status_44 rfl rfl ?_
    refine x_iald C 33 16 7 (q_lt rfl rfl hn) rfl rfl rfl rfl rfl dX10_status_45 h (fun h => ?_)
    refine x_iadd C dX10_status_46 ?_
    refine x_istore_n C (L' := [(2, .int ((v2 + (μ 33 v3.toNatClampNeg)))), (0, .ref (ga G 0)), (3, .int v3)]) dX10_status_47 rfl (by decide) rfl ?_
    refine x_iinc C 2 (v := 1) (L' := [(3, .int ((v3 + 1))), (2, .int ((v2 + (μ 33 v3.toNatClampNeg)))), (0, .ref (ga G 0))]) dX10_status_48 rfl (by decide) (by decide) rfl ?_
    refine x_goto C dX10_status_51 (tgt := 33) (by decide) ?_
    exact qV_sub [2, 1, 0] rfl (h)
theorem y_X10_status : qY yX10_status cX10_status 4 (some .int) 1 ({ frames := 1, cells := 0, slots := 0, locals := 22 } : Room) 0 0 := ⟨(qm_53 _ (List.mem_of_getElem? (i := 6) rfl)), (qm_1 _ (List.mem_of_getElem? (i := 2) rfl)), by decide +kernel, by decide +kernel, rfl, rfl⟩
theorem c_X10_status (l : Launch) (G : qG) {v1 : Int32} {μ : qM} (hn : 66 ≤ gn G) : qCi l G yX10_status cX10_status 4 (some .int) ({ frames := 1, cells := 0, slots := 0, locals := 22 } : Room) 0 0 [.ref (ga G 0), .int v1] μ (fun post => w_X10_status v1 post μ) := by
  refine qCi_of (L := [(0, .ref (ga G 0)), (1, .int v1)]) (by decide) rfl rfl ?_
  intro Z post hl C hQ h
  have C : qX Z G RX10 cX10_status 4 ({ frames := 1, cells := 0, slots := 0, locals := 22 } : Room) (some .int) := C
  have h : w_X10_status v1 post μ := h
  unfold w_X10_status at h
  refine x_iload_n C 1 dX10_status_0 rfl rfl ?_
  refine x_iconst C dX10_status_1 (v := -1) (by decide) ?_
  refine x_icmp_lt C dX10_status_2 (tgt := 11) (by decide) h (fun h => ?_) (fun h => ?_)
  · exact qV_sub [0] rfl (b_X10_status_11 C hQ hn h)
  · refine x_iload_n C 1 dX10_status_5 rfl rfl ?_
    refine x_bipush C dX10_status_6 (v := 7) (by decide) ?_
    refine x_icmp_lt C dX10_status_8 (tgt := 18) (by decide) h (fun h => ?_) (fun h => ?_)
    · refine x_iload_n C 1 dX10_status_18 rfl rfl ?_
      refine x_if_lt C dX10_status_19 (tgt := 29) (by decide) h (fun h => ?_) (fun h => ?_)
      · refine x_iconst C dX10_status_29 (v := 0) (by decide) ?_
        refine x_istore_n C (L' := [(2, .int ((0 : Int32))), (0, .ref (ga G 0)), (1, .int v1)]) dX10_status_30 rfl (by decide) rfl ?_
        refine x_iconst C dX10_status_31 (v := 0) (by decide) ?_
        refine x_istore_n C (L' := [(3, .int ((0 : Int32))), (2, .int ((0 : Int32))), (0, .ref (ga G 0)), (1, .int v1)]) dX10_status_32 rfl (by decide) rfl ?_
        exact qV_sub [2, 1, 0] rfl (b_X10_status_33 C hQ hn h)
      · refine x_aload_n C 0 dX10_status_22 rfl rfl ?_
        refine g_RX10_39 C hn dX10_status_23 ?_
        refine x_iload_n C 1 dX10_status_26 rfl rfl ?_
        refine x_iald C 33 16 7 (q_lt rfl rfl hn) rfl rfl rfl rfl rfl dX10_status_27 h (fun h => ?_)
        exact x_iret C hQ dX10_status_28 h
    · exact qV_sub [0] rfl (b_X10_status_11 C hQ hn h)
