theorem dX0_prepare_0 : decode cX0_prepare 0 = .ok (.aload_n 0, 1) := by decide +kernel
theorem dX0_prepare_1 : decode cX0_prepare 1 = .ok (.aload_n 1, 1) := by decide +kernel
theorem dX0_prepare_2 : decode cX0_prepare 2 = .ok (.invokevirtual 34, 3) := by decide +kernel
theorem dX0_prepare_5 : decode cX0_prepare 5 = .ok (.bipush 10, 2) := by decide +kernel
theorem dX0_prepare_7 : decode cX0_prepare 7 = .ok (.invokestatic 39, 3) := by decide +kernel
theorem dX0_prepare_10 : decode cX0_prepare 10 = .ok (.putfield 18, 3) := by decide +kernel
theorem dX0_prepare_13 : decode cX0_prepare 13 = .ok (.iconst 0, 1) := by decide +kernel
theorem dX0_prepare_14 : decode cX0_prepare 14 = .ok (.istore_n 2, 1) := by decide +kernel
theorem dX0_prepare_15 : decode cX0_prepare 15 = .ok (.iload_n 2, 1) := by decide +kernel
theorem dX0_prepare_16 : decode cX0_prepare 16 = .ok (.aload_n 0, 1) := by decide +kernel
theorem dX0_prepare_17 : decode cX0_prepare 17 = .ok (.getfield 18, 3) := by decide +kernel
theorem dX0_prepare_20 : decode cX0_prepare 20 = .ok (.if_icmp .ge 105, 3) := by decide +kernel
theorem dX0_prepare_23 : decode cX0_prepare 23 = .ok (.aload_n 1, 1) := by decide +kernel
theorem dX0_prepare_24 : decode cX0_prepare 24 = .ok (.iload_n 2, 1) := by decide +kernel
theorem dX0_prepare_25 : decode cX0_prepare 25 = .ok (.invokevirtual 44, 3) := by decide +kernel
theorem dX0_prepare_28 : decode cX0_prepare 28 = .ok (.istore_n 3, 1) := by decide +kernel
theorem dX0_prepare_29 : decode cX0_prepare 29 = .ok (.iconst 0, 1) := by decide +kernel
theorem dX0_prepare_30 : decode cX0_prepare 30 = .ok (.istore 4, 2) := by decide +kernel
theorem dX0_prepare_32 : decode cX0_prepare 32 = .ok (.iload 4, 2) := by decide +kernel
theorem dX0_prepare_34 : decode cX0_prepare 34 = .ok (.aload_n 0, 1) := by decide +kernel
theorem dX0_prepare_35 : decode cX0_prepare 35 = .ok (.getfield 18, 3) := by decide +kernel
theorem dX0_prepare_38 : decode cX0_prepare 38 = .ok (.if_icmp .ge 81, 3) := by decide +kernel
theorem dX0_prepare_41 : decode cX0_prepare 41 = .ok (.iconst 0, 1) := by decide +kernel
theorem dX0_prepare_42 : decode cX0_prepare 42 = .ok (.istore 5, 2) := by decide +kernel
theorem dX0_prepare_44 : decode cX0_prepare 44 = .ok (.iconst 0, 1) := by decide +kernel
theorem dX0_prepare_45 : decode cX0_prepare 45 = .ok (.istore 6, 2) := by decide +kernel
theorem dX0_prepare_47 : decode cX0_prepare 47 = .ok (.iload 6, 2) := by decide +kernel
theorem dX0_prepare_49 : decode cX0_prepare 49 = .ok (.aload_n 0, 1) := by decide +kernel
theorem dX0_prepare_50 : decode cX0_prepare 50 = .ok (.getfield 18, 3) := by decide +kernel
theorem dX0_prepare_53 : decode cX0_prepare 53 = .ok (.if_icmp .ge 46, 3) := by decide +kernel
theorem dX0_prepare_56 : decode cX0_prepare 56 = .ok (.aload_n 1, 1) := by decide +kernel
theorem dX0_prepare_57 : decode cX0_prepare 57 = .ok (.iload 4, 2) := by decide +kernel
theorem dX0_prepare_59 : decode cX0_prepare 59 = .ok (.iload_n 3, 1) := by decide +kernel
theorem dX0_prepare_60 : decode cX0_prepare 60 = .ok (.invokevirtual 48, 3) := by decide +kernel
theorem dX0_prepare_63 : decode cX0_prepare 63 = .ok (.aload_n 1, 1) := by decide +kernel
theorem dX0_prepare_64 : decode cX0_prepare 64 = .ok (.iload 6, 2) := by decide +kernel
theorem dX0_prepare_66 : decode cX0_prepare 66 = .ok (.iload_n 3, 1) := by decide +kernel
theorem dX0_prepare_67 : decode cX0_prepare 67 = .ok (.invokevirtual 48, 3) := by decide +kernel
theorem dX0_prepare_70 : decode cX0_prepare 70 = .ok (.if_icmp .ne 23, 3) := by decide +kernel
theorem dX0_prepare_73 : decode cX0_prepare 73 = .ok (.aload_n 1, 1) := by decide +kernel
theorem dX0_prepare_74 : decode cX0_prepare 74 = .ok (.iload 4, 2) := by decide +kernel
theorem dX0_prepare_76 : decode cX0_prepare 76 = .ok (.iload 6, 2) := by decide +kernel
theorem dX0_prepare_78 : decode cX0_prepare 78 = .ok (.invokevirtual 51, 3) := by decide +kernel
theorem dX0_prepare_81 : decode cX0_prepare 81 = .ok (.ifCond .eq 12, 3) := by decide +kernel
theorem dX0_prepare_84 : decode cX0_prepare 84 = .ok (.iload 5, 2) := by decide +kernel
theorem dX0_prepare_86 : decode cX0_prepare 86 = .ok (.iconst 1, 1) := by decide +kernel
theorem dX0_prepare_87 : decode cX0_prepare 87 = .ok (.iload 6, 2) := by decide +kernel
theorem dX0_prepare_89 : decode cX0_prepare 89 = .ok (.ishl, 1) := by decide +kernel
theorem dX0_prepare_90 : decode cX0_prepare 90 = .ok (.ior, 1) := by decide +kernel
theorem dX0_prepare_91 : decode cX0_prepare 91 = .ok (.istore 5, 2) := by decide +kernel
theorem dX0_prepare_93 : decode cX0_prepare 93 = .ok (.iinc 6 1, 3) := by decide +kernel
theorem dX0_prepare_96 : decode cX0_prepare 96 = .ok (.goto (-49), 3) := by decide +kernel
theorem dX0_prepare_99 : decode cX0_prepare 99 = .ok (.aload_n 0, 1) := by decide +kernel
theorem dX0_prepare_100 : decode cX0_prepare 100 = .ok (.getfield 15, 3) := by decide +kernel
theorem dX0_prepare_103 : decode cX0_prepare 103 = .ok (.bipush 10, 2) := by decide +kernel
theorem dX0_prepare_105 : decode cX0_prepare 105 = .ok (.iload_n 2, 1) := by decide +kernel
theorem dX0_prepare_106 : decode cX0_prepare 106 = .ok (.imul, 1) := by decide +kernel
theorem dX0_prepare_107 : decode cX0_prepare 107 = .ok (.iload 4, 2) := by decide +kernel
theorem dX0_prepare_109 : decode cX0_prepare 109 = .ok (.iadd, 1) := by decide +kernel
theorem dX0_prepare_110 : decode cX0_prepare 110 = .ok (.iload 5, 2) := by decide +kernel
theorem dX0_prepare_112 : decode cX0_prepare 112 = .ok (.iastore, 1) := by decide +kernel
theorem dX0_prepare_113 : decode cX0_prepare 113 = .ok (.iinc 4 1, 3) := by decide +kernel
theorem dX0_prepare_116 : decode cX0_prepare 116 = .ok (.goto (-84), 3) := by decide +kernel
theorem dX0_prepare_119 : decode cX0_prepare 119 = .ok (.iinc 2 1, 3) := by decide +kernel
theorem dX0_prepare_122 : decode cX0_prepare 122 = .ok (.goto (-107), 3) := by decide +kernel
theorem dX0_prepare_125 : decode cX0_prepare 125 = .ok (.return_, 1) := by decide +kernel
theorem i_RX0_34 {Z : qZ} {G : qG} {cc : ByteArray} {nL k n : Nat} {rm : Room} {ret : Option FieldType} {μ : qM} {pc : Nat} {L : List (Nat × Value)} {rest : List Value} {K : Int32 → qM → Prop} {o : Nat} (C : qX Z G RX0 cc nL rm ret) (hn : 66 ≤ gn G) (hk_o : qk o = 1) (hR : (Nat.ble (0 + 1) rm.frames && Nat.ble (8 + (1 + 11) + 0) rm.locals) = true) (hf : k + 0 ≤ rm.cells ∧ n + 0 ≤ rm.slots) (hsz : Nat.ble (rest.map fun v => v.category).sum 8 = true) (hd : decode cc pc = .ok (.invokevirtual 34, 3)) (h : w_X1_size o K μ) (hk : ∀ (r : Int32) (μ1 : qM), K r μ1 → qV Z G nL k n μ1 (pc + 3) L (.int r :: rest)) : qV Z G nL k n μ pc L (.ref (ga G o) :: rest) := x_Vi [] rest C o 1 (wp := fun K => w_X1_size o K μ) (y_X1_size : qY yX1_size cX1_size 1 (some .int) 0 ({ frames := 0, cells := 0, slots := 0, locals := 0 } : Room) 0 0) (qm_8 _ (List.mem_of_getElem? (i := 5) rfl)) (qm_8 _ (List.mem_of_getElem? (i := 6) rfl)) (qm_29 _ (List.mem_of_getElem? (i := 15) rfl)) (c_X1_size Z.2.1 G hn hk_o) (q_lt hk_o rfl hn) hk_o (by decide) rfl rfl hR hf rfl rfl hsz hd h hk
theorem i_RX0_44 {Z : qZ} {G : qG} {cc : ByteArray} {nL k n : Nat} {rm : Room} {ret : Option FieldType} {μ : qM} {pc : Nat} {L : List (Nat × Value)} {rest : List Value} {K : Int32 → qM → Prop} {o : Nat} {v1 : Int32} (C : qX Z G RX0 cc nL rm ret) (hn : 66 ≤ gn G) (hk_o : qk o = 1) (hR : (Nat.ble (1 + 1) rm.frames && Nat.ble (8 + (2 + 11) + 21) rm.locals) = true) (hf : k + 0 ≤ rm.cells ∧ n + 0 ≤ rm.slots) (hsz : Nat.ble (rest.map fun v => v.category).sum 8 = true) (hd : decode cc pc = .ok (.invokevirtual 44, 3)) (h : w_X1_homeOf o v1 K μ) (hk : ∀ (r : Int32) (μ1 : qM), K r μ1 → qV Z G nL k n μ1 (pc + 3) L (.int r :: rest)) : qV Z G nL k n μ pc L (.int v1 :: .ref (ga G o) :: rest) := x_Vi [.int v1] rest C o 1 (wp := fun K => w_X1_homeOf o v1 K μ) (y_X1_homeOf : qY yX1_homeOf cX1_homeOf 2 (some .int) 1 ({ frames := 1, cells := 0, slots := 0, locals := 21 } : Room) 0 0) (qm_13 _ (List.mem_of_getElem? (i := 11) rfl)) (qm_13 _ (List.mem_of_getElem? (i := 12) rfl)) (qm_29 _ (List.mem_of_getElem? (i := 16) rfl)) (c_X1_homeOf Z.2.1 G hn hk_o) (q_lt hk_o rfl hn) hk_o (by decide) rfl rfl hR hf rfl rfl hsz hd h hk
theorem i_RX0_48 {Z : qZ} {G : qG} {cc : ByteArray} {nL k n : Nat} {rm : Room} {ret : Option FieldType} {μ : qM} {pc : Nat} {L : List (Nat × Value)} {rest : List Value} {K : Int32 → qM → Prop} {o : Nat} {v1 : Int32} {v2 : Int32} (C : qX Z G RX0 cc nL rm ret) (hn : 66 ≤ gn G) (hk_o : qk o = 1) (hR : (Nat.ble (1 + 1) rm.frames && Nat.ble (8 + (3 + 11) + 25) rm.locals) = true) (hf : k + 0 ≤ rm.cells ∧ n + 0 ≤ rm.slots) (hsz : Nat.ble (rest.map fun v => v.category).sum 8 = true) (hd : decode cc pc = .ok (.invokevirtual 48, 3)) (h : w_X1_farOf o v1 v2 K μ) (hk : ∀ (r : Int32) (μ1 : qM), K r μ1 → qV Z G nL k n μ1 (pc + 3) L (.int r :: rest)) : qV Z G nL k n μ pc L (.int v2 :: .int v1 :: .ref (ga G o) :: rest) := x_Vi [.int v1, .int v2] rest C o 1 (wp := fun K => w_X1_farOf o v1 v2 K μ) (y_X1_farOf : qY yX1_farOf cX1_farOf 3 (some .int) 2 ({ frames := 1, cells := 0, slots := 0, locals := 25 } : Room) 0 0) (qm_16 _ (List.mem_of_getElem? (i := 20) rfl)) (qm_16 _ (List.mem_of_getElem? (i := 21) rfl)) (qm_29 _ (List.mem_of_getElem? (i := 17) rfl)) (c_X1_farOf Z.2.1 G hn hk_o) (q_lt hk_o rfl hn) hk_o (by decide) rfl rfl hR hf rfl rfl hsz hd h hk
theorem i_RX0_51 {Z : qZ} {G : qG} {cc : ByteArray} {nL k n : Nat} {rm : Room} {ret : Option FieldType} {μ : qM} {pc : Nat} {L : List (Nat × Value)} {rest : List Value} {K : Int32 → qM → Prop} {o : Nat} {v1 : Int32} {v2 : Int32} (C : qX Z G RX0 cc nL rm ret) (hn : 66 ≤ gn G) (hk_o : qk o = 1) (hR : (Nat.ble (3 + 1) rm.frames && Nat.ble (8 + (3 + 11) + 71) rm.locals) = true) (hf : k + 0 ≤ rm.cells ∧ n + 0 ≤ rm.slots) (hsz : Nat.ble (rest.map fun v => v.category).sum 8 = true) (hd : decode cc pc = .ok (.invokevirtual 51, 3)) (h : w_X1_arePair o v1 v2 K μ) (hk : ∀ (r : Int32) (μ1 : qM), K r μ1 → qV Z G nL k n μ1 (pc + 3) L (.int r :: rest)) : qV Z G nL k n μ pc L (.int v2 :: .int v1 :: .ref (ga G o) :: rest) := x_Vi [.int v1, .int v2] rest C o 1 (wp := fun K => w_X1_arePair o v1 v2 K μ) (y_X1_arePair : qY yX1_arePair cX1_arePair 3 (some .boolean) 2 ({ frames := 3, cells := 0, slots := 0, locals := 71 } : Room) 0 0) (qm_13 _ (List.mem_of_getElem? (i := 20) rfl)) (qm_13 _ (List.mem_of_getElem? (i := 21) rfl)) (qm_29 _ (List.mem_of_getElem? (i := 18) rfl)) (c_X1_arePair Z.2.1 G hn hk_o) (q_lt hk_o rfl hn) hk_o (by decide) rfl rfl hR hf rfl rfl hsz hd h hk
theorem g_RX0_15 {Z : qZ} {G : qG} {cc : ByteArray} {nL k n : Nat} {rm : Room} {ret : Option FieldType} {μ : qM} {pc : Nat} {L : List (Nat × Value)} {st : List Value} {o : Nat} (C : qX Z G RX0 cc nL rm ret) (hn : 66 ≤ gn G) (hk : qk o = 0) (hd : decode cc pc = .ok (.getfield 15, 3)) (h : qV Z G nL k n μ (pc + 3) L (.ref (ga G (o + 2)) :: st)) : qV Z G nL k n μ pc L (.ref (ga G o) :: st) := x_getr C o 0 1 2 (o + 2) (C0 := RX0) (fn := "even") (fd := "[I") (q_lt hk rfl hn) hk (by decide) rfl (by decide) rfl inlX0 (qm_5 _ (List.mem_of_getElem? (i := 3) rfl)) rfl rfl rfl hd h
theorem g_RX0_18 {Z : qZ} {G : qG} {cc : ByteArray} {nL k n : Nat} {rm : Room} {ret : Option FieldType} {μ : qM} {pc : Nat} {L : List (Nat × Value)} {st : List Value} {o : Nat} (C : qX Z G RX0 cc nL rm ret) (hn : 66 ≤ gn G) (hk : qk o = 0) (hd : decode cc pc = .ok (.getfield 18, 3)) (h : qV Z G nL k n μ (pc + 3) L (.int (μ o 2) :: st)) : qV Z G nL k n μ pc L (.ref (ga G o) :: st) := x_geti C o 0 2 (C0 := RX0) (fn := "size") (fd := "I") (q_lt hk rfl hn) hk (by decide) rfl (by decide) rfl inlX0 (qm_5 _ (List.mem_of_getElem? (i := 4) rfl)) rfl hd h
theorem p_RX0_18 {Z : qZ} {G : qG} {cc : ByteArray} {nL k n : Nat} {rm : Room} {ret : Option FieldType} {μ : qM} {pc : Nat} {L : List (Nat × Value)} {st : List Value} {x : Int32} {o : Nat} (C : qX Z G RX0 cc nL rm ret) (hn : 66 ≤ gn G) (hk : qk o = 0) (hd : decode cc pc = .ok (.putfield 18, 3)) (h : qV Z G nL k n (qu μ o 2 x) (pc + 3) L st) : qV Z G nL k n μ pc L (.int x :: .ref (ga G o) :: st) := x_puti C o 0 2 (C0 := RX0) (fn := "size") (fd := "I") (ty := .int) (q_lt hk rfl hn) hk (by decide) rfl (by decide) rfl inlX0 tyX0_ok nmX0 (qm_5 _ (List.mem_of_getElem? (i := 4) rfl)) rfl (by decide +kernel) rfl rfl hd h
theorem b_X0_prepare_93 {Z : qZ} {G : qG} {o : Nat} {o1 : Nat} {v2 : Int32} {v3 : Int32} {v4 : Int32} {v5 : Int32} {v6 : Int32} {μ : qM} {P15 : Int32 → qM → Prop} {P32 : Int32 → qM → Prop} {P47 : Int32 → Int32 → qM → Prop} {post : qM → Prop} (C : qX Z G RX0 cX0_prepare 7 ({ frames := 4, cells := 0, slots := 0, locals := 93 } : Room) none) (hQ : qQv Z G 0 0 post) (hn : 66 ≤ gn G) (hk_o : qk o = 0) (hk_o1 : qk o1 = 1) (hP15 : ∀ (b2 : Int32) (μ1 : qM), P15 b2 μ1 → qV Z G 7 0 0 μ1 15 [(0, .ref (ga G o)), (1, .ref (ga G o1)), (2, .int b2)] []) (hP32 : ∀ (b4 : Int32) (μ1 : qM), P32 b4 μ1 → qV Z G 7 0 0 μ1 32 [(0, .ref (ga G o)), (1, .ref (ga G o1)), (2, .int v2), (3, .int v3), (4, .int b4)] []) (hP47 : ∀ (b5 : Int32) (b6 : Int32) (μ1 : qM), P47 b5 b6 μ1 → qV Z G 7 0 0 μ1 47 [(0, .ref (ga G o)), (1, .ref (ga G o1)), (2, .int v2), (3, .int v3), (4, .int v4), (5, .int b5), (6, .int b6)] []) (h : q_X0_prepare_93 o o1 P15 P32 P47 post v2 v3 v4 v5 v6 μ) : qV Z G 7 0 0 μ 93 [(0, .ref (ga G o)), (1, .ref (ga G o1)), (2, .int v2), (3, .int v3), (4, .int v4), (5, .int v5), (6, .int v6)] [] := by
  unfold q_X0_prepare_93 at h
  refine x_iinc C 6 (v := 1) (L' := [(6, .int ((v6 + 1))), (0, .ref (ga G o)), (1, .ref (ga G o1)), (2, .int v2), (3, .int v3), (4, .int v4), (5, .int v5)]) dX0_prepare_93 rfl (by decide) (by decide) rfl ?_
  refine x_goto C dX0_prepare_96 (tgt := 47) (by decide) ?_
  exact qV_sub [1, 2, 3, 4, 5, 6, 0] rfl ((hP47 _ _ _ h))
theorem b_X0_prepare_47 {Z : qZ} {G : qG} {o : Nat} {o1 : Nat} {v2 : Int32} {v3 : Int32} {v4 : Int32} {v5 : Int32} {v6 : Int32} {μ : qM} {P15 : Int32 → qM → Prop} {P32 : Int32 → qM → Prop} {post : qM → Prop} (C : qX Z G RX0 cX0_prepare 7 ({ frames := 4, cells := 0, slots := 0, locals := 93 } : Room) none) (hQ : qQv Z G 0 0 post) (hn : 66 ≤ gn G) (hk_o : qk o = 0) (hk_o1 : qk o1 = 1) (hP15 : ∀ (b2 : Int32) (μ1 : qM), P15 b2 μ1 → qV Z G 7 0 0 μ1 15 [(0, .ref (ga G o)), (1, .ref (ga G o1)), (2, .int b2)] []) (hP32 : ∀ (b4 : Int32) (μ1 : qM), P32 b4 μ1 → qV Z G 7 0 0 μ1 32 [(0, .ref (ga G o)), (1, .ref (ga G o1)), (2, .int v2), (3, .int v3), (4, .int b4)] []) (h : q_X0_prepare_47 o o1 v2 v3 v4 P15 P32 post v5 v6 μ) : qV Z G 7 0 0 μ 47 [(0, .ref (ga G o)), (1, .ref (ga G o1)), (2, .int v2), (3, .int v3), (4, .int v4), (5, .int v5), (6, .int v6)] [] := by
  refine h (fun v5 v6 μ => qV Z G 7 0 0 μ 47 [(0, .ref (ga G o)), (1, .ref (ga G o1)), (2, .int v2), (3, .int v3), (4, .int v4), (5, .int v5), (6, .int v6)] []) (fun v5 v6 μ h => ?_)
  refine x_iload C 6 dX0_prepare_47 rfl ?_
  refine x_aload_n C 0 dX0_prepare_49 rfl rfl ?_
  refine g_RX0_18 C hn hk_o dX0_prepare_50 ?_
  refine x_icmp_ge C dX0_prepare_53 (tgt := 99) (by decide) h (fun h => ?_) (fun h => ?_)
  · refine x_aload_n C 0 dX0_prepare_99 rfl rfl ?_
    refine g_RX0_15 C hn hk_o dX0_prepare_100 ?_
    refine x_bipush C dX0_prepare_103 (v := 10) (by decide) ?_
    refine x_iload_n C 2 dX0_prepare_105 rfl rfl ?_
    refine x_imul C dX0_prepare_106 ?_
    refine x_iload C 4 dX0_prepare_107 rfl ?_
    refine x_iadd C dX0_prepare_109 ?_
    refine x_iload C 5 dX0_prepare_110 rfl ?_
    refine x_iast C (o + 2) 18 100 (q_lt (qn_0_2 hk_o) rfl hn) (qn_0_2 hk_o) rfl rfl rfl rfl dX0_prepare_112 h (fun h => ?_)
    refine x_iinc C 4 (v := 1) (L' := [(4, .int ((v4 + 1))), (0, .ref (ga G o)), (1, .ref (ga G o1)), (2, .int v2), (3, .int v3), (5, .int v5), (6, .int v6)]) dX0_prepare_113 rfl (by decide) (by decide) rfl ?_
    refine x_goto C dX0_prepare_116 (tgt := 32) (by decide) ?_
    exact qV_sub [1, 2, 3, 4, 0] rfl ((hP32 _ _ h))
  · refine x_aload_n C 1 dX0_prepare_56 rfl rfl ?_
    refine x_iload C 4 dX0_prepare_57 rfl ?_
    refine x_iload_n C 3 dX0_prepare_59 rfl rfl ?_
    refine i_RX0_48 (rest := []) C hn hk_o1 rfl (by decide) rfl dX0_prepare_60 h (fun r60 μ60 h => ?_)
    refine x_aload_n C 1 dX0_prepare_63 rfl rfl ?_
    refine x_iload C 6 dX0_prepare_64 rfl ?_
    refine x_iload_n C 3 dX0_prepare_66 rfl rfl ?_
    refine i_RX0_48 (rest := [.int r60]) C hn hk_o1 rfl (by decide) rfl dX0_prepare_67 h (fun r67 μ67 h => ?_)
    refine x_icmp_ne C dX0_prepare_70 (tgt := 93) (by decide) h (fun h => ?_) (fun h => ?_)
    · exact b_X0_prepare_93 C hQ hn hk_o hk_o1 hP15 hP32 (fun _ _ _ h => h) h
    · refine x_aload_n C 1 dX0_prepare_73 rfl rfl ?_
      refine x_iload C 4 dX0_prepare_74 rfl ?_
      refine x_iload C 6 dX0_prepare_76 rfl ?_
      refine i_RX0_51 (rest := []) C hn hk_o1 rfl (by decide) rfl dX0_prepare_78 h (fun r78 μ78 h => ?_)
      refine x_if_eq C dX0_prepare_81 (tgt := 93) (by decide) h (fun h => ?_) (fun h => ?_)
      · exact b_X0_prepare_93 C hQ hn hk_o hk_o1 hP15 hP32 (fun _ _ _ h => h) h
      · refine x_iload C 5 dX0_prepare_84 rfl ?_
        refine x_iconst C dX0_prepare_86 (v := 1) (by decide) ?_
        refine x_iload C 6 dX0_prepare_87 rfl ?_
        refine x_ishl C dX0_prepare_89 ?_
        refine x_ior C dX0_prepare_90 ?_
        refine x_istore C (L' := [(5, .int ((v5 ||| ((1 : Int32) <<< (v6 &&& 31))))), (0, .ref (ga G o)), (1, .ref (ga G o1)), (2, .int v2), (3, .int v3), (4, .int v4), (6, .int v6)]) dX0_prepare_91 (by decide) rfl ?_
        exact qV_sub [1, 2, 3, 4, 5, 0, 6] rfl (b_X0_prepare_93 C hQ hn hk_o hk_o1 hP15 hP32 (fun _ _ _ h => h) h)
theorem b_X0_prepare_32 {Z : qZ} {G : qG} {o : Nat} {o1 : Nat} {v2 : Int32} {v3 : Int32} {v4 : Int32} {μ : qM} {P15 : Int32 → qM → Prop} {post : qM → Prop} (C : qX Z G RX0 cX0_prepare 7 ({ frames := 4, cells := 0, slots := 0, locals := 93 } : Room) none) (hQ : qQv Z G 0 0 post) (hn : 66 ≤ gn G) (hk_o : qk o = 0) (hk_o1 : qk o1 = 1) (hP15 : ∀ (b2 : Int32) (μ1 : qM), P15 b2 μ1 → qV Z G 7 0 0 μ1 15 [(0, .ref (ga G o)), (1, .ref (ga G o1)), (2, .int b2)] []) (h : q_X0_prepare_32 o o1 v2 v3 P15 post v4 μ) : qV Z G 7 0 0 μ 32 [(0, .ref (ga G o)), (1, .ref (ga G o1)), (2, .int v2), (3, .int v3), (4, .int v4)] [] := by
  refine h (fun v4 μ => qV Z G 7 0 0 μ 32 [(0, .ref (ga G o)), (1, .ref (ga G o1)), (2, .int v2), (3, .int v3), (4, .int v4)] []) (fun v4 μ h => ?_)
  refine x_iload C 4 dX0_prepare_32 rfl ?_
  refine x_aload_n C 0 dX0_prepare_34 rfl rfl ?_
  refine g_RX0_18 C hn hk_o dX0_prepare_35 ?_
  refine x_icmp_ge C dX0_prepare_38 (tgt := 119) (by decide) h (fun h => ?_) (fun h => ?_)
  · refine x_iinc C 2 (v := 1) (L' := [(2, .int ((v2 + 1))), (0, .ref (ga G o)), (1, .ref (ga G o1)), (3, .int v3), (4, .int v4)]) dX0_prepare_119 rfl (by decide) (by decide) rfl ?_
    refine x_goto C dX0_prepare_122 (tgt := 15) (by decide) ?_
    exact qV_sub [1, 2, 0] rfl ((hP15 _ _ h))
  · refine x_iconst C dX0_prepare_41 (v := 0) (by decide) ?_
    refine x_istore C (L' := [(5, .int ((0 : Int32))), (0, .ref (ga G o)), (1, .ref (ga G o1)), (2, .int v2), (3, .int v3), (4, .int v4)]) dX0_prepare_42 (by decide) rfl ?_
    refine x_iconst C dX0_prepare_44 (v := 0) (by decide) ?_
    refine x_istore C (L' := [(6, .int ((0 : Int32))), (5, .int ((0 : Int32))), (0, .ref (ga G o)), (1, .ref (ga G o1)), (2, .int v2), (3, .int v3), (4, .int v4)]) dX0_prepare_45 (by decide) rfl ?_
    exact qV_sub [2, 3, 4, 5, 6, 1, 0] rfl (b_X0_prepare_47 C hQ hn hk_o hk_o1 hP15 (fun _ _ h => h) h)
theorem b_X0_prepare_15 {Z : qZ} {G : qG} {o : Nat} {o1 : Nat} {v2 : Int32} {μ : qM} {post : qM → Prop} (C : qX Z G RX0 cX0_prepare 7 ({ frames := 4, cells := 0, slots := 0, locals := 93 } : Room) none) (hQ : qQv Z G 0 0 post) (hn : 66 ≤ gn G) (hk_o : qk o = 0) (hk_o1 : qk o1 = 1) (h : q_X0_prepare_15 o o1 post v2 μ) : qV Z G 7 0 0 μ 15 [(0, .ref (ga G o)), (1, .ref (ga G o1)), (2, .int v2)] [] := by
  refine h (fun v2 μ => qV Z G 7 0 0 μ 15 [(0, .ref (ga G o)), (1, .ref (ga G o1)), (2, .int v2)] []) (fun v2 μ h => ?_)
  refine x_iload_n C 2 dX0_prepare_15 rfl rfl ?_
  refine x_aload_n C 0 dX0_prepare_16 rfl rfl ?_
  refine g_RX0_18 C hn hk_o dX0_prepare_17 ?_
  refine x_icmp_ge C dX0_prepare_20 (tgt := 125) (by decide) h (fun h => ?_) (fun h => ?_)
  · exact x_vret C hQ dX0_prepare_125 h
  · refine x_aload_n C 1 dX0_prepare_23 rfl rfl ?_
    refine x_iload_n C 2 dX0_prepare_24 rfl rfl ?_
    refine i_RX0_44 (rest := []) C hn hk_o1 rfl (by decide) rfl dX0_prepare_25 h (fun r25 μ25 h => ?_)
    refine x_istore_n C (L' := [(3, .int r25), (0, .ref (ga G o)), (1, .ref (ga G o1)), (2, .int v2)]) dX0_prepare_28 rfl (by decide) rfl ?_
    refine x_iconst C dX0_prepare_29 (v := 0) (by decide) ?_
    refine x_istore C (L' := [(4, .int ((0 : Int32))), (3, .int r25), (0, .ref (ga G o)), (1, .ref (ga G o1)), (2, .int v2)]) dX0_prepare_30 (by decide) rfl ?_
    exact qV_sub [2, 3, 4, 1, 0] rfl (b_X0_prepare_32 C hQ hn hk_o hk_o1 (fun _ _ h => h) h)
theorem y_X0_prepare : qY yX0_prepare cX0_prepare 7 none 1 ({ frames := 4, cells := 0, slots := 0, locals := 93 } : Room) 0 0 := ⟨(qm_29 _ (List.mem_of_getElem? (i := 11) rfl)), (qm_2 _ (List.mem_of_getElem? (i := 17) rfl)), by decide +kernel, by decide +kernel, rfl, rfl⟩
theorem c_X0_prepare (l : Launch) (G : qG) {o : Nat} {o1 : Nat} {μ : qM} (hn : 66 ≤ gn G) (hk_o : qk o = 0) (hk_o1 : qk o1 = 1) : qCv l G yX0_prepare cX0_prepare 7 none ({ frames := 4, cells := 0, slots := 0, locals := 93 } : Room) 0 0 [.ref (ga G o), .ref (ga G o1)] μ (fun post => w_X0_prepare o o1 post μ) := by
  refine qCv_of (L := [(0, .ref (ga G o)), (1, .ref (ga G o1))]) (by decide) rfl rfl ?_
  intro Z post hl C hQ h
  have C : qX Z G RX0 cX0_prepare 7 ({ frames := 4, cells := 0, slots := 0, locals := 93 } : Room) none := C
  have h : w_X0_prepare o o1 post μ := h
  unfold w_X0_prepare at h
  refine x_aload_n C 0 dX0_prepare_0 rfl rfl ?_
  refine x_aload_n C 1 dX0_prepare_1 rfl rfl ?_
  refine i_RX0_34 (rest := [.ref (ga G o)]) C hn hk_o1 rfl (by decide) rfl dX0_prepare_2 h (fun r2 μ2 h => ?_)
  refine x_bipush C dX0_prepare_5 (v := 10) (by decide) ?_
  refine x_min C (qm_29 _ (List.mem_of_getElem? (i := 12) rfl)) rfl rfl dX0_prepare_7 (by decide) ?_
  refine p_RX0_18 C hn hk_o dX0_prepare_10 ?_
  refine x_iconst C dX0_prepare_13 (v := 0) (by decide) ?_
  refine x_istore_n C (L' := [(2, .int ((0 : Int32))), (0, .ref (ga G o)), (1, .ref (ga G o1))]) dX0_prepare_14 rfl (by decide) rfl ?_
  exact qV_sub [1, 2, 0] rfl (b_X0_prepare_15 C hQ hn hk_o hk_o1 h)
theorem dX0_fits_0 : decode cX0_fits 0 = .ok (.iconst 0, 1) := by decide +kernel
theorem dX0_fits_1 : decode cX0_fits 1 = .ok (.istore_n 3, 1) := by decide +kernel
theorem dX0_fits_2 : decode cX0_fits 2 = .ok (.iload_n 3, 1) := by decide +kernel
theorem dX0_fits_3 : decode cX0_fits 3 = .ok (.aload_n 0, 1) := by decide +kernel
theorem dX0_fits_4 : decode cX0_fits 4 = .ok (.getfield 18, 3) := by decide +kernel
theorem dX0_fits_7 : decode cX0_fits 7 = .ok (.if_icmp .ge 35, 3) := by decide +kernel
theorem dX0_fits_10 : decode cX0_fits 10 = .ok (.iload_n 2, 1) := by decide +kernel
theorem dX0_fits_11 : decode cX0_fits 11 = .ok (.iload_n 3, 1) := by decide +kernel
theorem dX0_fits_12 : decode cX0_fits 12 = .ok (.ishr, 1) := by decide +kernel
theorem dX0_fits_13 : decode cX0_fits 13 = .ok (.iconst 1, 1) := by decide +kernel
theorem dX0_fits_14 : decode cX0_fits 14 = .ok (.iand, 1) := by decide +kernel
theorem dX0_fits_15 : decode cX0_fits 15 = .ok (.ifCond .eq 21, 3) := by decide +kernel
theorem dX0_fits_18 : decode cX0_fits 18 = .ok (.aload_n 0, 1) := by decide +kernel
theorem dX0_fits_19 : decode cX0_fits 19 = .ok (.getfield 15, 3) := by decide +kernel
theorem dX0_fits_22 : decode cX0_fits 22 = .ok (.bipush 10, 2) := by decide +kernel
theorem dX0_fits_24 : decode cX0_fits 24 = .ok (.iload_n 1, 1) := by decide +kernel
theorem dX0_fits_25 : decode cX0_fits 25 = .ok (.imul, 1) := by decide +kernel
theorem dX0_fits_26 : decode cX0_fits 26 = .ok (.iload_n 3, 1) := by decide +kernel
theorem dX0_fits_27 : decode cX0_fits 27 = .ok (.iadd, 1) := by decide +kernel
theorem dX0_fits_28 : decode cX0_fits 28 = .ok (.iaload, 1) := by decide +kernel
theorem dX0_fits_29 : decode cX0_fits 29 = .ok (.iload_n 2, 1) := by decide +kernel
theorem dX0_fits_30 : decode cX0_fits 30 = .ok (.iand, 1) := by decide +kernel
theorem dX0_fits_31 : decode cX0_fits 31 = .ok (.ifCond .eq 5, 3) := by decide +kernel
theorem dX0_fits_34 : decode cX0_fits 34 = .ok (.iconst 1, 1) := by decide +kernel
theorem dX0_fits_35 : decode cX0_fits 35 = .ok (.ireturn, 1) := by decide +kernel
theorem dX0_fits_36 : decode cX0_fits 36 = .ok (.iinc 3 1, 3) := by decide +kernel
theorem dX0_fits_39 : decode cX0_fits 39 = .ok (.goto (-37), 3) := by decide +kernel
theorem dX0_fits_42 : decode cX0_fits 42 = .ok (.iconst 0, 1) := by decide +kernel
theorem dX0_fits_43 : decode cX0_fits 43 = .ok (.ireturn, 1) := by decide +kernel
theorem b_X0_fits_36 {Z : qZ} {G : qG} {o : Nat} {v1 : Int32} {v2 : Int32} {v3 : Int32} {μ : qM} {P2 : Int32 → qM → Prop} {post : Int32 → qM → Prop} (C : qX Z G RX0 cX0_fits 4 ({ frames := 0, cells := 0, slots := 0, locals := 0 } : Room) (some .boolean)) (hQ : qQi Z G 0 0 post) (hn : 66 ≤ gn G) (hk_o : qk o = 0) (hP2 : ∀ (b3 : Int32) (μ1 : qM), P2 b3 μ1 → qV Z G 4 0 0 μ1 2 [(0, .ref (ga G o)), (1, .int v1), (2, .int v2), (3, .int b3)] []) (h : q_X0_fits_36 o P2 post v1 v2 v3 μ) : qV Z G 4 0 0 μ 36 [(0, .ref (ga G o)), (1, .int v1), (2, .int v2), (3, .int v3)] [] := by
  unfold q_X0_fits_36 at h
  refine x_iinc C 3 (v := 1) (L' := [(3, .int ((v3 + 1))), (0, .ref (ga G o)), (1, .int v1), (2, .int v2)]) dX0_fits_36 rfl (by decide) (by decide) rfl ?_
  refine x_goto C dX0_fits_39 (tgt := 2) (by decide) ?_
  exact qV_sub [1, 2, 3, 0] rfl ((hP2 _ _ h))
theorem b_X0_fits_2 {Z : qZ} {G : qG} {o : Nat} {v1 : Int32} {v2 : Int32} {v3 : Int32} {μ : qM} {post : Int32 → qM → Prop} (C : qX Z G RX0 cX0_fits 4 ({ frames := 0, cells := 0, slots := 0, locals := 0 } : Room) (some .boolean)) (hQ : qQi Z G 0 0 post) (hn : 66 ≤ gn G) (hk_o : qk o = 0) (h : q_X0_fits_2 o v1 v2 post v3 μ) : qV Z G 4 0 0 μ 2 [(0, .ref (ga G o)), (1, .int v1), (2, .int v2), (3, .int v3)] [] := by
  refine h (fun v3 μ => qV Z G 4 0 0 μ 2 [(0, .ref (ga G o)), (1, .int v1), (2, .int v2), (3, .int v3)] []) (fun v3 μ h => ?_)
  refine x_iload_n C 3 dX0_fits_2 rfl rfl ?_
  refine x_aload_n C 0 dX0_fits_3 rfl rfl ?_
  refine g_RX0_18 C hn hk_o dX0_fits_4 ?_
  refine x_icmp_ge C dX0_fits_7 (tgt := 42) (by decide) h (fun h => ?_) (fun h => ?_)
  · refine x_iconst C dX0_fits_42 (v := 0) (by decide) ?_
    exact x_zret C hQ dX0_fits_43 h
  · refine x_iload_n C 2 dX0_fits_10 rfl rfl ?_
    refine x_iload_n C 3 dX0_fits_11 rfl rfl ?_
    refine x_ishr C dX0_fits_12 ?_
    refine x_iconst C dX0_fits_13 (v := 1) (by decide) ?_
    refine x_iand C dX0_fits_14 ?_
    refine x_if_eq C dX0_fits_15 (tgt := 36) (by decide) h (fun h => ?_) (fun h => ?_)
    · exact b_X0_fits_36 C hQ hn hk_o (fun _ _ h => h) h
    · refine x_aload_n C 0 dX0_fits_18 rfl rfl ?_
      refine g_RX0_15 C hn hk_o dX0_fits_19 ?_
      refine x_bipush C dX0_fits_22 (v := 10) (by decide) ?_
      refine x_iload_n C 1 dX0_fits_24 rfl rfl ?_
      refine x_imul C dX0_fits_25 ?_
      refine x_iload_n C 3 dX0_fits_26 rfl rfl ?_
      refine x_iadd C dX0_fits_27 ?_
      refine x_iald C (o + 2) 18 100 (q_lt (qn_0_2 hk_o) rfl hn) (qn_0_2 hk_o) rfl rfl rfl rfl dX0_fits_28 h (fun h => ?_)
      refine x_iload_n C 2 dX0_fits_29 rfl rfl ?_
      refine x_iand C dX0_fits_30 ?_
      refine x_if_eq C dX0_fits_31 (tgt := 36) (by decide) h (fun h => ?_) (fun h => ?_)
      · exact b_X0_fits_36 C hQ hn hk_o (fun _ _ h => h) h
      · refine x_iconst C dX0_fits_34 (v := 1) (by decide) ?_
        exact x_zret C hQ dX0_fits_35 h
theorem y_X0_fits : qY yX0_fits cX0_fits 4 (some .boolean) 2 ({ frames := 0, cells := 0, slots := 0, locals := 0 } : Room) 0 0 := ⟨(qm_30 _ (List.mem_of_getElem? (i := 9) rfl)), (qm_2 _ (List.mem_of_getElem? (i := 17) rfl)), by decide +kernel, by decide +kernel, rfl, rfl⟩
theorem c_X0_fits (l : Launch) (G : qG) {o : Nat} {v1 : Int32} {v2 : Int32} {μ : qM} (hn : 66 ≤ gn G) (hk_o : qk o = 0) : qCi l G yX0_fits cX0_fits 4 (some .boolean) ({ frames := 0, cells := 0, slots := 0, locals := 0 } : Room) 0 0 [.ref (ga G o), .int v1, .int v2] μ (fun post => w_X0_fits o v1 v2 post μ) := by
  refine qCi_of (L := [(0, .ref (ga G o)), (1, .int v1), (2, .int v2)]) (by decide) rfl rfl ?_
  intro Z post hl C hQ h
  have C : qX Z G RX0 cX0_fits 4 ({ frames := 0, cells := 0, slots := 0, locals := 0 } : Room) (some .boolean) := C
  have h : w_X0_fits o v1 v2 post μ := h
  unfold w_X0_fits at h
  refine x_iconst C dX0_fits_0 (v := 0) (by decide) ?_
  refine x_istore_n C (L' := [(3, .int ((0 : Int32))), (0, .ref (ga G o)), (1, .int v1), (2, .int v2)]) dX0_fits_1 rfl (by decide) rfl ?_
  exact qV_sub [1, 2, 3, 0] rfl (b_X0_fits_2 C hQ hn hk_o h)
theorem dX0_waysOf_0 : decode cX0_waysOf 0 = .ok (.iload_n 1, 1) := by decide +kernel
theorem dX0_waysOf_1 : decode cX0_waysOf 1 = .ok (.invokestatic 54, 3) := by decide +kernel
theorem dX0_waysOf_4 : decode cX0_waysOf 4 = .ok (.istore_n 3, 1) := by decide +kernel
theorem dX0_waysOf_5 : decode cX0_waysOf 5 = .ok (.iload_n 3, 1) := by decide +kernel
theorem dX0_waysOf_6 : decode cX0_waysOf 6 = .ok (.iconst 2, 1) := by decide +kernel
theorem dX0_waysOf_7 : decode cX0_waysOf 7 = .ok (.if_icmp .gt 21, 3) := by decide +kernel
theorem dX0_waysOf_10 : decode cX0_waysOf 10 = .ok (.iload_n 2, 1) := by decide +kernel
theorem dX0_waysOf_11 : decode cX0_waysOf 11 = .ok (.ifCond .lt 11, 3) := by decide +kernel
theorem dX0_waysOf_14 : decode cX0_waysOf 14 = .ok (.iload_n 1, 1) := by decide +kernel
theorem dX0_waysOf_15 : decode cX0_waysOf 15 = .ok (.iload_n 2, 1) := by decide +kernel
theorem dX0_waysOf_16 : decode cX0_waysOf 16 = .ok (.ishr, 1) := by decide +kernel
theorem dX0_waysOf_17 : decode cX0_waysOf 17 = .ok (.iconst 1, 1) := by decide +kernel
theorem dX0_waysOf_18 : decode cX0_waysOf 18 = .ok (.iand, 1) := by decide +kernel
theorem dX0_waysOf_19 : decode cX0_waysOf 19 = .ok (.ifCond .eq 7, 3) := by decide +kernel
theorem dX0_waysOf_22 : decode cX0_waysOf 22 = .ok (.iload_n 3, 1) := by decide +kernel
theorem dX0_waysOf_23 : decode cX0_waysOf 23 = .ok (.goto 4, 3) := by decide +kernel
theorem dX0_waysOf_26 : decode cX0_waysOf 26 = .ok (.iconst 0, 1) := by decide +kernel
theorem dX0_waysOf_27 : decode cX0_waysOf 27 = .ok (.ireturn, 1) := by decide +kernel
theorem dX0_waysOf_28 : decode cX0_waysOf 28 = .ok (.iconst 0, 1) := by decide +kernel
theorem dX0_waysOf_29 : decode cX0_waysOf 29 = .ok (.istore 4, 2) := by decide +kernel
theorem dX0_waysOf_31 : decode cX0_waysOf 31 = .ok (.iconst 0, 1) := by decide +kernel
theorem dX0_waysOf_32 : decode cX0_waysOf 32 = .ok (.istore 5, 2) := by decide +kernel
theorem dX0_waysOf_34 : decode cX0_waysOf 34 = .ok (.iload 5, 2) := by decide +kernel
theorem dX0_waysOf_36 : decode cX0_waysOf 36 = .ok (.aload_n 0, 1) := by decide +kernel
theorem dX0_waysOf_37 : decode cX0_waysOf 37 = .ok (.getfield 18, 3) := by decide +kernel
theorem dX0_waysOf_40 : decode cX0_waysOf 40 = .ok (.if_icmp .ge 58, 3) := by decide +kernel
theorem dX0_waysOf_43 : decode cX0_waysOf 43 = .ok (.iload_n 1, 1) := by decide +kernel
theorem dX0_waysOf_44 : decode cX0_waysOf 44 = .ok (.iconst 1, 1) := by decide +kernel
theorem dX0_waysOf_45 : decode cX0_waysOf 45 = .ok (.iload 5, 2) := by decide +kernel
theorem dX0_waysOf_47 : decode cX0_waysOf 47 = .ok (.ishl, 1) := by decide +kernel
theorem dX0_waysOf_48 : decode cX0_waysOf 48 = .ok (.iconst (-1), 1) := by decide +kernel
theorem dX0_waysOf_49 : decode cX0_waysOf 49 = .ok (.ixor, 1) := by decide +kernel
theorem dX0_waysOf_50 : decode cX0_waysOf 50 = .ok (.iand, 1) := by decide +kernel
theorem dX0_waysOf_51 : decode cX0_waysOf 51 = .ok (.istore 6, 2) := by decide +kernel
theorem dX0_waysOf_53 : decode cX0_waysOf 53 = .ok (.iload 6, 2) := by decide +kernel
theorem dX0_waysOf_55 : decode cX0_waysOf 55 = .ok (.iload_n 1, 1) := by decide +kernel
theorem dX0_waysOf_56 : decode cX0_waysOf 56 = .ok (.if_icmp .eq 36, 3) := by decide +kernel
theorem dX0_waysOf_59 : decode cX0_waysOf 59 = .ok (.aload_n 0, 1) := by decide +kernel
theorem dX0_waysOf_60 : decode cX0_waysOf 60 = .ok (.getfield 9, 3) := by decide +kernel
theorem dX0_waysOf_63 : decode cX0_waysOf 63 = .ok (.iload 6, 2) := by decide +kernel
theorem dX0_waysOf_65 : decode cX0_waysOf 65 = .ok (.iaload, 1) := by decide +kernel
theorem dX0_waysOf_66 : decode cX0_waysOf 66 = .ok (.ifCond .le 26, 3) := by decide +kernel
theorem dX0_waysOf_69 : decode cX0_waysOf 69 = .ok (.aload_n 0, 1) := by decide +kernel
theorem dX0_waysOf_70 : decode cX0_waysOf 70 = .ok (.iload 5, 2) := by decide +kernel
theorem dX0_waysOf_72 : decode cX0_waysOf 72 = .ok (.iload 6, 2) := by decide +kernel
theorem dX0_waysOf_74 : decode cX0_waysOf 74 = .ok (.invokevirtual 30, 3) := by decide +kernel
theorem dX0_waysOf_77 : decode cX0_waysOf 77 = .ok (.ifCond .eq 15, 3) := by decide +kernel
theorem dX0_waysOf_80 : decode cX0_waysOf 80 = .ok (.iload 4, 2) := by decide +kernel
theorem dX0_waysOf_82 : decode cX0_waysOf 82 = .ok (.aload_n 0, 1) := by decide +kernel
theorem dX0_waysOf_83 : decode cX0_waysOf 83 = .ok (.getfield 9, 3) := by decide +kernel
theorem dX0_waysOf_86 : decode cX0_waysOf 86 = .ok (.iload 6, 2) := by decide +kernel
theorem dX0_waysOf_88 : decode cX0_waysOf 88 = .ok (.iaload, 1) := by decide +kernel
theorem dX0_waysOf_89 : decode cX0_waysOf 89 = .ok (.iadd, 1) := by decide +kernel
theorem dX0_waysOf_90 : decode cX0_waysOf 90 = .ok (.istore 4, 2) := by decide +kernel
theorem dX0_waysOf_92 : decode cX0_waysOf 92 = .ok (.iinc 5 1, 3) := by decide +kernel
theorem dX0_waysOf_95 : decode cX0_waysOf 95 = .ok (.goto (-61), 3) := by decide +kernel
theorem dX0_waysOf_98 : decode cX0_waysOf 98 = .ok (.iload 4, 2) := by decide +kernel
theorem dX0_waysOf_100 : decode cX0_waysOf 100 = .ok (.ireturn, 1) := by decide +kernel
theorem i_RX0_30 {Z : qZ} {G : qG} {cc : ByteArray} {nL k n : Nat} {rm : Room} {ret : Option FieldType} {μ : qM} {pc : Nat} {L : List (Nat × Value)} {rest : List Value} {K : Int32 → qM → Prop} {o : Nat} {v1 : Int32} {v2 : Int32} (C : qX Z G RX0 cc nL rm ret) (hn : 66 ≤ gn G) (hk_o : qk o = 0) (hR : (Nat.ble (0 + 1) rm.frames && Nat.ble (8 + (4 + 11) + 0) rm.locals) = true) (hf : k + 0 ≤ rm.cells ∧ n + 0 ≤ rm.slots) (hsz : Nat.ble (rest.map fun v => v.category).sum 8 = true) (hd : decode cc pc = .ok (.invokevirtual 30, 3)) (h : w_X0_fits o v1 v2 K μ) (hk : ∀ (r : Int32) (μ1 : qM), K r μ1 → qV Z G nL k n μ1 (pc + 3) L (.int r :: rest)) : qV Z G nL k n μ pc L (.int v2 :: .int v1 :: .ref (ga G o) :: rest) := x_Vi [.int v1, .int v2] rest C o 0 (wp := fun K => w_X0_fits o v1 v2 K μ) (y_X0_fits : qY yX0_fits cX0_fits 4 (some .boolean) 2 ({ frames := 0, cells := 0, slots := 0, locals := 0 } : Room) 0 0) (qm_30 _ (List.mem_of_getElem? (i := 7) rfl)) (qm_30 _ (List.mem_of_getElem? (i := 8) rfl)) (qm_30 _ (List.mem_of_getElem? (i := 6) rfl)) (c_X0_fits Z.2.1 G hn hk_o) (q_lt hk_o rfl hn) hk_o (by decide) rfl rfl hR hf rfl rfl hsz hd h hk
theorem i_RX0_54 {Z : qZ} {G : qG} {cc : ByteArray} {nL k n : Nat} {rm : Room} {ret : Option FieldType} {μ : qM} {pc : Nat} {L : List (Nat × Value)} {rest : List Value} {K : Int32 → qM → Prop} {v0 : Int32} (C : qX Z G RX0 cc nL rm ret) (hn : 66 ≤ gn G) (hR : (Nat.ble (0 + 1) rm.frames && Nat.ble (8 + (1 + 11) + 0) rm.locals) = true) (hf : k + 0 ≤ rm.cells ∧ n + 0 ≤ rm.slots) (hsz : Nat.ble (rest.map fun v => v.category).sum 8 = true) (hd : decode cc pc = .ok (.invokestatic 54, 3)) (h : w_J6_bitCount_0f7a4 v0 K μ) (hk : ∀ (r : Int32) (μ1 : qM), K r μ1 → qV Z G nL k n μ1 (pc + 3) L (.int r :: rest)) : qV Z G nL k n μ pc L (.int v0 :: rest) := x_Si [.int v0] rest C (wp := fun K => w_J6_bitCount_0f7a4 v0 K μ) (y_J6_bitCount_0f7a4 : qY yJ6_bitCount_0f7a4 cJ6_bitCount_0f7a4 1 (some .int) 1 ({ frames := 0, cells := 0, slots := 0, locals := 0 } : Room) 0 0) (qm_30 _ (List.mem_of_getElem? (i := 0) rfl)) (qm_29 _ (List.mem_of_getElem? (i := 23) rfl)) (c_J6_bitCount_0f7a4 Z.2.1 G hn ) hR hf rfl rfl hsz hd h hk
theorem g_RX0_9 {Z : qZ} {G : qG} {cc : ByteArray} {nL k n : Nat} {rm : Room} {ret : Option FieldType} {μ : qM} {pc : Nat} {L : List (Nat × Value)} {st : List Value} {o : Nat} (C : qX Z G RX0 cc nL rm ret) (hn : 66 ≤ gn G) (hk : qk o = 0) (hd : decode cc pc = .ok (.getfield 9, 3)) (h : qV Z G nL k n μ (pc + 3) L (.ref (ga G (o + 1)) :: st)) : qV Z G nL k n μ pc L (.ref (ga G o) :: st) := x_getr C o 0 0 1 (o + 1) (C0 := RX0) (fn := "ways") (fd := "[I") (q_lt hk rfl hn) hk (by decide) rfl (by decide) rfl inlX0 (qm_5 _ (List.mem_of_getElem? (i := 2) rfl)) rfl rfl rfl hd h
theorem b_X0_waysOf_92 {Z : qZ} {G : qG} {o : Nat} {v1 : Int32} {v4 : Int32} {v5 : Int32} {μ : qM} {P34 : Int32 → Int32 → qM → Prop} {post : Int32 → qM → Prop} (C : qX Z G RX0 cX0_waysOf 7 ({ frames := 1, cells := 0, slots := 0, locals := 23 } : Room) (some .int)) (hQ : qQi Z G 0 0 post) (hn : 66 ≤ gn G) (hk_o : qk o = 0) (hP34 : ∀ (b4 : Int32) (b5 : Int32) (μ1 : qM), P34 b4 b5 μ1 → qV Z G 7 0 0 μ1 34 [(0, .ref (ga G o)), (1, .int v1), (4, .int b4), (5, .int b5)] []) (h : q_X0_waysOf_92 o P34 post v1 v4 v5 μ) : qV Z G 7 0 0 μ 92 [(0, .ref (ga G o)), (1, .int v1), (4, .int v4), (5, .int v5)] [] := by
  unfold q_X0_waysOf_92 at h
  refine x_iinc C 3 (v := 1) (L' := [(5, .int ((v5 + 1))), (0, .ref (ga G o)), (1, .int v1), (4, .int v4)]) dX0_waysOf_92 rfl (by decide) (by decide) rfl ?_
  refine x_goto C dX0_waysOf_95 (tgt := 34) (by decide) ?_
  exact qV_sub [1, 2, 3, 0] rfl ((hP34 _ _ _ h))
theorem b_X0_waysOf_34 {Z : qZ} {G : qG} {o : Nat} {v1 : Int32} {v4 : Int32} {v5 : Int32} {μ : qM} {post : Int32 → qM → Prop} (C : qX Z G RX0 cX0_waysOf 7 ({ frames := 1, cells := 0, slots := 0, locals := 23 } : Room) (some .int)) (hQ : qQi Z G 0 0 post) (hn : 66 ≤ gn G) (hk_o : qk o = 0) (h : q_X0_waysOf_34 o v1 post v4 v5 μ) : qV Z G 7 0 0 μ 34 [(0, .ref (ga G o)), (1, .int v1), (4, .int v4), (5, .int v5)] [] := by
  refine h (fun v4 v5 μ => qV Z G 7 0 0 μ 34 [(0, .ref (ga G o)), (1, .int v1), (4, .int v4), (5, .int v5)] []) (fun v4 v5 μ h => ?_)
  refine x_iload C 3 dX0_waysOf_34 rfl ?_
  refine x_aload_n C 0 dX0_waysOf_36 rfl rfl ?_
  refine g_RX0_18 C hn hk_o dX0_waysOf_37 ?_
  refine x_icmp_ge C dX0_waysOf_40 (tgt := 98) (by decide) h (fun h => ?_) (fun h => ?_)
  · refine x_iload C 2 dX0_waysOf_98 rfl ?_
    exact x_iret C hQ dX0_waysOf_100 h
  · refine x_iload_n C 1 dX0_waysOf_43 rfl rfl ?_
    refine x_iconst C dX0_waysOf_44 (v := 1) (by decide) ?_
    refine x_iload C 3 dX0_waysOf_45 rfl ?_
    refine x_ishl C dX0_waysOf_47 ?_
    refine x_iconst C dX0_waysOf_48 (v := -1) (by decide) ?_
    refine x_ixor C dX0_waysOf_49 ?_
    refine x_iand C dX0_waysOf_50 ?_
    refine x_istore C (L' := [(6, .int ((v1 &&& (((1 : Int32) <<< (v5 &&& 31)) ^^^ (-1 : Int32))))), (0, .ref (ga G o)), (1, .int v1), (4, .int v4), (5, .int v5)]) dX0_waysOf_51 (by decide) rfl ?_
    refine x_iload C 0 dX0_waysOf_53 rfl ?_
    refine x_iload_n C 2 dX0_waysOf_55 rfl rfl ?_
    refine x_icmp_eq C dX0_waysOf_56 (tgt := 92) (by decide) h (fun h => ?_) (fun h => ?_)
    · exact qV_sub [1, 2, 3, 4] rfl (b_X0_waysOf_92 C hQ hn hk_o (fun _ _ _ h => h) h)
    · refine x_aload_n C 1 dX0_waysOf_59 rfl rfl ?_
      refine g_RX0_9 C hn hk_o dX0_waysOf_60 ?_
      refine x_iload C 0 dX0_waysOf_63 rfl ?_
      refine x_iald C (o + 1) 17 1024 (q_lt (qn_0_1 hk_o) rfl hn) (qn_0_1 hk_o) rfl rfl rfl rfl dX0_waysOf_65 h (fun h => ?_)
      refine x_if_le C dX0_waysOf_66 (tgt := 92) (by decide) h (fun h => ?_) (fun h => ?_)
      · exact qV_sub [1, 2, 3, 4] rfl (b_X0_waysOf_92 C hQ hn hk_o (fun _ _ _ h => h) h)
      · refine x_aload_n C 1 dX0_waysOf_69 rfl rfl ?_
        refine x_iload C 4 dX0_waysOf_70 rfl ?_
        refine x_iload C 0 dX0_waysOf_72 rfl ?_
        refine i_RX0_30 (rest := []) C hn hk_o rfl (by decide) rfl dX0_waysOf_74 h (fun r74 μ74 h => ?_)
        refine x_if_eq C dX0_waysOf_77 (tgt := 92) (by decide) h (fun h => ?_) (fun h => ?_)
        · exact qV_sub [1, 2, 3, 4] rfl (b_X0_waysOf_92 C hQ hn hk_o (fun _ _ _ h => h) h)
        · refine x_iload C 3 dX0_waysOf_80 rfl ?_
          refine x_aload_n C 1 dX0_waysOf_82 rfl rfl ?_
          refine g_RX0_9 C hn hk_o dX0_waysOf_83 ?_
          refine x_iload C 0 dX0_waysOf_86 rfl ?_
          refine x_iald C (o + 1) 17 1024 (q_lt (qn_0_1 hk_o) rfl hn) (qn_0_1 hk_o) rfl rfl rfl rfl dX0_waysOf_88 h (fun h => ?_)
          refine x_iadd C dX0_waysOf_89 ?_
          refine x_name (fun x90 hx90 => ?_)
          have h := h x90 hx90
          refine x_istore C (L' := [(4, .int x90), (6, .int ((v1 &&& (((1 : Int32) <<< (v5 &&& 31)) ^^^ (-1 : Int32))))), (0, .ref (ga G o)), (1, .int v1), (5, .int v5)]) dX0_waysOf_90 (by decide) rfl ?_
          exact qV_sub [2, 3, 0, 4] rfl (b_X0_waysOf_92 C hQ hn hk_o (fun _ _ _ h => h) h)
theorem b_X0_waysOf_22 {Z : qZ} {G : qG} {o : Nat} {v3 : Int32} {μ : qM} {post : Int32 → qM → Prop} (C : qX Z G RX0 cX0_waysOf 7 ({ frames := 1, cells := 0, slots := 0, locals := 23 } : Room) (some .int)) (hQ : qQi Z G 0 0 post) (hn : 66 ≤ gn G) (hk_o : qk o = 0) (h : q_X0_waysOf_22 o post v3 μ) : qV Z G 7 0 0 μ 22 [(3, .int v3)] [] := by
  unfold q_X0_waysOf_22 at h
  refine x_iload_n C 0 dX0_waysOf_22 rfl rfl ?_
  refine x_goto C dX0_waysOf_23 (tgt := 27) (by decide) ?_
  exact x_iret C hQ dX0_waysOf_27 h
theorem y_X0_waysOf : qY yX0_waysOf cX0_waysOf 7 (some .int) 2 ({ frames := 1, cells := 0, slots := 0, locals := 23 } : Room) 0 0 := ⟨(qm_29 _ (List.mem_of_getElem? (i := 22) rfl)), (qm_2 _ (List.mem_of_getElem? (i := 17) rfl)), by decide +kernel, by decide +kernel, rfl, rfl⟩
theorem c_X0_waysOf (l : Launch) (G : qG) {o : Nat} {v1 : Int32} {v2 : Int32} {μ : qM} (hn : 66 ≤ gn G) (hk_o : qk o = 0) : qCi l G yX0_waysOf cX0_waysOf 7 (some .int) ({ frames := 1, cells := 0, slots := 0, locals := 23 } : Room) 0 0 [.ref (ga G o), .int v1, .int v2] μ (fun post => w_X0_waysOf o v1 v2 post μ) := by
  refine qCi_of (L := [(0, .ref (ga G o)), (1, .int v1), (2, .int v2)]) (by decide) rfl rfl ?_
  intro Z post hl C hQ h
  have C : qX Z G RX0 cX0_waysOf 7 ({ frames := 1, cells := 0, slots := 0, locals := 23 } : Room) (some .int) := C
  have h : w_X0_waysOf o v1 v2 post μ := h
  unfold w_X0_waysOf at h
  refine x_iload_n C 1 dX0_waysOf_0 rfl rfl ?_
  refine i_RX0_54 (rest := []) C hn  rfl (by decide) rfl dX0_waysOf_1 h (fun r1 μ1 h => ?_)
  refine x_istore_n C (L' := [(3, .int r1), (0, .ref (ga G o)), (1, .int v1), (2, .int v2)]) dX0_waysOf_4 rfl (by decide) rfl ?_
  refine x_iload_n C 0 dX0_waysOf_5 rfl rfl ?_
  refine x_iconst C dX0_waysOf_6 (v := 2) (by decide) ?_
  refine x_icmp_gt C dX0_waysOf_7 (tgt := 28) (by decide) h (fun h => ?_) (fun h => ?_)
  · refine x_iconst C dX0_waysOf_28 (v := 0) (by decide) ?_
    refine x_istore C (L' := [(4, .int ((0 : Int32))), (3, .int r1), (0, .ref (ga G o)), (1, .int v1), (2, .int v2)]) dX0_waysOf_29 (by decide) rfl ?_
    refine x_iconst C dX0_waysOf_31 (v := 0) (by decide) ?_
    refine x_istore C (L' := [(5, .int ((0 : Int32))), (4, .int ((0 : Int32))), (3, .int r1), (0, .ref (ga G o)), (1, .int v1), (2, .int v2)]) dX0_waysOf_32 (by decide) rfl ?_
    exact qV_sub [3, 4, 1, 0] rfl (b_X0_waysOf_34 C hQ hn hk_o h)
  · refine x_iload_n C 3 dX0_waysOf_10 rfl rfl ?_
    refine x_if_lt C dX0_waysOf_11 (tgt := 22) (by decide) h (fun h => ?_) (fun h => ?_)
    · exact qV_sub [0] rfl (b_X0_waysOf_22 C hQ hn hk_o h)
    · refine x_iload_n C 2 dX0_waysOf_14 rfl rfl ?_
      refine x_iload_n C 3 dX0_waysOf_15 rfl rfl ?_
      refine x_ishr C dX0_waysOf_16 ?_
      refine x_iconst C dX0_waysOf_17 (v := 1) (by decide) ?_
      refine x_iand C dX0_waysOf_18 ?_
      refine x_if_eq C dX0_waysOf_19 (tgt := 26) (by decide) h (fun h => ?_) (fun h => ?_)
      · refine x_iconst C dX0_waysOf_26 (v := 0) (by decide) ?_
        exact x_iret C hQ dX0_waysOf_27 h
      · exact qV_sub [0] rfl (b_X0_waysOf_22 C hQ hn hk_o h)
theorem dX0_tell_0 : decode cX0_tell 0 = .ok (.aload_n 0, 1) := by decide +kernel
theorem dX0_tell_1 : decode cX0_tell 1 = .ok (.aload_n 1, 1) := by decide +kernel
theorem dX0_tell_2 : decode cX0_tell 2 = .ok (.invokevirtual 22, 3) := by decide +kernel
theorem dX0_tell_5 : decode cX0_tell 5 = .ok (.iconst 1, 1) := by decide +kernel
theorem dX0_tell_6 : decode cX0_tell 6 = .ok (.aload_n 0, 1) := by decide +kernel
theorem dX0_tell_7 : decode cX0_tell 7 = .ok (.getfield 18, 3) := by decide +kernel
theorem dX0_tell_10 : decode cX0_tell 10 = .ok (.ishl, 1) := by decide +kernel
theorem dX0_tell_11 : decode cX0_tell 11 = .ok (.iconst 1, 1) := by decide +kernel
theorem dX0_tell_12 : decode cX0_tell 12 = .ok (.isub, 1) := by decide +kernel
theorem dX0_tell_13 : decode cX0_tell 13 = .ok (.istore_n 3, 1) := by decide +kernel
theorem dX0_tell_14 : decode cX0_tell 14 = .ok (.aload_n 0, 1) := by decide +kernel
theorem dX0_tell_15 : decode cX0_tell 15 = .ok (.getfield 9, 3) := by decide +kernel
theorem dX0_tell_18 : decode cX0_tell 18 = .ok (.iconst 0, 1) := by decide +kernel
theorem dX0_tell_19 : decode cX0_tell 19 = .ok (.iconst 1, 1) := by decide +kernel
theorem dX0_tell_20 : decode cX0_tell 20 = .ok (.iastore, 1) := by decide +kernel
theorem dX0_tell_21 : decode cX0_tell 21 = .ok (.iconst 1, 1) := by decide +kernel
theorem dX0_tell_22 : decode cX0_tell 22 = .ok (.istore 4, 2) := by decide +kernel
theorem dX0_tell_24 : decode cX0_tell 24 = .ok (.iload 4, 2) := by decide +kernel
theorem dX0_tell_26 : decode cX0_tell 26 = .ok (.iload_n 3, 1) := by decide +kernel
theorem dX0_tell_27 : decode cX0_tell 27 = .ok (.if_icmp .gt 23, 3) := by decide +kernel
theorem dX0_tell_30 : decode cX0_tell 30 = .ok (.aload_n 0, 1) := by decide +kernel
theorem dX0_tell_31 : decode cX0_tell 31 = .ok (.getfield 9, 3) := by decide +kernel
theorem dX0_tell_34 : decode cX0_tell 34 = .ok (.iload 4, 2) := by decide +kernel
theorem dX0_tell_36 : decode cX0_tell 36 = .ok (.aload_n 0, 1) := by decide +kernel
theorem dX0_tell_37 : decode cX0_tell 37 = .ok (.iload 4, 2) := by decide +kernel
theorem dX0_tell_39 : decode cX0_tell 39 = .ok (.iload_n 2, 1) := by decide +kernel
theorem dX0_tell_40 : decode cX0_tell 40 = .ok (.invokevirtual 26, 3) := by decide +kernel
theorem dX0_tell_43 : decode cX0_tell 43 = .ok (.iastore, 1) := by decide +kernel
theorem dX0_tell_44 : decode cX0_tell 44 = .ok (.iinc 4 1, 3) := by decide +kernel
theorem dX0_tell_47 : decode cX0_tell 47 = .ok (.goto (-23), 3) := by decide +kernel
theorem dX0_tell_50 : decode cX0_tell 50 = .ok (.aload_n 0, 1) := by decide +kernel
theorem dX0_tell_51 : decode cX0_tell 51 = .ok (.getfield 9, 3) := by decide +kernel
theorem dX0_tell_54 : decode cX0_tell 54 = .ok (.iload_n 3, 1) := by decide +kernel
theorem dX0_tell_55 : decode cX0_tell 55 = .ok (.iaload, 1) := by decide +kernel
theorem dX0_tell_56 : decode cX0_tell 56 = .ok (.ireturn, 1) := by decide +kernel
theorem i_RX0_22 {Z : qZ} {G : qG} {cc : ByteArray} {nL k n : Nat} {rm : Room} {ret : Option FieldType} {μ : qM} {pc : Nat} {L : List (Nat × Value)} {rest : List Value} {K : qM → Prop} {o : Nat} {o1 : Nat} (C : qX Z G RX0 cc nL rm ret) (hn : 66 ≤ gn G) (hk_o : qk o = 0) (hk_o1 : qk o1 = 1) (hR : (Nat.ble (4 + 1) rm.frames && Nat.ble (8 + (7 + 11) + 93) rm.locals) = true) (hf : k + 0 ≤ rm.cells ∧ n + 0 ≤ rm.slots) (hsz : Nat.ble (rest.map fun v => v.category).sum 8 = true) (hd : decode cc pc = .ok (.invokevirtual 22, 3)) (h : w_X0_prepare o o1 K μ) (hk : ∀ (μ1 : qM), K μ1 → qV Z G nL k n μ1 (pc + 3) L rest) : qV Z G nL k n μ pc L (.ref (ga G o1) :: .ref (ga G o) :: rest) := x_Vv [.ref (ga G o1)] rest C o 0 (wp := fun K => w_X0_prepare o o1 K μ) (y_X0_prepare : qY yX0_prepare cX0_prepare 7 none 1 ({ frames := 4, cells := 0, slots := 0, locals := 93 } : Room) 0 0) (qm_29 _ (List.mem_of_getElem? (i := 9) rfl)) (qm_29 _ (List.mem_of_getElem? (i := 10) rfl)) (qm_29 _ (List.mem_of_getElem? (i := 8) rfl)) (c_X0_prepare Z.2.1 G hn hk_o hk_o1) (q_lt hk_o rfl hn) hk_o (by decide) rfl rfl hR hf rfl rfl hsz hd h hk
theorem i_RX0_26 {Z : qZ} {G : qG} {cc : ByteArray} {nL k n : Nat} {rm : Room} {ret : Option FieldType} {μ : qM} {pc : Nat} {L : List (Nat × Value)} {rest : List Value} {K : Int32 → qM → Prop} {o : Nat} {v1 : Int32} {v2 : Int32} (C : qX Z G RX0 cc nL rm ret) (hn : 66 ≤ gn G) (hk_o : qk o = 0) (hR : (Nat.ble (1 + 1) rm.frames && Nat.ble (8 + (7 + 11) + 23) rm.locals) = true) (hf : k + 0 ≤ rm.cells ∧ n + 0 ≤ rm.slots) (hsz : Nat.ble (rest.map fun v => v.category).sum 8 = true) (hd : decode cc pc = .ok (.invokevirtual 26, 3)) (h : w_X0_waysOf o v1 v2 K μ) (hk : ∀ (r : Int32) (μ1 : qM), K r μ1 → qV Z G nL k n μ1 (pc + 3) L (.int r :: rest)) : qV Z G nL k n μ pc L (.int v2 :: .int v1 :: .ref (ga G o) :: rest) := x_Vi [.int v1, .int v2] rest C o 0 (wp := fun K => w_X0_waysOf o v1 v2 K μ) (y_X0_waysOf : qY yX0_waysOf cX0_waysOf 7 (some .int) 2 ({ frames := 1, cells := 0, slots := 0, locals := 23 } : Room) 0 0) (qm_29 _ (List.mem_of_getElem? (i := 20) rfl)) (qm_29 _ (List.mem_of_getElem? (i := 21) rfl)) (qm_29 _ (List.mem_of_getElem? (i := 19) rfl)) (c_X0_waysOf Z.2.1 G hn hk_o) (q_lt hk_o rfl hn) hk_o (by decide) rfl rfl hR hf rfl rfl hsz hd h hk
theorem b_X0_tell_24 {Z : qZ} {G : qG} {o : Nat} {o1 : Nat} {v2 : Int32} {v3 : Int32} {v4 : Int32} {μ : qM} {post : Int32 → qM → Prop} (C : qX Z G RX0 cX0_tell 5 ({ frames := 5, cells := 0, slots := 0, locals := 119 } : Room) (some .int)) (hQ : qQi Z G 0 0 post) (hn : 66 ≤ gn G) (hk_o : qk o = 0) (hk_o1 : qk o1 = 1) (h : q_X0_tell_24 o o1 v2 v3 post v4 μ) : qV Z G 5 0 0 μ 24 [(0, .ref (ga G o)), (2, .int v2), (3, .int v3), (4, .int v4)] [] := by
  refine h (fun v4 μ => qV Z G 5 0 0 μ 24 [(0, .ref (ga G o)), (2, .int v2), (3, .int v3), (4, .int v4)] []) (fun v4 μ h => ?_)
  refine x_iload C 3 dX0_tell_24 rfl ?_
  refine x_iload_n C 2 dX0_tell_26 rfl rfl ?_
  refine x_icmp_gt C dX0_tell_27 (tgt := 50) (by decide) h (fun h => ?_) (fun h => ?_)
  · refine x_aload_n C 0 dX0_tell_50 rfl rfl ?_
    refine g_RX0_9 C hn hk_o dX0_tell_51 ?_
    refine x_iload_n C 2 dX0_tell_54 rfl rfl ?_
    refine x_iald C (o + 1) 17 1024 (q_lt (qn_0_1 hk_o) rfl hn) (qn_0_1 hk_o) rfl rfl rfl rfl dX0_tell_55 h (fun h => ?_)
    exact x_iret C hQ dX0_tell_56 h
  · refine x_aload_n C 0 dX0_tell_30 rfl rfl ?_
    refine g_RX0_9 C hn hk_o dX0_tell_31 ?_
    refine x_iload C 3 dX0_tell_34 rfl ?_
    refine x_aload_n C 0 dX0_tell_36 rfl rfl ?_
    refine x_iload C 3 dX0_tell_37 rfl ?_
    refine x_iload_n C 1 dX0_tell_39 rfl rfl ?_
    refine i_RX0_26 (rest := [.int v4, .ref (ga G (o + 1))]) C hn hk_o rfl (by decide) rfl dX0_tell_40 h (fun r40 μ40 h => ?_)
    refine x_iast C (o + 1) 17 1024 (q_lt (qn_0_1 hk_o) rfl hn) (qn_0_1 hk_o) rfl rfl rfl rfl dX0_tell_43 h (fun h => ?_)
    refine x_iinc C 3 (v := 1) (L' := [(4, .int ((v4 + 1))), (0, .ref (ga G o)), (2, .int v2), (3, .int v3)]) dX0_tell_44 rfl (by decide) (by decide) rfl ?_
    refine x_goto C dX0_tell_47 (tgt := 24) (by decide) ?_
    exact qV_sub [1, 2, 3, 0] rfl (h)
theorem y_X0_tell : qY yX0_tell cX0_tell 5 (some .int) 2 ({ frames := 5, cells := 0, slots := 0, locals := 119 } : Room) 0 0 := ⟨(qm_29 _ (List.mem_of_getElem? (i := 7) rfl)), (qm_2 _ (List.mem_of_getElem? (i := 17) rfl)), by decide +kernel, by decide +kernel, rfl, rfl⟩
theorem c_X0_tell (l : Launch) (G : qG) {o : Nat} {o1 : Nat} {v2 : Int32} {μ : qM} (hn : 66 ≤ gn G) (hk_o : qk o = 0) (hk_o1 : qk o1 = 1) : qCi l G yX0_tell cX0_tell 5 (some .int) ({ frames := 5, cells := 0, slots := 0, locals := 119 } : Room) 0 0 [.ref (ga G o), .ref (ga G o1), .int v2] μ (fun post => w_X0_tell o o1 v2 post μ) := by
  refine qCi_of (L := [(0, .ref (ga G o)), (1, .ref (ga G o1)), (2, .int v2)]) (by decide) rfl rfl ?_
  intro Z post hl C hQ h
  have C : qX Z G RX0 cX0_tell 5 ({ frames := 5, cells := 0, slots := 0, locals := 119 } : Room) (some .int) := C
  have h : w_X0_tell o o1 v2 post μ := h
  unfold w_X0_tell at h
  refine x_aload_n C 0 dX0_tell_0 rfl rfl ?_
  refine x_aload_n C 1 dX0_tell_1 rfl rfl ?_
  refine i_RX0_22 (rest := []) C hn hk_o hk_o1 rfl (by decide) rfl dX0_tell_2 h (fun μ2 h => ?_)
  refine x_iconst C dX0_tell_5 (v := 1) (by decide) ?_
  refine x_aload_n C 0 dX0_tell_6 rfl rfl ?_
  refine g_RX0_18 C hn hk_o dX0_tell_7 ?_
  refine x_ishl C dX0_tell_10 ?_
  refine x_iconst C dX0_tell_11 (v := 1) (by decide) ?_
  refine x_isub C dX0_tell_12 ?_
  refine x_istore_n C (L' := [(3, .int ((((1 : Int32) <<< ((μ2 o 2) &&& 31)) - (1 : Int32)))), (0, .ref (ga G o)), (1, .ref (ga G o1)), (2, .int v2)]) dX0_tell_13 rfl (by decide) rfl ?_
  refine x_aload_n C 1 dX0_tell_14 rfl rfl ?_
  refine g_RX0_9 C hn hk_o dX0_tell_15 ?_
  refine x_iconst C dX0_tell_18 (v := 0) (by decide) ?_
  refine x_iconst C dX0_tell_19 (v := 1) (by decide) ?_
  refine x_iast C (o + 1) 17 1024 (q_lt (qn_0_1 hk_o) rfl hn) (qn_0_1 hk_o) rfl rfl rfl rfl dX0_tell_20 h (fun h => ?_)
  refine x_iconst C dX0_tell_21 (v := 1) (by decide) ?_
  refine x_istore C (L' := [(4, .int ((1 : Int32))), (3, .int ((((1 : Int32) <<< ((μ2 o 2) &&& 31)) - (1 : Int32)))), (0, .ref (ga G o)), (1, .ref (ga G o1)), (2, .int v2)]) dX0_tell_22 (by decide) rfl ?_
  exact qV_sub [2, 4, 1, 0] rfl (b_X0_tell_24 C hQ hn hk_o hk_o1 h)
theorem dX0_lastOne_0 : decode cX0_lastOne 0 = .ok (.iconst 1, 1) := by decide +kernel
theorem dX0_lastOne_1 : decode cX0_lastOne 1 = .ok (.aload_n 0, 1) := by decide +kernel
theorem dX0_lastOne_2 : decode cX0_lastOne 2 = .ok (.getfield 18, 3) := by decide +kernel
theorem dX0_lastOne_5 : decode cX0_lastOne 5 = .ok (.ishl, 1) := by decide +kernel
theorem dX0_lastOne_6 : decode cX0_lastOne 6 = .ok (.iconst 1, 1) := by decide +kernel
theorem dX0_lastOne_7 : decode cX0_lastOne 7 = .ok (.isub, 1) := by decide +kernel
theorem dX0_lastOne_8 : decode cX0_lastOne 8 = .ok (.istore_n 1, 1) := by decide +kernel
theorem dX0_lastOne_9 : decode cX0_lastOne 9 = .ok (.aload_n 0, 1) := by decide +kernel
theorem dX0_lastOne_10 : decode cX0_lastOne 10 = .ok (.getfield 18, 3) := by decide +kernel
theorem dX0_lastOne_13 : decode cX0_lastOne 13 = .ok (.iconst 1, 1) := by decide +kernel
theorem dX0_lastOne_14 : decode cX0_lastOne 14 = .ok (.isub, 1) := by decide +kernel
theorem dX0_lastOne_15 : decode cX0_lastOne 15 = .ok (.istore_n 2, 1) := by decide +kernel
theorem dX0_lastOne_16 : decode cX0_lastOne 16 = .ok (.iload_n 2, 1) := by decide +kernel
theorem dX0_lastOne_17 : decode cX0_lastOne 17 = .ok (.ifCond .lt 45, 3) := by decide +kernel
theorem dX0_lastOne_20 : decode cX0_lastOne 20 = .ok (.iload_n 1, 1) := by decide +kernel
theorem dX0_lastOne_21 : decode cX0_lastOne 21 = .ok (.iconst 1, 1) := by decide +kernel
theorem dX0_lastOne_22 : decode cX0_lastOne 22 = .ok (.iload_n 2, 1) := by decide +kernel
theorem dX0_lastOne_23 : decode cX0_lastOne 23 = .ok (.ishl, 1) := by decide +kernel
theorem dX0_lastOne_24 : decode cX0_lastOne 24 = .ok (.iconst (-1), 1) := by decide +kernel
theorem dX0_lastOne_25 : decode cX0_lastOne 25 = .ok (.ixor, 1) := by decide +kernel
theorem dX0_lastOne_26 : decode cX0_lastOne 26 = .ok (.iand, 1) := by decide +kernel
theorem dX0_lastOne_27 : decode cX0_lastOne 27 = .ok (.istore_n 3, 1) := by decide +kernel
theorem dX0_lastOne_28 : decode cX0_lastOne 28 = .ok (.aload_n 0, 1) := by decide +kernel
theorem dX0_lastOne_29 : decode cX0_lastOne 29 = .ok (.getfield 9, 3) := by decide +kernel
theorem dX0_lastOne_32 : decode cX0_lastOne 32 = .ok (.iload_n 3, 1) := by decide +kernel
theorem dX0_lastOne_33 : decode cX0_lastOne 33 = .ok (.iaload, 1) := by decide +kernel
theorem dX0_lastOne_34 : decode cX0_lastOne 34 = .ok (.ifCond .le 22, 3) := by decide +kernel
theorem dX0_lastOne_37 : decode cX0_lastOne 37 = .ok (.aload_n 0, 1) := by decide +kernel
theorem dX0_lastOne_38 : decode cX0_lastOne 38 = .ok (.getfield 18, 3) := by decide +kernel
theorem dX0_lastOne_41 : decode cX0_lastOne 41 = .ok (.iconst 2, 1) := by decide +kernel
theorem dX0_lastOne_42 : decode cX0_lastOne 42 = .ok (.if_icmp .le 12, 3) := by decide +kernel
theorem dX0_lastOne_45 : decode cX0_lastOne 45 = .ok (.aload_n 0, 1) := by decide +kernel
theorem dX0_lastOne_46 : decode cX0_lastOne 46 = .ok (.iload_n 2, 1) := by decide +kernel
theorem dX0_lastOne_47 : decode cX0_lastOne 47 = .ok (.iload_n 3, 1) := by decide +kernel
theorem dX0_lastOne_48 : decode cX0_lastOne 48 = .ok (.invokevirtual 30, 3) := by decide +kernel
theorem dX0_lastOne_51 : decode cX0_lastOne 51 = .ok (.ifCond .eq 5, 3) := by decide +kernel
theorem dX0_lastOne_54 : decode cX0_lastOne 54 = .ok (.iload_n 2, 1) := by decide +kernel
theorem dX0_lastOne_55 : decode cX0_lastOne 55 = .ok (.ireturn, 1) := by decide +kernel
theorem dX0_lastOne_56 : decode cX0_lastOne 56 = .ok (.iinc 2 (-1), 3) := by decide +kernel
theorem dX0_lastOne_59 : decode cX0_lastOne 59 = .ok (.goto (-43), 3) := by decide +kernel
theorem dX0_lastOne_62 : decode cX0_lastOne 62 = .ok (.iconst (-1), 1) := by decide +kernel
theorem dX0_lastOne_63 : decode cX0_lastOne 63 = .ok (.ireturn, 1) := by decide +kernel
theorem b_X0_lastOne_56 {Z : qZ} {G : qG} {o : Nat} {v1 : Int32} {v2 : Int32} {μ : qM} {P16 : Int32 → qM → Prop} {post : Int32 → qM → Prop} (C : qX Z G RX0 cX0_lastOne 4 ({ frames := 1, cells := 0, slots := 0, locals := 23 } : Room) (some .int)) (hQ : qQi Z G 0 0 post) (hn : 66 ≤ gn G) (hk_o : qk o = 0) (hP16 : ∀ (b2 : Int32) (μ1 : qM), P16 b2 μ1 → qV Z G 4 0 0 μ1 16 [(0, .ref (ga G o)), (1, .int v1), (2, .int b2)] []) (h : q_X0_lastOne_56 o P16 post v1 v2 μ) : qV Z G 4 0 0 μ 56 [(0, .ref (ga G o)), (1, .int v1), (2, .int v2)] [] := by
  unfold q_X0_lastOne_56 at h
  refine x_iinc C 2 (v := -1) (L' := [(2, .int ((v2 + -1))), (0, .ref (ga G o)), (1, .int v1)]) dX0_lastOne_56 rfl (by decide) (by decide) rfl ?_
  refine x_goto C dX0_lastOne_59 (tgt := 16) (by decide) ?_
  exact qV_sub [1, 2, 0] rfl ((hP16 _ _ h))
theorem b_X0_lastOne_54 {Z : qZ} {G : qG} {o : Nat} {v2 : Int32} {μ : qM} {post : Int32 → qM → Prop} (C : qX Z G RX0 cX0_lastOne 4 ({ frames := 1, cells := 0, slots := 0, locals := 23 } : Room) (some .int)) (hQ : qQi Z G 0 0 post) (hn : 66 ≤ gn G) (hk_o : qk o = 0) (h : q_X0_lastOne_54 o post v2 μ) : qV Z G 4 0 0 μ 54 [(2, .int v2)] [] := by
  unfold q_X0_lastOne_54 at h
  refine x_iload_n C 0 dX0_lastOne_54 rfl rfl ?_
  exact x_iret C hQ dX0_lastOne_55 h
theorem b_X0_lastOne_16 {Z : qZ} {G : qG} {o : Nat} {v1 : Int32} {v2 : Int32} {μ : qM} {post : Int32 → qM → Prop} (C : qX Z G RX0 cX0_lastOne 4 ({ frames := 1, cells := 0, slots := 0, locals := 23 } : Room) (some .int)) (hQ : qQi Z G 0 0 post) (hn : 66 ≤ gn G) (hk_o : qk o = 0) (h : q_X0_lastOne_16 o v1 post v2 μ) : qV Z G 4 0 0 μ 16 [(0, .ref (ga G o)), (1, .int v1), (2, .int v2)] [] := by
  refine h (fun v2 μ => qV Z G 4 0 0 μ 16 [(0, .ref (ga G o)), (1, .int v1), (2, .int v2)] []) (fun v2 μ h => ?_)
  refine x_iload_n C 2 dX0_lastOne_16 rfl rfl ?_
  refine x_if_lt C dX0_lastOne_17 (tgt := 62) (by decide) h (fun h => ?_) (fun h => ?_)
  · refine x_iconst C dX0_lastOne_62 (v := -1) (by decide) ?_
    exact x_iret C hQ dX0_lastOne_63 h
  · refine x_iload_n C 1 dX0_lastOne_20 rfl rfl ?_
    refine x_iconst C dX0_lastOne_21 (v := 1) (by decide) ?_
    refine x_iload_n C 2 dX0_lastOne_22 rfl rfl ?_
    refine x_ishl C dX0_lastOne_23 ?_
    refine x_iconst C dX0_lastOne_24 (v := -1) (by decide) ?_
    refine x_ixor C dX0_lastOne_25 ?_
    refine x_iand C dX0_lastOne_26 ?_
    refine x_istore_n C (L' := [(3, .int ((v1 &&& (((1 : Int32) <<< (v2 &&& 31)) ^^^ (-1 : Int32))))), (0, .ref (ga G o)), (1, .int v1), (2, .int v2)]) dX0_lastOne_27 rfl (by decide) rfl ?_
    refine x_aload_n C 1 dX0_lastOne_28 rfl rfl ?_
    refine g_RX0_9 C hn hk_o dX0_lastOne_29 ?_
    refine x_iload_n C 0 dX0_lastOne_32 rfl rfl ?_
    refine x_iald C (o + 1) 17 1024 (q_lt (qn_0_1 hk_o) rfl hn) (qn_0_1 hk_o) rfl rfl rfl rfl dX0_lastOne_33 h (fun h => ?_)
    refine x_if_le C dX0_lastOne_34 (tgt := 56) (by decide) h (fun h => ?_) (fun h => ?_)
    · exact qV_sub [1, 2, 3] rfl (b_X0_lastOne_56 C hQ hn hk_o (fun _ _ h => h) h)
    · refine x_aload_n C 1 dX0_lastOne_37 rfl rfl ?_
      refine g_RX0_18 C hn hk_o dX0_lastOne_38 ?_
      refine x_iconst C dX0_lastOne_41 (v := 2) (by decide) ?_
      refine x_icmp_le C dX0_lastOne_42 (tgt := 54) (by decide) h (fun h => ?_) (fun h => ?_)
      · exact qV_sub [3] rfl (b_X0_lastOne_54 C hQ hn hk_o h)
      · refine x_aload_n C 1 dX0_lastOne_45 rfl rfl ?_
        refine x_iload_n C 3 dX0_lastOne_46 rfl rfl ?_
        refine x_iload_n C 0 dX0_lastOne_47 rfl rfl ?_
        refine i_RX0_30 (rest := []) C hn hk_o rfl (by decide) rfl dX0_lastOne_48 h (fun r48 μ48 h => ?_)
        refine x_if_eq C dX0_lastOne_51 (tgt := 56) (by decide) h (fun h => ?_) (fun h => ?_)
        · exact qV_sub [1, 2, 3] rfl (b_X0_lastOne_56 C hQ hn hk_o (fun _ _ h => h) h)
        · exact qV_sub [3] rfl (b_X0_lastOne_54 C hQ hn hk_o h)
theorem y_X0_lastOne : qY yX0_lastOne cX0_lastOne 4 (some .int) 0 ({ frames := 1, cells := 0, slots := 0, locals := 23 } : Room) 0 0 := ⟨(qm_31 _ (List.mem_of_getElem? (i := 17) rfl)), (qm_2 _ (List.mem_of_getElem? (i := 17) rfl)), by decide +kernel, by decide +kernel, rfl, rfl⟩
theorem c_X0_lastOne (l : Launch) (G : qG) {o : Nat} {μ : qM} (hn : 66 ≤ gn G) (hk_o : qk o = 0) : qCi l G yX0_lastOne cX0_lastOne 4 (some .int) ({ frames := 1, cells := 0, slots := 0, locals := 23 } : Room) 0 0 [.ref (ga G o)] μ (fun post => w_X0_lastOne o post μ) := by
  refine qCi_of (L := [(0, .ref (ga G o))]) (by decide) rfl rfl ?_
  intro Z post hl C hQ h
  have C : qX Z G RX0 cX0_lastOne 4 ({ frames := 1, cells := 0, slots := 0, locals := 23 } : Room) (some .int) := C
  have h : w_X0_lastOne o post μ := h
  unfold w_X0_lastOne at h
  refine x_iconst C dX0_lastOne_0 (v := 1) (by decide) ?_
  refine x_aload_n C 0 dX0_lastOne_1 rfl rfl ?_
  refine g_RX0_18 C hn hk_o dX0_lastOne_2 ?_
  refine x_ishl C dX0_lastOne_5 ?_
  refine x_iconst C dX0_lastOne_6 (v := 1) (by decide) ?_
  refine x_isub C dX0_lastOne_7 ?_
  refine x_istore_n C (L' := [(1, .int ((((1 : Int32) <<< ((μ o 2) &&& 31)) - (1 : Int32)))), (0, .ref (ga G o))]) dX0_lastOne_8 rfl (by decide) rfl ?_
  refine x_aload_n C 1 dX0_lastOne_9 rfl rfl ?_
  refine g_RX0_18 C hn hk_o dX0_lastOne_10 ?_
  refine x_iconst C dX0_lastOne_13 (v := 1) (by decide) ?_
  refine x_isub C dX0_lastOne_14 ?_
  refine x_istore_n C (L' := [(2, .int (((μ o 2) - (1 : Int32)))), (1, .int ((((1 : Int32) <<< ((μ o 2) &&& 31)) - (1 : Int32)))), (0, .ref (ga G o))]) dX0_lastOne_15 rfl (by decide) rfl ?_
  exact qV_sub [2, 1, 0] rfl (b_X0_lastOne_16 C hQ hn hk_o h)
theorem dX3_first_0 : decode cX3_first 0 = .ok (.aload_n 0, 1) := by decide +kernel
theorem dX3_first_1 : decode cX3_first 1 = .ok (.getfield 18, 3) := by decide +kernel
theorem dX3_first_4 : decode cX3_first 4 = .ok (.ireturn, 1) := by decide +kernel
theorem g_RX3_18 {Z : qZ} {G : qG} {cc : ByteArray} {nL k n : Nat} {rm : Room} {ret : Option FieldType} {μ : qM} {pc : Nat} {L : List (Nat × Value)} {st : List Value} {o : Nat} (C : qX Z G RX3 cc nL rm ret) (hn : 66 ≤ gn G) (hk : qk o = 2) (hd : decode cc pc = .ok (.getfield 18, 3)) (h : qV Z G nL k n μ (pc + 3) L (.int (μ o 2) :: st)) : qV Z G nL k n μ pc L (.ref (ga G o) :: st) := x_geti C o 2 2 (C0 := RX3) (fn := "first") (fd := "I") (q_lt hk rfl hn) hk (by decide) rfl (by decide) rfl inlX3 (qm_4 _ (List.mem_of_getElem? (i := 15) rfl)) rfl hd h
theorem y_X3_first : qY yX3_first cX3_first 1 (some .int) 0 ({ frames := 0, cells := 0, slots := 0, locals := 0 } : Room) 0 0 := ⟨(qm_26 _ (List.mem_of_getElem? (i := 23) rfl)), (qm_2 _ (List.mem_of_getElem? (i := 9) rfl)), by decide +kernel, by decide +kernel, rfl, rfl⟩
theorem c_X3_first (l : Launch) (G : qG) {o : Nat} {μ : qM} (hn : 66 ≤ gn G) (hk_o : qk o = 2) : qCi l G yX3_first cX3_first 1 (some .int) ({ frames := 0, cells := 0, slots := 0, locals := 0 } : Room) 0 0 [.ref (ga G o)] μ (fun post => w_X3_first o post μ) := by
  refine qCi_of (L := [(0, .ref (ga G o))]) (by decide) rfl rfl ?_
  intro Z post hl C hQ h
  have C : qX Z G RX3 cX3_first 1 ({ frames := 0, cells := 0, slots := 0, locals := 0 } : Room) (some .int) := C
  have h : w_X3_first o post μ := h
  unfold w_X3_first at h
  refine x_aload_n C 0 dX3_first_0 rfl rfl ?_
  refine g_RX3_18 C hn hk_o dX3_first_1 ?_
  exact x_iret C hQ dX3_first_4 h
theorem dX3_second_0 : decode cX3_second 0 = .ok (.aload_n 0, 1) := by decide +kernel
theorem dX3_second_1 : decode cX3_second 1 = .ok (.getfield 22, 3) := by decide +kernel
theorem dX3_second_4 : decode cX3_second 4 = .ok (.ireturn, 1) := by decide +kernel
theorem g_RX3_22 {Z : qZ} {G : qG} {cc : ByteArray} {nL k n : Nat} {rm : Room} {ret : Option FieldType} {μ : qM} {pc : Nat} {L : List (Nat × Value)} {st : List Value} {o : Nat} (C : qX Z G RX3 cc nL rm ret) (hn : 66 ≤ gn G) (hk : qk o = 2) (hd : decode cc pc = .ok (.getfield 22, 3)) (h : qV Z G nL k n μ (pc + 3) L (.int (μ o 3) :: st)) : qV Z G nL k n μ pc L (.ref (ga G o) :: st) := x_geti C o 2 3 (C0 := RX3) (fn := "second") (fd := "I") (q_lt hk rfl hn) hk (by decide) rfl (by decide) rfl inlX3 (qm_4 _ (List.mem_of_getElem? (i := 16) rfl)) rfl hd h
theorem y_X3_second : qY yX3_second cX3_second 1 (some .int) 0 ({ frames := 0, cells := 0, slots := 0, locals := 0 } : Room) 0 0 := ⟨(qm_27 _ (List.mem_of_getElem? (i := 3) rfl)), (qm_2 _ (List.mem_of_getElem? (i := 9) rfl)), by decide +kernel, by decide +kernel, rfl, rfl⟩
theorem c_X3_second (l : Launch) (G : qG) {o : Nat} {μ : qM} (hn : 66 ≤ gn G) (hk_o : qk o = 2) : qCi l G yX3_second cX3_second 1 (some .int) ({ frames := 0, cells := 0, slots := 0, locals := 0 } : Room) 0 0 [.ref (ga G o)] μ (fun post => w_X3_second o post μ) := by
  refine qCi_of (L := [(0, .ref (ga G o))]) (by decide) rfl rfl ?_
  intro Z post hl C hQ h
  have C : qX Z G RX3 cX3_second 1 ({ frames := 0, cells := 0, slots := 0, locals := 0 } : Room) (some .int) := C
  have h : w_X3_second o post μ := h
  unfold w_X3_second at h
  refine x_aload_n C 0 dX3_second_0 rfl rfl ?_
  refine g_RX3_22 C hn hk_o dX3_second_1 ?_
  exact x_iret C hQ dX3_second_4 h
theorem dX3_findSecond_0 : decode cX3_findSecond 0 = .ok (.iconst 0, 1) := by decide +kernel
theorem dX3_findSecond_1 : decode cX3_findSecond 1 = .ok (.iload_n 3, 1) := by decide +kernel
theorem dX3_findSecond_2 : decode cX3_findSecond 2 = .ok (.iload_n 2, 1) := by decide +kernel
theorem dX3_findSecond_3 : decode cX3_findSecond 3 = .ok (.invokestatic 42, 3) := by decide +kernel
theorem dX3_findSecond_6 : decode cX3_findSecond 6 = .ok (.istore 4, 2) := by decide +kernel
theorem dX3_findSecond_8 : decode cX3_findSecond 8 = .ok (.iconst 0, 1) := by decide +kernel
theorem dX3_findSecond_9 : decode cX3_findSecond 9 = .ok (.istore 5, 2) := by decide +kernel
theorem dX3_findSecond_11 : decode cX3_findSecond 11 = .ok (.iload 5, 2) := by decide +kernel
theorem dX3_findSecond_13 : decode cX3_findSecond 13 = .ok (.sipush 144, 3) := by decide +kernel
theorem dX3_findSecond_16 : decode cX3_findSecond 16 = .ok (.if_icmp .ge 93, 3) := by decide +kernel
theorem dX3_findSecond_19 : decode cX3_findSecond 19 = .ok (.aload_n 0, 1) := by decide +kernel
theorem dX3_findSecond_20 : decode cX3_findSecond 20 = .ok (.getfield 15, 3) := by decide +kernel
theorem dX3_findSecond_23 : decode cX3_findSecond 23 = .ok (.iload 5, 2) := by decide +kernel
theorem dX3_findSecond_25 : decode cX3_findSecond 25 = .ok (.baload, 1) := by decide +kernel
theorem dX3_findSecond_26 : decode cX3_findSecond 26 = .ok (.ifCond .ne 15, 3) := by decide +kernel
theorem dX3_findSecond_29 : decode cX3_findSecond 29 = .ok (.iconst 0, 1) := by decide +kernel
theorem dX3_findSecond_30 : decode cX3_findSecond 30 = .ok (.iload 5, 2) := by decide +kernel
theorem dX3_findSecond_32 : decode cX3_findSecond 32 = .ok (.iload_n 2, 1) := by decide +kernel
theorem dX3_findSecond_33 : decode cX3_findSecond 33 = .ok (.invokestatic 42, 3) := by decide +kernel
theorem dX3_findSecond_36 : decode cX3_findSecond 36 = .ok (.iload 4, 2) := by decide +kernel
theorem dX3_findSecond_38 : decode cX3_findSecond 38 = .ok (.if_icmp .ne 7, 3) := by decide +kernel
theorem dX3_findSecond_41 : decode cX3_findSecond 41 = .ok (.iconst 1, 1) := by decide +kernel
theorem dX3_findSecond_42 : decode cX3_findSecond 42 = .ok (.goto 4, 3) := by decide +kernel
theorem dX3_findSecond_45 : decode cX3_findSecond 45 = .ok (.iconst 0, 1) := by decide +kernel
theorem dX3_findSecond_46 : decode cX3_findSecond 46 = .ok (.istore 6, 2) := by decide +kernel
theorem dX3_findSecond_48 : decode cX3_findSecond 48 = .ok (.iload 6, 2) := by decide +kernel
theorem dX3_findSecond_50 : decode cX3_findSecond 50 = .ok (.ifCond .eq 53, 3) := by decide +kernel
theorem dX3_findSecond_53 : decode cX3_findSecond 53 = .ok (.iload 5, 2) := by decide +kernel
theorem dX3_findSecond_55 : decode cX3_findSecond 55 = .ok (.iload_n 2, 1) := by decide +kernel
theorem dX3_findSecond_56 : decode cX3_findSecond 56 = .ok (.if_icmp .eq 47, 3) := by decide +kernel
theorem dX3_findSecond_59 : decode cX3_findSecond 59 = .ok (.iload 5, 2) := by decide +kernel
theorem dX3_findSecond_61 : decode cX3_findSecond 61 = .ok (.iload_n 3, 1) := by decide +kernel
theorem dX3_findSecond_62 : decode cX3_findSecond 62 = .ok (.if_icmp .eq 41, 3) := by decide +kernel
theorem dX3_findSecond_65 : decode cX3_findSecond 65 = .ok (.aload_n 1, 1) := by decide +kernel
theorem dX3_findSecond_66 : decode cX3_findSecond 66 = .ok (.iload 5, 2) := by decide +kernel
theorem dX3_findSecond_68 : decode cX3_findSecond 68 = .ok (.invokevirtual 31, 3) := by decide +kernel
theorem dX3_findSecond_71 : decode cX3_findSecond 71 = .ok (.ifCond .ne 32, 3) := by decide +kernel
theorem dX3_findSecond_74 : decode cX3_findSecond 74 = .ok (.aload_n 0, 1) := by decide +kernel
theorem dX3_findSecond_75 : decode cX3_findSecond 75 = .ok (.getfield 9, 3) := by decide +kernel
theorem dX3_findSecond_78 : decode cX3_findSecond 78 = .ok (.iload 5, 2) := by decide +kernel
theorem dX3_findSecond_80 : decode cX3_findSecond 80 = .ok (.baload, 1) := by decide +kernel
theorem dX3_findSecond_81 : decode cX3_findSecond 81 = .ok (.ifCond .ne 14, 3) := by decide +kernel
theorem dX3_findSecond_84 : decode cX3_findSecond 84 = .ok (.aload_n 1, 1) := by decide +kernel
theorem dX3_findSecond_85 : decode cX3_findSecond 85 = .ok (.iconst 0, 1) := by decide +kernel
theorem dX3_findSecond_86 : decode cX3_findSecond 86 = .ok (.iload_n 3, 1) := by decide +kernel
theorem dX3_findSecond_87 : decode cX3_findSecond 87 = .ok (.iload 5, 2) := by decide +kernel
theorem dX3_findSecond_89 : decode cX3_findSecond 89 = .ok (.invokevirtual 34, 3) := by decide +kernel
theorem dX3_findSecond_92 : decode cX3_findSecond 92 = .ok (.ifCond .eq 11, 3) := by decide +kernel
theorem dX3_findSecond_95 : decode cX3_findSecond 95 = .ok (.aload_n 0, 1) := by decide +kernel
theorem dX3_findSecond_96 : decode cX3_findSecond 96 = .ok (.iload 5, 2) := by decide +kernel
theorem dX3_findSecond_98 : decode cX3_findSecond 98 = .ok (.putfield 22, 3) := by decide +kernel
theorem dX3_findSecond_101 : decode cX3_findSecond 101 = .ok (.iconst 1, 1) := by decide +kernel
theorem dX3_findSecond_102 : decode cX3_findSecond 102 = .ok (.ireturn, 1) := by decide +kernel
theorem dX3_findSecond_103 : decode cX3_findSecond 103 = .ok (.iinc 5 1, 3) := by decide +kernel
theorem dX3_findSecond_106 : decode cX3_findSecond 106 = .ok (.goto (-95), 3) := by decide +kernel
theorem dX3_findSecond_109 : decode cX3_findSecond 109 = .ok (.iconst 0, 1) := by decide +kernel
theorem dX3_findSecond_110 : decode cX3_findSecond 110 = .ok (.ireturn, 1) := by decide +kernel
theorem i_RX3_31 {Z : qZ} {G : qG} {cc : ByteArray} {nL k n : Nat} {rm : Room} {ret : Option FieldType} {μ : qM} {pc : Nat} {L : List (Nat × Value)} {rest : List Value} {K : Int32 → qM → Prop} {o : Nat} {v1 : Int32} (C : qX Z G RX3 cc nL rm ret) (hn : 66 ≤ gn G) (hk_o : qk o = 1) (hR : (Nat.ble (0 + 1) rm.frames && Nat.ble (8 + (3 + 11) + 0) rm.locals) = true) (hf : k + 0 ≤ rm.cells ∧ n + 0 ≤ rm.slots) (hsz : Nat.ble (rest.map fun v => v.category).sum 8 = true) (hd : decode cc pc = .ok (.invokevirtual 31, 3)) (h : w_X1_stands o v1 K μ) (hk : ∀ (r : Int32) (μ1 : qM), K r μ1 → qV Z G nL k n μ1 (pc + 3) L (.int r :: rest)) : qV Z G nL k n μ pc L (.int v1 :: .ref (ga G o) :: rest) := x_Vi [.int v1] rest C o 1 (wp := fun K => w_X1_stands o v1 K μ) (y_X1_stands : qY yX1_stands cX1_stands 3 (some .boolean) 1 ({ frames := 0, cells := 0, slots := 0, locals := 0 } : Room) 0 0) (qm_7 _ (List.mem_of_getElem? (i := 16) rfl)) (qm_7 _ (List.mem_of_getElem? (i := 17) rfl)) (qm_25 _ (List.mem_of_getElem? (i := 19) rfl)) (c_X1_stands Z.2.1 G hn hk_o) (q_lt hk_o rfl hn) hk_o (by decide) rfl rfl hR hf rfl rfl hsz hd h hk
theorem i_RX3_34 {Z : qZ} {G : qG} {cc : ByteArray} {nL k n : Nat} {rm : Room} {ret : Option FieldType} {μ : qM} {pc : Nat} {L : List (Nat × Value)} {rest : List Value} {K : Int32 → qM → Prop} {o : Nat} {v1 : Int32} {v2 : Int32} {v3 : Int32} (C : qX Z G RX3 cc nL rm ret) (hn : 66 ≤ gn G) (hk_o : qk o = 1) (hR : (Nat.ble (3 + 1) rm.frames && Nat.ble (8 + (6 + 11) + 71) rm.locals) = true) (hf : k + 0 ≤ rm.cells ∧ n + 0 ≤ rm.slots) (hsz : Nat.ble (rest.map fun v => v.category).sum 8 = true) (hd : decode cc pc = .ok (.invokevirtual 34, 3)) (h : w_X1_isEvenWith o v1 v2 v3 K μ) (hk : ∀ (r : Int32) (μ1 : qM), K r μ1 → qV Z G nL k n μ1 (pc + 3) L (.int r :: rest)) : qV Z G nL k n μ pc L (.int v3 :: .int v2 :: .int v1 :: .ref (ga G o) :: rest) := x_Vi [.int v1, .int v2, .int v3] rest C o 1 (wp := fun K => w_X1_isEvenWith o v1 v2 v3 K μ) (y_X1_isEvenWith : qY yX1_isEvenWith cX1_isEvenWith 6 (some .boolean) 3 ({ frames := 3, cells := 0, slots := 0, locals := 71 } : Room) 0 0) (qm_20 _ (List.mem_of_getElem? (i := 6) rfl)) (qm_20 _ (List.mem_of_getElem? (i := 7) rfl)) (qm_25 _ (List.mem_of_getElem? (i := 20) rfl)) (c_X1_isEvenWith Z.2.1 G hn hk_o) (q_lt hk_o rfl hn) hk_o (by decide) rfl rfl hR hf rfl rfl hsz hd h hk
theorem i_RX3_42 {Z : qZ} {G : qG} {cc : ByteArray} {nL k n : Nat} {rm : Room} {ret : Option FieldType} {μ : qM} {pc : Nat} {L : List (Nat × Value)} {rest : List Value} {K : Int32 → qM → Prop} {v0 : Int32} {v1 : Int32} {v2 : Int32} (C : qX Z G RX3 cc nL rm ret) (hn : 66 ≤ gn G) (hR : (Nat.ble (0 + 1) rm.frames && Nat.ble (8 + (6 + 11) + 0) rm.locals) = true) (hf : k + 0 ≤ rm.cells ∧ n + 0 ≤ rm.slots) (hsz : Nat.ble (rest.map fun v => v.category).sum 8 = true) (hd : decode cc pc = .ok (.invokestatic 42, 3)) (h : w_X2_measure v0 v1 v2 K μ) (hk : ∀ (r : Int32) (μ1 : qM), K r μ1 → qV Z G nL k n μ1 (pc + 3) L (.int r :: rest)) : qV Z G nL k n μ pc L (.int v2 :: .int v1 :: .int v0 :: rest) := x_Si [.int v0, .int v1, .int v2] rest C (wp := fun K => w_X2_measure v0 v1 v2 K μ) (y_X2_measure : qY yX2_measure cX2_measure 6 (some .int) 3 ({ frames := 0, cells := 0, slots := 0, locals := 0 } : Room) 0 0) (qm_10 _ (List.mem_of_getElem? (i := 13) rfl)) (qm_26 _ (List.mem_of_getElem? (i := 1) rfl)) (c_X2_measure Z.2.1 G hn ) hR hf rfl rfl hsz hd h hk
theorem g_RX3_9 {Z : qZ} {G : qG} {cc : ByteArray} {nL k n : Nat} {rm : Room} {ret : Option FieldType} {μ : qM} {pc : Nat} {L : List (Nat × Value)} {st : List Value} {o : Nat} (C : qX Z G RX3 cc nL rm ret) (hn : 66 ≤ gn G) (hk : qk o = 2) (hd : decode cc pc = .ok (.getfield 9, 3)) (h : qV Z G nL k n μ (pc + 3) L (.ref (ga G (o + 1)) :: st)) : qV Z G nL k n μ pc L (.ref (ga G o) :: st) := x_getr C o 2 0 1 (o + 1) (C0 := RX3) (fn := "free") (fd := "[Z") (q_lt hk rfl hn) hk (by decide) rfl (by decide) rfl inlX3 (qm_4 _ (List.mem_of_getElem? (i := 13) rfl)) rfl rfl rfl hd h
theorem g_RX3_15 {Z : qZ} {G : qG} {cc : ByteArray} {nL k n : Nat} {rm : Room} {ret : Option FieldType} {μ : qM} {pc : Nat} {L : List (Nat × Value)} {st : List Value} {o : Nat} (C : qX Z G RX3 cc nL rm ret) (hn : 66 ≤ gn G) (hk : qk o = 2) (hd : decode cc pc = .ok (.getfield 15, 3)) (h : qV Z G nL k n μ (pc + 3) L (.ref (ga G (o + 2)) :: st)) : qV Z G nL k n μ pc L (.ref (ga G o) :: st) := x_getr C o 2 1 2 (o + 2) (C0 := RX3) (fn := "near") (fd := "[Z") (q_lt hk rfl hn) hk (by decide) rfl (by decide) rfl inlX3 (qm_4 _ (List.mem_of_getElem? (i := 14) rfl)) rfl rfl rfl hd h
theorem p_RX3_22 {Z : qZ} {G : qG} {cc : ByteArray} {nL k n : Nat} {rm : Room} {ret : Option FieldType} {μ : qM} {pc : Nat} {L : List (Nat × Value)} {st : List Value} {x : Int32} {o : Nat} (C : qX Z G RX3 cc nL rm ret) (hn : 66 ≤ gn G) (hk : qk o = 2) (hd : decode cc pc = .ok (.putfield 22, 3)) (h : qV Z G nL k n (qu μ o 3 x) (pc + 3) L st) : qV Z G nL k n μ pc L (.int x :: .ref (ga G o) :: st) := x_puti C o 2 3 (C0 := RX3) (fn := "second") (fd := "I") (ty := .int) (q_lt hk rfl hn) hk (by decide) rfl (by decide) rfl inlX3 tyX3_ok nmX3 (qm_4 _ (List.mem_of_getElem? (i := 16) rfl)) rfl (by decide +kernel) rfl rfl hd h
theorem b_X3_findSecond_95 {Z : qZ} {G : qG} {o : Nat} {o1 : Nat} {v5 : Int32} {μ : qM} {post : Int32 → qM → Prop} (C : qX Z G RX3 cX3_findSecond 7 ({ frames := 4, cells := 0, slots := 0, locals := 96 } : Room) (some .boolean)) (hQ : qQi Z G 0 0 post) (hn : 66 ≤ gn G) (hk_o : qk o = 2) (hk_o1 : qk o1 = 1) (h : q_X3_findSecond_95 o o1 post v5 μ) : qV Z G 7 0 0 μ 95 [(0, .ref (ga G o)), (5, .int v5)] [] := by
  unfold q_X3_findSecond_95 at h
  refine x_aload_n C 0 dX3_findSecond_95 rfl rfl ?_
  refine x_iload C 1 dX3_findSecond_96 rfl ?_
  refine p_RX3_22 C hn hk_o dX3_findSecond_98 ?_
  refine x_iconst C dX3_findSecond_101 (v := 1) (by decide) ?_
  exact x_zret C hQ dX3_findSecond_102 h
theorem b_X3_findSecond_103 {Z : qZ} {G : qG} {o : Nat} {o1 : Nat} {v2 : Int32} {v3 : Int32} {v4 : Int32} {v5 : Int32} {μ : qM} {P11 : Int32 → qM → Prop} {post : Int32 → qM → Prop} (C : qX Z G RX3 cX3_findSecond 7 ({ frames := 4, cells := 0, slots := 0, locals := 96 } : Room) (some .boolean)) (hQ : qQi Z G 0 0 post) (hn : 66 ≤ gn G) (hk_o : qk o = 2) (hk_o1 : qk o1 = 1) (hP11 : ∀ (b5 : Int32) (μ1 : qM), P11 b5 μ1 → qV Z G 7 0 0 μ1 11 [(0, .ref (ga G o)), (1, .ref (ga G o1)), (2, .int v2), (3, .int v3), (4, .int v4), (5, .int b5)] []) (h : q_X3_findSecond_103 o o1 P11 post v2 v3 v4 v5 μ) : qV Z G 7 0 0 μ 103 [(0, .ref (ga G o)), (1, .ref (ga G o1)), (2, .int v2), (3, .int v3), (4, .int v4), (5, .int v5)] [] := by
  unfold q_X3_findSecond_103 at h
  refine x_iinc C 5 (v := 1) (L' := [(5, .int ((v5 + 1))), (0, .ref (ga G o)), (1, .ref (ga G o1)), (2, .int v2), (3, .int v3), (4, .int v4)]) dX3_findSecond_103 rfl (by decide) (by decide) rfl ?_
  refine x_goto C dX3_findSecond_106 (tgt := 11) (by decide) ?_
  exact qV_sub [1, 2, 3, 4, 5, 0] rfl ((hP11 _ _ h))
theorem b_X3_findSecond_46 {Z : qZ} {G : qG} {o : Nat} {o1 : Nat} {v2 : Int32} {v3 : Int32} {v4 : Int32} {v5 : Int32} {s0 : Int32} {μ : qM} {P11 : Int32 → qM → Prop} {post : Int32 → qM → Prop} (C : qX Z G RX3 cX3_findSecond 7 ({ frames := 4, cells := 0, slots := 0, locals := 96 } : Room) (some .boolean)) (hQ : qQi Z G 0 0 post) (hn : 66 ≤ gn G) (hk_o : qk o = 2) (hk_o1 : qk o1 = 1) (hP11 : ∀ (b5 : Int32) (μ1 : qM), P11 b5 μ1 → qV Z G 7 0 0 μ1 11 [(0, .ref (ga G o)), (1, .ref (ga G o1)), (2, .int v2), (3, .int v3), (4, .int v4), (5, .int b5)] []) (h : q_X3_findSecond_46 o o1 P11 post v2 v3 v4 v5 s0 μ) : qV Z G 7 0 0 μ 46 [(0, .ref (ga G o)), (1, .ref (ga G o1)), (2, .int v2), (3, .int v3), (4, .int v4), (5, .int v5)] [.int s0] := by
  unfold q_X3_findSecond_46 at h
  refine x_istore C (L' := [(6, .int s0), (0, .ref (ga G o)), (1, .ref (ga G o1)), (2, .int v2), (3, .int v3), (4, .int v4), (5, .int v5)]) dX3_findSecond_46 (by decide) rfl ?_
  refine x_iload C 0 dX3_findSecond_48 rfl ?_
  refine x_if_eq C dX3_findSecond_50 (tgt := 103) (by decide) h (fun h => ?_) (fun h => ?_)
  · exact qV_sub [1, 2, 3, 4, 5, 6] rfl (b_X3_findSecond_103 C hQ hn hk_o hk_o1 hP11 h)
  · refine x_iload C 6 dX3_findSecond_53 rfl ?_
    refine x_iload_n C 3 dX3_findSecond_55 rfl rfl ?_
    refine x_icmp_eq C dX3_findSecond_56 (tgt := 103) (by decide) h (fun h => ?_) (fun h => ?_)
    · exact qV_sub [1, 2, 3, 4, 5, 6] rfl (b_X3_findSecond_103 C hQ hn hk_o hk_o1 hP11 h)
    · refine x_iload C 6 dX3_findSecond_59 rfl ?_
      refine x_iload_n C 4 dX3_findSecond_61 rfl rfl ?_
      refine x_icmp_eq C dX3_findSecond_62 (tgt := 103) (by decide) h (fun h => ?_) (fun h => ?_)
      · exact qV_sub [1, 2, 3, 4, 5, 6] rfl (b_X3_findSecond_103 C hQ hn hk_o hk_o1 hP11 h)
      · refine x_aload_n C 2 dX3_findSecond_65 rfl rfl ?_
        refine x_iload C 6 dX3_findSecond_66 rfl ?_
        refine i_RX3_31 (rest := []) C hn hk_o1 rfl (by decide) rfl dX3_findSecond_68 h (fun r68 μ68 h => ?_)
        refine x_if_ne C dX3_findSecond_71 (tgt := 103) (by decide) h (fun h => ?_) (fun h => ?_)
        · exact qV_sub [1, 2, 3, 4, 5, 6] rfl (b_X3_findSecond_103 C hQ hn hk_o hk_o1 hP11 h)
        · refine x_aload_n C 1 dX3_findSecond_74 rfl rfl ?_
          refine g_RX3_9 C hn hk_o dX3_findSecond_75 ?_
          refine x_iload C 6 dX3_findSecond_78 rfl ?_
          refine x_zald C (o + 1) 13 144 (q_lt (qn_2_1 hk_o) rfl hn) (qn_2_1 hk_o) rfl rfl rfl rfl dX3_findSecond_80 h (fun h => ?_)
          refine x_if_ne C dX3_findSecond_81 (tgt := 95) (by decide) h (fun h => ?_) (fun h => ?_)
          · exact qV_sub [1, 6] rfl (b_X3_findSecond_95 C hQ hn hk_o hk_o1 h)
          · refine x_aload_n C 2 dX3_findSecond_84 rfl rfl ?_
            refine x_iconst C dX3_findSecond_85 (v := 0) (by decide) ?_
            refine x_iload_n C 4 dX3_findSecond_86 rfl rfl ?_
            refine x_iload C 6 dX3_findSecond_87 rfl ?_
            refine i_RX3_34 (rest := []) C hn hk_o1 rfl (by decide) rfl dX3_findSecond_89 h (fun r89 μ89 h => ?_)
            refine x_if_eq C dX3_findSecond_92 (tgt := 103) (by decide) h (fun h => ?_) (fun h => ?_)
            · exact qV_sub [1, 2, 3, 4, 5, 6] rfl (b_X3_findSecond_103 C hQ hn hk_o hk_o1 hP11 h)
            · exact qV_sub [1, 6] rfl (b_X3_findSecond_95 C hQ hn hk_o hk_o1 h)
theorem b_X3_findSecond_41 {Z : qZ} {G : qG} {o : Nat} {o1 : Nat} {v2 : Int32} {v3 : Int32} {v4 : Int32} {v5 : Int32} {μ : qM} {P11 : Int32 → qM → Prop} {post : Int32 → qM → Prop} (C : qX Z G RX3 cX3_findSecond 7 ({ frames := 4, cells := 0, slots := 0, locals := 96 } : Room) (some .boolean)) (hQ : qQi Z G 0 0 post) (hn : 66 ≤ gn G) (hk_o : qk o = 2) (hk_o1 : qk o1 = 1) (hP11 : ∀ (b5 : Int32) (μ1 : qM), P11 b5 μ1 → qV Z G 7 0 0 μ1 11 [(0, .ref (ga G o)), (1, .ref (ga G o1)), (2, .int v2), (3, .int v3), (4, .int v4), (5, .int b5)] []) (h : q_X3_findSecond_41 o o1 P11 post v2 v3 v4 v5 μ) : qV Z G 7 0 0 μ 41 [(0, .ref (ga G o)), (1, .ref (ga G o1)), (2, .int v2), (3, .int v3), (4, .int v4), (5, .int v5)] [] := by
  unfold q_X3_findSecond_41 at h
  refine x_iconst C dX3_findSecond_41 (v := 1) (by decide) ?_
  refine x_goto C dX3_findSecond_42 (tgt := 46) (by decide) ?_
  exact b_X3_findSecond_46 C hQ hn hk_o hk_o1 hP11 h
theorem b_X3_findSecond_11 {Z : qZ} {G : qG} {o : Nat} {o1 : Nat} {v2 : Int32} {v3 : Int32} {v4 : Int32} {v5 : Int32} {μ : qM} {post : Int32 → qM → Prop} (C : qX Z G RX3 cX3_findSecond 7 ({ frames := 4, cells := 0, slots := 0, locals := 96 } : Room) (some .boolean)) (hQ : qQi Z G 0 0 post) (hn : 66 ≤ gn G) (hk_o : qk o = 2) (hk_o1 : qk o1 = 1) (h : q_X3_findSecond_11 o o1 v2 v3 v4 post v5 μ) : qV Z G 7 0 0 μ 11 [(0, .ref (ga G o)), (1, .ref (ga G o1)), (2, .int v2), (3, .int v3), (4, .int v4), (5, .int v5)] [] := by
  refine h (fun v5 μ => qV Z G 7 0 0 μ 11 [(0, .ref (ga G o)), (1, .ref (ga G o1)), (2, .int v2), (3, .int v3), (4, .int v4), (5, .int v5)] []) (fun v5 μ h => ?_)
  refine x_iload C 5 dX3_findSecond_11 rfl ?_
  refine x_sipush C dX3_findSecond_13 (v := 144) (by decide) ?_
  refine x_icmp_ge C dX3_findSecond_16 (tgt := 109) (by decide) h (fun h => ?_) (fun h => ?_)
  · refine x_iconst C dX3_findSecond_109 (v := 0) (by decide) ?_
    exact x_zret C hQ dX3_findSecond_110 h
  · refine x_aload_n C 0 dX3_findSecond_19 rfl rfl ?_
    refine g_RX3_15 C hn hk_o dX3_findSecond_20 ?_
    refine x_iload C 5 dX3_findSecond_23 rfl ?_
    refine x_zald C (o + 2) 13 144 (q_lt (qn_2_2 hk_o) rfl hn) (qn_2_2 hk_o) rfl rfl rfl rfl dX3_findSecond_25 h (fun h => ?_)
    refine x_if_ne C dX3_findSecond_26 (tgt := 41) (by decide) h (fun h => ?_) (fun h => ?_)
    · exact b_X3_findSecond_41 C hQ hn hk_o hk_o1 (fun _ _ h => h) h
    · refine x_iconst C dX3_findSecond_29 (v := 0) (by decide) ?_
      refine x_iload C 5 dX3_findSecond_30 rfl ?_
      refine x_iload_n C 2 dX3_findSecond_32 rfl rfl ?_
      refine i_RX3_42 (rest := []) C hn  rfl (by decide) rfl dX3_findSecond_33 h (fun r33 μ33 h => ?_)
      refine x_iload C 4 dX3_findSecond_36 rfl ?_
      refine x_icmp_ne C dX3_findSecond_38 (tgt := 45) (by decide) h (fun h => ?_) (fun h => ?_)
      · refine x_iconst C dX3_findSecond_45 (v := 0) (by decide) ?_
        exact b_X3_findSecond_46 C hQ hn hk_o hk_o1 (fun _ _ h => h) h
      · exact b_X3_findSecond_41 C hQ hn hk_o hk_o1 (fun _ _ h => h) h
theorem y_X3_findSecond : qY yX3_findSecond cX3_findSecond 7 (some .boolean) 3 ({ frames := 4, cells := 0, slots := 0, locals := 96 } : Room) 0 0 := ⟨(qm_26 _ (List.mem_of_getElem? (i := 0) rfl)), (qm_2 _ (List.mem_of_getElem? (i := 9) rfl)), by decide +kernel, by decide +kernel, rfl, rfl⟩
theorem c_X3_findSecond (l : Launch) (G : qG) {o : Nat} {o1 : Nat} {v2 : Int32} {v3 : Int32} {μ : qM} (hn : 66 ≤ gn G) (hk_o : qk o = 2) (hk_o1 : qk o1 = 1) : qCi l G yX3_findSecond cX3_findSecond 7 (some .boolean) ({ frames := 4, cells := 0, slots := 0, locals := 96 } : Room) 0 0 [.ref (ga G o), .ref (ga G o1), .int v2, .int v3] μ (fun post => w_X3_findSecond o o1 v2 v3 post μ) := by
  refine qCi_of (L := [(0, .ref (ga G o)), (1, .ref (ga G o1)), (2, .int v2), (3, .int v3)]) (by decide) rfl rfl ?_
  intro Z post hl C hQ h
  have C : qX Z G RX3 cX3_findSecond 7 ({ frames := 4, cells := 0, slots := 0, locals := 96 } : Room) (some .boolean) := C
  have h : w_X3_findSecond o o1 v2 v3 post μ := h
  unfold w_X3_findSecond at h
  refine x_iconst C dX3_findSecond_0 (v := 0) (by decide) ?_
  refine x_iload_n C 3 dX3_findSecond_1 rfl rfl ?_
  refine x_iload_n C 2 dX3_findSecond_2 rfl rfl ?_
  refine i_RX3_42 (rest := []) C hn  rfl (by decide) rfl dX3_findSecond_3 h (fun r3 μ3 h => ?_)
  refine x_istore C (L' := [(4, .int r3), (0, .ref (ga G o)), (1, .ref (ga G o1)), (2, .int v2), (3, .int v3)]) dX3_findSecond_6 (by decide) rfl ?_
  refine x_iconst C dX3_findSecond_8 (v := 0) (by decide) ?_
  refine x_istore C (L' := [(5, .int ((0 : Int32))), (4, .int r3), (0, .ref (ga G o)), (1, .ref (ga G o1)), (2, .int v2), (3, .int v3)]) dX3_findSecond_9 (by decide) rfl ?_
  exact qV_sub [2, 3, 4, 5, 1, 0] rfl (b_X3_findSecond_11 C hQ hn hk_o hk_o1 h)
theorem dX3_find_0 : decode cX3_find 0 = .ok (.aload_n 0, 1) := by decide +kernel
theorem dX3_find_1 : decode cX3_find 1 = .ok (.iconst (-1), 1) := by decide +kernel
theorem dX3_find_2 : decode cX3_find 2 = .ok (.putfield 18, 3) := by decide +kernel
theorem dX3_find_5 : decode cX3_find 5 = .ok (.aload_n 0, 1) := by decide +kernel
theorem dX3_find_6 : decode cX3_find 6 = .ok (.iconst (-1), 1) := by decide +kernel
theorem dX3_find_7 : decode cX3_find 7 = .ok (.putfield 22, 3) := by decide +kernel
theorem dX3_find_10 : decode cX3_find 10 = .ok (.aload_n 1, 1) := by decide +kernel
theorem dX3_find_11 : decode cX3_find 11 = .ok (.iload_n 2, 1) := by decide +kernel
theorem dX3_find_12 : decode cX3_find 12 = .ok (.invokevirtual 25, 3) := by decide +kernel
theorem dX3_find_15 : decode cX3_find 15 = .ok (.ifCond .eq 5, 3) := by decide +kernel
theorem dX3_find_18 : decode cX3_find 18 = .ok (.iconst 0, 1) := by decide +kernel
theorem dX3_find_19 : decode cX3_find 19 = .ok (.ireturn, 1) := by decide +kernel
theorem dX3_find_20 : decode cX3_find 20 = .ok (.iconst 0, 1) := by decide +kernel
theorem dX3_find_21 : decode cX3_find 21 = .ok (.istore_n 3, 1) := by decide +kernel
theorem dX3_find_22 : decode cX3_find 22 = .ok (.iload_n 3, 1) := by decide +kernel
theorem dX3_find_23 : decode cX3_find 23 = .ok (.sipush 144, 3) := by decide +kernel
theorem dX3_find_26 : decode cX3_find 26 = .ok (.if_icmp .ge 54, 3) := by decide +kernel
theorem dX3_find_29 : decode cX3_find 29 = .ok (.aload_n 0, 1) := by decide +kernel
theorem dX3_find_30 : decode cX3_find 30 = .ok (.getfield 9, 3) := by decide +kernel
theorem dX3_find_33 : decode cX3_find 33 = .ok (.iload_n 3, 1) := by decide +kernel
theorem dX3_find_34 : decode cX3_find 34 = .ok (.aload_n 1, 1) := by decide +kernel
theorem dX3_find_35 : decode cX3_find 35 = .ok (.iload_n 3, 1) := by decide +kernel
theorem dX3_find_36 : decode cX3_find 36 = .ok (.invokevirtual 25, 3) := by decide +kernel
theorem dX3_find_39 : decode cX3_find 39 = .ok (.bastore, 1) := by decide +kernel
theorem dX3_find_40 : decode cX3_find 40 = .ok (.aload_n 0, 1) := by decide +kernel
theorem dX3_find_41 : decode cX3_find 41 = .ok (.getfield 15, 3) := by decide +kernel
theorem dX3_find_44 : decode cX3_find 44 = .ok (.iload_n 3, 1) := by decide +kernel
theorem dX3_find_45 : decode cX3_find 45 = .ok (.iload_n 3, 1) := by decide +kernel
theorem dX3_find_46 : decode cX3_find 46 = .ok (.iload_n 2, 1) := by decide +kernel
theorem dX3_find_47 : decode cX3_find 47 = .ok (.if_icmp .eq 25, 3) := by decide +kernel
theorem dX3_find_50 : decode cX3_find 50 = .ok (.aload_n 1, 1) := by decide +kernel
theorem dX3_find_51 : decode cX3_find 51 = .ok (.iload_n 3, 1) := by decide +kernel
theorem dX3_find_52 : decode cX3_find 52 = .ok (.invokevirtual 31, 3) := by decide +kernel
theorem dX3_find_55 : decode cX3_find 55 = .ok (.ifCond .ne 17, 3) := by decide +kernel
theorem dX3_find_58 : decode cX3_find 58 = .ok (.aload_n 1, 1) := by decide +kernel
theorem dX3_find_59 : decode cX3_find 59 = .ok (.iconst 0, 1) := by decide +kernel
theorem dX3_find_60 : decode cX3_find 60 = .ok (.iload_n 3, 1) := by decide +kernel
theorem dX3_find_61 : decode cX3_find 61 = .ok (.iload_n 2, 1) := by decide +kernel
theorem dX3_find_62 : decode cX3_find 62 = .ok (.invokevirtual 34, 3) := by decide +kernel
theorem dX3_find_65 : decode cX3_find 65 = .ok (.ifCond .eq 7, 3) := by decide +kernel
theorem dX3_find_68 : decode cX3_find 68 = .ok (.iconst 1, 1) := by decide +kernel
theorem dX3_find_69 : decode cX3_find 69 = .ok (.goto 4, 3) := by decide +kernel
theorem dX3_find_72 : decode cX3_find 72 = .ok (.iconst 0, 1) := by decide +kernel
theorem dX3_find_73 : decode cX3_find 73 = .ok (.bastore, 1) := by decide +kernel
theorem dX3_find_74 : decode cX3_find 74 = .ok (.iinc 3 1, 3) := by decide +kernel
theorem dX3_find_77 : decode cX3_find 77 = .ok (.goto (-55), 3) := by decide +kernel
theorem dX3_find_80 : decode cX3_find 80 = .ok (.iconst 0, 1) := by decide +kernel
theorem dX3_find_81 : decode cX3_find 81 = .ok (.istore_n 3, 1) := by decide +kernel
theorem dX3_find_82 : decode cX3_find 82 = .ok (.iload_n 3, 1) := by decide +kernel
theorem dX3_find_83 : decode cX3_find 83 = .ok (.sipush 144, 3) := by decide +kernel
theorem dX3_find_86 : decode cX3_find 86 = .ok (.if_icmp .ge 34, 3) := by decide +kernel
theorem dX3_find_89 : decode cX3_find 89 = .ok (.aload_n 0, 1) := by decide +kernel
theorem dX3_find_90 : decode cX3_find 90 = .ok (.getfield 9, 3) := by decide +kernel
theorem dX3_find_93 : decode cX3_find 93 = .ok (.iload_n 3, 1) := by decide +kernel
theorem dX3_find_94 : decode cX3_find 94 = .ok (.baload, 1) := by decide +kernel
theorem dX3_find_95 : decode cX3_find 95 = .ok (.ifCond .eq 19, 3) := by decide +kernel
theorem dX3_find_98 : decode cX3_find 98 = .ok (.aload_n 0, 1) := by decide +kernel
theorem dX3_find_99 : decode cX3_find 99 = .ok (.getfield 15, 3) := by decide +kernel
theorem dX3_find_102 : decode cX3_find 102 = .ok (.iload_n 3, 1) := by decide +kernel
theorem dX3_find_103 : decode cX3_find 103 = .ok (.baload, 1) := by decide +kernel
theorem dX3_find_104 : decode cX3_find 104 = .ok (.ifCond .eq 10, 3) := by decide +kernel
theorem dX3_find_107 : decode cX3_find 107 = .ok (.aload_n 0, 1) := by decide +kernel
theorem dX3_find_108 : decode cX3_find 108 = .ok (.iload_n 3, 1) := by decide +kernel
theorem dX3_find_109 : decode cX3_find 109 = .ok (.putfield 18, 3) := by decide +kernel
theorem dX3_find_112 : decode cX3_find 112 = .ok (.iconst 1, 1) := by decide +kernel
theorem dX3_find_113 : decode cX3_find 113 = .ok (.ireturn, 1) := by decide +kernel
theorem dX3_find_114 : decode cX3_find 114 = .ok (.iinc 3 1, 3) := by decide +kernel
theorem dX3_find_117 : decode cX3_find 117 = .ok (.goto (-35), 3) := by decide +kernel
theorem dX3_find_120 : decode cX3_find 120 = .ok (.iconst 0, 1) := by decide +kernel
theorem dX3_find_121 : decode cX3_find 121 = .ok (.istore_n 3, 1) := by decide +kernel
theorem dX3_find_122 : decode cX3_find 122 = .ok (.iload_n 3, 1) := by decide +kernel
theorem dX3_find_123 : decode cX3_find 123 = .ok (.sipush 144, 3) := by decide +kernel
theorem dX3_find_126 : decode cX3_find 126 = .ok (.if_icmp .ge 35, 3) := by decide +kernel
theorem dX3_find_129 : decode cX3_find 129 = .ok (.aload_n 0, 1) := by decide +kernel
theorem dX3_find_130 : decode cX3_find 130 = .ok (.getfield 9, 3) := by decide +kernel
theorem dX3_find_133 : decode cX3_find 133 = .ok (.iload_n 3, 1) := by decide +kernel
theorem dX3_find_134 : decode cX3_find 134 = .ok (.baload, 1) := by decide +kernel
theorem dX3_find_135 : decode cX3_find 135 = .ok (.ifCond .eq 20, 3) := by decide +kernel
theorem dX3_find_138 : decode cX3_find 138 = .ok (.aload_n 0, 1) := by decide +kernel
theorem dX3_find_139 : decode cX3_find 139 = .ok (.aload_n 1, 1) := by decide +kernel
theorem dX3_find_140 : decode cX3_find 140 = .ok (.iload_n 2, 1) := by decide +kernel
theorem dX3_find_141 : decode cX3_find 141 = .ok (.iload_n 3, 1) := by decide +kernel
theorem dX3_find_142 : decode cX3_find 142 = .ok (.invokevirtual 38, 3) := by decide +kernel
theorem dX3_find_145 : decode cX3_find 145 = .ok (.ifCond .eq 10, 3) := by decide +kernel
theorem dX3_find_148 : decode cX3_find 148 = .ok (.aload_n 0, 1) := by decide +kernel
theorem dX3_find_149 : decode cX3_find 149 = .ok (.iload_n 3, 1) := by decide +kernel
theorem dX3_find_150 : decode cX3_find 150 = .ok (.putfield 18, 3) := by decide +kernel
theorem dX3_find_153 : decode cX3_find 153 = .ok (.iconst 2, 1) := by decide +kernel
theorem dX3_find_154 : decode cX3_find 154 = .ok (.ireturn, 1) := by decide +kernel
theorem dX3_find_155 : decode cX3_find 155 = .ok (.iinc 3 1, 3) := by decide +kernel
theorem dX3_find_158 : decode cX3_find 158 = .ok (.goto (-36), 3) := by decide +kernel
theorem dX3_find_161 : decode cX3_find 161 = .ok (.iconst (-1), 1) := by decide +kernel
theorem dX3_find_162 : decode cX3_find 162 = .ok (.ireturn, 1) := by decide +kernel
theorem i_RX3_25 {Z : qZ} {G : qG} {cc : ByteArray} {nL k n : Nat} {rm : Room} {ret : Option FieldType} {μ : qM} {pc : Nat} {L : List (Nat × Value)} {rest : List Value} {K : Int32 → qM → Prop} {o : Nat} {v1 : Int32} (C : qX Z G RX3 cc nL rm ret) (hn : 66 ≤ gn G) (hk_o : qk o = 1) (hR : (Nat.ble (4 + 1) rm.frames && Nat.ble (8 + (2 + 11) + 97) rm.locals) = true) (hf : k + 0 ≤ rm.cells ∧ n + 0 ≤ rm.slots) (hsz : Nat.ble (rest.map fun v => v.category).sum 8 = true) (hd : decode cc pc = .ok (.invokevirtual 25, 3)) (h : w_X1_isFree o v1 K μ) (hk : ∀ (r : Int32) (μ1 : qM), K r μ1 → qV Z G nL k n μ1 (pc + 3) L (.int r :: rest)) : qV Z G nL k n μ pc L (.int v1 :: .ref (ga G o) :: rest) := x_Vi [.int v1] rest C o 1 (wp := fun K => w_X1_isFree o v1 K μ) (y_X1_isFree : qY yX1_isFree cX1_isFree 2 (some .boolean) 1 ({ frames := 4, cells := 0, slots := 0, locals := 97 } : Room) 0 0) (qm_10 _ (List.mem_of_getElem? (i := 0) rfl)) (qm_10 _ (List.mem_of_getElem? (i := 1) rfl)) (qm_25 _ (List.mem_of_getElem? (i := 18) rfl)) (c_X1_isFree Z.2.1 G hn hk_o) (q_lt hk_o rfl hn) hk_o (by decide) rfl rfl hR hf rfl rfl hsz hd h hk
theorem i_RX3_38 {Z : qZ} {G : qG} {cc : ByteArray} {nL k n : Nat} {rm : Room} {ret : Option FieldType} {μ : qM} {pc : Nat} {L : List (Nat × Value)} {rest : List Value} {K : Int32 → qM → Prop} {o : Nat} {o1 : Nat} {v2 : Int32} {v3 : Int32} (C : qX Z G RX3 cc nL rm ret) (hn : 66 ≤ gn G) (hk_o : qk o = 2) (hk_o1 : qk o1 = 1) (hR : (Nat.ble (4 + 1) rm.frames && Nat.ble (8 + (7 + 11) + 96) rm.locals) = true) (hf : k + 0 ≤ rm.cells ∧ n + 0 ≤ rm.slots) (hsz : Nat.ble (rest.map fun v => v.category).sum 8 = true) (hd : decode cc pc = .ok (.invokevirtual 38, 3)) (h : w_X3_findSecond o o1 v2 v3 K μ) (hk : ∀ (r : Int32) (μ1 : qM), K r μ1 → qV Z G nL k n μ1 (pc + 3) L (.int r :: rest)) : qV Z G nL k n μ pc L (.int v3 :: .int v2 :: .ref (ga G o1) :: .ref (ga G o) :: rest) := x_Vi [.ref (ga G o1), .int v2, .int v3] rest C o 2 (wp := fun K => w_X3_findSecond o o1 v2 v3 K μ) (y_X3_findSecond : qY yX3_findSecond cX3_findSecond 7 (some .boolean) 3 ({ frames := 4, cells := 0, slots := 0, locals := 96 } : Room) 0 0) (qm_25 _ (List.mem_of_getElem? (i := 22) rfl)) (qm_25 _ (List.mem_of_getElem? (i := 23) rfl)) (qm_25 _ (List.mem_of_getElem? (i := 21) rfl)) (c_X3_findSecond Z.2.1 G hn hk_o hk_o1) (q_lt hk_o rfl hn) hk_o (by decide) rfl rfl hR hf rfl rfl hsz hd h hk
theorem p_RX3_18 {Z : qZ} {G : qG} {cc : ByteArray} {nL k n : Nat} {rm : Room} {ret : Option FieldType} {μ : qM} {pc : Nat} {L : List (Nat × Value)} {st : List Value} {x : Int32} {o : Nat} (C : qX Z G RX3 cc nL rm ret) (hn : 66 ≤ gn G) (hk : qk o = 2) (hd : decode cc pc = .ok (.putfield 18, 3)) (h : qV Z G nL k n (qu μ o 2 x) (pc + 3) L st) : qV Z G nL k n μ pc L (.int x :: .ref (ga G o) :: st) := x_puti C o 2 2 (C0 := RX3) (fn := "first") (fd := "I") (ty := .int) (q_lt hk rfl hn) hk (by decide) rfl (by decide) rfl inlX3 tyX3_ok nmX3 (qm_4 _ (List.mem_of_getElem? (i := 15) rfl)) rfl (by decide +kernel) rfl rfl hd h
theorem b_X3_find_155 {Z : qZ} {G : qG} {o : Nat} {o1 : Nat} {v2 : Int32} {v3 : Int32} {μ : qM} {P122 : Int32 → qM → Prop} {post : Int32 → qM → Prop} (C : qX Z G RX3 cX3_find 4 ({ frames := 5, cells := 0, slots := 0, locals := 122 } : Room) (some .int)) (hQ : qQi Z G 0 0 post) (hn : 66 ≤ gn G) (hk_o : qk o = 2) (hk_o1 : qk o1 = 1) (hP122 : ∀ (b3 : Int32) (μ1 : qM), P122 b3 μ1 → qV Z G 4 0 0 μ1 122 [(0, .ref (ga G o)), (1, .ref (ga G o1)), (2, .int v2), (3, .int b3)] []) (h : q_X3_find_155 o o1 P122 post v2 v3 μ) : qV Z G 4 0 0 μ 155 [(0, .ref (ga G o)), (1, .ref (ga G o1)), (2, .int v2), (3, .int v3)] [] := by
  unfold q_X3_find_155 at h
  refine x_iinc C 3 (v := 1) (L' := [(3, .int ((v3 + 1))), (0, .ref (ga G o)), (1, .ref (ga G o1)), (2, .int v2)]) dX3_find_155 rfl (by decide) (by decide) rfl ?_
  refine x_goto C dX3_find_158 (tgt := 122) (by decide) ?_
  exact qV_sub [1, 2, 3, 0] rfl ((hP122 _ _ h))
theorem b_X3_find_122 {Z : qZ} {G : qG} {o : Nat} {o1 : Nat} {v2 : Int32} {v3 : Int32} {μ : qM} {post : Int32 → qM → Prop} (C : qX Z G RX3 cX3_find 4 ({ frames := 5, cells := 0, slots := 0, locals := 122 } : Room) (some .int)) (hQ : qQi Z G 0 0 post) (hn : 66 ≤ gn G) (hk_o : qk o = 2) (hk_o1 : qk o1 = 1) (h : q_X3_find_122 o o1 v2 post v3 μ) : qV Z G 4 0 0 μ 122 [(0, .ref (ga G o)), (1, .ref (ga G o1)), (2, .int v2), (3, .int v3)] [] := by
  refine h (fun v3 μ => qV Z G 4 0 0 μ 122 [(0, .ref (ga G o)), (1, .ref (ga G o1)), (2, .int v2), (3, .int v3)] []) (fun v3 μ h => ?_)
  refine x_iload_n C 3 dX3_find_122 rfl rfl ?_
  refine x_sipush C dX3_find_123 (v := 144) (by decide) ?_
  refine x_icmp_ge C dX3_find_126 (tgt := 161) (by decide) h (fun h => ?_) (fun h => ?_)
  · refine x_iconst C dX3_find_161 (v := -1) (by decide) ?_
    exact x_iret C hQ dX3_find_162 h
  · refine x_aload_n C 0 dX3_find_129 rfl rfl ?_
    refine g_RX3_9 C hn hk_o dX3_find_130 ?_
    refine x_iload_n C 3 dX3_find_133 rfl rfl ?_
    refine x_zald C (o + 1) 13 144 (q_lt (qn_2_1 hk_o) rfl hn) (qn_2_1 hk_o) rfl rfl rfl rfl dX3_find_134 h (fun h => ?_)
    refine x_if_eq C dX3_find_135 (tgt := 155) (by decide) h (fun h => ?_) (fun h => ?_)
    · exact b_X3_find_155 C hQ hn hk_o hk_o1 (fun _ _ h => h) h
    · refine x_aload_n C 0 dX3_find_138 rfl rfl ?_
      refine x_aload_n C 1 dX3_find_139 rfl rfl ?_
      refine x_iload_n C 2 dX3_find_140 rfl rfl ?_
      refine x_iload_n C 3 dX3_find_141 rfl rfl ?_
      refine i_RX3_38 (rest := []) C hn hk_o hk_o1 rfl (by decide) rfl dX3_find_142 h (fun r142 μ142 h => ?_)
      refine x_if_eq C dX3_find_145 (tgt := 155) (by decide) h (fun h => ?_) (fun h => ?_)
      · exact b_X3_find_155 C hQ hn hk_o hk_o1 (fun _ _ h => h) h
      · refine x_aload_n C 0 dX3_find_148 rfl rfl ?_
        refine x_iload_n C 3 dX3_find_149 rfl rfl ?_
        refine p_RX3_18 C hn hk_o dX3_find_150 ?_
        refine x_iconst C dX3_find_153 (v := 2) (by decide) ?_
        exact x_iret C hQ dX3_find_154 h
theorem b_X3_find_114 {Z : qZ} {G : qG} {o : Nat} {o1 : Nat} {v2 : Int32} {v3 : Int32} {μ : qM} {P82 : Int32 → qM → Prop} {post : Int32 → qM → Prop} (C : qX Z G RX3 cX3_find 4 ({ frames := 5, cells := 0, slots := 0, locals := 122 } : Room) (some .int)) (hQ : qQi Z G 0 0 post) (hn : 66 ≤ gn G) (hk_o : qk o = 2) (hk_o1 : qk o1 = 1) (hP82 : ∀ (b3 : Int32) (μ1 : qM), P82 b3 μ1 → qV Z G 4 0 0 μ1 82 [(0, .ref (ga G o)), (1, .ref (ga G o1)), (2, .int v2), (3, .int b3)] []) (h : q_X3_find_114 o o1 P82 post v2 v3 μ) : qV Z G 4 0 0 μ 114 [(0, .ref (ga G o)), (1, .ref (ga G o1)), (2, .int v2), (3, .int v3)] [] := by
  unfold q_X3_find_114 at h
  refine x_iinc C 3 (v := 1) (L' := [(3, .int ((v3 + 1))), (0, .ref (ga G o)), (1, .ref (ga G o1)), (2, .int v2)]) dX3_find_114 rfl (by decide) (by decide) rfl ?_
  refine x_goto C dX3_find_117 (tgt := 82) (by decide) ?_
  exact qV_sub [1, 2, 3, 0] rfl ((hP82 _ _ h))
theorem b_X3_find_82 {Z : qZ} {G : qG} {o : Nat} {o1 : Nat} {v2 : Int32} {v3 : Int32} {μ : qM} {post : Int32 → qM → Prop} (C : qX Z G RX3 cX3_find 4 ({ frames := 5, cells := 0, slots := 0, locals := 122 } : Room) (some .int)) (hQ : qQi Z G 0 0 post) (hn : 66 ≤ gn G) (hk_o : qk o = 2) (hk_o1 : qk o1 = 1) (h : q_X3_find_82 o o1 v2 post v3 μ) : qV Z G 4 0 0 μ 82 [(0, .ref (ga G o)), (1, .ref (ga G o1)), (2, .int v2), (3, .int v3)] [] := by
  refine h (fun v3 μ => qV Z G 4 0 0 μ 82 [(0, .ref (ga G o)), (1, .ref (ga G o1)), (2, .int v2), (3, .int v3)] []) (fun v3 μ h => ?_)
  refine x_iload_n C 3 dX3_find_82 rfl rfl ?_
  refine x_sipush C dX3_find_83 (v := 144) (by decide) ?_
  refine x_icmp_ge C dX3_find_86 (tgt := 120) (by decide) h (fun h => ?_) (fun h => ?_)
  · refine x_iconst C dX3_find_120 (v := 0) (by decide) ?_
    refine x_istore_n C (L' := [(3, .int ((0 : Int32))), (0, .ref (ga G o)), (1, .ref (ga G o1)), (2, .int v2)]) dX3_find_121 rfl (by decide) rfl ?_
    exact qV_sub [1, 2, 3, 0] rfl (b_X3_find_122 C hQ hn hk_o hk_o1 h)
  · refine x_aload_n C 0 dX3_find_89 rfl rfl ?_
    refine g_RX3_9 C hn hk_o dX3_find_90 ?_
    refine x_iload_n C 3 dX3_find_93 rfl rfl ?_
    refine x_zald C (o + 1) 13 144 (q_lt (qn_2_1 hk_o) rfl hn) (qn_2_1 hk_o) rfl rfl rfl rfl dX3_find_94 h (fun h => ?_)
    refine x_if_eq C dX3_find_95 (tgt := 114) (by decide) h (fun h => ?_) (fun h => ?_)
    · exact b_X3_find_114 C hQ hn hk_o hk_o1 (fun _ _ h => h) h
    · refine x_aload_n C 0 dX3_find_98 rfl rfl ?_
      refine g_RX3_15 C hn hk_o dX3_find_99 ?_
      refine x_iload_n C 3 dX3_find_102 rfl rfl ?_
      refine x_zald C (o + 2) 13 144 (q_lt (qn_2_2 hk_o) rfl hn) (qn_2_2 hk_o) rfl rfl rfl rfl dX3_find_103 h (fun h => ?_)
      refine x_if_eq C dX3_find_104 (tgt := 114) (by decide) h (fun h => ?_) (fun h => ?_)
      · exact b_X3_find_114 C hQ hn hk_o hk_o1 (fun _ _ h => h) h
      · refine x_aload_n C 0 dX3_find_107 rfl rfl ?_
        refine x_iload_n C 3 dX3_find_108 rfl rfl ?_
        refine p_RX3_18 C hn hk_o dX3_find_109 ?_
        refine x_iconst C dX3_find_112 (v := 1) (by decide) ?_
        exact x_iret C hQ dX3_find_113 h
theorem b_X3_find_73 {Z : qZ} {G : qG} {o : Nat} {o1 : Nat} {v2 : Int32} {v3 : Int32} {s0 : Int32} {s1 : Int32} {μ : qM} {P22 : Int32 → qM → Prop} {post : Int32 → qM → Prop} (C : qX Z G RX3 cX3_find 4 ({ frames := 5, cells := 0, slots := 0, locals := 122 } : Room) (some .int)) (hQ : qQi Z G 0 0 post) (hn : 66 ≤ gn G) (hk_o : qk o = 2) (hk_o1 : qk o1 = 1) (hP22 : ∀ (b3 : Int32) (μ1 : qM), P22 b3 μ1 → qV Z G 4 0 0 μ1 22 [(0, .ref (ga G o)), (1, .ref (ga G o1)), (2, .int v2), (3, .int b3)] []) (h : q_X3_find_73 o o1 P22 post v2 v3 s0 s1 μ) : qV Z G 4 0 0 μ 73 [(0, .ref (ga G o)), (1, .ref (ga G o1)), (2, .int v2), (3, .int v3)] [.int s0, .int s1, .ref (ga G (o + 2))] := by
  unfold q_X3_find_73 at h
  refine x_zast C (o + 2) 13 144 (q_lt (qn_2_2 hk_o) rfl hn) (qn_2_2 hk_o) rfl rfl rfl rfl dX3_find_73 h (fun h => ?_)
  refine x_iinc C 3 (v := 1) (L' := [(3, .int ((v3 + 1))), (0, .ref (ga G o)), (1, .ref (ga G o1)), (2, .int v2)]) dX3_find_74 rfl (by decide) (by decide) rfl ?_
  refine x_goto C dX3_find_77 (tgt := 22) (by decide) ?_
  exact qV_sub [1, 2, 3, 0] rfl ((hP22 _ _ h))
theorem b_X3_find_72 {Z : qZ} {G : qG} {o : Nat} {o1 : Nat} {v2 : Int32} {v3 : Int32} {s0 : Int32} {μ : qM} {P22 : Int32 → qM → Prop} {post : Int32 → qM → Prop} (C : qX Z G RX3 cX3_find 4 ({ frames := 5, cells := 0, slots := 0, locals := 122 } : Room) (some .int)) (hQ : qQi Z G 0 0 post) (hn : 66 ≤ gn G) (hk_o : qk o = 2) (hk_o1 : qk o1 = 1) (hP22 : ∀ (b3 : Int32) (μ1 : qM), P22 b3 μ1 → qV Z G 4 0 0 μ1 22 [(0, .ref (ga G o)), (1, .ref (ga G o1)), (2, .int v2), (3, .int b3)] []) (h : q_X3_find_72 o o1 P22 post v2 v3 s0 μ) : qV Z G 4 0 0 μ 72 [(0, .ref (ga G o)), (1, .ref (ga G o1)), (2, .int v2), (3, .int v3)] [.int s0, .ref (ga G (o + 2))] := by
  unfold q_X3_find_72 at h
  refine x_iconst C dX3_find_72 (v := 0) (by decide) ?_
  exact b_X3_find_73 C hQ hn hk_o hk_o1 hP22 h
theorem b_X3_find_22 {Z : qZ} {G : qG} {o : Nat} {o1 : Nat} {v2 : Int32} {v3 : Int32} {μ : qM} {post : Int32 → qM → Prop} (C : qX Z G RX3 cX3_find 4 ({ frames := 5, cells := 0, slots := 0, locals := 122 } : Room) (some .int)) (hQ : qQi Z G 0 0 post) (hn : 66 ≤ gn G) (hk_o : qk o = 2) (hk_o1 : qk o1 = 1) (h : q_X3_find_22 o o1 v2 post v3 μ) : qV Z G 4 0 0 μ 22 [(0, .ref (ga G o)), (1, .ref (ga G o1)), (2, .int v2), (3, .int v3)] [] := by
  refine h (fun v3 μ => qV Z G 4 0 0 μ 22 [(0, .ref (ga G o)), (1, .ref (ga G o1)), (2, .int v2), (3, .int v3)] []) (fun v3 μ h => ?_)
  refine x_iload_n C 3 dX3_find_22 rfl rfl ?_
  refine x_sipush C dX3_find_23 (v := 144) (by decide) ?_
  refine x_icmp_ge C dX3_find_26 (tgt := 80) (by decide) h (fun h => ?_) (fun h => ?_)
  · refine x_iconst C dX3_find_80 (v := 0) (by decide) ?_
    refine x_istore_n C (L' := [(3, .int ((0 : Int32))), (0, .ref (ga G o)), (1, .ref (ga G o1)), (2, .int v2)]) dX3_find_81 rfl (by decide) rfl ?_
    exact qV_sub [1, 2, 3, 0] rfl (b_X3_find_82 C hQ hn hk_o hk_o1 h)
  · refine x_aload_n C 0 dX3_find_29 rfl rfl ?_
    refine g_RX3_9 C hn hk_o dX3_find_30 ?_
    refine x_iload_n C 3 dX3_find_33 rfl rfl ?_
    refine x_aload_n C 1 dX3_find_34 rfl rfl ?_
    refine x_iload_n C 3 dX3_find_35 rfl rfl ?_
    refine i_RX3_25 (rest := [.int v3, .ref (ga G (o + 1))]) C hn hk_o1 rfl (by decide) rfl dX3_find_36 h (fun r36 μ36 h => ?_)
    refine x_zast C (o + 1) 13 144 (q_lt (qn_2_1 hk_o) rfl hn) (qn_2_1 hk_o) rfl rfl rfl rfl dX3_find_39 h (fun h => ?_)
    refine x_aload_n C 0 dX3_find_40 rfl rfl ?_
    refine g_RX3_15 C hn hk_o dX3_find_41 ?_
    refine x_iload_n C 3 dX3_find_44 rfl rfl ?_
    refine x_iload_n C 3 dX3_find_45 rfl rfl ?_
    refine x_iload_n C 2 dX3_find_46 rfl rfl ?_
    refine x_icmp_eq C dX3_find_47 (tgt := 72) (by decide) h (fun h => ?_) (fun h => ?_)
    · exact b_X3_find_72 C hQ hn hk_o hk_o1 (fun _ _ h => h) h
    · refine x_aload_n C 1 dX3_find_50 rfl rfl ?_
      refine x_iload_n C 3 dX3_find_51 rfl rfl ?_
      refine i_RX3_31 (rest := [.int v3, .ref (ga G (o + 2))]) C hn hk_o1 rfl (by decide) rfl dX3_find_52 h (fun r52 μ52 h => ?_)
      refine x_if_ne C dX3_find_55 (tgt := 72) (by decide) h (fun h => ?_) (fun h => ?_)
      · exact b_X3_find_72 C hQ hn hk_o hk_o1 (fun _ _ h => h) h
      · refine x_aload_n C 1 dX3_find_58 rfl rfl ?_
        refine x_iconst C dX3_find_59 (v := 0) (by decide) ?_
        refine x_iload_n C 3 dX3_find_60 rfl rfl ?_
        refine x_iload_n C 2 dX3_find_61 rfl rfl ?_
        refine i_RX3_34 (rest := [.int v3, .ref (ga G (o + 2))]) C hn hk_o1 rfl (by decide) rfl dX3_find_62 h (fun r62 μ62 h => ?_)
        refine x_if_eq C dX3_find_65 (tgt := 72) (by decide) h (fun h => ?_) (fun h => ?_)
        · exact b_X3_find_72 C hQ hn hk_o hk_o1 (fun _ _ h => h) h
        · refine x_iconst C dX3_find_68 (v := 1) (by decide) ?_
          refine x_goto C dX3_find_69 (tgt := 73) (by decide) ?_
          exact b_X3_find_73 C hQ hn hk_o hk_o1 (fun _ _ h => h) h
theorem y_X3_find : qY yX3_find cX3_find 4 (some .int) 2 ({ frames := 5, cells := 0, slots := 0, locals := 122 } : Room) 0 0 := ⟨(qm_25 _ (List.mem_of_getElem? (i := 17) rfl)), (qm_2 _ (List.mem_of_getElem? (i := 9) rfl)), by decide +kernel, by decide +kernel, rfl, rfl⟩
theorem c_X3_find (l : Launch) (G : qG) {o : Nat} {o1 : Nat} {v2 : Int32} {μ : qM} (hn : 66 ≤ gn G) (hk_o : qk o = 2) (hk_o1 : qk o1 = 1) : qCi l G yX3_find cX3_find 4 (some .int) ({ frames := 5, cells := 0, slots := 0, locals := 122 } : Room) 0 0 [.ref (ga G o), .ref (ga G o1), .int v2] μ (fun post => w_X3_find o o1 v2 post μ) := by
  refine qCi_of (L := [(0, .ref (ga G o)), (1, .ref (ga G o1)), (2, .int v2)]) (by decide) rfl rfl ?_
  intro Z post hl C hQ h
  have C : qX Z G RX3 cX3_find 4 ({ frames := 5, cells := 0, slots := 0, locals := 122 } : Room) (some .int) := C
  have h : w_X3_find o o1 v2 post μ := h
  unfold w_X3_find at h
  refine x_aload_n C 0 dX3_find_0 rfl rfl ?_
  refine x_iconst C dX3_find_1 (v := -1) (by decide) ?_
  refine p_RX3_18 C hn hk_o dX3_find_2 ?_
  refine x_aload_n C 0 dX3_find_5 rfl rfl ?_
  refine x_iconst C dX3_find_6 (v := -1) (by decide) ?_
  refine p_RX3_22 C hn hk_o dX3_find_7 ?_
  refine x_aload_n C 1 dX3_find_10 rfl rfl ?_
  refine x_iload_n C 2 dX3_find_11 rfl rfl ?_
  refine i_RX3_25 (rest := []) C hn hk_o1 rfl (by decide) rfl dX3_find_12 h (fun r12 μ12 h => ?_)
  refine x_if_eq C dX3_find_15 (tgt := 20) (by decide) h (fun h => ?_) (fun h => ?_)
  · refine x_iconst C dX3_find_20 (v := 0) (by decide) ?_
    refine x_istore_n C (L' := [(3, .int ((0 : Int32))), (0, .ref (ga G o)), (1, .ref (ga G o1)), (2, .int v2)]) dX3_find_21 rfl (by decide) rfl ?_
    exact qV_sub [1, 2, 3, 0] rfl (b_X3_find_22 C hQ hn hk_o hk_o1 h)
  · refine x_iconst C dX3_find_18 (v := 0) (by decide) ?_
    exact x_iret C hQ dX3_find_19 h
theorem dX4_most_0 : decode cX4_most 0 = .ok (.aload_n 0, 1) := by decide +kernel
theorem dX4_most_1 : decode cX4_most 1 = .ok (.getfield 18, 3) := by decide +kernel
theorem dX4_most_4 : decode cX4_most 4 = .ok (.ireturn, 1) := by decide +kernel
theorem g_RX4_18 {Z : qZ} {G : qG} {cc : ByteArray} {nL k n : Nat} {rm : Room} {ret : Option FieldType} {μ : qM} {pc : Nat} {L : List (Nat × Value)} {st : List Value} {o : Nat} (C : qX Z G RX4 cc nL rm ret) (hn : 66 ≤ gn G) (hk : qk o = 3) (hd : decode cc pc = .ok (.getfield 18, 3)) (h : qV Z G nL k n μ (pc + 3) L (.int (μ o 2) :: st)) : qV Z G nL k n μ pc L (.ref (ga G o) :: st) := x_geti C o 3 2 (C0 := RX4) (fn := "most") (fd := "I") (q_lt hk rfl hn) hk (by decide) rfl (by decide) rfl inlX4 (qm_4 _ (List.mem_of_getElem? (i := 22) rfl)) rfl hd h
theorem y_X4_most : qY yX4_most cX4_most 1 (some .int) 0 ({ frames := 0, cells := 0, slots := 0, locals := 0 } : Room) 0 0 := ⟨(qm_28 _ (List.mem_of_getElem? (i := 19) rfl)), (qm_2 _ (List.mem_of_getElem? (i := 13) rfl)), by decide +kernel, by decide +kernel, rfl, rfl⟩
theorem c_X4_most (l : Launch) (G : qG) {o : Nat} {μ : qM} (hn : 66 ≤ gn G) (hk_o : qk o = 3) : qCi l G yX4_most cX4_most 1 (some .int) ({ frames := 0, cells := 0, slots := 0, locals := 0 } : Room) 0 0 [.ref (ga G o)] μ (fun post => w_X4_most o post μ) := by
  refine qCi_of (L := [(0, .ref (ga G o))]) (by decide) rfl rfl ?_
  intro Z post hl C hQ h
  have C : qX Z G RX4 cX4_most 1 ({ frames := 0, cells := 0, slots := 0, locals := 0 } : Room) (some .int) := C
  have h : w_X4_most o post μ := h
  unfold w_X4_most at h
  refine x_aload_n C 0 dX4_most_0 rfl rfl ?_
  refine g_RX4_18 C hn hk_o dX4_most_1 ?_
  exact x_iret C hQ dX4_most_4 h
theorem dX4_countWith_0 : decode cX4_countWith 0 = .ok (.iconst 0, 1) := by decide +kernel
theorem dX4_countWith_1 : decode cX4_countWith 1 = .ok (.istore 4, 2) := by decide +kernel
theorem dX4_countWith_3 : decode cX4_countWith 3 = .ok (.iconst 0, 1) := by decide +kernel
theorem dX4_countWith_4 : decode cX4_countWith 4 = .ok (.istore 5, 2) := by decide +kernel
theorem dX4_countWith_6 : decode cX4_countWith 6 = .ok (.iload 5, 2) := by decide +kernel
theorem dX4_countWith_8 : decode cX4_countWith 8 = .ok (.sipush 144, 3) := by decide +kernel
theorem dX4_countWith_11 : decode cX4_countWith 11 = .ok (.if_icmp .ge 49, 3) := by decide +kernel
theorem dX4_countWith_14 : decode cX4_countWith 14 = .ok (.iload 5, 2) := by decide +kernel
theorem dX4_countWith_16 : decode cX4_countWith 16 = .ok (.iload_n 3, 1) := by decide +kernel
theorem dX4_countWith_17 : decode cX4_countWith 17 = .ok (.if_icmp .eq 37, 3) := by decide +kernel
theorem dX4_countWith_20 : decode cX4_countWith 20 = .ok (.aload_n 0, 1) := by decide +kernel
theorem dX4_countWith_21 : decode cX4_countWith 21 = .ok (.getfield 9, 3) := by decide +kernel
theorem dX4_countWith_24 : decode cX4_countWith 24 = .ok (.iload 5, 2) := by decide +kernel
theorem dX4_countWith_26 : decode cX4_countWith 26 = .ok (.baload, 1) := by decide +kernel
theorem dX4_countWith_27 : decode cX4_countWith 27 = .ok (.ifCond .ne 24, 3) := by decide +kernel
theorem dX4_countWith_30 : decode cX4_countWith 30 = .ok (.aload_n 0, 1) := by decide +kernel
theorem dX4_countWith_31 : decode cX4_countWith 31 = .ok (.getfield 15, 3) := by decide +kernel
theorem dX4_countWith_34 : decode cX4_countWith 34 = .ok (.iload 5, 2) := by decide +kernel
theorem dX4_countWith_36 : decode cX4_countWith 36 = .ok (.baload, 1) := by decide +kernel
theorem dX4_countWith_37 : decode cX4_countWith 37 = .ok (.ifCond .ne 17, 3) := by decide +kernel
theorem dX4_countWith_40 : decode cX4_countWith 40 = .ok (.aload_n 1, 1) := by decide +kernel
theorem dX4_countWith_41 : decode cX4_countWith 41 = .ok (.iload_n 2, 1) := by decide +kernel
theorem dX4_countWith_42 : decode cX4_countWith 42 = .ok (.iload_n 3, 1) := by decide +kernel
theorem dX4_countWith_43 : decode cX4_countWith 43 = .ok (.iload 5, 2) := by decide +kernel
theorem dX4_countWith_45 : decode cX4_countWith 45 = .ok (.invokevirtual 35, 3) := by decide +kernel
theorem dX4_countWith_48 : decode cX4_countWith 48 = .ok (.ifCond .eq 6, 3) := by decide +kernel
theorem dX4_countWith_51 : decode cX4_countWith 51 = .ok (.iinc 4 1, 3) := by decide +kernel
theorem dX4_countWith_54 : decode cX4_countWith 54 = .ok (.iinc 5 1, 3) := by decide +kernel
theorem dX4_countWith_57 : decode cX4_countWith 57 = .ok (.goto (-51), 3) := by decide +kernel
theorem dX4_countWith_60 : decode cX4_countWith 60 = .ok (.iload 4, 2) := by decide +kernel
theorem dX4_countWith_62 : decode cX4_countWith 62 = .ok (.ireturn, 1) := by decide +kernel
theorem i_RX4_35 {Z : qZ} {G : qG} {cc : ByteArray} {nL k n : Nat} {rm : Room} {ret : Option FieldType} {μ : qM} {pc : Nat} {L : List (Nat × Value)} {rest : List Value} {K : Int32 → qM → Prop} {o : Nat} {v1 : Int32} {v2 : Int32} {v3 : Int32} (C : qX Z G RX4 cc nL rm ret) (hn : 66 ≤ gn G) (hk_o : qk o = 1) (hR : (Nat.ble (3 + 1) rm.frames && Nat.ble (8 + (6 + 11) + 71) rm.locals) = true) (hf : k + 0 ≤ rm.cells ∧ n + 0 ≤ rm.slots) (hsz : Nat.ble (rest.map fun v => v.category).sum 8 = true) (hd : decode cc pc = .ok (.invokevirtual 35, 3)) (h : w_X1_isEvenWith o v1 v2 v3 K μ) (hk : ∀ (r : Int32) (μ1 : qM), K r μ1 → qV Z G nL k n μ1 (pc + 3) L (.int r :: rest)) : qV Z G nL k n μ pc L (.int v3 :: .int v2 :: .int v1 :: .ref (ga G o) :: rest) := x_Vi [.int v1, .int v2, .int v3] rest C o 1 (wp := fun K => w_X1_isEvenWith o v1 v2 v3 K μ) (y_X1_isEvenWith : qY yX1_isEvenWith cX1_isEvenWith 6 (some .boolean) 3 ({ frames := 3, cells := 0, slots := 0, locals := 71 } : Room) 0 0) (qm_20 _ (List.mem_of_getElem? (i := 6) rfl)) (qm_20 _ (List.mem_of_getElem? (i := 7) rfl)) (qm_27 _ (List.mem_of_getElem? (i := 22) rfl)) (c_X1_isEvenWith Z.2.1 G hn hk_o) (q_lt hk_o rfl hn) hk_o (by decide) rfl rfl hR hf rfl rfl hsz hd h hk
theorem g_RX4_9 {Z : qZ} {G : qG} {cc : ByteArray} {nL k n : Nat} {rm : Room} {ret : Option FieldType} {μ : qM} {pc : Nat} {L : List (Nat × Value)} {st : List Value} {o : Nat} (C : qX Z G RX4 cc nL rm ret) (hn : 66 ≤ gn G) (hk : qk o = 3) (hd : decode cc pc = .ok (.getfield 9, 3)) (h : qV Z G nL k n μ (pc + 3) L (.ref (ga G (o + 1)) :: st)) : qV Z G nL k n μ pc L (.ref (ga G o) :: st) := x_getr C o 3 0 1 (o + 1) (C0 := RX4) (fn := "free") (fd := "[Z") (q_lt hk rfl hn) hk (by decide) rfl (by decide) rfl inlX4 (qm_4 _ (List.mem_of_getElem? (i := 20) rfl)) rfl rfl rfl hd h
theorem g_RX4_15 {Z : qZ} {G : qG} {cc : ByteArray} {nL k n : Nat} {rm : Room} {ret : Option FieldType} {μ : qM} {pc : Nat} {L : List (Nat × Value)} {st : List Value} {o : Nat} (C : qX Z G RX4 cc nL rm ret) (hn : 66 ≤ gn G) (hk : qk o = 3) (hd : decode cc pc = .ok (.getfield 15, 3)) (h : qV Z G nL k n μ (pc + 3) L (.ref (ga G (o + 2)) :: st)) : qV Z G nL k n μ pc L (.ref (ga G o) :: st) := x_getr C o 3 1 2 (o + 2) (C0 := RX4) (fn := "stood") (fd := "[Z") (q_lt hk rfl hn) hk (by decide) rfl (by decide) rfl inlX4 (qm_4 _ (List.mem_of_getElem? (i := 21) rfl)) rfl rfl rfl hd h
theorem b_X4_countWith_54 {Z : qZ} {G : qG} {o : Nat} {o1 : Nat} {v2 : Int32} {v3 : Int32} {v4 : Int32} {v5 : Int32} {μ : qM} {P6 : Int32 → Int32 → qM → Prop} {post : Int32 → qM → Prop} (C : qX Z G RX4 cX4_countWith 6 ({ frames := 4, cells := 0, slots := 0, locals := 96 } : Room) (some .int)) (hQ : qQi Z G 0 0 post) (hn : 66 ≤ gn G) (hk_o : qk o = 3) (hk_o1 : qk o1 = 1) (hP6 : ∀ (b4 : Int32) (b5 : Int32) (μ1 : qM), P6 b4 b5 μ1 → qV Z G 6 0 0 μ1 6 [(0, .ref (ga G o)), (1, .ref (ga G o1)), (2, .int v2), (3, .int v3), (4, .int b4), (5, .int b5)] []) (h : q_X4_countWith_54 o o1 P6 post v2 v3 v4 v5 μ) : qV Z G 6 0 0 μ 54 [(0, .ref (ga G o)), (1, .ref (ga G o1)), (2, .int v2), (3, .int v3), (4, .int v4), (5, .int v5)] [] := by
  unfold q_X4_countWith_54 at h
  refine x_iinc C 5 (v := 1) (L' := [(5, .int ((v5 + 1))), (0, .ref (ga G o)), (1, .ref (ga G o1)), (2, .int v2), (3, .int v3), (4, .int v4)]) dX4_countWith_54 rfl (by decide) (by decide) rfl ?_
  refine x_goto C dX4_countWith_57 (tgt := 6) (by decide) ?_
  exact qV_sub [1, 2, 3, 4, 5, 0] rfl ((hP6 _ _ _ h))
theorem b_X4_countWith_51 {Z : qZ} {G : qG} {o : Nat} {o1 : Nat} {v2 : Int32} {v3 : Int32} {v4 : Int32} {v5 : Int32} {μ : qM} {P6 : Int32 → Int32 → qM → Prop} {post : Int32 → qM → Prop} (C : qX Z G RX4 cX4_countWith 6 ({ frames := 4, cells := 0, slots := 0, locals := 96 } : Room) (some .int)) (hQ : qQi Z G 0 0 post) (hn : 66 ≤ gn G) (hk_o : qk o = 3) (hk_o1 : qk o1 = 1) (hP6 : ∀ (b4 : Int32) (b5 : Int32) (μ1 : qM), P6 b4 b5 μ1 → qV Z G 6 0 0 μ1 6 [(0, .ref (ga G o)), (1, .ref (ga G o1)), (2, .int v2), (3, .int v3), (4, .int b4), (5, .int b5)] []) (h : q_X4_countWith_51 o o1 P6 post v2 v3 v4 v5 μ) : qV Z G 6 0 0 μ 51 [(0, .ref (ga G o)), (1, .ref (ga G o1)), (2, .int v2), (3, .int v3), (4, .int v4), (5, .int v5)] [] := by
  unfold q_X4_countWith_51 at h
  refine x_iinc C 4 (v := 1) (L' := [(4, .int ((v4 + 1))), (0, .ref (ga G o)), (1, .ref (ga G o1)), (2, .int v2), (3, .int v3), (5, .int v5)]) dX4_countWith_51 rfl (by decide) (by decide) rfl ?_
  exact qV_sub [1, 2, 3, 4, 0, 5] rfl (b_X4_countWith_54 C hQ hn hk_o hk_o1 hP6 h)
theorem b_X4_countWith_6 {Z : qZ} {G : qG} {o : Nat} {o1 : Nat} {v2 : Int32} {v3 : Int32} {v4 : Int32} {v5 : Int32} {μ : qM} {post : Int32 → qM → Prop} (C : qX Z G RX4 cX4_countWith 6 ({ frames := 4, cells := 0, slots := 0, locals := 96 } : Room) (some .int)) (hQ : qQi Z G 0 0 post) (hn : 66 ≤ gn G) (hk_o : qk o = 3) (hk_o1 : qk o1 = 1) (h : q_X4_countWith_6 o o1 v2 v3 post v4 v5 μ) : qV Z G 6 0 0 μ 6 [(0, .ref (ga G o)), (1, .ref (ga G o1)), (2, .int v2), (3, .int v3), (4, .int v4), (5, .int v5)] [] := by
  refine h (fun v4 v5 μ => qV Z G 6 0 0 μ 6 [(0, .ref (ga G o)), (1, .ref (ga G o1)), (2, .int v2), (3, .int v3), (4, .int v4), (5, .int v5)] []) (fun v4 v5 μ h => ?_)
  refine x_iload C 5 dX4_countWith_6 rfl ?_
  refine x_sipush C dX4_countWith_8 (v := 144) (by decide) ?_
  refine x_icmp_ge C dX4_countWith_11 (tgt := 60) (by decide) h (fun h => ?_) (fun h => ?_)
  · refine x_iload C 4 dX4_countWith_60 rfl ?_
    exact x_iret C hQ dX4_countWith_62 h
  · refine x_iload C 5 dX4_countWith_14 rfl ?_
    refine x_iload_n C 3 dX4_countWith_16 rfl rfl ?_
    refine x_icmp_eq C dX4_countWith_17 (tgt := 54) (by decide) h (fun h => ?_) (fun h => ?_)
    · exact b_X4_countWith_54 C hQ hn hk_o hk_o1 (fun _ _ _ h => h) h
    · refine x_aload_n C 0 dX4_countWith_20 rfl rfl ?_
      refine g_RX4_9 C hn hk_o dX4_countWith_21 ?_
      refine x_iload C 5 dX4_countWith_24 rfl ?_
      refine x_zald C (o + 1) 13 144 (q_lt (qn_3_1 hk_o) rfl hn) (qn_3_1 hk_o) rfl rfl rfl rfl dX4_countWith_26 h (fun h => ?_)
      refine x_if_ne C dX4_countWith_27 (tgt := 51) (by decide) h (fun h => ?_) (fun h => ?_)
      · exact b_X4_countWith_51 C hQ hn hk_o hk_o1 (fun _ _ _ h => h) h
      · refine x_aload_n C 0 dX4_countWith_30 rfl rfl ?_
        refine g_RX4_15 C hn hk_o dX4_countWith_31 ?_
        refine x_iload C 5 dX4_countWith_34 rfl ?_
        refine x_zald C (o + 2) 13 144 (q_lt (qn_3_2 hk_o) rfl hn) (qn_3_2 hk_o) rfl rfl rfl rfl dX4_countWith_36 h (fun h => ?_)
        refine x_if_ne C dX4_countWith_37 (tgt := 54) (by decide) h (fun h => ?_) (fun h => ?_)
        · exact b_X4_countWith_54 C hQ hn hk_o hk_o1 (fun _ _ _ h => h) h
        · refine x_aload_n C 1 dX4_countWith_40 rfl rfl ?_
          refine x_iload_n C 2 dX4_countWith_41 rfl rfl ?_
          refine x_iload_n C 3 dX4_countWith_42 rfl rfl ?_
          refine x_iload C 5 dX4_countWith_43 rfl ?_
          refine i_RX4_35 (rest := []) C hn hk_o1 rfl (by decide) rfl dX4_countWith_45 h (fun r45 μ45 h => ?_)
          refine x_if_eq C dX4_countWith_48 (tgt := 54) (by decide) h (fun h => ?_) (fun h => ?_)
          · exact b_X4_countWith_54 C hQ hn hk_o hk_o1 (fun _ _ _ h => h) h
          · exact b_X4_countWith_51 C hQ hn hk_o hk_o1 (fun _ _ _ h => h) h
theorem y_X4_countWith : qY yX4_countWith cX4_countWith 6 (some .int) 3 ({ frames := 4, cells := 0, slots := 0, locals := 96 } : Room) 0 0 := ⟨(qm_27 _ (List.mem_of_getElem? (i := 21) rfl)), (qm_2 _ (List.mem_of_getElem? (i := 13) rfl)), by decide +kernel, by decide +kernel, rfl, rfl⟩
theorem c_X4_countWith (l : Launch) (G : qG) {o : Nat} {o1 : Nat} {v2 : Int32} {v3 : Int32} {μ : qM} (hn : 66 ≤ gn G) (hk_o : qk o = 3) (hk_o1 : qk o1 = 1) : qCi l G yX4_countWith cX4_countWith 6 (some .int) ({ frames := 4, cells := 0, slots := 0, locals := 96 } : Room) 0 0 [.ref (ga G o), .ref (ga G o1), .int v2, .int v3] μ (fun post => w_X4_countWith o o1 v2 v3 post μ) := by
  refine qCi_of (L := [(0, .ref (ga G o)), (1, .ref (ga G o1)), (2, .int v2), (3, .int v3)]) (by decide) rfl rfl ?_
  intro Z post hl C hQ h
  have C : qX Z G RX4 cX4_countWith 6 ({ frames := 4, cells := 0, slots := 0, locals := 96 } : Room) (some .int) := C
  have h : w_X4_countWith o o1 v2 v3 post μ := h
  unfold w_X4_countWith at h
  refine x_iconst C dX4_countWith_0 (v := 0) (by decide) ?_
  refine x_istore C (L' := [(4, .int ((0 : Int32))), (0, .ref (ga G o)), (1, .ref (ga G o1)), (2, .int v2), (3, .int v3)]) dX4_countWith_1 (by decide) rfl ?_
  refine x_iconst C dX4_countWith_3 (v := 0) (by decide) ?_
  refine x_istore C (L' := [(5, .int ((0 : Int32))), (4, .int ((0 : Int32))), (0, .ref (ga G o)), (1, .ref (ga G o1)), (2, .int v2), (3, .int v3)]) dX4_countWith_4 (by decide) rfl ?_
  exact qV_sub [2, 3, 4, 5, 1, 0] rfl (b_X4_countWith_6 C hQ hn hk_o hk_o1 h)
theorem dX4_find_0 : decode cX4_find 0 = .ok (.iconst 0, 1) := by decide +kernel
theorem dX4_find_1 : decode cX4_find 1 = .ok (.istore_n 3, 1) := by decide +kernel
theorem dX4_find_2 : decode cX4_find 2 = .ok (.iload_n 3, 1) := by decide +kernel
theorem dX4_find_3 : decode cX4_find 3 = .ok (.sipush 144, 3) := by decide +kernel
theorem dX4_find_6 : decode cX4_find 6 = .ok (.if_icmp .ge 31, 3) := by decide +kernel
theorem dX4_find_9 : decode cX4_find 9 = .ok (.aload_n 0, 1) := by decide +kernel
theorem dX4_find_10 : decode cX4_find 10 = .ok (.getfield 9, 3) := by decide +kernel
theorem dX4_find_13 : decode cX4_find 13 = .ok (.iload_n 3, 1) := by decide +kernel
theorem dX4_find_14 : decode cX4_find 14 = .ok (.aload_n 1, 1) := by decide +kernel
theorem dX4_find_15 : decode cX4_find 15 = .ok (.iload_n 3, 1) := by decide +kernel
theorem dX4_find_16 : decode cX4_find 16 = .ok (.invokevirtual 22, 3) := by decide +kernel
theorem dX4_find_19 : decode cX4_find 19 = .ok (.bastore, 1) := by decide +kernel
theorem dX4_find_20 : decode cX4_find 20 = .ok (.aload_n 0, 1) := by decide +kernel
theorem dX4_find_21 : decode cX4_find 21 = .ok (.getfield 15, 3) := by decide +kernel
theorem dX4_find_24 : decode cX4_find 24 = .ok (.iload_n 3, 1) := by decide +kernel
theorem dX4_find_25 : decode cX4_find 25 = .ok (.aload_n 1, 1) := by decide +kernel
theorem dX4_find_26 : decode cX4_find 26 = .ok (.iload_n 3, 1) := by decide +kernel
theorem dX4_find_27 : decode cX4_find 27 = .ok (.invokevirtual 28, 3) := by decide +kernel
theorem dX4_find_30 : decode cX4_find 30 = .ok (.bastore, 1) := by decide +kernel
theorem dX4_find_31 : decode cX4_find 31 = .ok (.iinc 3 1, 3) := by decide +kernel
theorem dX4_find_34 : decode cX4_find 34 = .ok (.goto (-32), 3) := by decide +kernel
theorem dX4_find_37 : decode cX4_find 37 = .ok (.iconst (-1), 1) := by decide +kernel
theorem dX4_find_38 : decode cX4_find 38 = .ok (.istore_n 3, 1) := by decide +kernel
theorem dX4_find_39 : decode cX4_find 39 = .ok (.aload_n 0, 1) := by decide +kernel
theorem dX4_find_40 : decode cX4_find 40 = .ok (.iconst (-1), 1) := by decide +kernel
theorem dX4_find_41 : decode cX4_find 41 = .ok (.putfield 18, 3) := by decide +kernel
theorem dX4_find_44 : decode cX4_find 44 = .ok (.iconst 0, 1) := by decide +kernel
theorem dX4_find_45 : decode cX4_find 45 = .ok (.istore 4, 2) := by decide +kernel
theorem dX4_find_47 : decode cX4_find 47 = .ok (.iload 4, 2) := by decide +kernel
theorem dX4_find_49 : decode cX4_find 49 = .ok (.sipush 144, 3) := by decide +kernel
theorem dX4_find_52 : decode cX4_find 52 = .ok (.if_icmp .ge 51, 3) := by decide +kernel
theorem dX4_find_55 : decode cX4_find 55 = .ok (.aload_n 0, 1) := by decide +kernel
theorem dX4_find_56 : decode cX4_find 56 = .ok (.getfield 9, 3) := by decide +kernel
theorem dX4_find_59 : decode cX4_find 59 = .ok (.iload 4, 2) := by decide +kernel
theorem dX4_find_61 : decode cX4_find 61 = .ok (.baload, 1) := by decide +kernel
theorem dX4_find_62 : decode cX4_find 62 = .ok (.ifCond .eq 14, 3) := by decide +kernel
theorem dX4_find_65 : decode cX4_find 65 = .ok (.aload_n 0, 1) := by decide +kernel
theorem dX4_find_66 : decode cX4_find 66 = .ok (.aload_n 1, 1) := by decide +kernel
theorem dX4_find_67 : decode cX4_find 67 = .ok (.iload_n 2, 1) := by decide +kernel
theorem dX4_find_68 : decode cX4_find 68 = .ok (.iload 4, 2) := by decide +kernel
theorem dX4_find_70 : decode cX4_find 70 = .ok (.invokevirtual 31, 3) := by decide +kernel
theorem dX4_find_73 : decode cX4_find 73 = .ok (.goto 4, 3) := by decide +kernel
theorem dX4_find_76 : decode cX4_find 76 = .ok (.iconst (-1), 1) := by decide +kernel
theorem dX4_find_77 : decode cX4_find 77 = .ok (.istore 5, 2) := by decide +kernel
theorem dX4_find_79 : decode cX4_find 79 = .ok (.iload 5, 2) := by decide +kernel
theorem dX4_find_81 : decode cX4_find 81 = .ok (.aload_n 0, 1) := by decide +kernel
theorem dX4_find_82 : decode cX4_find 82 = .ok (.getfield 18, 3) := by decide +kernel
theorem dX4_find_85 : decode cX4_find 85 = .ok (.if_icmp .le 12, 3) := by decide +kernel
theorem dX4_find_88 : decode cX4_find 88 = .ok (.iload 4, 2) := by decide +kernel
theorem dX4_find_90 : decode cX4_find 90 = .ok (.istore_n 3, 1) := by decide +kernel
theorem dX4_find_91 : decode cX4_find 91 = .ok (.aload_n 0, 1) := by decide +kernel
theorem dX4_find_92 : decode cX4_find 92 = .ok (.iload 5, 2) := by decide +kernel
theorem dX4_find_94 : decode cX4_find 94 = .ok (.putfield 18, 3) := by decide +kernel
theorem dX4_find_97 : decode cX4_find 97 = .ok (.iinc 4 1, 3) := by decide +kernel
theorem dX4_find_100 : decode cX4_find 100 = .ok (.goto (-53), 3) := by decide +kernel
theorem dX4_find_103 : decode cX4_find 103 = .ok (.iload_n 3, 1) := by decide +kernel
theorem dX4_find_104 : decode cX4_find 104 = .ok (.ireturn, 1) := by decide +kernel
theorem i_RX4_22 {Z : qZ} {G : qG} {cc : ByteArray} {nL k n : Nat} {rm : Room} {ret : Option FieldType} {μ : qM} {pc : Nat} {L : List (Nat × Value)} {rest : List Value} {K : Int32 → qM → Prop} {o : Nat} {v1 : Int32} (C : qX Z G RX4 cc nL rm ret) (hn : 66 ≤ gn G) (hk_o : qk o = 1) (hR : (Nat.ble (4 + 1) rm.frames && Nat.ble (8 + (2 + 11) + 97) rm.locals) = true) (hf : k + 0 ≤ rm.cells ∧ n + 0 ≤ rm.slots) (hsz : Nat.ble (rest.map fun v => v.category).sum 8 = true) (hd : decode cc pc = .ok (.invokevirtual 22, 3)) (h : w_X1_isFree o v1 K μ) (hk : ∀ (r : Int32) (μ1 : qM), K r μ1 → qV Z G nL k n μ1 (pc + 3) L (.int r :: rest)) : qV Z G nL k n μ pc L (.int v1 :: .ref (ga G o) :: rest) := x_Vi [.int v1] rest C o 1 (wp := fun K => w_X1_isFree o v1 K μ) (y_X1_isFree : qY yX1_isFree cX1_isFree 2 (some .boolean) 1 ({ frames := 4, cells := 0, slots := 0, locals := 97 } : Room) 0 0) (qm_10 _ (List.mem_of_getElem? (i := 0) rfl)) (qm_10 _ (List.mem_of_getElem? (i := 1) rfl)) (qm_27 _ (List.mem_of_getElem? (i := 16) rfl)) (c_X1_isFree Z.2.1 G hn hk_o) (q_lt hk_o rfl hn) hk_o (by decide) rfl rfl hR hf rfl rfl hsz hd h hk
theorem i_RX4_28 {Z : qZ} {G : qG} {cc : ByteArray} {nL k n : Nat} {rm : Room} {ret : Option FieldType} {μ : qM} {pc : Nat} {L : List (Nat × Value)} {rest : List Value} {K : Int32 → qM → Prop} {o : Nat} {v1 : Int32} (C : qX Z G RX4 cc nL rm ret) (hn : 66 ≤ gn G) (hk_o : qk o = 1) (hR : (Nat.ble (0 + 1) rm.frames && Nat.ble (8 + (3 + 11) + 0) rm.locals) = true) (hf : k + 0 ≤ rm.cells ∧ n + 0 ≤ rm.slots) (hsz : Nat.ble (rest.map fun v => v.category).sum 8 = true) (hd : decode cc pc = .ok (.invokevirtual 28, 3)) (h : w_X1_stands o v1 K μ) (hk : ∀ (r : Int32) (μ1 : qM), K r μ1 → qV Z G nL k n μ1 (pc + 3) L (.int r :: rest)) : qV Z G nL k n μ pc L (.int v1 :: .ref (ga G o) :: rest) := x_Vi [.int v1] rest C o 1 (wp := fun K => w_X1_stands o v1 K μ) (y_X1_stands : qY yX1_stands cX1_stands 3 (some .boolean) 1 ({ frames := 0, cells := 0, slots := 0, locals := 0 } : Room) 0 0) (qm_7 _ (List.mem_of_getElem? (i := 16) rfl)) (qm_7 _ (List.mem_of_getElem? (i := 17) rfl)) (qm_27 _ (List.mem_of_getElem? (i := 17) rfl)) (c_X1_stands Z.2.1 G hn hk_o) (q_lt hk_o rfl hn) hk_o (by decide) rfl rfl hR hf rfl rfl hsz hd h hk
theorem i_RX4_31 {Z : qZ} {G : qG} {cc : ByteArray} {nL k n : Nat} {rm : Room} {ret : Option FieldType} {μ : qM} {pc : Nat} {L : List (Nat × Value)} {rest : List Value} {K : Int32 → qM → Prop} {o : Nat} {o1 : Nat} {v2 : Int32} {v3 : Int32} (C : qX Z G RX4 cc nL rm ret) (hn : 66 ≤ gn G) (hk_o : qk o = 3) (hk_o1 : qk o1 = 1) (hR : (Nat.ble (4 + 1) rm.frames && Nat.ble (8 + (6 + 11) + 96) rm.locals) = true) (hf : k + 0 ≤ rm.cells ∧ n + 0 ≤ rm.slots) (hsz : Nat.ble (rest.map fun v => v.category).sum 8 = true) (hd : decode cc pc = .ok (.invokevirtual 31, 3)) (h : w_X4_countWith o o1 v2 v3 K μ) (hk : ∀ (r : Int32) (μ1 : qM), K r μ1 → qV Z G nL k n μ1 (pc + 3) L (.int r :: rest)) : qV Z G nL k n μ pc L (.int v3 :: .int v2 :: .ref (ga G o1) :: .ref (ga G o) :: rest) := x_Vi [.ref (ga G o1), .int v2, .int v3] rest C o 3 (wp := fun K => w_X4_countWith o o1 v2 v3 K μ) (y_X4_countWith : qY yX4_countWith cX4_countWith 6 (some .int) 3 ({ frames := 4, cells := 0, slots := 0, locals := 96 } : Room) 0 0) (qm_27 _ (List.mem_of_getElem? (i := 19) rfl)) (qm_27 _ (List.mem_of_getElem? (i := 20) rfl)) (qm_27 _ (List.mem_of_getElem? (i := 18) rfl)) (c_X4_countWith Z.2.1 G hn hk_o hk_o1) (q_lt hk_o rfl hn) hk_o (by decide) rfl rfl hR hf rfl rfl hsz hd h hk
theorem p_RX4_18 {Z : qZ} {G : qG} {cc : ByteArray} {nL k n : Nat} {rm : Room} {ret : Option FieldType} {μ : qM} {pc : Nat} {L : List (Nat × Value)} {st : List Value} {x : Int32} {o : Nat} (C : qX Z G RX4 cc nL rm ret) (hn : 66 ≤ gn G) (hk : qk o = 3) (hd : decode cc pc = .ok (.putfield 18, 3)) (h : qV Z G nL k n (qu μ o 2 x) (pc + 3) L st) : qV Z G nL k n μ pc L (.int x :: .ref (ga G o) :: st) := x_puti C o 3 2 (C0 := RX4) (fn := "most") (fd := "I") (ty := .int) (q_lt hk rfl hn) hk (by decide) rfl (by decide) rfl inlX4 tyX4_ok nmX4 (qm_4 _ (List.mem_of_getElem? (i := 22) rfl)) rfl (by decide +kernel) rfl rfl hd h
theorem b_X4_find_97 {Z : qZ} {G : qG} {o : Nat} {o1 : Nat} {v2 : Int32} {v3 : Int32} {v4 : Int32} {μ : qM} {P47 : Int32 → Int32 → qM → Prop} {post : Int32 → qM → Prop} (C : qX Z G RX4 cX4_find 6 ({ frames := 5, cells := 0, slots := 0, locals := 121 } : Room) (some .int)) (hQ : qQi Z G 0 0 post) (hn : 66 ≤ gn G) (hk_o : qk o = 3) (hk_o1 : qk o1 = 1) (hP47 : ∀ (b3 : Int32) (b4 : Int32) (μ1 : qM), P47 b3 b4 μ1 → qV Z G 6 0 0 μ1 47 [(0, .ref (ga G o)), (1, .ref (ga G o1)), (2, .int v2), (3, .int b3), (4, .int b4)] []) (h : q_X4_find_97 o o1 P47 post v2 v3 v4 μ) : qV Z G 6 0 0 μ 97 [(0, .ref (ga G o)), (1, .ref (ga G o1)), (2, .int v2), (3, .int v3), (4, .int v4)] [] := by
  unfold q_X4_find_97 at h
  refine x_iinc C 4 (v := 1) (L' := [(4, .int ((v4 + 1))), (0, .ref (ga G o)), (1, .ref (ga G o1)), (2, .int v2), (3, .int v3)]) dX4_find_97 rfl (by decide) (by decide) rfl ?_
  refine x_goto C dX4_find_100 (tgt := 47) (by decide) ?_
  exact qV_sub [1, 2, 3, 4, 0] rfl ((hP47 _ _ _ h))
theorem b_X4_find_77 {Z : qZ} {G : qG} {o : Nat} {o1 : Nat} {v2 : Int32} {v3 : Int32} {v4 : Int32} {s0 : Int32} {μ : qM} {P47 : Int32 → Int32 → qM → Prop} {post : Int32 → qM → Prop} (C : qX Z G RX4 cX4_find 6 ({ frames := 5, cells := 0, slots := 0, locals := 121 } : Room) (some .int)) (hQ : qQi Z G 0 0 post) (hn : 66 ≤ gn G) (hk_o : qk o = 3) (hk_o1 : qk o1 = 1) (hP47 : ∀ (b3 : Int32) (b4 : Int32) (μ1 : qM), P47 b3 b4 μ1 → qV Z G 6 0 0 μ1 47 [(0, .ref (ga G o)), (1, .ref (ga G o1)), (2, .int v2), (3, .int b3), (4, .int b4)] []) (h : q_X4_find_77 o o1 P47 post v2 v3 v4 s0 μ) : qV Z G 6 0 0 μ 77 [(0, .ref (ga G o)), (1, .ref (ga G o1)), (2, .int v2), (3, .int v3), (4, .int v4)] [.int s0] := by
  unfold q_X4_find_77 at h
  refine x_istore C (L' := [(5, .int s0), (0, .ref (ga G o)), (1, .ref (ga G o1)), (2, .int v2), (3, .int v3), (4, .int v4)]) dX4_find_77 (by decide) rfl ?_
  refine x_iload C 0 dX4_find_79 rfl ?_
  refine x_aload_n C 1 dX4_find_81 rfl rfl ?_
  refine g_RX4_18 C hn hk_o dX4_find_82 ?_
  refine x_icmp_le C dX4_find_85 (tgt := 97) (by decide) h (fun h => ?_) (fun h => ?_)
  · exact qV_sub [1, 2, 3, 4, 5] rfl (b_X4_find_97 C hQ hn hk_o hk_o1 hP47 h)
  · refine x_iload C 5 dX4_find_88 rfl ?_
    refine x_istore_n C (L' := [(3, .int v4), (5, .int s0), (0, .ref (ga G o)), (1, .ref (ga G o1)), (2, .int v2), (4, .int v4)]) dX4_find_90 rfl (by decide) rfl ?_
    refine x_aload_n C 2 dX4_find_91 rfl rfl ?_
    refine x_iload C 1 dX4_find_92 rfl ?_
    refine p_RX4_18 C hn hk_o dX4_find_94 ?_
    exact qV_sub [2, 3, 4, 0, 5] rfl (b_X4_find_97 C hQ hn hk_o hk_o1 hP47 h)
theorem b_X4_find_47 {Z : qZ} {G : qG} {o : Nat} {o1 : Nat} {v2 : Int32} {v3 : Int32} {v4 : Int32} {μ : qM} {post : Int32 → qM → Prop} (C : qX Z G RX4 cX4_find 6 ({ frames := 5, cells := 0, slots := 0, locals := 121 } : Room) (some .int)) (hQ : qQi Z G 0 0 post) (hn : 66 ≤ gn G) (hk_o : qk o = 3) (hk_o1 : qk o1 = 1) (h : q_X4_find_47 o o1 v2 post v3 v4 μ) : qV Z G 6 0 0 μ 47 [(0, .ref (ga G o)), (1, .ref (ga G o1)), (2, .int v2), (3, .int v3), (4, .int v4)] [] := by
  refine h (fun v3 v4 μ => qV Z G 6 0 0 μ 47 [(0, .ref (ga G o)), (1, .ref (ga G o1)), (2, .int v2), (3, .int v3), (4, .int v4)] []) (fun v3 v4 μ h => ?_)
  refine x_iload C 4 dX4_find_47 rfl ?_
  refine x_sipush C dX4_find_49 (v := 144) (by decide) ?_
  refine x_icmp_ge C dX4_find_52 (tgt := 103) (by decide) h (fun h => ?_) (fun h => ?_)
  · refine x_iload_n C 3 dX4_find_103 rfl rfl ?_
    exact x_iret C hQ dX4_find_104 h
  · refine x_aload_n C 0 dX4_find_55 rfl rfl ?_
    refine g_RX4_9 C hn hk_o dX4_find_56 ?_
    refine x_iload C 4 dX4_find_59 rfl ?_
    refine x_zald C (o + 1) 13 144 (q_lt (qn_3_1 hk_o) rfl hn) (qn_3_1 hk_o) rfl rfl rfl rfl dX4_find_61 h (fun h => ?_)
    refine x_if_eq C dX4_find_62 (tgt := 76) (by decide) h (fun h => ?_) (fun h => ?_)
    · refine x_iconst C dX4_find_76 (v := -1) (by decide) ?_
      exact b_X4_find_77 C hQ hn hk_o hk_o1 (fun _ _ _ h => h) h
    · refine x_aload_n C 0 dX4_find_65 rfl rfl ?_
      refine x_aload_n C 1 dX4_find_66 rfl rfl ?_
      refine x_iload_n C 2 dX4_find_67 rfl rfl ?_
      refine x_iload C 4 dX4_find_68 rfl ?_
      refine i_RX4_31 (rest := []) C hn hk_o hk_o1 rfl (by decide) rfl dX4_find_70 h (fun r70 μ70 h => ?_)
      refine x_goto C dX4_find_73 (tgt := 77) (by decide) ?_
      exact b_X4_find_77 C hQ hn hk_o hk_o1 (fun _ _ _ h => h) h
theorem b_X4_find_2 {Z : qZ} {G : qG} {o : Nat} {o1 : Nat} {v2 : Int32} {v3 : Int32} {μ : qM} {post : Int32 → qM → Prop} (C : qX Z G RX4 cX4_find 6 ({ frames := 5, cells := 0, slots := 0, locals := 121 } : Room) (some .int)) (hQ : qQi Z G 0 0 post) (hn : 66 ≤ gn G) (hk_o : qk o = 3) (hk_o1 : qk o1 = 1) (h : q_X4_find_2 o o1 v2 post v3 μ) : qV Z G 6 0 0 μ 2 [(0, .ref (ga G o)), (1, .ref (ga G o1)), (2, .int v2), (3, .int v3)] [] := by
  refine h (fun v3 μ => qV Z G 6 0 0 μ 2 [(0, .ref (ga G o)), (1, .ref (ga G o1)), (2, .int v2), (3, .int v3)] []) (fun v3 μ h => ?_)
  refine x_iload_n C 3 dX4_find_2 rfl rfl ?_
  refine x_sipush C dX4_find_3 (v := 144) (by decide) ?_
  refine x_icmp_ge C dX4_find_6 (tgt := 37) (by decide) h (fun h => ?_) (fun h => ?_)
  · refine x_iconst C dX4_find_37 (v := -1) (by decide) ?_
    refine x_istore_n C (L' := [(3, .int ((-1 : Int32))), (0, .ref (ga G o)), (1, .ref (ga G o1)), (2, .int v2)]) dX4_find_38 rfl (by decide) rfl ?_
    refine x_aload_n C 1 dX4_find_39 rfl rfl ?_
    refine x_iconst C dX4_find_40 (v := -1) (by decide) ?_
    refine p_RX4_18 C hn hk_o dX4_find_41 ?_
    refine x_iconst C dX4_find_44 (v := 0) (by decide) ?_
    refine x_istore C (L' := [(4, .int ((0 : Int32))), (3, .int ((-1 : Int32))), (0, .ref (ga G o)), (1, .ref (ga G o1)), (2, .int v2)]) dX4_find_45 (by decide) rfl ?_
    exact qV_sub [2, 3, 4, 1, 0] rfl (b_X4_find_47 C hQ hn hk_o hk_o1 h)
  · refine x_aload_n C 0 dX4_find_9 rfl rfl ?_
    refine g_RX4_9 C hn hk_o dX4_find_10 ?_
    refine x_iload_n C 3 dX4_find_13 rfl rfl ?_
    refine x_aload_n C 1 dX4_find_14 rfl rfl ?_
    refine x_iload_n C 3 dX4_find_15 rfl rfl ?_
    refine i_RX4_22 (rest := [.int v3, .ref (ga G (o + 1))]) C hn hk_o1 rfl (by decide) rfl dX4_find_16 h (fun r16 μ16 h => ?_)
    refine x_zast C (o + 1) 13 144 (q_lt (qn_3_1 hk_o) rfl hn) (qn_3_1 hk_o) rfl rfl rfl rfl dX4_find_19 h (fun h => ?_)
    refine x_aload_n C 0 dX4_find_20 rfl rfl ?_
    refine g_RX4_15 C hn hk_o dX4_find_21 ?_
    refine x_iload_n C 3 dX4_find_24 rfl rfl ?_
    refine x_aload_n C 1 dX4_find_25 rfl rfl ?_
    refine x_iload_n C 3 dX4_find_26 rfl rfl ?_
    refine i_RX4_28 (rest := [.int v3, .ref (ga G (o + 2))]) C hn hk_o1 rfl (by decide) rfl dX4_find_27 h (fun r27 μ27 h => ?_)
    refine x_zast C (o + 2) 13 144 (q_lt (qn_3_2 hk_o) rfl hn) (qn_3_2 hk_o) rfl rfl rfl rfl dX4_find_30 h (fun h => ?_)
    refine x_iinc C 3 (v := 1) (L' := [(3, .int ((v3 + 1))), (0, .ref (ga G o)), (1, .ref (ga G o1)), (2, .int v2)]) dX4_find_31 rfl (by decide) (by decide) rfl ?_
    refine x_goto C dX4_find_34 (tgt := 2) (by decide) ?_
    exact qV_sub [1, 2, 3, 0] rfl (h)
theorem y_X4_find : qY yX4_find cX4_find 6 (some .int) 2 ({ frames := 5, cells := 0, slots := 0, locals := 121 } : Room) 0 0 := ⟨(qm_27 _ (List.mem_of_getElem? (i := 15) rfl)), (qm_2 _ (List.mem_of_getElem? (i := 13) rfl)), by decide +kernel, by decide +kernel, rfl, rfl⟩
theorem c_X4_find (l : Launch) (G : qG) {o : Nat} {o1 : Nat} {v2 : Int32} {μ : qM} (hn : 66 ≤ gn G) (hk_o : qk o = 3) (hk_o1 : qk o1 = 1) : qCi l G yX4_find cX4_find 6 (some .int) ({ frames := 5, cells := 0, slots := 0, locals := 121 } : Room) 0 0 [.ref (ga G o), .ref (ga G o1), .int v2] μ (fun post => w_X4_find o o1 v2 post μ) := by
  refine qCi_of (L := [(0, .ref (ga G o)), (1, .ref (ga G o1)), (2, .int v2)]) (by decide) rfl rfl ?_
  intro Z post hl C hQ h
  have C : qX Z G RX4 cX4_find 6 ({ frames := 5, cells := 0, slots := 0, locals := 121 } : Room) (some .int) := C
  have h : w_X4_find o o1 v2 post μ := h
  unfold w_X4_find at h
  refine x_iconst C dX4_find_0 (v := 0) (by decide) ?_
  refine x_istore_n C (L' := [(3, .int ((0 : Int32))), (0, .ref (ga G o)), (1, .ref (ga G o1)), (2, .int v2)]) dX4_find_1 rfl (by decide) rfl ?_
  exact qV_sub [1, 2, 3, 0] rfl (b_X4_find_2 C hQ hn hk_o hk_o1 h)
theorem dX7_isHad_0 : decode cX7_isHad 0 = .ok (.iload_n 1, 1) := by decide +kernel
theorem dX7_isHad_1 : decode cX7_isHad 1 = .ok (.ifCond .lt 23, 3) := by decide +kernel
theorem dX7_isHad_4 : decode cX7_isHad 4 = .ok (.iload_n 1, 1) := by decide +kernel
theorem dX7_isHad_5 : decode cX7_isHad 5 = .ok (.sipush 144, 3) := by decide +kernel
theorem dX7_isHad_8 : decode cX7_isHad 8 = .ok (.if_icmp .ge 16, 3) := by decide +kernel
theorem dX7_isHad_11 : decode cX7_isHad 11 = .ok (.aload_n 0, 1) := by decide +kernel
theorem dX7_isHad_12 : decode cX7_isHad 12 = .ok (.getfield 9, 3) := by decide +kernel
theorem dX7_isHad_15 : decode cX7_isHad 15 = .ok (.iload_n 1, 1) := by decide +kernel
theorem dX7_isHad_16 : decode cX7_isHad 16 = .ok (.baload, 1) := by decide +kernel
theorem dX7_isHad_17 : decode cX7_isHad 17 = .ok (.ifCond .eq 7, 3) := by decide +kernel
theorem dX7_isHad_20 : decode cX7_isHad 20 = .ok (.iconst 1, 1) := by decide +kernel
theorem dX7_isHad_21 : decode cX7_isHad 21 = .ok (.goto 4, 3) := by decide +kernel
theorem dX7_isHad_24 : decode cX7_isHad 24 = .ok (.iconst 0, 1) := by decide +kernel
theorem dX7_isHad_25 : decode cX7_isHad 25 = .ok (.ireturn, 1) := by decide +kernel
theorem g_RX7_9 {Z : qZ} {G : qG} {cc : ByteArray} {nL k n : Nat} {rm : Room} {ret : Option FieldType} {μ : qM} {pc : Nat} {L : List (Nat × Value)} {st : List Value} {o : Nat} (C : qX Z G RX7 cc nL rm ret) (hn : 66 ≤ gn G) (hk : qk o = 6) (hd : decode cc pc = .ok (.getfield 9, 3)) (h : qV Z G nL k n μ (pc + 3) L (.ref (ga G (o + 1)) :: st)) : qV Z G nL k n μ pc L (.ref (ga G o) :: st) := x_getr C o 6 0 1 (o + 1) (C0 := RX7) (fn := "had") (fd := "[Z") (q_lt hk rfl hn) hk (by decide) rfl (by decide) rfl inlX7 (qm_4 _ (List.mem_of_getElem? (i := 7) rfl)) rfl rfl rfl hd h
theorem b_X7_isHad_24 {Z : qZ} {G : qG} {o : Nat} {μ : qM} {post : Int32 → qM → Prop} (C : qX Z G RX7 cX7_isHad 2 ({ frames := 0, cells := 0, slots := 0, locals := 0 } : Room) (some .boolean)) (hQ : qQi Z G 0 0 post) (hn : 66 ≤ gn G) (hk_o : qk o = 6) (h : q_X7_isHad_24 o post μ) : qV Z G 2 0 0 μ 24 [] [] := by
  unfold q_X7_isHad_24 at h
  refine x_iconst C dX7_isHad_24 (v := 0) (by decide) ?_
  exact x_zret C hQ dX7_isHad_25 h
theorem y_X7_isHad : qY yX7_isHad cX7_isHad 2 (some .boolean) 1 ({ frames := 0, cells := 0, slots := 0, locals := 0 } : Room) 0 0 := ⟨(qm_21 _ (List.mem_of_getElem? (i := 8) rfl)), (qm_2 _ (List.mem_of_getElem? (i := 5) rfl)), by decide +kernel, by decide +kernel, rfl, rfl⟩
theorem c_X7_isHad (l : Launch) (G : qG) {o : Nat} {v1 : Int32} {μ : qM} (hn : 66 ≤ gn G) (hk_o : qk o = 6) : qCi l G yX7_isHad cX7_isHad 2 (some .boolean) ({ frames := 0, cells := 0, slots := 0, locals := 0 } : Room) 0 0 [.ref (ga G o), .int v1] μ (fun post => w_X7_isHad o v1 post μ) := by
  refine qCi_of (L := [(0, .ref (ga G o)), (1, .int v1)]) (by decide) rfl rfl ?_
  intro Z post hl C hQ h
  have C : qX Z G RX7 cX7_isHad 2 ({ frames := 0, cells := 0, slots := 0, locals := 0 } : Room) (some .boolean) := C
  have h : w_X7_isHad o v1 post μ := h
  unfold w_X7_isHad at h
  refine x_iload_n C 1 dX7_isHad_0 rfl rfl ?_
  refine x_if_lt C dX7_isHad_1 (tgt := 24) (by decide) h (fun h => ?_) (fun h => ?_)
  · exact qV_sub [] rfl (b_X7_isHad_24 C hQ hn hk_o h)
  · refine x_iload_n C 1 dX7_isHad_4 rfl rfl ?_
    refine x_sipush C dX7_isHad_5 (v := 144) (by decide) ?_
    refine x_icmp_ge C dX7_isHad_8 (tgt := 24) (by decide) h (fun h => ?_) (fun h => ?_)
    · exact qV_sub [] rfl (b_X7_isHad_24 C hQ hn hk_o h)
    · refine x_aload_n C 0 dX7_isHad_11 rfl rfl ?_
      refine g_RX7_9 C hn hk_o dX7_isHad_12 ?_
      refine x_iload_n C 1 dX7_isHad_15 rfl rfl ?_
      refine x_zald C (o + 1) 13 144 (q_lt (qn_6_1 hk_o) rfl hn) (qn_6_1 hk_o) rfl rfl rfl rfl dX7_isHad_16 h (fun h => ?_)
      refine x_if_eq C dX7_isHad_17 (tgt := 24) (by decide) h (fun h => ?_) (fun h => ?_)
      · exact qV_sub [] rfl (b_X7_isHad_24 C hQ hn hk_o h)
      · refine x_iconst C dX7_isHad_20 (v := 1) (by decide) ?_
        refine x_goto C dX7_isHad_21 (tgt := 25) (by decide) ?_
        exact x_zret C hQ dX7_isHad_25 h
theorem dX7_add_0 : decode cX7_add 0 = .ok (.aload_n 0, 1) := by decide +kernel
theorem dX7_add_1 : decode cX7_add 1 = .ok (.getfield 19, 3) := by decide +kernel
theorem dX7_add_4 : decode cX7_add 4 = .ok (.sipush 144, 3) := by decide +kernel
theorem dX7_add_7 : decode cX7_add 7 = .ok (.if_icmp .ge 30, 3) := by decide +kernel
theorem dX7_add_10 : decode cX7_add 10 = .ok (.aload_n 0, 1) := by decide +kernel
theorem dX7_add_11 : decode cX7_add 11 = .ok (.getfield 9, 3) := by decide +kernel
theorem dX7_add_14 : decode cX7_add 14 = .ok (.iload_n 1, 1) := by decide +kernel
theorem dX7_add_15 : decode cX7_add 15 = .ok (.iconst 1, 1) := by decide +kernel
theorem dX7_add_16 : decode cX7_add 16 = .ok (.bastore, 1) := by decide +kernel
theorem dX7_add_17 : decode cX7_add 17 = .ok (.aload_n 0, 1) := by decide +kernel
theorem dX7_add_18 : decode cX7_add 18 = .ok (.getfield 15, 3) := by decide +kernel
theorem dX7_add_21 : decode cX7_add 21 = .ok (.aload_n 0, 1) := by decide +kernel
theorem dX7_add_22 : decode cX7_add 22 = .ok (.getfield 19, 3) := by decide +kernel
theorem dX7_add_25 : decode cX7_add 25 = .ok (.iload_n 1, 1) := by decide +kernel
theorem dX7_add_26 : decode cX7_add 26 = .ok (.iastore, 1) := by decide +kernel
theorem dX7_add_27 : decode cX7_add 27 = .ok (.aload_n 0, 1) := by decide +kernel
theorem dX7_add_28 : decode cX7_add 28 = .ok (.dup, 1) := by decide +kernel
theorem dX7_add_29 : decode cX7_add 29 = .ok (.getfield 19, 3) := by decide +kernel
theorem dX7_add_32 : decode cX7_add 32 = .ok (.iconst 1, 1) := by decide +kernel
theorem dX7_add_33 : decode cX7_add 33 = .ok (.iadd, 1) := by decide +kernel
theorem dX7_add_34 : decode cX7_add 34 = .ok (.putfield 19, 3) := by decide +kernel
theorem dX7_add_37 : decode cX7_add 37 = .ok (.return_, 1) := by decide +kernel
theorem g_RX7_15 {Z : qZ} {G : qG} {cc : ByteArray} {nL k n : Nat} {rm : Room} {ret : Option FieldType} {μ : qM} {pc : Nat} {L : List (Nat × Value)} {st : List Value} {o : Nat} (C : qX Z G RX7 cc nL rm ret) (hn : 66 ≤ gn G) (hk : qk o = 6) (hd : decode cc pc = .ok (.getfield 15, 3)) (h : qV Z G nL k n μ (pc + 3) L (.ref (ga G (o + 2)) :: st)) : qV Z G nL k n μ pc L (.ref (ga G o) :: st) := x_getr C o 6 1 2 (o + 2) (C0 := RX7) (fn := "putUp") (fd := "[I") (q_lt hk rfl hn) hk (by decide) rfl (by decide) rfl inlX7 (qm_4 _ (List.mem_of_getElem? (i := 8) rfl)) rfl rfl rfl hd h
theorem g_RX7_19 {Z : qZ} {G : qG} {cc : ByteArray} {nL k n : Nat} {rm : Room} {ret : Option FieldType} {μ : qM} {pc : Nat} {L : List (Nat × Value)} {st : List Value} {o : Nat} (C : qX Z G RX7 cc nL rm ret) (hn : 66 ≤ gn G) (hk : qk o = 6) (hd : decode cc pc = .ok (.getfield 19, 3)) (h : qV Z G nL k n μ (pc + 3) L (.int (μ o 2) :: st)) : qV Z G nL k n μ pc L (.ref (ga G o) :: st) := x_geti C o 6 2 (C0 := RX7) (fn := "size") (fd := "I") (q_lt hk rfl hn) hk (by decide) rfl (by decide) rfl inlX7 (qm_4 _ (List.mem_of_getElem? (i := 9) rfl)) rfl hd h
theorem p_RX7_19 {Z : qZ} {G : qG} {cc : ByteArray} {nL k n : Nat} {rm : Room} {ret : Option FieldType} {μ : qM} {pc : Nat} {L : List (Nat × Value)} {st : List Value} {x : Int32} {o : Nat} (C : qX Z G RX7 cc nL rm ret) (hn : 66 ≤ gn G) (hk : qk o = 6) (hd : decode cc pc = .ok (.putfield 19, 3)) (h : qV Z G nL k n (qu μ o 2 x) (pc + 3) L st) : qV Z G nL k n μ pc L (.int x :: .ref (ga G o) :: st) := x_puti C o 6 2 (C0 := RX7) (fn := "size") (fd := "I") (ty := .int) (q_lt hk rfl hn) hk (by decide) rfl (by decide) rfl inlX7 tyX7_ok nmX7 (qm_4 _ (List.mem_of_getElem? (i := 9) rfl)) rfl (by decide +kernel) rfl rfl hd h
theorem y_X7_add : qY yX7_add cX7_add 2 none 1 ({ frames := 0, cells := 0, slots := 0, locals := 0 } : Room) 0 0 := ⟨(qm_19 _ (List.mem_of_getElem? (i := 22) rfl)), (qm_2 _ (List.mem_of_getElem? (i := 5) rfl)), by decide +kernel, by decide +kernel, rfl, rfl⟩
theorem c_X7_add (l : Launch) (G : qG) {o : Nat} {v1 : Int32} {μ : qM} (hn : 66 ≤ gn G) (hk_o : qk o = 6) : qCv l G yX7_add cX7_add 2 none ({ frames := 0, cells := 0, slots := 0, locals := 0 } : Room) 0 0 [.ref (ga G o), .int v1] μ (fun post => w_X7_add o v1 post μ) := by
  refine qCv_of (L := [(0, .ref (ga G o)), (1, .int v1)]) (by decide) rfl rfl ?_
  intro Z post hl C hQ h
  have C : qX Z G RX7 cX7_add 2 ({ frames := 0, cells := 0, slots := 0, locals := 0 } : Room) none := C
  have h : w_X7_add o v1 post μ := h
  unfold w_X7_add at h
  refine x_aload_n C 0 dX7_add_0 rfl rfl ?_
  refine g_RX7_19 C hn hk_o dX7_add_1 ?_
  refine x_sipush C dX7_add_4 (v := 144) (by decide) ?_
  refine x_icmp_ge C dX7_add_7 (tgt := 37) (by decide) h (fun h => ?_) (fun h => ?_)
  · exact x_vret C hQ dX7_add_37 h
  · refine x_aload_n C 0 dX7_add_10 rfl rfl ?_
    refine g_RX7_9 C hn hk_o dX7_add_11 ?_
    refine x_iload_n C 1 dX7_add_14 rfl rfl ?_
    refine x_iconst C dX7_add_15 (v := 1) (by decide) ?_
    refine x_zast C (o + 1) 13 144 (q_lt (qn_6_1 hk_o) rfl hn) (qn_6_1 hk_o) rfl rfl rfl rfl dX7_add_16 h (fun h => ?_)
    refine x_aload_n C 0 dX7_add_17 rfl rfl ?_
    refine g_RX7_15 C hn hk_o dX7_add_18 ?_
    refine x_aload_n C 0 dX7_add_21 rfl rfl ?_
    refine g_RX7_19 C hn hk_o dX7_add_22 ?_
    refine x_iload_n C 1 dX7_add_25 rfl rfl ?_
    refine x_iast C (o + 2) 12 144 (q_lt (qn_6_2 hk_o) rfl hn) (qn_6_2 hk_o) rfl rfl rfl rfl dX7_add_26 h (fun h => ?_)
    refine x_aload_n C 0 dX7_add_27 rfl rfl ?_
    refine x_dup C dX7_add_28 rfl ?_
    refine g_RX7_19 C hn hk_o dX7_add_29 ?_
    refine x_iconst C dX7_add_32 (v := 1) (by decide) ?_
    refine x_iadd C dX7_add_33 ?_
    refine p_RX7_19 C hn hk_o dX7_add_34 ?_
    exact x_vret C hQ dX7_add_37 h
theorem dX7_isOpenedBy_0 : decode cX7_isOpenedBy 0 = .ok (.iconst 0, 1) := by decide +kernel
theorem dX7_isOpenedBy_1 : decode cX7_isOpenedBy 1 = .ok (.aload_n 0, 1) := by decide +kernel
theorem dX7_isOpenedBy_2 : decode cX7_isOpenedBy 2 = .ok (.getfield 15, 3) := by decide +kernel
theorem dX7_isOpenedBy_5 : decode cX7_isOpenedBy 5 = .ok (.iload_n 2, 1) := by decide +kernel
theorem dX7_isOpenedBy_6 : decode cX7_isOpenedBy 6 = .ok (.iaload, 1) := by decide +kernel
theorem dX7_isOpenedBy_7 : decode cX7_isOpenedBy 7 = .ok (.iload_n 3, 1) := by decide +kernel
theorem dX7_isOpenedBy_8 : decode cX7_isOpenedBy 8 = .ok (.invokestatic 40, 3) := by decide +kernel
theorem dX7_isOpenedBy_11 : decode cX7_isOpenedBy 11 = .ok (.istore 4, 2) := by decide +kernel
theorem dX7_isOpenedBy_13 : decode cX7_isOpenedBy 13 = .ok (.iconst 0, 1) := by decide +kernel
theorem dX7_isOpenedBy_14 : decode cX7_isOpenedBy 14 = .ok (.istore 5, 2) := by decide +kernel
theorem dX7_isOpenedBy_16 : decode cX7_isOpenedBy 16 = .ok (.iload 5, 2) := by decide +kernel
theorem dX7_isOpenedBy_18 : decode cX7_isOpenedBy 18 = .ok (.iload_n 2, 1) := by decide +kernel
theorem dX7_isOpenedBy_19 : decode cX7_isOpenedBy 19 = .ok (.if_icmp .ge 28, 3) := by decide +kernel
theorem dX7_isOpenedBy_22 : decode cX7_isOpenedBy 22 = .ok (.iconst 0, 1) := by decide +kernel
theorem dX7_isOpenedBy_23 : decode cX7_isOpenedBy 23 = .ok (.aload_n 0, 1) := by decide +kernel
theorem dX7_isOpenedBy_24 : decode cX7_isOpenedBy 24 = .ok (.getfield 15, 3) := by decide +kernel
theorem dX7_isOpenedBy_27 : decode cX7_isOpenedBy 27 = .ok (.iload 5, 2) := by decide +kernel
theorem dX7_isOpenedBy_29 : decode cX7_isOpenedBy 29 = .ok (.iaload, 1) := by decide +kernel
theorem dX7_isOpenedBy_30 : decode cX7_isOpenedBy 30 = .ok (.iload_n 3, 1) := by decide +kernel
theorem dX7_isOpenedBy_31 : decode cX7_isOpenedBy 31 = .ok (.invokestatic 40, 3) := by decide +kernel
theorem dX7_isOpenedBy_34 : decode cX7_isOpenedBy 34 = .ok (.iload 4, 2) := by decide +kernel
theorem dX7_isOpenedBy_36 : decode cX7_isOpenedBy 36 = .ok (.if_icmp .ne 5, 3) := by decide +kernel
theorem dX7_isOpenedBy_39 : decode cX7_isOpenedBy 39 = .ok (.iconst 1, 1) := by decide +kernel
theorem dX7_isOpenedBy_40 : decode cX7_isOpenedBy 40 = .ok (.ireturn, 1) := by decide +kernel
theorem dX7_isOpenedBy_41 : decode cX7_isOpenedBy 41 = .ok (.iinc 5 1, 3) := by decide +kernel
theorem dX7_isOpenedBy_44 : decode cX7_isOpenedBy 44 = .ok (.goto (-28), 3) := by decide +kernel
theorem dX7_isOpenedBy_47 : decode cX7_isOpenedBy 47 = .ok (.aload_n 1, 1) := by decide +kernel
theorem dX7_isOpenedBy_48 : decode cX7_isOpenedBy 48 = .ok (.iconst 0, 1) := by decide +kernel
theorem dX7_isOpenedBy_49 : decode cX7_isOpenedBy 49 = .ok (.aload_n 0, 1) := by decide +kernel
theorem dX7_isOpenedBy_50 : decode cX7_isOpenedBy 50 = .ok (.getfield 15, 3) := by decide +kernel
theorem dX7_isOpenedBy_53 : decode cX7_isOpenedBy 53 = .ok (.iload_n 2, 1) := by decide +kernel
theorem dX7_isOpenedBy_54 : decode cX7_isOpenedBy 54 = .ok (.iaload, 1) := by decide +kernel
theorem dX7_isOpenedBy_55 : decode cX7_isOpenedBy 55 = .ok (.iload_n 3, 1) := by decide +kernel
theorem dX7_isOpenedBy_56 : decode cX7_isOpenedBy 56 = .ok (.invokevirtual 46, 3) := by decide +kernel
theorem dX7_isOpenedBy_59 : decode cX7_isOpenedBy 59 = .ok (.ireturn, 1) := by decide +kernel
theorem i_RX7_40 {Z : qZ} {G : qG} {cc : ByteArray} {nL k n : Nat} {rm : Room} {ret : Option FieldType} {μ : qM} {pc : Nat} {L : List (Nat × Value)} {rest : List Value} {K : Int32 → qM → Prop} {v0 : Int32} {v1 : Int32} {v2 : Int32} (C : qX Z G RX7 cc nL rm ret) (hn : 66 ≤ gn G) (hR : (Nat.ble (0 + 1) rm.frames && Nat.ble (8 + (6 + 11) + 0) rm.locals) = true) (hf : k + 0 ≤ rm.cells ∧ n + 0 ≤ rm.slots) (hsz : Nat.ble (rest.map fun v => v.category).sum 8 = true) (hd : decode cc pc = .ok (.invokestatic 40, 3)) (h : w_X2_measure v0 v1 v2 K μ) (hk : ∀ (r : Int32) (μ1 : qM), K r μ1 → qV Z G nL k n μ1 (pc + 3) L (.int r :: rest)) : qV Z G nL k n μ pc L (.int v2 :: .int v1 :: .int v0 :: rest) := x_Si [.int v0, .int v1, .int v2] rest C (wp := fun K => w_X2_measure v0 v1 v2 K μ) (y_X2_measure : qY yX2_measure cX2_measure 6 (some .int) 3 ({ frames := 0, cells := 0, slots := 0, locals := 0 } : Room) 0 0) (qm_10 _ (List.mem_of_getElem? (i := 13) rfl)) (qm_20 _ (List.mem_of_getElem? (i := 4) rfl)) (c_X2_measure Z.2.1 G hn ) hR hf rfl rfl hsz hd h hk
theorem i_RX7_46 {Z : qZ} {G : qG} {cc : ByteArray} {nL k n : Nat} {rm : Room} {ret : Option FieldType} {μ : qM} {pc : Nat} {L : List (Nat × Value)} {rest : List Value} {K : Int32 → qM → Prop} {o : Nat} {v1 : Int32} {v2 : Int32} {v3 : Int32} (C : qX Z G RX7 cc nL rm ret) (hn : 66 ≤ gn G) (hk_o : qk o = 1) (hR : (Nat.ble (3 + 1) rm.frames && Nat.ble (8 + (6 + 11) + 71) rm.locals) = true) (hf : k + 0 ≤ rm.cells ∧ n + 0 ≤ rm.slots) (hsz : Nat.ble (rest.map fun v => v.category).sum 8 = true) (hd : decode cc pc = .ok (.invokevirtual 46, 3)) (h : w_X1_isEvenWith o v1 v2 v3 K μ) (hk : ∀ (r : Int32) (μ1 : qM), K r μ1 → qV Z G nL k n μ1 (pc + 3) L (.int r :: rest)) : qV Z G nL k n μ pc L (.int v3 :: .int v2 :: .int v1 :: .ref (ga G o) :: rest) := x_Vi [.int v1, .int v2, .int v3] rest C o 1 (wp := fun K => w_X1_isEvenWith o v1 v2 v3 K μ) (y_X1_isEvenWith : qY yX1_isEvenWith cX1_isEvenWith 6 (some .boolean) 3 ({ frames := 3, cells := 0, slots := 0, locals := 71 } : Room) 0 0) (qm_20 _ (List.mem_of_getElem? (i := 6) rfl)) (qm_20 _ (List.mem_of_getElem? (i := 7) rfl)) (qm_20 _ (List.mem_of_getElem? (i := 5) rfl)) (c_X1_isEvenWith Z.2.1 G hn hk_o) (q_lt hk_o rfl hn) hk_o (by decide) rfl rfl hR hf rfl rfl hsz hd h hk
theorem b_X7_isOpenedBy_16 {Z : qZ} {G : qG} {o : Nat} {o1 : Nat} {v2 : Int32} {v3 : Int32} {v4 : Int32} {v5 : Int32} {μ : qM} {post : Int32 → qM → Prop} (C : qX Z G RX7 cX7_isOpenedBy 6 ({ frames := 4, cells := 0, slots := 0, locals := 96 } : Room) (some .boolean)) (hQ : qQi Z G 0 0 post) (hn : 66 ≤ gn G) (hk_o : qk o = 6) (hk_o1 : qk o1 = 1) (h : q_X7_isOpenedBy_16 o o1 v2 v3 v4 post v5 μ) : qV Z G 6 0 0 μ 16 [(0, .ref (ga G o)), (1, .ref (ga G o1)), (2, .int v2), (3, .int v3), (4, .int v4), (5, .int v5)] [] := by
  refine h (fun v5 μ => qV Z G 6 0 0 μ 16 [(0, .ref (ga G o)), (1, .ref (ga G o1)), (2, .int v2), (3, .int v3), (4, .int v4), (5, .int v5)] []) (fun v5 μ h => ?_)
  refine x_iload C 5 dX7_isOpenedBy_16 rfl ?_
  refine x_iload_n C 2 dX7_isOpenedBy_18 rfl rfl ?_
  refine x_icmp_ge C dX7_isOpenedBy_19 (tgt := 47) (by decide) h (fun h => ?_) (fun h => ?_)
  · refine x_aload_n C 1 dX7_isOpenedBy_47 rfl rfl ?_
    refine x_iconst C dX7_isOpenedBy_48 (v := 0) (by decide) ?_
    refine x_aload_n C 0 dX7_isOpenedBy_49 rfl rfl ?_
    refine g_RX7_15 C hn hk_o dX7_isOpenedBy_50 ?_
    refine x_iload_n C 2 dX7_isOpenedBy_53 rfl rfl ?_
    refine x_iald C (o + 2) 12 144 (q_lt (qn_6_2 hk_o) rfl hn) (qn_6_2 hk_o) rfl rfl rfl rfl dX7_isOpenedBy_54 h (fun h => ?_)
    refine x_iload_n C 3 dX7_isOpenedBy_55 rfl rfl ?_
    refine i_RX7_46 (rest := []) C hn hk_o1 rfl (by decide) rfl dX7_isOpenedBy_56 h (fun r56 μ56 h => ?_)
    exact x_zret C hQ dX7_isOpenedBy_59 h
  · refine x_iconst C dX7_isOpenedBy_22 (v := 0) (by decide) ?_
    refine x_aload_n C 0 dX7_isOpenedBy_23 rfl rfl ?_
    refine g_RX7_15 C hn hk_o dX7_isOpenedBy_24 ?_
    refine x_iload C 5 dX7_isOpenedBy_27 rfl ?_
    refine x_iald C (o + 2) 12 144 (q_lt (qn_6_2 hk_o) rfl hn) (qn_6_2 hk_o) rfl rfl rfl rfl dX7_isOpenedBy_29 h (fun h => ?_)
    refine x_iload_n C 3 dX7_isOpenedBy_30 rfl rfl ?_
    refine i_RX7_40 (rest := []) C hn  rfl (by decide) rfl dX7_isOpenedBy_31 h (fun r31 μ31 h => ?_)
    refine x_iload C 4 dX7_isOpenedBy_34 rfl ?_
    refine x_icmp_ne C dX7_isOpenedBy_36 (tgt := 41) (by decide) h (fun h => ?_) (fun h => ?_)
    · refine x_iinc C 5 (v := 1) (L' := [(5, .int ((v5 + 1))), (0, .ref (ga G o)), (1, .ref (ga G o1)), (2, .int v2), (3, .int v3), (4, .int v4)]) dX7_isOpenedBy_41 rfl (by decide) (by decide) rfl ?_
      refine x_goto C dX7_isOpenedBy_44 (tgt := 16) (by decide) ?_
      exact qV_sub [1, 2, 3, 4, 5, 0] rfl (h)
    · refine x_iconst C dX7_isOpenedBy_39 (v := 1) (by decide) ?_
      exact x_zret C hQ dX7_isOpenedBy_40 h
theorem y_X7_isOpenedBy : qY yX7_isOpenedBy cX7_isOpenedBy 6 (some .boolean) 3 ({ frames := 4, cells := 0, slots := 0, locals := 96 } : Room) 0 0 := ⟨(qm_20 _ (List.mem_of_getElem? (i := 3) rfl)), (qm_2 _ (List.mem_of_getElem? (i := 5) rfl)), by decide +kernel, by decide +kernel, rfl, rfl⟩
theorem c_X7_isOpenedBy (l : Launch) (G : qG) {o : Nat} {o1 : Nat} {v2 : Int32} {v3 : Int32} {μ : qM} (hn : 66 ≤ gn G) (hk_o : qk o = 6) (hk_o1 : qk o1 = 1) : qCi l G yX7_isOpenedBy cX7_isOpenedBy 6 (some .boolean) ({ frames := 4, cells := 0, slots := 0, locals := 96 } : Room) 0 0 [.ref (ga G o), .ref (ga G o1), .int v2, .int v3] μ (fun post => w_X7_isOpenedBy o o1 v2 v3 post μ) := by
  refine qCi_of (L := [(0, .ref (ga G o)), (1, .ref (ga G o1)), (2, .int v2), (3, .int v3)]) (by decide) rfl rfl ?_
  intro Z post hl C hQ h
  have C : qX Z G RX7 cX7_isOpenedBy 6 ({ frames := 4, cells := 0, slots := 0, locals := 96 } : Room) (some .boolean) := C
  have h : w_X7_isOpenedBy o o1 v2 v3 post μ := h
  unfold w_X7_isOpenedBy at h
  refine x_iconst C dX7_isOpenedBy_0 (v := 0) (by decide) ?_
  refine x_aload_n C 0 dX7_isOpenedBy_1 rfl rfl ?_
  refine g_RX7_15 C hn hk_o dX7_isOpenedBy_2 ?_
  refine x_iload_n C 2 dX7_isOpenedBy_5 rfl rfl ?_
  refine x_iald C (o + 2) 12 144 (q_lt (qn_6_2 hk_o) rfl hn) (qn_6_2 hk_o) rfl rfl rfl rfl dX7_isOpenedBy_6 h (fun h => ?_)
  refine x_iload_n C 3 dX7_isOpenedBy_7 rfl rfl ?_
  refine i_RX7_40 (rest := []) C hn  rfl (by decide) rfl dX7_isOpenedBy_8 h (fun r8 μ8 h => ?_)
  refine x_istore C (L' := [(4, .int r8), (0, .ref (ga G o)), (1, .ref (ga G o1)), (2, .int v2), (3, .int v3)]) dX7_isOpenedBy_11 (by decide) rfl ?_
  refine x_iconst C dX7_isOpenedBy_13 (v := 0) (by decide) ?_
  refine x_istore C (L' := [(5, .int ((0 : Int32))), (4, .int r8), (0, .ref (ga G o)), (1, .ref (ga G o1)), (2, .int v2), (3, .int v3)]) dX7_isOpenedBy_14 (by decide) rfl ?_
  exact qV_sub [2, 3, 4, 5, 1, 0] rfl (b_X7_isOpenedBy_16 C hQ hn hk_o hk_o1 h)
theorem dX7_reach_0 : decode cX7_reach 0 = .ok (.aload_n 0, 1) := by decide +kernel
theorem dX7_reach_1 : decode cX7_reach 1 = .ok (.iconst 0, 1) := by decide +kernel
theorem dX7_reach_2 : decode cX7_reach 2 = .ok (.putfield 19, 3) := by decide +kernel
theorem dX7_reach_5 : decode cX7_reach 5 = .ok (.iconst 0, 1) := by decide +kernel
theorem dX7_reach_6 : decode cX7_reach 6 = .ok (.istore_n 2, 1) := by decide +kernel
theorem dX7_reach_7 : decode cX7_reach 7 = .ok (.iload_n 2, 1) := by decide +kernel
theorem dX7_reach_8 : decode cX7_reach 8 = .ok (.sipush 144, 3) := by decide +kernel
theorem dX7_reach_11 : decode cX7_reach 11 = .ok (.if_icmp .ge 29, 3) := by decide +kernel
theorem dX7_reach_14 : decode cX7_reach 14 = .ok (.aload_n 0, 1) := by decide +kernel
theorem dX7_reach_15 : decode cX7_reach 15 = .ok (.getfield 9, 3) := by decide +kernel
theorem dX7_reach_18 : decode cX7_reach 18 = .ok (.iload_n 2, 1) := by decide +kernel
theorem dX7_reach_19 : decode cX7_reach 19 = .ok (.iconst 0, 1) := by decide +kernel
theorem dX7_reach_20 : decode cX7_reach 20 = .ok (.bastore, 1) := by decide +kernel
theorem dX7_reach_21 : decode cX7_reach 21 = .ok (.aload_n 1, 1) := by decide +kernel
theorem dX7_reach_22 : decode cX7_reach 22 = .ok (.iload_n 2, 1) := by decide +kernel
theorem dX7_reach_23 : decode cX7_reach 23 = .ok (.invokevirtual 23, 3) := by decide +kernel
theorem dX7_reach_26 : decode cX7_reach 26 = .ok (.ifCond .eq 8, 3) := by decide +kernel
theorem dX7_reach_29 : decode cX7_reach 29 = .ok (.aload_n 0, 1) := by decide +kernel
theorem dX7_reach_30 : decode cX7_reach 30 = .ok (.iload_n 2, 1) := by decide +kernel
theorem dX7_reach_31 : decode cX7_reach 31 = .ok (.invokevirtual 29, 3) := by decide +kernel
theorem dX7_reach_34 : decode cX7_reach 34 = .ok (.iinc 2 1, 3) := by decide +kernel
theorem dX7_reach_37 : decode cX7_reach 37 = .ok (.goto (-30), 3) := by decide +kernel
theorem dX7_reach_40 : decode cX7_reach 40 = .ok (.iconst 0, 1) := by decide +kernel
theorem dX7_reach_41 : decode cX7_reach 41 = .ok (.istore_n 2, 1) := by decide +kernel
theorem dX7_reach_42 : decode cX7_reach 42 = .ok (.iload_n 2, 1) := by decide +kernel
theorem dX7_reach_43 : decode cX7_reach 43 = .ok (.aload_n 0, 1) := by decide +kernel
theorem dX7_reach_44 : decode cX7_reach 44 = .ok (.getfield 19, 3) := by decide +kernel
theorem dX7_reach_47 : decode cX7_reach 47 = .ok (.if_icmp .ge 63, 3) := by decide +kernel
theorem dX7_reach_50 : decode cX7_reach 50 = .ok (.iload_n 2, 1) := by decide +kernel
theorem dX7_reach_51 : decode cX7_reach 51 = .ok (.sipush 144, 3) := by decide +kernel
theorem dX7_reach_54 : decode cX7_reach 54 = .ok (.if_icmp .ge 56, 3) := by decide +kernel
theorem dX7_reach_57 : decode cX7_reach 57 = .ok (.iconst 0, 1) := by decide +kernel
theorem dX7_reach_58 : decode cX7_reach 58 = .ok (.istore_n 3, 1) := by decide +kernel
theorem dX7_reach_59 : decode cX7_reach 59 = .ok (.iload_n 3, 1) := by decide +kernel
theorem dX7_reach_60 : decode cX7_reach 60 = .ok (.sipush 144, 3) := by decide +kernel
theorem dX7_reach_63 : decode cX7_reach 63 = .ok (.if_icmp .ge 41, 3) := by decide +kernel
theorem dX7_reach_66 : decode cX7_reach 66 = .ok (.aload_n 0, 1) := by decide +kernel
theorem dX7_reach_67 : decode cX7_reach 67 = .ok (.getfield 9, 3) := by decide +kernel
theorem dX7_reach_70 : decode cX7_reach 70 = .ok (.iload_n 3, 1) := by decide +kernel
theorem dX7_reach_71 : decode cX7_reach 71 = .ok (.baload, 1) := by decide +kernel
theorem dX7_reach_72 : decode cX7_reach 72 = .ok (.ifCond .ne 26, 3) := by decide +kernel
theorem dX7_reach_75 : decode cX7_reach 75 = .ok (.aload_n 1, 1) := by decide +kernel
theorem dX7_reach_76 : decode cX7_reach 76 = .ok (.iload_n 3, 1) := by decide +kernel
theorem dX7_reach_77 : decode cX7_reach 77 = .ok (.invokevirtual 33, 3) := by decide +kernel
theorem dX7_reach_80 : decode cX7_reach 80 = .ok (.ifCond .ne 18, 3) := by decide +kernel
theorem dX7_reach_83 : decode cX7_reach 83 = .ok (.aload_n 0, 1) := by decide +kernel
theorem dX7_reach_84 : decode cX7_reach 84 = .ok (.aload_n 1, 1) := by decide +kernel
theorem dX7_reach_85 : decode cX7_reach 85 = .ok (.iload_n 2, 1) := by decide +kernel
theorem dX7_reach_86 : decode cX7_reach 86 = .ok (.iload_n 3, 1) := by decide +kernel
theorem dX7_reach_87 : decode cX7_reach 87 = .ok (.invokevirtual 36, 3) := by decide +kernel
theorem dX7_reach_90 : decode cX7_reach 90 = .ok (.ifCond .eq 8, 3) := by decide +kernel
theorem dX7_reach_93 : decode cX7_reach 93 = .ok (.aload_n 0, 1) := by decide +kernel
theorem dX7_reach_94 : decode cX7_reach 94 = .ok (.iload_n 3, 1) := by decide +kernel
theorem dX7_reach_95 : decode cX7_reach 95 = .ok (.invokevirtual 29, 3) := by decide +kernel
theorem dX7_reach_98 : decode cX7_reach 98 = .ok (.iinc 3 1, 3) := by decide +kernel
theorem dX7_reach_101 : decode cX7_reach 101 = .ok (.goto (-42), 3) := by decide +kernel
theorem dX7_reach_104 : decode cX7_reach 104 = .ok (.iinc 2 1, 3) := by decide +kernel
theorem dX7_reach_107 : decode cX7_reach 107 = .ok (.goto (-65), 3) := by decide +kernel
theorem dX7_reach_110 : decode cX7_reach 110 = .ok (.aload_n 0, 1) := by decide +kernel
theorem dX7_reach_111 : decode cX7_reach 111 = .ok (.getfield 19, 3) := by decide +kernel
theorem dX7_reach_114 : decode cX7_reach 114 = .ok (.ireturn, 1) := by decide +kernel
theorem i_RX7_23 {Z : qZ} {G : qG} {cc : ByteArray} {nL k n : Nat} {rm : Room} {ret : Option FieldType} {μ : qM} {pc : Nat} {L : List (Nat × Value)} {rest : List Value} {K : Int32 → qM → Prop} {o : Nat} {v1 : Int32} (C : qX Z G RX7 cc nL rm ret) (hn : 66 ≤ gn G) (hk_o : qk o = 1) (hR : (Nat.ble (4 + 1) rm.frames && Nat.ble (8 + (2 + 11) + 97) rm.locals) = true) (hf : k + 0 ≤ rm.cells ∧ n + 0 ≤ rm.slots) (hsz : Nat.ble (rest.map fun v => v.category).sum 8 = true) (hd : decode cc pc = .ok (.invokevirtual 23, 3)) (h : w_X1_isFree o v1 K μ) (hk : ∀ (r : Int32) (μ1 : qM), K r μ1 → qV Z G nL k n μ1 (pc + 3) L (.int r :: rest)) : qV Z G nL k n μ pc L (.int v1 :: .ref (ga G o) :: rest) := x_Vi [.int v1] rest C o 1 (wp := fun K => w_X1_isFree o v1 K μ) (y_X1_isFree : qY yX1_isFree cX1_isFree 2 (some .boolean) 1 ({ frames := 4, cells := 0, slots := 0, locals := 97 } : Room) 0 0) (qm_10 _ (List.mem_of_getElem? (i := 0) rfl)) (qm_10 _ (List.mem_of_getElem? (i := 1) rfl)) (qm_19 _ (List.mem_of_getElem? (i := 18) rfl)) (c_X1_isFree Z.2.1 G hn hk_o) (q_lt hk_o rfl hn) hk_o (by decide) rfl rfl hR hf rfl rfl hsz hd h hk
theorem i_RX7_29 {Z : qZ} {G : qG} {cc : ByteArray} {nL k n : Nat} {rm : Room} {ret : Option FieldType} {μ : qM} {pc : Nat} {L : List (Nat × Value)} {rest : List Value} {K : qM → Prop} {o : Nat} {v1 : Int32} (C : qX Z G RX7 cc nL rm ret) (hn : 66 ≤ gn G) (hk_o : qk o = 6) (hR : (Nat.ble (0 + 1) rm.frames && Nat.ble (8 + (2 + 11) + 0) rm.locals) = true) (hf : k + 0 ≤ rm.cells ∧ n + 0 ≤ rm.slots) (hsz : Nat.ble (rest.map fun v => v.category).sum 8 = true) (hd : decode cc pc = .ok (.invokevirtual 29, 3)) (h : w_X7_add o v1 K μ) (hk : ∀ (μ1 : qM), K μ1 → qV Z G nL k n μ1 (pc + 3) L rest) : qV Z G nL k n μ pc L (.int v1 :: .ref (ga G o) :: rest) := x_Vv [.int v1] rest C o 6 (wp := fun K => w_X7_add o v1 K μ) (y_X7_add : qY yX7_add cX7_add 2 none 1 ({ frames := 0, cells := 0, slots := 0, locals := 0 } : Room) 0 0) (qm_19 _ (List.mem_of_getElem? (i := 20) rfl)) (qm_19 _ (List.mem_of_getElem? (i := 21) rfl)) (qm_19 _ (List.mem_of_getElem? (i := 19) rfl)) (c_X7_add Z.2.1 G hn hk_o) (q_lt hk_o rfl hn) hk_o (by decide) rfl rfl hR hf rfl rfl hsz hd h hk
theorem i_RX7_33 {Z : qZ} {G : qG} {cc : ByteArray} {nL k n : Nat} {rm : Room} {ret : Option FieldType} {μ : qM} {pc : Nat} {L : List (Nat × Value)} {rest : List Value} {K : Int32 → qM → Prop} {o : Nat} {v1 : Int32} (C : qX Z G RX7 cc nL rm ret) (hn : 66 ≤ gn G) (hk_o : qk o = 1) (hR : (Nat.ble (0 + 1) rm.frames && Nat.ble (8 + (3 + 11) + 0) rm.locals) = true) (hf : k + 0 ≤ rm.cells ∧ n + 0 ≤ rm.slots) (hsz : Nat.ble (rest.map fun v => v.category).sum 8 = true) (hd : decode cc pc = .ok (.invokevirtual 33, 3)) (h : w_X1_stands o v1 K μ) (hk : ∀ (r : Int32) (μ1 : qM), K r μ1 → qV Z G nL k n μ1 (pc + 3) L (.int r :: rest)) : qV Z G nL k n μ pc L (.int v1 :: .ref (ga G o) :: rest) := x_Vi [.int v1] rest C o 1 (wp := fun K => w_X1_stands o v1 K μ) (y_X1_stands : qY yX1_stands cX1_stands 3 (some .boolean) 1 ({ frames := 0, cells := 0, slots := 0, locals := 0 } : Room) 0 0) (qm_7 _ (List.mem_of_getElem? (i := 16) rfl)) (qm_7 _ (List.mem_of_getElem? (i := 17) rfl)) (qm_19 _ (List.mem_of_getElem? (i := 23) rfl)) (c_X1_stands Z.2.1 G hn hk_o) (q_lt hk_o rfl hn) hk_o (by decide) rfl rfl hR hf rfl rfl hsz hd h hk
theorem i_RX7_36 {Z : qZ} {G : qG} {cc : ByteArray} {nL k n : Nat} {rm : Room} {ret : Option FieldType} {μ : qM} {pc : Nat} {L : List (Nat × Value)} {rest : List Value} {K : Int32 → qM → Prop} {o : Nat} {o1 : Nat} {v2 : Int32} {v3 : Int32} (C : qX Z G RX7 cc nL rm ret) (hn : 66 ≤ gn G) (hk_o : qk o = 6) (hk_o1 : qk o1 = 1) (hR : (Nat.ble (4 + 1) rm.frames && Nat.ble (8 + (6 + 11) + 96) rm.locals) = true) (hf : k + 0 ≤ rm.cells ∧ n + 0 ≤ rm.slots) (hsz : Nat.ble (rest.map fun v => v.category).sum 8 = true) (hd : decode cc pc = .ok (.invokevirtual 36, 3)) (h : w_X7_isOpenedBy o o1 v2 v3 K μ) (hk : ∀ (r : Int32) (μ1 : qM), K r μ1 → qV Z G nL k n μ1 (pc + 3) L (.int r :: rest)) : qV Z G nL k n μ pc L (.int v3 :: .int v2 :: .ref (ga G o1) :: .ref (ga G o) :: rest) := x_Vi [.ref (ga G o1), .int v2, .int v3] rest C o 6 (wp := fun K => w_X7_isOpenedBy o o1 v2 v3 K μ) (y_X7_isOpenedBy : qY yX7_isOpenedBy cX7_isOpenedBy 6 (some .boolean) 3 ({ frames := 4, cells := 0, slots := 0, locals := 96 } : Room) 0 0) (qm_20 _ (List.mem_of_getElem? (i := 1) rfl)) (qm_20 _ (List.mem_of_getElem? (i := 2) rfl)) (qm_20 _ (List.mem_of_getElem? (i := 0) rfl)) (c_X7_isOpenedBy Z.2.1 G hn hk_o hk_o1) (q_lt hk_o rfl hn) hk_o (by decide) rfl rfl hR hf rfl rfl hsz hd h hk
theorem b_X7_reach_34 {Z : qZ} {G : qG} {o : Nat} {o1 : Nat} {v2 : Int32} {μ : qM} {P7 : Int32 → qM → Prop} {post : Int32 → qM → Prop} (C : qX Z G RX7 cX7_reach 4 ({ frames := 5, cells := 0, slots := 0, locals := 121 } : Room) (some .int)) (hQ : qQi Z G 0 0 post) (hn : 66 ≤ gn G) (hk_o : qk o = 6) (hk_o1 : qk o1 = 1) (hP7 : ∀ (b2 : Int32) (μ1 : qM), P7 b2 μ1 → qV Z G 4 0 0 μ1 7 [(0, .ref (ga G o)), (1, .ref (ga G o1)), (2, .int b2)] []) (h : q_X7_reach_34 o o1 P7 post v2 μ) : qV Z G 4 0 0 μ 34 [(0, .ref (ga G o)), (1, .ref (ga G o1)), (2, .int v2)] [] := by
  unfold q_X7_reach_34 at h
  refine x_iinc C 2 (v := 1) (L' := [(2, .int ((v2 + 1))), (0, .ref (ga G o)), (1, .ref (ga G o1))]) dX7_reach_34 rfl (by decide) (by decide) rfl ?_
  refine x_goto C dX7_reach_37 (tgt := 7) (by decide) ?_
  exact qV_sub [1, 2, 0] rfl ((hP7 _ _ h))
theorem b_X7_reach_110 {Z : qZ} {G : qG} {o : Nat} {o1 : Nat} {μ : qM} {post : Int32 → qM → Prop} (C : qX Z G RX7 cX7_reach 4 ({ frames := 5, cells := 0, slots := 0, locals := 121 } : Room) (some .int)) (hQ : qQi Z G 0 0 post) (hn : 66 ≤ gn G) (hk_o : qk o = 6) (hk_o1 : qk o1 = 1) (h : q_X7_reach_110 o o1 post μ) : qV Z G 4 0 0 μ 110 [(0, .ref (ga G o))] [] := by
  unfold q_X7_reach_110 at h
  refine x_aload_n C 0 dX7_reach_110 rfl rfl ?_
  refine g_RX7_19 C hn hk_o dX7_reach_111 ?_
  exact x_iret C hQ dX7_reach_114 h
theorem b_X7_reach_98 {Z : qZ} {G : qG} {o : Nat} {o1 : Nat} {v2 : Int32} {v3 : Int32} {μ : qM} {P42 : Int32 → qM → Prop} {P59 : Int32 → qM → Prop} {post : Int32 → qM → Prop} (C : qX Z G RX7 cX7_reach 4 ({ frames := 5, cells := 0, slots := 0, locals := 121 } : Room) (some .int)) (hQ : qQi Z G 0 0 post) (hn : 66 ≤ gn G) (hk_o : qk o = 6) (hk_o1 : qk o1 = 1) (hP42 : ∀ (b2 : Int32) (μ1 : qM), P42 b2 μ1 → qV Z G 4 0 0 μ1 42 [(0, .ref (ga G o)), (1, .ref (ga G o1)), (2, .int b2)] []) (hP59 : ∀ (b3 : Int32) (μ1 : qM), P59 b3 μ1 → qV Z G 4 0 0 μ1 59 [(0, .ref (ga G o)), (1, .ref (ga G o1)), (2, .int v2), (3, .int b3)] []) (h : q_X7_reach_98 o o1 P42 P59 post v2 v3 μ) : qV Z G 4 0 0 μ 98 [(0, .ref (ga G o)), (1, .ref (ga G o1)), (2, .int v2), (3, .int v3)] [] := by
  unfold q_X7_reach_98 at h
  refine x_iinc C 3 (v := 1) (L' := [(3, .int ((v3 + 1))), (0, .ref (ga G o)), (1, .ref (ga G o1)), (2, .int v2)]) dX7_reach_98 rfl (by decide) (by decide) rfl ?_
  refine x_goto C dX7_reach_101 (tgt := 59) (by decide) ?_
  exact qV_sub [1, 2, 3, 0] rfl ((hP59 _ _ h))
theorem b_X7_reach_59 {Z : qZ} {G : qG} {o : Nat} {o1 : Nat} {v2 : Int32} {v3 : Int32} {μ : qM} {P42 : Int32 → qM → Prop} {post : Int32 → qM → Prop} (C : qX Z G RX7 cX7_reach 4 ({ frames := 5, cells := 0, slots := 0, locals := 121 } : Room) (some .int)) (hQ : qQi Z G 0 0 post) (hn : 66 ≤ gn G) (hk_o : qk o = 6) (hk_o1 : qk o1 = 1) (hP42 : ∀ (b2 : Int32) (μ1 : qM), P42 b2 μ1 → qV Z G 4 0 0 μ1 42 [(0, .ref (ga G o)), (1, .ref (ga G o1)), (2, .int b2)] []) (h : q_X7_reach_59 o o1 v2 P42 post v3 μ) : qV Z G 4 0 0 μ 59 [(0, .ref (ga G o)), (1, .ref (ga G o1)), (2, .int v2), (3, .int v3)] [] := by
  refine h (fun v3 μ => qV Z G 4 0 0 μ 59 [(0, .ref (ga G o)), (1, .ref (ga G o1)), (2, .int v2), (3, .int v3)] []) (fun v3 μ h => ?_)
  refine x_iload_n C 3 dX7_reach_59 rfl rfl ?_
  refine x_sipush C dX7_reach_60 (v := 144) (by decide) ?_
  refine x_icmp_ge C dX7_reach_63 (tgt := 104) (by decide) h (fun h => ?_) (fun h => ?_)
  · refine x_iinc C 2 (v := 1) (L' := [(2, .int ((v2 + 1))), (0, .ref (ga G o)), (1, .ref (ga G o1)), (3, .int v3)]) dX7_reach_104 rfl (by decide) (by decide) rfl ?_
    refine x_goto C dX7_reach_107 (tgt := 42) (by decide) ?_
    exact qV_sub [1, 2, 0] rfl ((hP42 _ _ h))
  · refine x_aload_n C 0 dX7_reach_66 rfl rfl ?_
    refine g_RX7_9 C hn hk_o dX7_reach_67 ?_
    refine x_iload_n C 3 dX7_reach_70 rfl rfl ?_
    refine x_zald C (o + 1) 13 144 (q_lt (qn_6_1 hk_o) rfl hn) (qn_6_1 hk_o) rfl rfl rfl rfl dX7_reach_71 h (fun h => ?_)
    refine x_if_ne C dX7_reach_72 (tgt := 98) (by decide) h (fun h => ?_) (fun h => ?_)
    · exact b_X7_reach_98 C hQ hn hk_o hk_o1 hP42 (fun _ _ h => h) h
    · refine x_aload_n C 1 dX7_reach_75 rfl rfl ?_
      refine x_iload_n C 3 dX7_reach_76 rfl rfl ?_
      refine i_RX7_33 (rest := []) C hn hk_o1 rfl (by decide) rfl dX7_reach_77 h (fun r77 μ77 h => ?_)
      refine x_if_ne C dX7_reach_80 (tgt := 98) (by decide) h (fun h => ?_) (fun h => ?_)
      · exact b_X7_reach_98 C hQ hn hk_o hk_o1 hP42 (fun _ _ h => h) h
      · refine x_aload_n C 0 dX7_reach_83 rfl rfl ?_
        refine x_aload_n C 1 dX7_reach_84 rfl rfl ?_
        refine x_iload_n C 2 dX7_reach_85 rfl rfl ?_
        refine x_iload_n C 3 dX7_reach_86 rfl rfl ?_
        refine i_RX7_36 (rest := []) C hn hk_o hk_o1 rfl (by decide) rfl dX7_reach_87 h (fun r87 μ87 h => ?_)
        refine x_if_eq C dX7_reach_90 (tgt := 98) (by decide) h (fun h => ?_) (fun h => ?_)
        · exact b_X7_reach_98 C hQ hn hk_o hk_o1 hP42 (fun _ _ h => h) h
        · refine x_aload_n C 0 dX7_reach_93 rfl rfl ?_
          refine x_iload_n C 3 dX7_reach_94 rfl rfl ?_
          refine i_RX7_29 (rest := []) C hn hk_o rfl (by decide) rfl dX7_reach_95 h (fun μ95 h => ?_)
          exact b_X7_reach_98 C hQ hn hk_o hk_o1 hP42 (fun _ _ h => h) h
theorem b_X7_reach_42 {Z : qZ} {G : qG} {o : Nat} {o1 : Nat} {v2 : Int32} {μ : qM} {post : Int32 → qM → Prop} (C : qX Z G RX7 cX7_reach 4 ({ frames := 5, cells := 0, slots := 0, locals := 121 } : Room) (some .int)) (hQ : qQi Z G 0 0 post) (hn : 66 ≤ gn G) (hk_o : qk o = 6) (hk_o1 : qk o1 = 1) (h : q_X7_reach_42 o o1 post v2 μ) : qV Z G 4 0 0 μ 42 [(0, .ref (ga G o)), (1, .ref (ga G o1)), (2, .int v2)] [] := by
  refine h (fun v2 μ => qV Z G 4 0 0 μ 42 [(0, .ref (ga G o)), (1, .ref (ga G o1)), (2, .int v2)] []) (fun v2 μ h => ?_)
  refine x_iload_n C 2 dX7_reach_42 rfl rfl ?_
  refine x_aload_n C 0 dX7_reach_43 rfl rfl ?_
  refine g_RX7_19 C hn hk_o dX7_reach_44 ?_
  refine x_icmp_ge C dX7_reach_47 (tgt := 110) (by decide) h (fun h => ?_) (fun h => ?_)
  · exact qV_sub [0] rfl (b_X7_reach_110 C hQ hn hk_o hk_o1 h)
  · refine x_iload_n C 2 dX7_reach_50 rfl rfl ?_
    refine x_sipush C dX7_reach_51 (v := 144) (by decide) ?_
    refine x_icmp_ge C dX7_reach_54 (tgt := 110) (by decide) h (fun h => ?_) (fun h => ?_)
    · exact qV_sub [0] rfl (b_X7_reach_110 C hQ hn hk_o hk_o1 h)
    · refine x_iconst C dX7_reach_57 (v := 0) (by decide) ?_
      refine x_istore_n C (L' := [(3, .int ((0 : Int32))), (0, .ref (ga G o)), (1, .ref (ga G o1)), (2, .int v2)]) dX7_reach_58 rfl (by decide) rfl ?_
      exact qV_sub [1, 2, 3, 0] rfl (b_X7_reach_59 C hQ hn hk_o hk_o1 (fun _ _ h => h) h)
theorem b_X7_reach_7 {Z : qZ} {G : qG} {o : Nat} {o1 : Nat} {v2 : Int32} {μ : qM} {post : Int32 → qM → Prop} (C : qX Z G RX7 cX7_reach 4 ({ frames := 5, cells := 0, slots := 0, locals := 121 } : Room) (some .int)) (hQ : qQi Z G 0 0 post) (hn : 66 ≤ gn G) (hk_o : qk o = 6) (hk_o1 : qk o1 = 1) (h : q_X7_reach_7 o o1 post v2 μ) : qV Z G 4 0 0 μ 7 [(0, .ref (ga G o)), (1, .ref (ga G o1)), (2, .int v2)] [] := by
  refine h (fun v2 μ => qV Z G 4 0 0 μ 7 [(0, .ref (ga G o)), (1, .ref (ga G o1)), (2, .int v2)] []) (fun v2 μ h => ?_)
  refine x_iload_n C 2 dX7_reach_7 rfl rfl ?_
  refine x_sipush C dX7_reach_8 (v := 144) (by decide) ?_
  refine x_icmp_ge C dX7_reach_11 (tgt := 40) (by decide) h (fun h => ?_) (fun h => ?_)
  · refine x_iconst C dX7_reach_40 (v := 0) (by decide) ?_
    refine x_istore_n C (L' := [(2, .int ((0 : Int32))), (0, .ref (ga G o)), (1, .ref (ga G o1))]) dX7_reach_41 rfl (by decide) rfl ?_
    exact qV_sub [1, 2, 0] rfl (b_X7_reach_42 C hQ hn hk_o hk_o1 h)
  · refine x_aload_n C 0 dX7_reach_14 rfl rfl ?_
    refine g_RX7_9 C hn hk_o dX7_reach_15 ?_
    refine x_iload_n C 2 dX7_reach_18 rfl rfl ?_
    refine x_iconst C dX7_reach_19 (v := 0) (by decide) ?_
    refine x_zast C (o + 1) 13 144 (q_lt (qn_6_1 hk_o) rfl hn) (qn_6_1 hk_o) rfl rfl rfl rfl dX7_reach_20 h (fun h => ?_)
    refine x_aload_n C 1 dX7_reach_21 rfl rfl ?_
    refine x_iload_n C 2 dX7_reach_22 rfl rfl ?_
    refine i_RX7_23 (rest := []) C hn hk_o1 rfl (by decide) rfl dX7_reach_23 h (fun r23 μ23 h => ?_)
    refine x_if_eq C dX7_reach_26 (tgt := 34) (by decide) h (fun h => ?_) (fun h => ?_)
    · exact b_X7_reach_34 C hQ hn hk_o hk_o1 (fun _ _ h => h) h
    · refine x_aload_n C 0 dX7_reach_29 rfl rfl ?_
      refine x_iload_n C 2 dX7_reach_30 rfl rfl ?_
      refine i_RX7_29 (rest := []) C hn hk_o rfl (by decide) rfl dX7_reach_31 h (fun μ31 h => ?_)
      exact b_X7_reach_34 C hQ hn hk_o hk_o1 (fun _ _ h => h) h
theorem y_X7_reach : qY yX7_reach cX7_reach 4 (some .int) 1 ({ frames := 5, cells := 0, slots := 0, locals := 121 } : Room) 0 0 := ⟨(qm_19 _ (List.mem_of_getElem? (i := 17) rfl)), (qm_2 _ (List.mem_of_getElem? (i := 5) rfl)), by decide +kernel, by decide +kernel, rfl, rfl⟩
theorem c_X7_reach (l : Launch) (G : qG) {o : Nat} {o1 : Nat} {μ : qM} (hn : 66 ≤ gn G) (hk_o : qk o = 6) (hk_o1 : qk o1 = 1) : qCi l G yX7_reach cX7_reach 4 (some .int) ({ frames := 5, cells := 0, slots := 0, locals := 121 } : Room) 0 0 [.ref (ga G o), .ref (ga G o1)] μ (fun post => w_X7_reach o o1 post μ) := by
  refine qCi_of (L := [(0, .ref (ga G o)), (1, .ref (ga G o1))]) (by decide) rfl rfl ?_
  intro Z post hl C hQ h
  have C : qX Z G RX7 cX7_reach 4 ({ frames := 5, cells := 0, slots := 0, locals := 121 } : Room) (some .int) := C
  have h : w_X7_reach o o1 post μ := h
  unfold w_X7_reach at h
  refine x_aload_n C 0 dX7_reach_0 rfl rfl ?_
  refine x_iconst C dX7_reach_1 (v := 0) (by decide) ?_
  refine p_RX7_19 C hn hk_o dX7_reach_2 ?_
  refine x_iconst C dX7_reach_5 (v := 0) (by decide) ?_
  refine x_istore_n C (L' := [(2, .int ((0 : Int32))), (0, .ref (ga G o)), (1, .ref (ga G o1))]) dX7_reach_6 rfl (by decide) rfl ?_
  exact qV_sub [1, 2, 0] rfl (b_X7_reach_7 C hQ hn hk_o hk_o1 h)
