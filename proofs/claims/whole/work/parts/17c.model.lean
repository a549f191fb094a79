theorem dX11_law_0 : decode cX11_law 0 = .ok (.iconst 0, 1) := by decide +kernel
theorem dX11_law_1 : decode cX11_law 1 = .ok (.istore_n 1, 1) := by decide +kernel
theorem dX11_law_2 : decode cX11_law 2 = .ok (.iload_n 1, 1) := by decide +kernel
theorem dX11_law_3 : decode cX11_law 3 = .ok (.aload_n 0, 1) := by decide +kernel
theorem dX11_law_4 : decode cX11_law 4 = .ok (.getfield 76, 3) := by decide +kernel
theorem dX11_law_7 : decode cX11_law 7 = .ok (.if_icmp .ge 21, 3) := by decide +kernel
theorem dX11_law_10 : decode cX11_law 10 = .ok (.aload_n 0, 1) := by decide +kernel
theorem dX11_law_11 : decode cX11_law 11 = .ok (.getfield 54, 3) := by decide +kernel
theorem dX11_law_14 : decode cX11_law 14 = .ok (.iload_n 1, 1) := by decide +kernel
theorem dX11_law_15 : decode cX11_law 15 = .ok (.aload_n 0, 1) := by decide +kernel
theorem dX11_law_16 : decode cX11_law 16 = .ok (.getfield 9, 3) := by decide +kernel
theorem dX11_law_19 : decode cX11_law 19 = .ok (.iload_n 1, 1) := by decide +kernel
theorem dX11_law_20 : decode cX11_law 20 = .ok (.iaload, 1) := by decide +kernel
theorem dX11_law_21 : decode cX11_law 21 = .ok (.iastore, 1) := by decide +kernel
theorem dX11_law_22 : decode cX11_law 22 = .ok (.iinc 1 1, 3) := by decide +kernel
theorem dX11_law_25 : decode cX11_law 25 = .ok (.goto (-23), 3) := by decide +kernel
theorem dX11_law_28 : decode cX11_law 28 = .ok (.iconst 0, 1) := by decide +kernel
theorem dX11_law_29 : decode cX11_law 29 = .ok (.istore_n 1, 1) := by decide +kernel
theorem dX11_law_30 : decode cX11_law 30 = .ok (.iconst (-1), 1) := by decide +kernel
theorem dX11_law_31 : decode cX11_law 31 = .ok (.istore_n 2, 1) := by decide +kernel
theorem dX11_law_32 : decode cX11_law 32 = .ok (.iconst 0, 1) := by decide +kernel
theorem dX11_law_33 : decode cX11_law 33 = .ok (.istore_n 3, 1) := by decide +kernel
theorem dX11_law_34 : decode cX11_law 34 = .ok (.iload_n 3, 1) := by decide +kernel
theorem dX11_law_35 : decode cX11_law 35 = .ok (.bipush 7, 2) := by decide +kernel
theorem dX11_law_37 : decode cX11_law 37 = .ok (.if_icmp .ge 52, 3) := by decide +kernel
theorem dX11_law_40 : decode cX11_law 40 = .ok (.iconst 0, 1) := by decide +kernel
theorem dX11_law_41 : decode cX11_law 41 = .ok (.istore 4, 2) := by decide +kernel
theorem dX11_law_43 : decode cX11_law 43 = .ok (.iload 4, 2) := by decide +kernel
theorem dX11_law_45 : decode cX11_law 45 = .ok (.aload_n 0, 1) := by decide +kernel
theorem dX11_law_46 : decode cX11_law 46 = .ok (.getfield 76, 3) := by decide +kernel
theorem dX11_law_49 : decode cX11_law 49 = .ok (.if_icmp .ge 17, 3) := by decide +kernel
theorem dX11_law_52 : decode cX11_law 52 = .ok (.aload_n 0, 1) := by decide +kernel
theorem dX11_law_53 : decode cX11_law 53 = .ok (.getfield 9, 3) := by decide +kernel
theorem dX11_law_56 : decode cX11_law 56 = .ok (.iload 4, 2) := by decide +kernel
theorem dX11_law_58 : decode cX11_law 58 = .ok (.iload_n 3, 1) := by decide +kernel
theorem dX11_law_59 : decode cX11_law 59 = .ok (.iastore, 1) := by decide +kernel
theorem dX11_law_60 : decode cX11_law 60 = .ok (.iinc 4 1, 3) := by decide +kernel
theorem dX11_law_63 : decode cX11_law 63 = .ok (.goto (-20), 3) := by decide +kernel
theorem dX11_law_66 : decode cX11_law 66 = .ok (.aload_n 0, 1) := by decide +kernel
theorem dX11_law_67 : decode cX11_law 67 = .ok (.invokevirtual 159, 3) := by decide +kernel
theorem dX11_law_70 : decode cX11_law 70 = .ok (.istore 4, 2) := by decide +kernel
theorem dX11_law_72 : decode cX11_law 72 = .ok (.iload 4, 2) := by decide +kernel
theorem dX11_law_74 : decode cX11_law 74 = .ok (.iload_n 2, 1) := by decide +kernel
theorem dX11_law_75 : decode cX11_law 75 = .ok (.if_icmp .le 8, 3) := by decide +kernel
theorem dX11_law_78 : decode cX11_law 78 = .ok (.iload_n 3, 1) := by decide +kernel
theorem dX11_law_79 : decode cX11_law 79 = .ok (.istore_n 1, 1) := by decide +kernel
theorem dX11_law_80 : decode cX11_law 80 = .ok (.iload 4, 2) := by decide +kernel
theorem dX11_law_82 : decode cX11_law 82 = .ok (.istore_n 2, 1) := by decide +kernel
theorem dX11_law_83 : decode cX11_law 83 = .ok (.iinc 3 1, 3) := by decide +kernel
theorem dX11_law_86 : decode cX11_law 86 = .ok (.goto (-52), 3) := by decide +kernel
theorem dX11_law_89 : decode cX11_law 89 = .ok (.iconst 0, 1) := by decide +kernel
theorem dX11_law_90 : decode cX11_law 90 = .ok (.istore_n 3, 1) := by decide +kernel
theorem dX11_law_91 : decode cX11_law 91 = .ok (.iload_n 3, 1) := by decide +kernel
theorem dX11_law_92 : decode cX11_law 92 = .ok (.aload_n 0, 1) := by decide +kernel
theorem dX11_law_93 : decode cX11_law 93 = .ok (.getfield 76, 3) := by decide +kernel
theorem dX11_law_96 : decode cX11_law 96 = .ok (.if_icmp .ge 21, 3) := by decide +kernel
theorem dX11_law_99 : decode cX11_law 99 = .ok (.aload_n 0, 1) := by decide +kernel
theorem dX11_law_100 : decode cX11_law 100 = .ok (.getfield 9, 3) := by decide +kernel
theorem dX11_law_103 : decode cX11_law 103 = .ok (.iload_n 3, 1) := by decide +kernel
theorem dX11_law_104 : decode cX11_law 104 = .ok (.aload_n 0, 1) := by decide +kernel
theorem dX11_law_105 : decode cX11_law 105 = .ok (.getfield 54, 3) := by decide +kernel
theorem dX11_law_108 : decode cX11_law 108 = .ok (.iload_n 3, 1) := by decide +kernel
theorem dX11_law_109 : decode cX11_law 109 = .ok (.iaload, 1) := by decide +kernel
theorem dX11_law_110 : decode cX11_law 110 = .ok (.iastore, 1) := by decide +kernel
theorem dX11_law_111 : decode cX11_law 111 = .ok (.iinc 3 1, 3) := by decide +kernel
theorem dX11_law_114 : decode cX11_law 114 = .ok (.goto (-23), 3) := by decide +kernel
theorem dX11_law_117 : decode cX11_law 117 = .ok (.iload_n 1, 1) := by decide +kernel
theorem dX11_law_118 : decode cX11_law 118 = .ok (.ireturn, 1) := by decide +kernel
theorem g_RX11_54 {Z : qZ} {G : qG} {cc : ByteArray} {nL k n : Nat} {rm : Room} {ret : Option FieldType} {μ : qM} {pc : Nat} {L : List (Nat × Value)} {st : List Value} (C : qX Z G RX11 cc nL rm ret) (hn : 66 ≤ gn G) (hd : decode cc pc = .ok (.getfield 54, 3)) (h : qV Z G nL k n μ (pc + 3) L (.ref (ga G 59) :: st)) : qV Z G nL k n μ pc L (.ref (ga G 46) :: st) := x_getr C 46 10 22 13 59 (C0 := RX11) (fn := "kindsBefore") (fd := "[I") (Nat.lt_of_lt_of_le (by decide) hn) rfl (by decide) rfl (by decide) rfl inlX11 (qm_6 _ (List.mem_of_getElem? (i := 5) rfl)) rfl rfl rfl hd h
theorem b_X11_law_83 {Z : qZ} {G : qG} {v1 : Int32} {v2 : Int32} {v3 : Int32} {μ : qM} {P34 : Int32 → Int32 → Int32 → qM → Prop} {post : Int32 → qM → Prop} (C : qX Z G RX11 cX11_law 5 ({ frames := 7, cells := 0, slots := 0, locals := 158 } : Room) (some .int)) (hQ : qQi Z G 0 0 post) (hn : 66 ≤ gn G) (hP34 : ∀ (b1 : Int32) (b2 : Int32) (b3 : Int32) (μ1 : qM), P34 b1 b2 b3 μ1 → qV Z G 5 0 0 μ1 34 [(0, .ref (ga G 46)), (1, .int b1), (2, .int b2), (3, .int b3)] []) (h : q_X11_law_83 P34 post v1 v2 v3 μ) : qV Z G 5 0 0 μ 83 [(0, .ref (ga G 46)), (1, .int v1), (2, .int v2), (3, .int v3)] [] := by
  unfold q_X11_law_83 at h
  refine x_iinc C 3 (v := 1) (L' := [(3, .int ((v3 + 1))), (0, .ref (ga G 46)), (1, .int v1), (2, .int v2)]) dX11_law_83 rfl (by decide) (by decide) rfl ?_
  refine x_goto C dX11_law_86 (tgt := 34) (by decide) ?_
  exact qV_sub [1, 2, 3, 0] rfl ((hP34 _ _ _ _ h))
theorem b_X11_law_43 {Z : qZ} {G : qG} {v1 : Int32} {v2 : Int32} {v3 : Int32} {v4 : Int32} {μ : qM} {P34 : Int32 → Int32 → Int32 → qM → Prop} {post : Int32 → qM → Prop} (C : qX Z G RX11 cX11_law 5 ({ frames := 7, cells := 0, slots := 0, locals := 158 } : Room) (some .int)) (hQ : qQi Z G 0 0 post) (hn : 66 ≤ gn G) (hP34 : ∀ (b1 : Int32) (b2 : Int32) (b3 : Int32) (μ1 : qM), P34 b1 b2 b3 μ1 → qV Z G 5 0 0 μ1 34 [(0, .ref (ga G 46)), (1, .int b1), (2, .int b2), (3, .int b3)] []) (h : q_X11_law_43 v1 v2 v3 P34 post v4 μ) : qV Z G 5 0 0 μ 43 [(0, .ref (ga G 46)), (1, .int v1), (2, .int v2), (3, .int v3), (4, .int v4)] [] := by
  refine h (fun v4 μ => qV Z G 5 0 0 μ 43 [(0, .ref (ga G 46)), (1, .int v1), (2, .int v2), (3, .int v3), (4, .int v4)] []) (fun v4 μ h => ?_)
  refine x_iload C 4 dX11_law_43 rfl ?_
  refine x_aload_n C 0 dX11_law_45 rfl rfl ?_
  refine g_RX11_76 C hn dX11_law_46 ?_
  refine x_icmp_ge C dX11_law_49 (tgt := 66) (by decide) h (fun h => ?_) (fun h => ?_)
  · refine x_aload_n C 0 dX11_law_66 rfl rfl ?_
    refine i_RX11_159 (rest := []) C hn  rfl (by decide) rfl dX11_law_67 h (fun r67 μ67 h => ?_)
    refine x_istore C (L' := [(4, .int r67), (0, .ref (ga G 46)), (1, .int v1), (2, .int v2), (3, .int v3)]) dX11_law_70 (by decide) rfl ?_
    refine x_iload C 0 dX11_law_72 rfl ?_
    refine x_iload_n C 3 dX11_law_74 rfl rfl ?_
    refine x_icmp_le C dX11_law_75 (tgt := 83) (by decide) h (fun h => ?_) (fun h => ?_)
    · exact qV_sub [1, 2, 3, 4] rfl (b_X11_law_83 C hQ hn hP34 h)
    · refine x_iload_n C 4 dX11_law_78 rfl rfl ?_
      refine x_istore_n C (L' := [(1, .int v3), (4, .int r67), (0, .ref (ga G 46)), (2, .int v2), (3, .int v3)]) dX11_law_79 rfl (by decide) rfl ?_
      refine x_iload C 1 dX11_law_80 rfl ?_
      refine x_istore_n C (L' := [(2, .int r67), (1, .int v3), (4, .int r67), (0, .ref (ga G 46)), (3, .int v3)]) dX11_law_82 rfl (by decide) rfl ?_
      exact qV_sub [3, 1, 0, 4] rfl (b_X11_law_83 C hQ hn hP34 h)
  · refine x_aload_n C 0 dX11_law_52 rfl rfl ?_
    refine g_RX11_9 C hn dX11_law_53 ?_
    refine x_iload C 4 dX11_law_56 rfl ?_
    refine x_iload_n C 3 dX11_law_58 rfl rfl ?_
    refine x_iast C 47 19 154 (q_lt rfl rfl hn) rfl rfl rfl rfl rfl dX11_law_59 h (fun h => ?_)
    refine x_iinc C 4 (v := 1) (L' := [(4, .int ((v4 + 1))), (0, .ref (ga G 46)), (1, .int v1), (2, .int v2), (3, .int v3)]) dX11_law_60 rfl (by decide) (by decide) rfl ?_
    refine x_goto C dX11_law_63 (tgt := 43) (by decide) ?_
    exact qV_sub [1, 2, 3, 4, 0] rfl (h)
theorem b_X11_law_91 {Z : qZ} {G : qG} {v1 : Int32} {v3 : Int32} {μ : qM} {post : Int32 → qM → Prop} (C : qX Z G RX11 cX11_law 5 ({ frames := 7, cells := 0, slots := 0, locals := 158 } : Room) (some .int)) (hQ : qQi Z G 0 0 post) (hn : 66 ≤ gn G) (h : q_X11_law_91 v1 post v3 μ) : qV Z G 5 0 0 μ 91 [(0, .ref (ga G 46)), (1, .int v1), (3, .int v3)] [] := by
  refine h (fun v3 μ => qV Z G 5 0 0 μ 91 [(0, .ref (ga G 46)), (1, .int v1), (3, .int v3)] []) (fun v3 μ h => ?_)
  refine x_iload_n C 2 dX11_law_91 rfl rfl ?_
  refine x_aload_n C 0 dX11_law_92 rfl rfl ?_
  refine g_RX11_76 C hn dX11_law_93 ?_
  refine x_icmp_ge C dX11_law_96 (tgt := 117) (by decide) h (fun h => ?_) (fun h => ?_)
  · refine x_iload_n C 1 dX11_law_117 rfl rfl ?_
    exact x_iret C hQ dX11_law_118 h
  · refine x_aload_n C 0 dX11_law_99 rfl rfl ?_
    refine g_RX11_9 C hn dX11_law_100 ?_
    refine x_iload_n C 2 dX11_law_103 rfl rfl ?_
    refine x_aload_n C 0 dX11_law_104 rfl rfl ?_
    refine g_RX11_54 C hn dX11_law_105 ?_
    refine x_iload_n C 2 dX11_law_108 rfl rfl ?_
    refine x_iald C 59 11 10 (q_lt rfl rfl hn) rfl rfl rfl rfl rfl dX11_law_109 h (fun h => ?_)
    refine x_iast C 47 19 154 (q_lt rfl rfl hn) rfl rfl rfl rfl rfl dX11_law_110 h (fun h => ?_)
    refine x_iinc C 2 (v := 1) (L' := [(3, .int ((v3 + 1))), (0, .ref (ga G 46)), (1, .int v1)]) dX11_law_111 rfl (by decide) (by decide) rfl ?_
    refine x_goto C dX11_law_114 (tgt := 91) (by decide) ?_
    exact qV_sub [1, 2, 0] rfl (h)
theorem b_X11_law_34 {Z : qZ} {G : qG} {v1 : Int32} {v2 : Int32} {v3 : Int32} {μ : qM} {post : Int32 → qM → Prop} (C : qX Z G RX11 cX11_law 5 ({ frames := 7, cells := 0, slots := 0, locals := 158 } : Room) (some .int)) (hQ : qQi Z G 0 0 post) (hn : 66 ≤ gn G) (h : q_X11_law_34 post v1 v2 v3 μ) : qV Z G 5 0 0 μ 34 [(0, .ref (ga G 46)), (1, .int v1), (2, .int v2), (3, .int v3)] [] := by
  refine h (fun v1 v2 v3 μ => qV Z G 5 0 0 μ 34 [(0, .ref (ga G 46)), (1, .int v1), (2, .int v2), (3, .int v3)] []) (fun v1 v2 v3 μ h => ?_)
  refine x_iload_n C 3 dX11_law_34 rfl rfl ?_
  refine x_bipush C dX11_law_35 (v := 7) (by decide) ?_
  refine x_icmp_ge C dX11_law_37 (tgt := 89) (by decide) h (fun h => ?_) (fun h => ?_)
  · refine x_iconst C dX11_law_89 (v := 0) (by decide) ?_
    refine x_istore_n C (L' := [(3, .int ((0 : Int32))), (0, .ref (ga G 46)), (1, .int v1), (2, .int v2)]) dX11_law_90 rfl (by decide) rfl ?_
    exact qV_sub [1, 2, 0] rfl (b_X11_law_91 C hQ hn h)
  · refine x_iconst C dX11_law_40 (v := 0) (by decide) ?_
    refine x_istore C (L' := [(4, .int ((0 : Int32))), (0, .ref (ga G 46)), (1, .int v1), (2, .int v2), (3, .int v3)]) dX11_law_41 (by decide) rfl ?_
    exact qV_sub [1, 2, 3, 4, 0] rfl (b_X11_law_43 C hQ hn (fun _ _ _ _ h => h) h)
theorem b_X11_law_2 {Z : qZ} {G : qG} {v1 : Int32} {μ : qM} {post : Int32 → qM → Prop} (C : qX Z G RX11 cX11_law 5 ({ frames := 7, cells := 0, slots := 0, locals := 158 } : Room) (some .int)) (hQ : qQi Z G 0 0 post) (hn : 66 ≤ gn G) (h : q_X11_law_2 post v1 μ) : qV Z G 5 0 0 μ 2 [(0, .ref (ga G 46)), (1, .int v1)] [] := by
  refine h (fun v1 μ => qV Z G 5 0 0 μ 2 [(0, .ref (ga G 46)), (1, .int v1)] []) (fun v1 μ h => ?_)
  refine x_iload_n C 1 dX11_law_2 rfl rfl ?_
  refine x_aload_n C 0 dX11_law_3 rfl rfl ?_
  refine g_RX11_76 C hn dX11_law_4 ?_
  refine x_icmp_ge C dX11_law_7 (tgt := 28) (by decide) h (fun h => ?_) (fun h => ?_)
  · refine x_iconst C dX11_law_28 (v := 0) (by decide) ?_
    refine x_istore_n C (L' := [(1, .int ((0 : Int32))), (0, .ref (ga G 46))]) dX11_law_29 rfl (by decide) rfl ?_
    refine x_iconst C dX11_law_30 (v := -1) (by decide) ?_
    refine x_istore_n C (L' := [(2, .int ((-1 : Int32))), (1, .int ((0 : Int32))), (0, .ref (ga G 46))]) dX11_law_31 rfl (by decide) rfl ?_
    refine x_iconst C dX11_law_32 (v := 0) (by decide) ?_
    refine x_istore_n C (L' := [(3, .int ((0 : Int32))), (2, .int ((-1 : Int32))), (1, .int ((0 : Int32))), (0, .ref (ga G 46))]) dX11_law_33 rfl (by decide) rfl ?_
    exact qV_sub [3, 2, 1, 0] rfl (b_X11_law_34 C hQ hn h)
  · refine x_aload_n C 0 dX11_law_10 rfl rfl ?_
    refine g_RX11_54 C hn dX11_law_11 ?_
    refine x_iload_n C 1 dX11_law_14 rfl rfl ?_
    refine x_aload_n C 0 dX11_law_15 rfl rfl ?_
    refine g_RX11_9 C hn dX11_law_16 ?_
    refine x_iload_n C 1 dX11_law_19 rfl rfl ?_
    refine x_iald C 47 19 154 (q_lt rfl rfl hn) rfl rfl rfl rfl rfl dX11_law_20 h (fun h => ?_)
    refine x_iast C 59 11 10 (q_lt rfl rfl hn) rfl rfl rfl rfl rfl dX11_law_21 h (fun h => ?_)
    refine x_iinc C 1 (v := 1) (L' := [(1, .int ((v1 + 1))), (0, .ref (ga G 46))]) dX11_law_22 rfl (by decide) (by decide) rfl ?_
    refine x_goto C dX11_law_25 (tgt := 2) (by decide) ?_
    exact qV_sub [1, 0] rfl (h)
theorem y_X11_law : qY yX11_law cX11_law 5 (some .int) 0 ({ frames := 7, cells := 0, slots := 0, locals := 158 } : Room) 0 0 := ⟨(qm_25 _ (List.mem_of_getElem? (i := 9) rfl)), (qm_1 _ (List.mem_of_getElem? (i := 5) rfl)), by decide +kernel, by decide +kernel, rfl, rfl⟩
theorem c_X11_law (l : Launch) (G : qG) {μ : qM} (hn : 66 ≤ gn G) : qCi l G yX11_law cX11_law 5 (some .int) ({ frames := 7, cells := 0, slots := 0, locals := 158 } : Room) 0 0 [.ref (ga G 46)] μ (fun post => w_X11_law  post μ) := by
  refine qCi_of (L := [(0, .ref (ga G 46))]) (by decide) rfl rfl ?_
  intro Z post hl C hQ h
  have C : qX Z G RX11 cX11_law 5 ({ frames := 7, cells := 0, slots := 0, locals := 158 } : Room) (some .int) := C
  have h : w_X11_law  post μ := h
  unfold w_X11_law at h
  refine x_iconst C dX11_law_0 (v := 0) (by decide) ?_
  refine x_istore_n C (L' := [(1, .int ((0 : Int32))), (0, .ref (ga G 46))]) dX11_law_1 rfl (by decide) rfl ?_
  exact qV_sub [1, 0] rfl (b_X11_law_2 C hQ hn h)
theorem dX11_isFreeByOne_0 : decode cX11_isFreeByOne 0 = .ok (.iconst 0, 1) := by decide +kernel
theorem dX11_isFreeByOne_1 : decode cX11_isFreeByOne 1 = .ok (.istore_n 2, 1) := by decide +kernel
theorem dX11_isFreeByOne_2 : decode cX11_isFreeByOne 2 = .ok (.iload_n 2, 1) := by decide +kernel
theorem dX11_isFreeByOne_3 : decode cX11_isFreeByOne 3 = .ok (.sipush 144, 3) := by decide +kernel
theorem dX11_isFreeByOne_6 : decode cX11_isFreeByOne 6 = .ok (.if_icmp .ge 55, 3) := by decide +kernel
theorem dX11_isFreeByOne_9 : decode cX11_isFreeByOne 9 = .ok (.iload_n 2, 1) := by decide +kernel
theorem dX11_isFreeByOne_10 : decode cX11_isFreeByOne 10 = .ok (.iload_n 1, 1) := by decide +kernel
theorem dX11_isFreeByOne_11 : decode cX11_isFreeByOne 11 = .ok (.if_icmp .eq 44, 3) := by decide +kernel
theorem dX11_isFreeByOne_14 : decode cX11_isFreeByOne 14 = .ok (.aload_n 0, 1) := by decide +kernel
theorem dX11_isFreeByOne_15 : decode cX11_isFreeByOne 15 = .ok (.iload_n 2, 1) := by decide +kernel
theorem dX11_isFreeByOne_16 : decode cX11_isFreeByOne 16 = .ok (.invokevirtual 109, 3) := by decide +kernel
theorem dX11_isFreeByOne_19 : decode cX11_isFreeByOne 19 = .ok (.ifCond .eq 36, 3) := by decide +kernel
theorem dX11_isFreeByOne_22 : decode cX11_isFreeByOne 22 = .ok (.aload_n 0, 1) := by decide +kernel
theorem dX11_isFreeByOne_23 : decode cX11_isFreeByOne 23 = .ok (.iconst 0, 1) := by decide +kernel
theorem dX11_isFreeByOne_24 : decode cX11_isFreeByOne 24 = .ok (.iload_n 2, 1) := by decide +kernel
theorem dX11_isFreeByOne_25 : decode cX11_isFreeByOne 25 = .ok (.invokevirtual 122, 3) := by decide +kernel
theorem dX11_isFreeByOne_28 : decode cX11_isFreeByOne 28 = .ok (.aload_n 0, 1) := by decide +kernel
theorem dX11_isFreeByOne_29 : decode cX11_isFreeByOne 29 = .ok (.iload_n 1, 1) := by decide +kernel
theorem dX11_isFreeByOne_30 : decode cX11_isFreeByOne 30 = .ok (.invokevirtual 109, 3) := by decide +kernel
theorem dX11_isFreeByOne_33 : decode cX11_isFreeByOne 33 = .ok (.istore_n 3, 1) := by decide +kernel
theorem dX11_isFreeByOne_34 : decode cX11_isFreeByOne 34 = .ok (.aload_n 0, 1) := by decide +kernel
theorem dX11_isFreeByOne_35 : decode cX11_isFreeByOne 35 = .ok (.dup, 1) := by decide +kernel
theorem dX11_isFreeByOne_36 : decode cX11_isFreeByOne 36 = .ok (.getfield 76, 3) := by decide +kernel
theorem dX11_isFreeByOne_39 : decode cX11_isFreeByOne 39 = .ok (.iconst 1, 1) := by decide +kernel
theorem dX11_isFreeByOne_40 : decode cX11_isFreeByOne 40 = .ok (.isub, 1) := by decide +kernel
theorem dX11_isFreeByOne_41 : decode cX11_isFreeByOne 41 = .ok (.putfield 76, 3) := by decide +kernel
theorem dX11_isFreeByOne_44 : decode cX11_isFreeByOne 44 = .ok (.iload_n 3, 1) := by decide +kernel
theorem dX11_isFreeByOne_45 : decode cX11_isFreeByOne 45 = .ok (.ifCond .eq 10, 3) := by decide +kernel
theorem dX11_isFreeByOne_48 : decode cX11_isFreeByOne 48 = .ok (.aload_n 0, 1) := by decide +kernel
theorem dX11_isFreeByOne_49 : decode cX11_isFreeByOne 49 = .ok (.iload_n 2, 1) := by decide +kernel
theorem dX11_isFreeByOne_50 : decode cX11_isFreeByOne 50 = .ok (.putfield 163, 3) := by decide +kernel
theorem dX11_isFreeByOne_53 : decode cX11_isFreeByOne 53 = .ok (.iconst 1, 1) := by decide +kernel
theorem dX11_isFreeByOne_54 : decode cX11_isFreeByOne 54 = .ok (.ireturn, 1) := by decide +kernel
theorem dX11_isFreeByOne_55 : decode cX11_isFreeByOne 55 = .ok (.iinc 2 1, 3) := by decide +kernel
theorem dX11_isFreeByOne_58 : decode cX11_isFreeByOne 58 = .ok (.goto (-56), 3) := by decide +kernel
theorem dX11_isFreeByOne_61 : decode cX11_isFreeByOne 61 = .ok (.iconst 0, 1) := by decide +kernel
theorem dX11_isFreeByOne_62 : decode cX11_isFreeByOne 62 = .ok (.ireturn, 1) := by decide +kernel
theorem p_RX11_163 {Z : qZ} {G : qG} {cc : ByteArray} {nL k n : Nat} {rm : Room} {ret : Option FieldType} {μ : qM} {pc : Nat} {L : List (Nat × Value)} {st : List Value} {x : Int32} (C : qX Z G RX11 cc nL rm ret) (hn : 66 ≤ gn G) (hd : decode cc pc = .ok (.putfield 163, 3)) (h : qV Z G nL k n (qu μ 46 24 x) (pc + 3) L st) : qV Z G nL k n μ pc L (.int x :: .ref (ga G 46) :: st) := x_puti C 46 10 24 (C0 := RX11) (fn := "secondHut") (fd := "I") (ty := .int) (Nat.lt_of_lt_of_le (by decide) hn) rfl (by decide) rfl (by decide) rfl inlX11 tyX11_ok nmX11 (qm_26 _ (List.mem_of_getElem? (i := 10) rfl)) rfl (by decide +kernel) rfl rfl hd h
theorem b_X11_isFreeByOne_55 {Z : qZ} {G : qG} {v1 : Int32} {v2 : Int32} {μ : qM} {P2 : Int32 → qM → Prop} {post : Int32 → qM → Prop} (C : qX Z G RX11 cX11_isFreeByOne 4 ({ frames := 6, cells := 0, slots := 0, locals := 136 } : Room) (some .boolean)) (hQ : qQi Z G 0 0 post) (hn : 66 ≤ gn G) (hP2 : ∀ (b2 : Int32) (μ1 : qM), P2 b2 μ1 → qV Z G 4 0 0 μ1 2 [(0, .ref (ga G 46)), (1, .int v1), (2, .int b2)] []) (h : q_X11_isFreeByOne_55 P2 post v1 v2 μ) : qV Z G 4 0 0 μ 55 [(0, .ref (ga G 46)), (1, .int v1), (2, .int v2)] [] := by
  unfold q_X11_isFreeByOne_55 at h
  refine x_iinc C 2 (v := 1) (L' := [(2, .int ((v2 + 1))), (0, .ref (ga G 46)), (1, .int v1)]) dX11_isFreeByOne_55 rfl (by decide) (by decide) rfl ?_
  refine x_goto C dX11_isFreeByOne_58 (tgt := 2) (by decide) ?_
  exact qV_sub [1, 2, 0] rfl ((hP2 _ _ h))
theorem b_X11_isFreeByOne_2 {Z : qZ} {G : qG} {v1 : Int32} {v2 : Int32} {μ : qM} {post : Int32 → qM → Prop} (C : qX Z G RX11 cX11_isFreeByOne 4 ({ frames := 6, cells := 0, slots := 0, locals := 136 } : Room) (some .boolean)) (hQ : qQi Z G 0 0 post) (hn : 66 ≤ gn G) (h : q_X11_isFreeByOne_2 v1 post v2 μ) : qV Z G 4 0 0 μ 2 [(0, .ref (ga G 46)), (1, .int v1), (2, .int v2)] [] := by
  refine h (fun v2 μ => qV Z G 4 0 0 μ 2 [(0, .ref (ga G 46)), (1, .int v1), (2, .int v2)] []) (fun v2 μ h => ?_)
  refine x_iload_n C 2 dX11_isFreeByOne_2 rfl rfl ?_
  refine x_sipush C dX11_isFreeByOne_3 (v := 144) (by decide) ?_
  refine x_icmp_ge C dX11_isFreeByOne_6 (tgt := 61) (by decide) h (fun h => ?_) (fun h => ?_)
  · refine x_iconst C dX11_isFreeByOne_61 (v := 0) (by decide) ?_
    exact x_zret C hQ dX11_isFreeByOne_62 h
  · refine x_iload_n C 2 dX11_isFreeByOne_9 rfl rfl ?_
    refine x_iload_n C 1 dX11_isFreeByOne_10 rfl rfl ?_
    refine x_icmp_eq C dX11_isFreeByOne_11 (tgt := 55) (by decide) h (fun h => ?_) (fun h => ?_)
    · exact b_X11_isFreeByOne_55 C hQ hn (fun _ _ h => h) h
    · refine x_aload_n C 0 dX11_isFreeByOne_14 rfl rfl ?_
      refine x_iload_n C 2 dX11_isFreeByOne_15 rfl rfl ?_
      refine i_RX11_109 (rest := []) C hn  rfl (by decide) rfl dX11_isFreeByOne_16 h (fun r16 μ16 h => ?_)
      refine x_if_eq C dX11_isFreeByOne_19 (tgt := 55) (by decide) h (fun h => ?_) (fun h => ?_)
      · exact b_X11_isFreeByOne_55 C hQ hn (fun _ _ h => h) h
      · refine x_aload_n C 0 dX11_isFreeByOne_22 rfl rfl ?_
        refine x_iconst C dX11_isFreeByOne_23 (v := 0) (by decide) ?_
        refine x_iload_n C 2 dX11_isFreeByOne_24 rfl rfl ?_
        refine i_RX11_122 (rest := []) C hn  rfl (by decide) rfl dX11_isFreeByOne_25 h (fun μ25 h => ?_)
        refine x_aload_n C 0 dX11_isFreeByOne_28 rfl rfl ?_
        refine x_iload_n C 1 dX11_isFreeByOne_29 rfl rfl ?_
        refine i_RX11_109 (rest := []) C hn  rfl (by decide) rfl dX11_isFreeByOne_30 h (fun r30 μ30 h => ?_)
        refine x_istore_n C (L' := [(3, .int r30), (0, .ref (ga G 46)), (1, .int v1), (2, .int v2)]) dX11_isFreeByOne_33 rfl (by decide) rfl ?_
        refine x_aload_n C 1 dX11_isFreeByOne_34 rfl rfl ?_
        refine x_dup C dX11_isFreeByOne_35 rfl ?_
        refine g_RX11_76 C hn dX11_isFreeByOne_36 ?_
        refine x_iconst C dX11_isFreeByOne_39 (v := 1) (by decide) ?_
        refine x_isub C dX11_isFreeByOne_40 ?_
        refine p_RX11_76 C hn dX11_isFreeByOne_41 ?_
        refine x_iload_n C 0 dX11_isFreeByOne_44 rfl rfl ?_
        refine x_if_eq C dX11_isFreeByOne_45 (tgt := 55) (by decide) h (fun h => ?_) (fun h => ?_)
        · exact qV_sub [1, 2, 3] rfl (b_X11_isFreeByOne_55 C hQ hn (fun _ _ h => h) h)
        · refine x_aload_n C 1 dX11_isFreeByOne_48 rfl rfl ?_
          refine x_iload_n C 3 dX11_isFreeByOne_49 rfl rfl ?_
          refine p_RX11_163 C hn dX11_isFreeByOne_50 ?_
          refine x_iconst C dX11_isFreeByOne_53 (v := 1) (by decide) ?_
          exact x_zret C hQ dX11_isFreeByOne_54 h
theorem y_X11_isFreeByOne : qY yX11_isFreeByOne cX11_isFreeByOne 4 (some .boolean) 1 ({ frames := 6, cells := 0, slots := 0, locals := 136 } : Room) 0 0 := ⟨(qm_26 _ (List.mem_of_getElem? (i := 15) rfl)), (qm_1 _ (List.mem_of_getElem? (i := 5) rfl)), by decide +kernel, by decide +kernel, rfl, rfl⟩
theorem c_X11_isFreeByOne (l : Launch) (G : qG) {v1 : Int32} {μ : qM} (hn : 66 ≤ gn G) : qCi l G yX11_isFreeByOne cX11_isFreeByOne 4 (some .boolean) ({ frames := 6, cells := 0, slots := 0, locals := 136 } : Room) 0 0 [.ref (ga G 46), .int v1] μ (fun post => w_X11_isFreeByOne v1 post μ) := by
  refine qCi_of (L := [(0, .ref (ga G 46)), (1, .int v1)]) (by decide) rfl rfl ?_
  intro Z post hl C hQ h
  have C : qX Z G RX11 cX11_isFreeByOne 4 ({ frames := 6, cells := 0, slots := 0, locals := 136 } : Room) (some .boolean) := C
  have h : w_X11_isFreeByOne v1 post μ := h
  unfold w_X11_isFreeByOne at h
  refine x_iconst C dX11_isFreeByOne_0 (v := 0) (by decide) ?_
  refine x_istore_n C (L' := [(2, .int ((0 : Int32))), (0, .ref (ga G 46)), (1, .int v1)]) dX11_isFreeByOne_1 rfl (by decide) rfl ?_
  exact qV_sub [1, 2, 0] rfl (b_X11_isFreeByOne_2 C hQ hn h)
theorem dX11_hutsFor_0 : decode cX11_hutsFor 0 = .ok (.aload_n 0, 1) := by decide +kernel
theorem dX11_hutsFor_1 : decode cX11_hutsFor 1 = .ok (.iload_n 1, 1) := by decide +kernel
theorem dX11_hutsFor_2 : decode cX11_hutsFor 2 = .ok (.invokevirtual 109, 3) := by decide +kernel
theorem dX11_hutsFor_5 : decode cX11_hutsFor 5 = .ok (.ifCond .eq 5, 3) := by decide +kernel
theorem dX11_hutsFor_8 : decode cX11_hutsFor 8 = .ok (.iconst 0, 1) := by decide +kernel
theorem dX11_hutsFor_9 : decode cX11_hutsFor 9 = .ok (.ireturn, 1) := by decide +kernel
theorem dX11_hutsFor_10 : decode cX11_hutsFor 10 = .ok (.aload_n 0, 1) := by decide +kernel
theorem dX11_hutsFor_11 : decode cX11_hutsFor 11 = .ok (.iload_n 1, 1) := by decide +kernel
theorem dX11_hutsFor_12 : decode cX11_hutsFor 12 = .ok (.invokevirtual 166, 3) := by decide +kernel
theorem dX11_hutsFor_15 : decode cX11_hutsFor 15 = .ok (.ifCond .eq 13, 3) := by decide +kernel
theorem dX11_hutsFor_18 : decode cX11_hutsFor 18 = .ok (.aload_n 0, 1) := by decide +kernel
theorem dX11_hutsFor_19 : decode cX11_hutsFor 19 = .ok (.aload_n 0, 1) := by decide +kernel
theorem dX11_hutsFor_20 : decode cX11_hutsFor 20 = .ok (.getfield 163, 3) := by decide +kernel
theorem dX11_hutsFor_23 : decode cX11_hutsFor 23 = .ok (.putfield 169, 3) := by decide +kernel
theorem dX11_hutsFor_26 : decode cX11_hutsFor 26 = .ok (.iconst 1, 1) := by decide +kernel
theorem dX11_hutsFor_27 : decode cX11_hutsFor 27 = .ok (.ireturn, 1) := by decide +kernel
theorem dX11_hutsFor_28 : decode cX11_hutsFor 28 = .ok (.iconst 0, 1) := by decide +kernel
theorem dX11_hutsFor_29 : decode cX11_hutsFor 29 = .ok (.istore_n 2, 1) := by decide +kernel
theorem dX11_hutsFor_30 : decode cX11_hutsFor 30 = .ok (.iload_n 2, 1) := by decide +kernel
theorem dX11_hutsFor_31 : decode cX11_hutsFor 31 = .ok (.sipush 144, 3) := by decide +kernel
theorem dX11_hutsFor_34 : decode cX11_hutsFor 34 = .ok (.if_icmp .ge 55, 3) := by decide +kernel
theorem dX11_hutsFor_37 : decode cX11_hutsFor 37 = .ok (.iload_n 2, 1) := by decide +kernel
theorem dX11_hutsFor_38 : decode cX11_hutsFor 38 = .ok (.iload_n 1, 1) := by decide +kernel
theorem dX11_hutsFor_39 : decode cX11_hutsFor 39 = .ok (.if_icmp .eq 44, 3) := by decide +kernel
theorem dX11_hutsFor_42 : decode cX11_hutsFor 42 = .ok (.aload_n 0, 1) := by decide +kernel
theorem dX11_hutsFor_43 : decode cX11_hutsFor 43 = .ok (.iload_n 2, 1) := by decide +kernel
theorem dX11_hutsFor_44 : decode cX11_hutsFor 44 = .ok (.invokevirtual 109, 3) := by decide +kernel
theorem dX11_hutsFor_47 : decode cX11_hutsFor 47 = .ok (.ifCond .eq 36, 3) := by decide +kernel
theorem dX11_hutsFor_50 : decode cX11_hutsFor 50 = .ok (.aload_n 0, 1) := by decide +kernel
theorem dX11_hutsFor_51 : decode cX11_hutsFor 51 = .ok (.iconst 0, 1) := by decide +kernel
theorem dX11_hutsFor_52 : decode cX11_hutsFor 52 = .ok (.iload_n 2, 1) := by decide +kernel
theorem dX11_hutsFor_53 : decode cX11_hutsFor 53 = .ok (.invokevirtual 122, 3) := by decide +kernel
theorem dX11_hutsFor_56 : decode cX11_hutsFor 56 = .ok (.aload_n 0, 1) := by decide +kernel
theorem dX11_hutsFor_57 : decode cX11_hutsFor 57 = .ok (.iload_n 1, 1) := by decide +kernel
theorem dX11_hutsFor_58 : decode cX11_hutsFor 58 = .ok (.invokevirtual 166, 3) := by decide +kernel
theorem dX11_hutsFor_61 : decode cX11_hutsFor 61 = .ok (.istore_n 3, 1) := by decide +kernel
theorem dX11_hutsFor_62 : decode cX11_hutsFor 62 = .ok (.aload_n 0, 1) := by decide +kernel
theorem dX11_hutsFor_63 : decode cX11_hutsFor 63 = .ok (.dup, 1) := by decide +kernel
theorem dX11_hutsFor_64 : decode cX11_hutsFor 64 = .ok (.getfield 76, 3) := by decide +kernel
theorem dX11_hutsFor_67 : decode cX11_hutsFor 67 = .ok (.iconst 1, 1) := by decide +kernel
theorem dX11_hutsFor_68 : decode cX11_hutsFor 68 = .ok (.isub, 1) := by decide +kernel
theorem dX11_hutsFor_69 : decode cX11_hutsFor 69 = .ok (.putfield 76, 3) := by decide +kernel
theorem dX11_hutsFor_72 : decode cX11_hutsFor 72 = .ok (.iload_n 3, 1) := by decide +kernel
theorem dX11_hutsFor_73 : decode cX11_hutsFor 73 = .ok (.ifCond .eq 10, 3) := by decide +kernel
theorem dX11_hutsFor_76 : decode cX11_hutsFor 76 = .ok (.aload_n 0, 1) := by decide +kernel
theorem dX11_hutsFor_77 : decode cX11_hutsFor 77 = .ok (.iload_n 2, 1) := by decide +kernel
theorem dX11_hutsFor_78 : decode cX11_hutsFor 78 = .ok (.putfield 169, 3) := by decide +kernel
theorem dX11_hutsFor_81 : decode cX11_hutsFor 81 = .ok (.iconst 2, 1) := by decide +kernel
theorem dX11_hutsFor_82 : decode cX11_hutsFor 82 = .ok (.ireturn, 1) := by decide +kernel
theorem dX11_hutsFor_83 : decode cX11_hutsFor 83 = .ok (.iinc 2 1, 3) := by decide +kernel
theorem dX11_hutsFor_86 : decode cX11_hutsFor 86 = .ok (.goto (-56), 3) := by decide +kernel
theorem dX11_hutsFor_89 : decode cX11_hutsFor 89 = .ok (.iconst (-1), 1) := by decide +kernel
theorem dX11_hutsFor_90 : decode cX11_hutsFor 90 = .ok (.ireturn, 1) := by decide +kernel
theorem i_RX11_166 {Z : qZ} {G : qG} {cc : ByteArray} {nL k n : Nat} {rm : Room} {ret : Option FieldType} {μ : qM} {pc : Nat} {L : List (Nat × Value)} {rest : List Value} {K : Int32 → qM → Prop} {v1 : Int32} (C : qX Z G RX11 cc nL rm ret) (hn : 66 ≤ gn G) (hR : (Nat.ble (6 + 1) rm.frames && Nat.ble (8 + (4 + 11) + 136) rm.locals) = true) (hf : k + 0 ≤ rm.cells ∧ n + 0 ≤ rm.slots) (hsz : Nat.ble (rest.map fun v => v.category).sum 8 = true) (hd : decode cc pc = .ok (.invokevirtual 166, 3)) (h : w_X11_isFreeByOne v1 K μ) (hk : ∀ (r : Int32) (μ1 : qM), K r μ1 → qV Z G nL k n μ1 (pc + 3) L (.int r :: rest)) : qV Z G nL k n μ pc L (.int v1 :: .ref (ga G 46) :: rest) := x_Vi [.int v1] rest C 46 10 (wp := fun K => w_X11_isFreeByOne v1 K μ) (y_X11_isFreeByOne : qY yX11_isFreeByOne cX11_isFreeByOne 4 (some .boolean) 1 ({ frames := 6, cells := 0, slots := 0, locals := 136 } : Room) 0 0) (qm_26 _ (List.mem_of_getElem? (i := 13) rfl)) (qm_26 _ (List.mem_of_getElem? (i := 14) rfl)) (qm_26 _ (List.mem_of_getElem? (i := 12) rfl)) (c_X11_isFreeByOne Z.2.1 G hn ) (Nat.lt_of_lt_of_le (by decide) hn) rfl (by decide) rfl rfl hR hf rfl rfl hsz hd h hk
theorem g_RX11_163 {Z : qZ} {G : qG} {cc : ByteArray} {nL k n : Nat} {rm : Room} {ret : Option FieldType} {μ : qM} {pc : Nat} {L : List (Nat × Value)} {st : List Value} (C : qX Z G RX11 cc nL rm ret) (hn : 66 ≤ gn G) (hd : decode cc pc = .ok (.getfield 163, 3)) (h : qV Z G nL k n μ (pc + 3) L (.int (μ 46 24) :: st)) : qV Z G nL k n μ pc L (.ref (ga G 46) :: st) := x_geti C 46 10 24 (C0 := RX11) (fn := "secondHut") (fd := "I") (Nat.lt_of_lt_of_le (by decide) hn) rfl (by decide) rfl (by decide) rfl inlX11 (qm_26 _ (List.mem_of_getElem? (i := 10) rfl)) rfl hd h
theorem p_RX11_169 {Z : qZ} {G : qG} {cc : ByteArray} {nL k n : Nat} {rm : Room} {ret : Option FieldType} {μ : qM} {pc : Nat} {L : List (Nat × Value)} {st : List Value} {x : Int32} (C : qX Z G RX11 cc nL rm ret) (hn : 66 ≤ gn G) (hd : decode cc pc = .ok (.putfield 169, 3)) (h : qV Z G nL k n (qu μ 46 23 x) (pc + 3) L st) : qV Z G nL k n μ pc L (.int x :: .ref (ga G 46) :: st) := x_puti C 46 10 23 (C0 := RX11) (fn := "firstHut") (fd := "I") (ty := .int) (Nat.lt_of_lt_of_le (by decide) hn) rfl (by decide) rfl (by decide) rfl inlX11 tyX11_ok nmX11 (qm_26 _ (List.mem_of_getElem? (i := 11) rfl)) rfl (by decide +kernel) rfl rfl hd h
theorem b_X11_hutsFor_83 {Z : qZ} {G : qG} {v1 : Int32} {v2 : Int32} {μ : qM} {P30 : Int32 → qM → Prop} {post : Int32 → qM → Prop} (C : qX Z G RX11 cX11_hutsFor 4 ({ frames := 7, cells := 0, slots := 0, locals := 159 } : Room) (some .int)) (hQ : qQi Z G 0 0 post) (hn : 66 ≤ gn G) (hP30 : ∀ (b2 : Int32) (μ1 : qM), P30 b2 μ1 → qV Z G 4 0 0 μ1 30 [(0, .ref (ga G 46)), (1, .int v1), (2, .int b2)] []) (h : q_X11_hutsFor_83 P30 post v1 v2 μ) : qV Z G 4 0 0 μ 83 [(0, .ref (ga G 46)), (1, .int v1), (2, .int v2)] [] := by
  unfold q_X11_hutsFor_83 at h
  refine x_iinc C 2 (v := 1) (L' := [(2, .int ((v2 + 1))), (0, .ref (ga G 46)), (1, .int v1)]) dX11_hutsFor_83 rfl (by decide) (by decide) rfl ?_
  refine x_goto C dX11_hutsFor_86 (tgt := 30) (by decide) ?_
  exact qV_sub [1, 2, 0] rfl ((hP30 _ _ h))
theorem b_X11_hutsFor_30 {Z : qZ} {G : qG} {v1 : Int32} {v2 : Int32} {μ : qM} {post : Int32 → qM → Prop} (C : qX Z G RX11 cX11_hutsFor 4 ({ frames := 7, cells := 0, slots := 0, locals := 159 } : Room) (some .int)) (hQ : qQi Z G 0 0 post) (hn : 66 ≤ gn G) (h : q_X11_hutsFor_30 v1 post v2 μ) : qV Z G 4 0 0 μ 30 [(0, .ref (ga G 46)), (1, .int v1), (2, .int v2)] [] := by
  refine h (fun v2 μ => qV Z G 4 0 0 μ 30 [(0, .ref (ga G 46)), (1, .int v1), (2, .int v2)] []) (fun v2 μ h => ?_)
  refine x_iload_n C 2 dX11_hutsFor_30 rfl rfl ?_
  refine x_sipush C dX11_hutsFor_31 (v := 144) (by decide) ?_
  refine x_icmp_ge C dX11_hutsFor_34 (tgt := 89) (by decide) h (fun h => ?_) (fun h => ?_)
  · refine x_iconst C dX11_hutsFor_89 (v := -1) (by decide) ?_
    exact x_iret C hQ dX11_hutsFor_90 h
  · refine x_iload_n C 2 dX11_hutsFor_37 rfl rfl ?_
    refine x_iload_n C 1 dX11_hutsFor_38 rfl rfl ?_
    refine x_icmp_eq C dX11_hutsFor_39 (tgt := 83) (by decide) h (fun h => ?_) (fun h => ?_)
    · exact b_X11_hutsFor_83 C hQ hn (fun _ _ h => h) h
    · refine x_aload_n C 0 dX11_hutsFor_42 rfl rfl ?_
      refine x_iload_n C 2 dX11_hutsFor_43 rfl rfl ?_
      refine i_RX11_109 (rest := []) C hn  rfl (by decide) rfl dX11_hutsFor_44 h (fun r44 μ44 h => ?_)
      refine x_if_eq C dX11_hutsFor_47 (tgt := 83) (by decide) h (fun h => ?_) (fun h => ?_)
      · exact b_X11_hutsFor_83 C hQ hn (fun _ _ h => h) h
      · refine x_aload_n C 0 dX11_hutsFor_50 rfl rfl ?_
        refine x_iconst C dX11_hutsFor_51 (v := 0) (by decide) ?_
        refine x_iload_n C 2 dX11_hutsFor_52 rfl rfl ?_
        refine i_RX11_122 (rest := []) C hn  rfl (by decide) rfl dX11_hutsFor_53 h (fun μ53 h => ?_)
        refine x_aload_n C 0 dX11_hutsFor_56 rfl rfl ?_
        refine x_iload_n C 1 dX11_hutsFor_57 rfl rfl ?_
        refine i_RX11_166 (rest := []) C hn  rfl (by decide) rfl dX11_hutsFor_58 h (fun r58 μ58 h => ?_)
        refine x_istore_n C (L' := [(3, .int r58), (0, .ref (ga G 46)), (1, .int v1), (2, .int v2)]) dX11_hutsFor_61 rfl (by decide) rfl ?_
        refine x_aload_n C 1 dX11_hutsFor_62 rfl rfl ?_
        refine x_dup C dX11_hutsFor_63 rfl ?_
        refine g_RX11_76 C hn dX11_hutsFor_64 ?_
        refine x_iconst C dX11_hutsFor_67 (v := 1) (by decide) ?_
        refine x_isub C dX11_hutsFor_68 ?_
        refine p_RX11_76 C hn dX11_hutsFor_69 ?_
        refine x_iload_n C 0 dX11_hutsFor_72 rfl rfl ?_
        refine x_if_eq C dX11_hutsFor_73 (tgt := 83) (by decide) h (fun h => ?_) (fun h => ?_)
        · exact qV_sub [1, 2, 3] rfl (b_X11_hutsFor_83 C hQ hn (fun _ _ h => h) h)
        · refine x_aload_n C 1 dX11_hutsFor_76 rfl rfl ?_
          refine x_iload_n C 3 dX11_hutsFor_77 rfl rfl ?_
          refine p_RX11_169 C hn dX11_hutsFor_78 ?_
          refine x_iconst C dX11_hutsFor_81 (v := 2) (by decide) ?_
          exact x_iret C hQ dX11_hutsFor_82 h
theorem y_X11_hutsFor : qY yX11_hutsFor cX11_hutsFor 4 (some .int) 1 ({ frames := 7, cells := 0, slots := 0, locals := 159 } : Room) 0 0 := ⟨(qm_26 _ (List.mem_of_getElem? (i := 9) rfl)), (qm_1 _ (List.mem_of_getElem? (i := 5) rfl)), by decide +kernel, by decide +kernel, rfl, rfl⟩
theorem c_X11_hutsFor (l : Launch) (G : qG) {v1 : Int32} {μ : qM} (hn : 66 ≤ gn G) : qCi l G yX11_hutsFor cX11_hutsFor 4 (some .int) ({ frames := 7, cells := 0, slots := 0, locals := 159 } : Room) 0 0 [.ref (ga G 46), .int v1] μ (fun post => w_X11_hutsFor v1 post μ) := by
  refine qCi_of (L := [(0, .ref (ga G 46)), (1, .int v1)]) (by decide) rfl rfl ?_
  intro Z post hl C hQ h
  have C : qX Z G RX11 cX11_hutsFor 4 ({ frames := 7, cells := 0, slots := 0, locals := 159 } : Room) (some .int) := C
  have h : w_X11_hutsFor v1 post μ := h
  unfold w_X11_hutsFor at h
  refine x_aload_n C 0 dX11_hutsFor_0 rfl rfl ?_
  refine x_iload_n C 1 dX11_hutsFor_1 rfl rfl ?_
  refine i_RX11_109 (rest := []) C hn  rfl (by decide) rfl dX11_hutsFor_2 h (fun r2 μ2 h => ?_)
  refine x_if_eq C dX11_hutsFor_5 (tgt := 10) (by decide) h (fun h => ?_) (fun h => ?_)
  · refine x_aload_n C 0 dX11_hutsFor_10 rfl rfl ?_
    refine x_iload_n C 1 dX11_hutsFor_11 rfl rfl ?_
    refine i_RX11_166 (rest := []) C hn  rfl (by decide) rfl dX11_hutsFor_12 h (fun r12 μ12 h => ?_)
    refine x_if_eq C dX11_hutsFor_15 (tgt := 28) (by decide) h (fun h => ?_) (fun h => ?_)
    · refine x_iconst C dX11_hutsFor_28 (v := 0) (by decide) ?_
      refine x_istore_n C (L' := [(2, .int ((0 : Int32))), (0, .ref (ga G 46)), (1, .int v1)]) dX11_hutsFor_29 rfl (by decide) rfl ?_
      exact qV_sub [1, 2, 0] rfl (b_X11_hutsFor_30 C hQ hn h)
    · refine x_aload_n C 0 dX11_hutsFor_18 rfl rfl ?_
      refine x_aload_n C 0 dX11_hutsFor_19 rfl rfl ?_
      refine g_RX11_163 C hn dX11_hutsFor_20 ?_
      refine p_RX11_169 C hn dX11_hutsFor_23 ?_
      refine x_iconst C dX11_hutsFor_26 (v := 1) (by decide) ?_
      exact x_iret C hQ dX11_hutsFor_27 h
  · refine x_iconst C dX11_hutsFor_8 (v := 0) (by decide) ?_
    exact x_iret C hQ dX11_hutsFor_9 h
theorem dX11_huts_0 : decode cX11_huts 0 = .ok (.iload_n 1, 1) := by decide +kernel
theorem dX11_huts_1 : decode cX11_huts 1 = .ok (.iload_n 2, 1) := by decide +kernel
theorem dX11_huts_2 : decode cX11_huts 2 = .ok (.invokestatic 116, 3) := by decide +kernel
theorem dX11_huts_5 : decode cX11_huts 5 = .ok (.ifCond .ne 9, 3) := by decide +kernel
theorem dX11_huts_8 : decode cX11_huts 8 = .ok (.aload_n 0, 1) := by decide +kernel
theorem dX11_huts_9 : decode cX11_huts 9 = .ok (.iconst 0, 1) := by decide +kernel
theorem dX11_huts_10 : decode cX11_huts 10 = .ok (.invokevirtual 119, 3) := by decide +kernel
theorem dX11_huts_13 : decode cX11_huts 13 = .ok (.ireturn, 1) := by decide +kernel
theorem dX11_huts_14 : decode cX11_huts 14 = .ok (.aload_n 0, 1) := by decide +kernel
theorem dX11_huts_15 : decode cX11_huts 15 = .ok (.bipush 12, 2) := by decide +kernel
theorem dX11_huts_17 : decode cX11_huts 17 = .ok (.iload_n 2, 1) := by decide +kernel
theorem dX11_huts_18 : decode cX11_huts 18 = .ok (.imul, 1) := by decide +kernel
theorem dX11_huts_19 : decode cX11_huts 19 = .ok (.iload_n 1, 1) := by decide +kernel
theorem dX11_huts_20 : decode cX11_huts 20 = .ok (.iadd, 1) := by decide +kernel
theorem dX11_huts_21 : decode cX11_huts 21 = .ok (.invokevirtual 103, 3) := by decide +kernel
theorem dX11_huts_24 : decode cX11_huts 24 = .ok (.ifCond .lt 9, 3) := by decide +kernel
theorem dX11_huts_27 : decode cX11_huts 27 = .ok (.aload_n 0, 1) := by decide +kernel
theorem dX11_huts_28 : decode cX11_huts 28 = .ok (.iconst 4, 1) := by decide +kernel
theorem dX11_huts_29 : decode cX11_huts 29 = .ok (.invokevirtual 119, 3) := by decide +kernel
theorem dX11_huts_32 : decode cX11_huts 32 = .ok (.ireturn, 1) := by decide +kernel
theorem dX11_huts_33 : decode cX11_huts 33 = .ok (.aload_n 0, 1) := by decide +kernel
theorem dX11_huts_34 : decode cX11_huts 34 = .ok (.bipush 12, 2) := by decide +kernel
theorem dX11_huts_36 : decode cX11_huts 36 = .ok (.iload_n 2, 1) := by decide +kernel
theorem dX11_huts_37 : decode cX11_huts 37 = .ok (.imul, 1) := by decide +kernel
theorem dX11_huts_38 : decode cX11_huts 38 = .ok (.iload_n 1, 1) := by decide +kernel
theorem dX11_huts_39 : decode cX11_huts 39 = .ok (.iadd, 1) := by decide +kernel
theorem dX11_huts_40 : decode cX11_huts 40 = .ok (.invokevirtual 172, 3) := by decide +kernel
theorem dX11_huts_43 : decode cX11_huts 43 = .ok (.istore_n 3, 1) := by decide +kernel
theorem dX11_huts_44 : decode cX11_huts 44 = .ok (.iload_n 3, 1) := by decide +kernel
theorem dX11_huts_45 : decode cX11_huts 45 = .ok (.ifCond .ge 11, 3) := by decide +kernel
theorem dX11_huts_48 : decode cX11_huts 48 = .ok (.aload_n 0, 1) := by decide +kernel
theorem dX11_huts_49 : decode cX11_huts 49 = .ok (.iconst 3, 1) := by decide +kernel
theorem dX11_huts_50 : decode cX11_huts 50 = .ok (.invokevirtual 119, 3) := by decide +kernel
theorem dX11_huts_53 : decode cX11_huts 53 = .ok (.goto 4, 3) := by decide +kernel
theorem dX11_huts_56 : decode cX11_huts 56 = .ok (.iload_n 3, 1) := by decide +kernel
theorem dX11_huts_57 : decode cX11_huts 57 = .ok (.ireturn, 1) := by decide +kernel
theorem i_RX11_172 {Z : qZ} {G : qG} {cc : ByteArray} {nL k n : Nat} {rm : Room} {ret : Option FieldType} {μ : qM} {pc : Nat} {L : List (Nat × Value)} {rest : List Value} {K : Int32 → qM → Prop} {v1 : Int32} (C : qX Z G RX11 cc nL rm ret) (hn : 66 ≤ gn G) (hR : (Nat.ble (7 + 1) rm.frames && Nat.ble (8 + (4 + 11) + 159) rm.locals) = true) (hf : k + 0 ≤ rm.cells ∧ n + 0 ≤ rm.slots) (hsz : Nat.ble (rest.map fun v => v.category).sum 8 = true) (hd : decode cc pc = .ok (.invokevirtual 172, 3)) (h : w_X11_hutsFor v1 K μ) (hk : ∀ (r : Int32) (μ1 : qM), K r μ1 → qV Z G nL k n μ1 (pc + 3) L (.int r :: rest)) : qV Z G nL k n μ pc L (.int v1 :: .ref (ga G 46) :: rest) := x_Vi [.int v1] rest C 46 10 (wp := fun K => w_X11_hutsFor v1 K μ) (y_X11_hutsFor : qY yX11_hutsFor cX11_hutsFor 4 (some .int) 1 ({ frames := 7, cells := 0, slots := 0, locals := 159 } : Room) 0 0) (qm_26 _ (List.mem_of_getElem? (i := 7) rfl)) (qm_26 _ (List.mem_of_getElem? (i := 8) rfl)) (qm_26 _ (List.mem_of_getElem? (i := 6) rfl)) (c_X11_hutsFor Z.2.1 G hn ) (Nat.lt_of_lt_of_le (by decide) hn) rfl (by decide) rfl rfl hR hf rfl rfl hsz hd h hk
theorem y_X11_huts : qY yX11_huts cX11_huts 4 (some .int) 2 ({ frames := 8, cells := 0, slots := 0, locals := 182 } : Room) 0 0 := ⟨(qm_26 _ (List.mem_of_getElem? (i := 5) rfl)), (qm_1 _ (List.mem_of_getElem? (i := 5) rfl)), by decide +kernel, by decide +kernel, rfl, rfl⟩
theorem c_X11_huts (l : Launch) (G : qG) {v1 : Int32} {v2 : Int32} {μ : qM} (hn : 66 ≤ gn G) : qCi l G yX11_huts cX11_huts 4 (some .int) ({ frames := 8, cells := 0, slots := 0, locals := 182 } : Room) 0 0 [.ref (ga G 46), .int v1, .int v2] μ (fun post => w_X11_huts v1 v2 post μ) := by
  refine qCi_of (L := [(0, .ref (ga G 46)), (1, .int v1), (2, .int v2)]) (by decide) rfl rfl ?_
  intro Z post hl C hQ h
  have C : qX Z G RX11 cX11_huts 4 ({ frames := 8, cells := 0, slots := 0, locals := 182 } : Room) (some .int) := C
  have h : w_X11_huts v1 v2 post μ := h
  unfold w_X11_huts at h
  refine x_iload_n C 1 dX11_huts_0 rfl rfl ?_
  refine x_iload_n C 2 dX11_huts_1 rfl rfl ?_
  refine i_RX11_116 (rest := []) C hn  rfl (by decide) rfl dX11_huts_2 h (fun r2 μ2 h => ?_)
  refine x_if_ne C dX11_huts_5 (tgt := 14) (by decide) h (fun h => ?_) (fun h => ?_)
  · refine x_aload_n C 0 dX11_huts_14 rfl rfl ?_
    refine x_bipush C dX11_huts_15 (v := 12) (by decide) ?_
    refine x_iload_n C 2 dX11_huts_17 rfl rfl ?_
    refine x_imul C dX11_huts_18 ?_
    refine x_iload_n C 1 dX11_huts_19 rfl rfl ?_
    refine x_iadd C dX11_huts_20 ?_
    refine i_RX11_103 (rest := []) C hn  rfl (by decide) rfl dX11_huts_21 h (fun r21 μ21 h => ?_)
    refine x_if_lt C dX11_huts_24 (tgt := 33) (by decide) h (fun h => ?_) (fun h => ?_)
    · refine x_aload_n C 0 dX11_huts_33 rfl rfl ?_
      refine x_bipush C dX11_huts_34 (v := 12) (by decide) ?_
      refine x_iload_n C 2 dX11_huts_36 rfl rfl ?_
      refine x_imul C dX11_huts_37 ?_
      refine x_iload_n C 1 dX11_huts_38 rfl rfl ?_
      refine x_iadd C dX11_huts_39 ?_
      refine i_RX11_172 (rest := []) C hn  rfl (by decide) rfl dX11_huts_40 h (fun r40 μ40 h => ?_)
      refine x_istore_n C (L' := [(3, .int r40), (0, .ref (ga G 46)), (1, .int v1), (2, .int v2)]) dX11_huts_43 rfl (by decide) rfl ?_
      refine x_iload_n C 0 dX11_huts_44 rfl rfl ?_
      refine x_if_ge C dX11_huts_45 (tgt := 56) (by decide) h (fun h => ?_) (fun h => ?_)
      · refine x_iload_n C 0 dX11_huts_56 rfl rfl ?_
        exact x_iret C hQ dX11_huts_57 h
      · refine x_aload_n C 1 dX11_huts_48 rfl rfl ?_
        refine x_iconst C dX11_huts_49 (v := 3) (by decide) ?_
        refine i_RX11_119 (rest := []) C hn  rfl (by decide) rfl dX11_huts_50 h (fun r50 μ50 h => ?_)
        refine x_goto C dX11_huts_53 (tgt := 57) (by decide) ?_
        exact x_iret C hQ dX11_huts_57 h
    · refine x_aload_n C 0 dX11_huts_27 rfl rfl ?_
      refine x_iconst C dX11_huts_28 (v := 4) (by decide) ?_
      refine i_RX11_119 (rest := []) C hn  rfl (by decide) rfl dX11_huts_29 h (fun r29 μ29 h => ?_)
      exact x_iret C hQ dX11_huts_32 h
  · refine x_aload_n C 0 dX11_huts_8 rfl rfl ?_
    refine x_iconst C dX11_huts_9 (v := 0) (by decide) ?_
    refine i_RX11_119 (rest := []) C hn  rfl (by decide) rfl dX11_huts_10 h (fun r10 μ10 h => ?_)
    exact x_iret C hQ dX11_huts_13 h
theorem dX11_hut_0 : decode cX11_hut 0 = .ok (.iload_n 1, 1) := by decide +kernel
theorem dX11_hut_1 : decode cX11_hut 1 = .ok (.iload_n 2, 1) := by decide +kernel
theorem dX11_hut_2 : decode cX11_hut 2 = .ok (.invokestatic 116, 3) := by decide +kernel
theorem dX11_hut_5 : decode cX11_hut 5 = .ok (.ifCond .eq 12, 3) := by decide +kernel
theorem dX11_hut_8 : decode cX11_hut 8 = .ok (.iload_n 3, 1) := by decide +kernel
theorem dX11_hut_9 : decode cX11_hut 9 = .ok (.iconst 0, 1) := by decide +kernel
theorem dX11_hut_10 : decode cX11_hut 10 = .ok (.iconst 1, 1) := by decide +kernel
theorem dX11_hut_11 : decode cX11_hut 11 = .ok (.invokestatic 79, 3) := by decide +kernel
theorem dX11_hut_14 : decode cX11_hut 14 = .ok (.ifCond .ne 9, 3) := by decide +kernel
theorem dX11_hut_17 : decode cX11_hut 17 = .ok (.aload_n 0, 1) := by decide +kernel
theorem dX11_hut_18 : decode cX11_hut 18 = .ok (.iconst 0, 1) := by decide +kernel
theorem dX11_hut_19 : decode cX11_hut 19 = .ok (.invokevirtual 119, 3) := by decide +kernel
theorem dX11_hut_22 : decode cX11_hut 22 = .ok (.ireturn, 1) := by decide +kernel
theorem dX11_hut_23 : decode cX11_hut 23 = .ok (.aload_n 0, 1) := by decide +kernel
theorem dX11_hut_24 : decode cX11_hut 24 = .ok (.bipush 12, 2) := by decide +kernel
theorem dX11_hut_26 : decode cX11_hut 26 = .ok (.iload_n 2, 1) := by decide +kernel
theorem dX11_hut_27 : decode cX11_hut 27 = .ok (.imul, 1) := by decide +kernel
theorem dX11_hut_28 : decode cX11_hut 28 = .ok (.iload_n 1, 1) := by decide +kernel
theorem dX11_hut_29 : decode cX11_hut 29 = .ok (.iadd, 1) := by decide +kernel
theorem dX11_hut_30 : decode cX11_hut 30 = .ok (.invokevirtual 103, 3) := by decide +kernel
theorem dX11_hut_33 : decode cX11_hut 33 = .ok (.ifCond .lt 9, 3) := by decide +kernel
theorem dX11_hut_36 : decode cX11_hut 36 = .ok (.aload_n 0, 1) := by decide +kernel
theorem dX11_hut_37 : decode cX11_hut 37 = .ok (.iconst 4, 1) := by decide +kernel
theorem dX11_hut_38 : decode cX11_hut 38 = .ok (.invokevirtual 119, 3) := by decide +kernel
theorem dX11_hut_41 : decode cX11_hut 41 = .ok (.ireturn, 1) := by decide +kernel
theorem dX11_hut_42 : decode cX11_hut 42 = .ok (.iload_n 3, 1) := by decide +kernel
theorem dX11_hut_43 : decode cX11_hut 43 = .ok (.aload_n 0, 1) := by decide +kernel
theorem dX11_hut_44 : decode cX11_hut 44 = .ok (.bipush 12, 2) := by decide +kernel
theorem dX11_hut_46 : decode cX11_hut 46 = .ok (.iload_n 2, 1) := by decide +kernel
theorem dX11_hut_47 : decode cX11_hut 47 = .ok (.imul, 1) := by decide +kernel
theorem dX11_hut_48 : decode cX11_hut 48 = .ok (.iload_n 1, 1) := by decide +kernel
theorem dX11_hut_49 : decode cX11_hut 49 = .ok (.iadd, 1) := by decide +kernel
theorem dX11_hut_50 : decode cX11_hut 50 = .ok (.invokevirtual 172, 3) := by decide +kernel
theorem dX11_hut_53 : decode cX11_hut 53 = .ok (.if_icmp .ge 21, 3) := by decide +kernel
theorem dX11_hut_56 : decode cX11_hut 56 = .ok (.iload_n 3, 1) := by decide +kernel
theorem dX11_hut_57 : decode cX11_hut 57 = .ok (.ifCond .ne 10, 3) := by decide +kernel
theorem dX11_hut_60 : decode cX11_hut 60 = .ok (.aload_n 0, 1) := by decide +kernel
theorem dX11_hut_61 : decode cX11_hut 61 = .ok (.getfield 169, 3) := by decide +kernel
theorem dX11_hut_64 : decode cX11_hut 64 = .ok (.goto 15, 3) := by decide +kernel
theorem dX11_hut_67 : decode cX11_hut 67 = .ok (.aload_n 0, 1) := by decide +kernel
theorem dX11_hut_68 : decode cX11_hut 68 = .ok (.getfield 163, 3) := by decide +kernel
theorem dX11_hut_71 : decode cX11_hut 71 = .ok (.goto 8, 3) := by decide +kernel
theorem dX11_hut_74 : decode cX11_hut 74 = .ok (.aload_n 0, 1) := by decide +kernel
theorem dX11_hut_75 : decode cX11_hut 75 = .ok (.iconst 3, 1) := by decide +kernel
theorem dX11_hut_76 : decode cX11_hut 76 = .ok (.invokevirtual 119, 3) := by decide +kernel
theorem dX11_hut_79 : decode cX11_hut 79 = .ok (.ireturn, 1) := by decide +kernel
theorem g_RX11_169 {Z : qZ} {G : qG} {cc : ByteArray} {nL k n : Nat} {rm : Room} {ret : Option FieldType} {μ : qM} {pc : Nat} {L : List (Nat × Value)} {st : List Value} (C : qX Z G RX11 cc nL rm ret) (hn : 66 ≤ gn G) (hd : decode cc pc = .ok (.getfield 169, 3)) (h : qV Z G nL k n μ (pc + 3) L (.int (μ 46 23) :: st)) : qV Z G nL k n μ pc L (.ref (ga G 46) :: st) := x_geti C 46 10 23 (C0 := RX11) (fn := "firstHut") (fd := "I") (Nat.lt_of_lt_of_le (by decide) hn) rfl (by decide) rfl (by decide) rfl inlX11 (qm_26 _ (List.mem_of_getElem? (i := 11) rfl)) rfl hd h
theorem b_X11_hut_17 {Z : qZ} {G : qG} {μ : qM} {post : Int32 → qM → Prop} (C : qX Z G RX11 cX11_hut 4 ({ frames := 8, cells := 0, slots := 0, locals := 182 } : Room) (some .int)) (hQ : qQi Z G 0 0 post) (hn : 66 ≤ gn G) (h : q_X11_hut_17 post μ) : qV Z G 4 0 0 μ 17 [(0, .ref (ga G 46))] [] := by
  unfold q_X11_hut_17 at h
  refine x_aload_n C 0 dX11_hut_17 rfl rfl ?_
  refine x_iconst C dX11_hut_18 (v := 0) (by decide) ?_
  refine i_RX11_119 (rest := []) C hn  rfl (by decide) rfl dX11_hut_19 h (fun r19 μ19 h => ?_)
  exact x_iret C hQ dX11_hut_22 h
theorem y_X11_hut : qY yX11_hut cX11_hut 4 (some .int) 3 ({ frames := 8, cells := 0, slots := 0, locals := 182 } : Room) 0 0 := ⟨(qm_27 _ (List.mem_of_getElem? (i := 7) rfl)), (qm_1 _ (List.mem_of_getElem? (i := 5) rfl)), by decide +kernel, by decide +kernel, rfl, rfl⟩
theorem c_X11_hut (l : Launch) (G : qG) {v1 : Int32} {v2 : Int32} {v3 : Int32} {μ : qM} (hn : 66 ≤ gn G) : qCi l G yX11_hut cX11_hut 4 (some .int) ({ frames := 8, cells := 0, slots := 0, locals := 182 } : Room) 0 0 [.ref (ga G 46), .int v1, .int v2, .int v3] μ (fun post => w_X11_hut v1 v2 v3 post μ) := by
  refine qCi_of (L := [(0, .ref (ga G 46)), (1, .int v1), (2, .int v2), (3, .int v3)]) (by decide) rfl rfl ?_
  intro Z post hl C hQ h
  have C : qX Z G RX11 cX11_hut 4 ({ frames := 8, cells := 0, slots := 0, locals := 182 } : Room) (some .int) := C
  have h : w_X11_hut v1 v2 v3 post μ := h
  unfold w_X11_hut at h
  refine x_iload_n C 1 dX11_hut_0 rfl rfl ?_
  refine x_iload_n C 2 dX11_hut_1 rfl rfl ?_
  refine i_RX11_116 (rest := []) C hn  rfl (by decide) rfl dX11_hut_2 h (fun r2 μ2 h => ?_)
  refine x_if_eq C dX11_hut_5 (tgt := 17) (by decide) h (fun h => ?_) (fun h => ?_)
  · exact qV_sub [0] rfl (b_X11_hut_17 C hQ hn h)
  · refine x_iload_n C 3 dX11_hut_8 rfl rfl ?_
    refine x_iconst C dX11_hut_9 (v := 0) (by decide) ?_
    refine x_iconst C dX11_hut_10 (v := 1) (by decide) ?_
    refine i_RX11_79 (rest := []) C hn  rfl (by decide) rfl dX11_hut_11 h (fun r11 μ11 h => ?_)
    refine x_if_ne C dX11_hut_14 (tgt := 23) (by decide) h (fun h => ?_) (fun h => ?_)
    · refine x_aload_n C 0 dX11_hut_23 rfl rfl ?_
      refine x_bipush C dX11_hut_24 (v := 12) (by decide) ?_
      refine x_iload_n C 2 dX11_hut_26 rfl rfl ?_
      refine x_imul C dX11_hut_27 ?_
      refine x_iload_n C 1 dX11_hut_28 rfl rfl ?_
      refine x_iadd C dX11_hut_29 ?_
      refine i_RX11_103 (rest := []) C hn  rfl (by decide) rfl dX11_hut_30 h (fun r30 μ30 h => ?_)
      refine x_if_lt C dX11_hut_33 (tgt := 42) (by decide) h (fun h => ?_) (fun h => ?_)
      · refine x_iload_n C 3 dX11_hut_42 rfl rfl ?_
        refine x_aload_n C 0 dX11_hut_43 rfl rfl ?_
        refine x_bipush C dX11_hut_44 (v := 12) (by decide) ?_
        refine x_iload_n C 2 dX11_hut_46 rfl rfl ?_
        refine x_imul C dX11_hut_47 ?_
        refine x_iload_n C 1 dX11_hut_48 rfl rfl ?_
        refine x_iadd C dX11_hut_49 ?_
        refine i_RX11_172 (rest := [.int v3]) C hn  rfl (by decide) rfl dX11_hut_50 h (fun r50 μ50 h => ?_)
        refine x_icmp_ge C dX11_hut_53 (tgt := 74) (by decide) h (fun h => ?_) (fun h => ?_)
        · refine x_aload_n C 0 dX11_hut_74 rfl rfl ?_
          refine x_iconst C dX11_hut_75 (v := 3) (by decide) ?_
          refine i_RX11_119 (rest := []) C hn  rfl (by decide) rfl dX11_hut_76 h (fun r76 μ76 h => ?_)
          exact x_iret C hQ dX11_hut_79 h
        · refine x_iload_n C 3 dX11_hut_56 rfl rfl ?_
          refine x_if_ne C dX11_hut_57 (tgt := 67) (by decide) h (fun h => ?_) (fun h => ?_)
          · refine x_aload_n C 0 dX11_hut_67 rfl rfl ?_
            refine g_RX11_163 C hn dX11_hut_68 ?_
            refine x_goto C dX11_hut_71 (tgt := 79) (by decide) ?_
            exact x_iret C hQ dX11_hut_79 h
          · refine x_aload_n C 0 dX11_hut_60 rfl rfl ?_
            refine g_RX11_169 C hn dX11_hut_61 ?_
            refine x_goto C dX11_hut_64 (tgt := 79) (by decide) ?_
            exact x_iret C hQ dX11_hut_79 h
      · refine x_aload_n C 0 dX11_hut_36 rfl rfl ?_
        refine x_iconst C dX11_hut_37 (v := 4) (by decide) ?_
        refine i_RX11_119 (rest := []) C hn  rfl (by decide) rfl dX11_hut_38 h (fun r38 μ38 h => ?_)
        exact x_iret C hQ dX11_hut_41 h
    · exact qV_sub [0] rfl (b_X11_hut_17 C hQ hn h)
theorem dX11_opensFor_0 : decode cX11_opensFor 0 = .ok (.iconst (-1), 1) := by decide +kernel
theorem dX11_opensFor_1 : decode cX11_opensFor 1 = .ok (.istore_n 2, 1) := by decide +kernel
theorem dX11_opensFor_2 : decode cX11_opensFor 2 = .ok (.aload_n 0, 1) := by decide +kernel
theorem dX11_opensFor_3 : decode cX11_opensFor 3 = .ok (.iconst (-1), 1) := by decide +kernel
theorem dX11_opensFor_4 : decode cX11_opensFor 4 = .ok (.putfield 175, 3) := by decide +kernel
theorem dX11_opensFor_7 : decode cX11_opensFor 7 = .ok (.iconst 0, 1) := by decide +kernel
theorem dX11_opensFor_8 : decode cX11_opensFor 8 = .ok (.istore_n 3, 1) := by decide +kernel
theorem dX11_opensFor_9 : decode cX11_opensFor 9 = .ok (.iload_n 3, 1) := by decide +kernel
theorem dX11_opensFor_10 : decode cX11_opensFor 10 = .ok (.sipush 144, 3) := by decide +kernel
theorem dX11_opensFor_13 : decode cX11_opensFor 13 = .ok (.if_icmp .ge 56, 3) := by decide +kernel
theorem dX11_opensFor_16 : decode cX11_opensFor 16 = .ok (.aload_n 0, 1) := by decide +kernel
theorem dX11_opensFor_17 : decode cX11_opensFor 17 = .ok (.iload_n 3, 1) := by decide +kernel
theorem dX11_opensFor_18 : decode cX11_opensFor 18 = .ok (.invokevirtual 109, 3) := by decide +kernel
theorem dX11_opensFor_21 : decode cX11_opensFor 21 = .ok (.ifCond .eq 42, 3) := by decide +kernel
theorem dX11_opensFor_24 : decode cX11_opensFor 24 = .ok (.aload_n 0, 1) := by decide +kernel
theorem dX11_opensFor_25 : decode cX11_opensFor 25 = .ok (.iload_n 1, 1) := by decide +kernel
theorem dX11_opensFor_26 : decode cX11_opensFor 26 = .ok (.iload_n 3, 1) := by decide +kernel
theorem dX11_opensFor_27 : decode cX11_opensFor 27 = .ok (.invokevirtual 122, 3) := by decide +kernel
theorem dX11_opensFor_30 : decode cX11_opensFor 30 = .ok (.aload_n 0, 1) := by decide +kernel
theorem dX11_opensFor_31 : decode cX11_opensFor 31 = .ok (.invokevirtual 159, 3) := by decide +kernel
theorem dX11_opensFor_34 : decode cX11_opensFor 34 = .ok (.istore 4, 2) := by decide +kernel
theorem dX11_opensFor_36 : decode cX11_opensFor 36 = .ok (.aload_n 0, 1) := by decide +kernel
theorem dX11_opensFor_37 : decode cX11_opensFor 37 = .ok (.dup, 1) := by decide +kernel
theorem dX11_opensFor_38 : decode cX11_opensFor 38 = .ok (.getfield 76, 3) := by decide +kernel
theorem dX11_opensFor_41 : decode cX11_opensFor 41 = .ok (.iconst 1, 1) := by decide +kernel
theorem dX11_opensFor_42 : decode cX11_opensFor 42 = .ok (.isub, 1) := by decide +kernel
theorem dX11_opensFor_43 : decode cX11_opensFor 43 = .ok (.putfield 76, 3) := by decide +kernel
theorem dX11_opensFor_46 : decode cX11_opensFor 46 = .ok (.iload 4, 2) := by decide +kernel
theorem dX11_opensFor_48 : decode cX11_opensFor 48 = .ok (.aload_n 0, 1) := by decide +kernel
theorem dX11_opensFor_49 : decode cX11_opensFor 49 = .ok (.getfield 175, 3) := by decide +kernel
theorem dX11_opensFor_52 : decode cX11_opensFor 52 = .ok (.if_icmp .le 11, 3) := by decide +kernel
theorem dX11_opensFor_55 : decode cX11_opensFor 55 = .ok (.iload_n 3, 1) := by decide +kernel
theorem dX11_opensFor_56 : decode cX11_opensFor 56 = .ok (.istore_n 2, 1) := by decide +kernel
theorem dX11_opensFor_57 : decode cX11_opensFor 57 = .ok (.aload_n 0, 1) := by decide +kernel
theorem dX11_opensFor_58 : decode cX11_opensFor 58 = .ok (.iload 4, 2) := by decide +kernel
theorem dX11_opensFor_60 : decode cX11_opensFor 60 = .ok (.putfield 175, 3) := by decide +kernel
theorem dX11_opensFor_63 : decode cX11_opensFor 63 = .ok (.iinc 3 1, 3) := by decide +kernel
theorem dX11_opensFor_66 : decode cX11_opensFor 66 = .ok (.goto (-57), 3) := by decide +kernel
theorem dX11_opensFor_69 : decode cX11_opensFor 69 = .ok (.iload_n 2, 1) := by decide +kernel
theorem dX11_opensFor_70 : decode cX11_opensFor 70 = .ok (.ireturn, 1) := by decide +kernel
theorem g_RX11_175 {Z : qZ} {G : qG} {cc : ByteArray} {nL k n : Nat} {rm : Room} {ret : Option FieldType} {μ : qM} {pc : Nat} {L : List (Nat × Value)} {st : List Value} (C : qX Z G RX11 cc nL rm ret) (hn : 66 ≤ gn G) (hd : decode cc pc = .ok (.getfield 175, 3)) (h : qV Z G nL k n μ (pc + 3) L (.int (μ 46 25) :: st)) : qV Z G nL k n μ pc L (.ref (ga G 46) :: st) := x_geti C 46 10 25 (C0 := RX11) (fn := "openedBy") (fd := "I") (Nat.lt_of_lt_of_le (by decide) hn) rfl (by decide) rfl (by decide) rfl inlX11 (qm_28 _ (List.mem_of_getElem? (i := 11) rfl)) rfl hd h
theorem p_RX11_175 {Z : qZ} {G : qG} {cc : ByteArray} {nL k n : Nat} {rm : Room} {ret : Option FieldType} {μ : qM} {pc : Nat} {L : List (Nat × Value)} {st : List Value} {x : Int32} (C : qX Z G RX11 cc nL rm ret) (hn : 66 ≤ gn G) (hd : decode cc pc = .ok (.putfield 175, 3)) (h : qV Z G nL k n (qu μ 46 25 x) (pc + 3) L st) : qV Z G nL k n μ pc L (.int x :: .ref (ga G 46) :: st) := x_puti C 46 10 25 (C0 := RX11) (fn := "openedBy") (fd := "I") (ty := .int) (Nat.lt_of_lt_of_le (by decide) hn) rfl (by decide) rfl (by decide) rfl inlX11 tyX11_ok nmX11 (qm_28 _ (List.mem_of_getElem? (i := 11) rfl)) rfl (by decide +kernel) rfl rfl hd h
theorem b_X11_opensFor_63 {Z : qZ} {G : qG} {v1 : Int32} {v2 : Int32} {v3 : Int32} {μ : qM} {P9 : Int32 → Int32 → qM → Prop} {post : Int32 → qM → Prop} (C : qX Z G RX11 cX11_opensFor 5 ({ frames := 7, cells := 0, slots := 0, locals := 158 } : Room) (some .int)) (hQ : qQi Z G 0 0 post) (hn : 66 ≤ gn G) (hP9 : ∀ (b2 : Int32) (b3 : Int32) (μ1 : qM), P9 b2 b3 μ1 → qV Z G 5 0 0 μ1 9 [(0, .ref (ga G 46)), (1, .int v1), (2, .int b2), (3, .int b3)] []) (h : q_X11_opensFor_63 P9 post v1 v2 v3 μ) : qV Z G 5 0 0 μ 63 [(0, .ref (ga G 46)), (1, .int v1), (2, .int v2), (3, .int v3)] [] := by
  unfold q_X11_opensFor_63 at h
  refine x_iinc C 3 (v := 1) (L' := [(3, .int ((v3 + 1))), (0, .ref (ga G 46)), (1, .int v1), (2, .int v2)]) dX11_opensFor_63 rfl (by decide) (by decide) rfl ?_
  refine x_goto C dX11_opensFor_66 (tgt := 9) (by decide) ?_
  exact qV_sub [1, 2, 3, 0] rfl ((hP9 _ _ _ h))
theorem b_X11_opensFor_9 {Z : qZ} {G : qG} {v1 : Int32} {v2 : Int32} {v3 : Int32} {μ : qM} {post : Int32 → qM → Prop} (C : qX Z G RX11 cX11_opensFor 5 ({ frames := 7, cells := 0, slots := 0, locals := 158 } : Room) (some .int)) (hQ : qQi Z G 0 0 post) (hn : 66 ≤ gn G) (h : q_X11_opensFor_9 v1 post v2 v3 μ) : qV Z G 5 0 0 μ 9 [(0, .ref (ga G 46)), (1, .int v1), (2, .int v2), (3, .int v3)] [] := by
  refine h (fun v2 v3 μ => qV Z G 5 0 0 μ 9 [(0, .ref (ga G 46)), (1, .int v1), (2, .int v2), (3, .int v3)] []) (fun v2 v3 μ h => ?_)
  refine x_iload_n C 3 dX11_opensFor_9 rfl rfl ?_
  refine x_sipush C dX11_opensFor_10 (v := 144) (by decide) ?_
  refine x_icmp_ge C dX11_opensFor_13 (tgt := 69) (by decide) h (fun h => ?_) (fun h => ?_)
  · refine x_iload_n C 2 dX11_opensFor_69 rfl rfl ?_
    exact x_iret C hQ dX11_opensFor_70 h
  · refine x_aload_n C 0 dX11_opensFor_16 rfl rfl ?_
    refine x_iload_n C 3 dX11_opensFor_17 rfl rfl ?_
    refine i_RX11_109 (rest := []) C hn  rfl (by decide) rfl dX11_opensFor_18 h (fun r18 μ18 h => ?_)
    refine x_if_eq C dX11_opensFor_21 (tgt := 63) (by decide) h (fun h => ?_) (fun h => ?_)
    · exact b_X11_opensFor_63 C hQ hn (fun _ _ _ h => h) h
    · refine x_aload_n C 0 dX11_opensFor_24 rfl rfl ?_
      refine x_iload_n C 1 dX11_opensFor_25 rfl rfl ?_
      refine x_iload_n C 3 dX11_opensFor_26 rfl rfl ?_
      refine i_RX11_122 (rest := []) C hn  rfl (by decide) rfl dX11_opensFor_27 h (fun μ27 h => ?_)
      refine x_aload_n C 0 dX11_opensFor_30 rfl rfl ?_
      refine i_RX11_159 (rest := []) C hn  rfl (by decide) rfl dX11_opensFor_31 h (fun r31 μ31 h => ?_)
      refine x_istore C (L' := [(4, .int r31), (0, .ref (ga G 46)), (1, .int v1), (2, .int v2), (3, .int v3)]) dX11_opensFor_34 (by decide) rfl ?_
      refine x_aload_n C 1 dX11_opensFor_36 rfl rfl ?_
      refine x_dup C dX11_opensFor_37 rfl ?_
      refine g_RX11_76 C hn dX11_opensFor_38 ?_
      refine x_iconst C dX11_opensFor_41 (v := 1) (by decide) ?_
      refine x_isub C dX11_opensFor_42 ?_
      refine p_RX11_76 C hn dX11_opensFor_43 ?_
      refine x_iload C 0 dX11_opensFor_46 rfl ?_
      refine x_aload_n C 1 dX11_opensFor_48 rfl rfl ?_
      refine g_RX11_175 C hn dX11_opensFor_49 ?_
      refine x_icmp_le C dX11_opensFor_52 (tgt := 63) (by decide) h (fun h => ?_) (fun h => ?_)
      · exact qV_sub [1, 2, 3, 4] rfl (b_X11_opensFor_63 C hQ hn (fun _ _ _ h => h) h)
      · refine x_iload_n C 4 dX11_opensFor_55 rfl rfl ?_
        refine x_istore_n C (L' := [(2, .int v3), (4, .int r31), (0, .ref (ga G 46)), (1, .int v1), (3, .int v3)]) dX11_opensFor_56 rfl (by decide) rfl ?_
        refine x_aload_n C 2 dX11_opensFor_57 rfl rfl ?_
        refine x_iload C 1 dX11_opensFor_58 rfl ?_
        refine p_RX11_175 C hn dX11_opensFor_60 ?_
        exact qV_sub [2, 3, 0, 4] rfl (b_X11_opensFor_63 C hQ hn (fun _ _ _ h => h) h)
theorem y_X11_opensFor : qY yX11_opensFor cX11_opensFor 5 (some .int) 1 ({ frames := 7, cells := 0, slots := 0, locals := 158 } : Room) 0 0 := ⟨(qm_28 _ (List.mem_of_getElem? (i := 10) rfl)), (qm_1 _ (List.mem_of_getElem? (i := 5) rfl)), by decide +kernel, by decide +kernel, rfl, rfl⟩
theorem c_X11_opensFor (l : Launch) (G : qG) {v1 : Int32} {μ : qM} (hn : 66 ≤ gn G) : qCi l G yX11_opensFor cX11_opensFor 5 (some .int) ({ frames := 7, cells := 0, slots := 0, locals := 158 } : Room) 0 0 [.ref (ga G 46), .int v1] μ (fun post => w_X11_opensFor v1 post μ) := by
  refine qCi_of (L := [(0, .ref (ga G 46)), (1, .int v1)]) (by decide) rfl rfl ?_
  intro Z post hl C hQ h
  have C : qX Z G RX11 cX11_opensFor 5 ({ frames := 7, cells := 0, slots := 0, locals := 158 } : Room) (some .int) := C
  have h : w_X11_opensFor v1 post μ := h
  unfold w_X11_opensFor at h
  refine x_iconst C dX11_opensFor_0 (v := -1) (by decide) ?_
  refine x_istore_n C (L' := [(2, .int ((-1 : Int32))), (0, .ref (ga G 46)), (1, .int v1)]) dX11_opensFor_1 rfl (by decide) rfl ?_
  refine x_aload_n C 1 dX11_opensFor_2 rfl rfl ?_
  refine x_iconst C dX11_opensFor_3 (v := -1) (by decide) ?_
  refine p_RX11_175 C hn dX11_opensFor_4 ?_
  refine x_iconst C dX11_opensFor_7 (v := 0) (by decide) ?_
  refine x_istore_n C (L' := [(3, .int ((0 : Int32))), (2, .int ((-1 : Int32))), (0, .ref (ga G 46)), (1, .int v1)]) dX11_opensFor_8 rfl (by decide) rfl ?_
  exact qV_sub [2, 3, 1, 0] rfl (b_X11_opensFor_9 C hQ hn h)
theorem dX11_lacksToOpen_0 : decode cX11_lacksToOpen 0 = .ok (.iload_n 1, 1) := by decide +kernel
theorem dX11_lacksToOpen_1 : decode cX11_lacksToOpen 1 = .ok (.invokestatic 113, 3) := by decide +kernel
theorem dX11_lacksToOpen_4 : decode cX11_lacksToOpen 4 = .ok (.ifCond .ne 5, 3) := by decide +kernel
theorem dX11_lacksToOpen_7 : decode cX11_lacksToOpen 7 = .ok (.iconst 0, 1) := by decide +kernel
theorem dX11_lacksToOpen_8 : decode cX11_lacksToOpen 8 = .ok (.ireturn, 1) := by decide +kernel
theorem dX11_lacksToOpen_9 : decode cX11_lacksToOpen 9 = .ok (.iconst 0, 1) := by decide +kernel
theorem dX11_lacksToOpen_10 : decode cX11_lacksToOpen 10 = .ok (.istore_n 2, 1) := by decide +kernel
theorem dX11_lacksToOpen_11 : decode cX11_lacksToOpen 11 = .ok (.iconst 0, 1) := by decide +kernel
theorem dX11_lacksToOpen_12 : decode cX11_lacksToOpen 12 = .ok (.istore_n 3, 1) := by decide +kernel
theorem dX11_lacksToOpen_13 : decode cX11_lacksToOpen 13 = .ok (.iload_n 3, 1) := by decide +kernel
theorem dX11_lacksToOpen_14 : decode cX11_lacksToOpen 14 = .ok (.sipush 144, 3) := by decide +kernel
theorem dX11_lacksToOpen_17 : decode cX11_lacksToOpen 17 = .ok (.if_icmp .ge 19, 3) := by decide +kernel
theorem dX11_lacksToOpen_20 : decode cX11_lacksToOpen 20 = .ok (.iload_n 2, 1) := by decide +kernel
theorem dX11_lacksToOpen_21 : decode cX11_lacksToOpen 21 = .ok (.ifCond .ne 15, 3) := by decide +kernel
theorem dX11_lacksToOpen_24 : decode cX11_lacksToOpen 24 = .ok (.aload_n 0, 1) := by decide +kernel
theorem dX11_lacksToOpen_25 : decode cX11_lacksToOpen 25 = .ok (.iload_n 3, 1) := by decide +kernel
theorem dX11_lacksToOpen_26 : decode cX11_lacksToOpen 26 = .ok (.invokevirtual 109, 3) := by decide +kernel
theorem dX11_lacksToOpen_29 : decode cX11_lacksToOpen 29 = .ok (.istore_n 2, 1) := by decide +kernel
theorem dX11_lacksToOpen_30 : decode cX11_lacksToOpen 30 = .ok (.iinc 3 1, 3) := by decide +kernel
theorem dX11_lacksToOpen_33 : decode cX11_lacksToOpen 33 = .ok (.goto (-20), 3) := by decide +kernel
theorem dX11_lacksToOpen_36 : decode cX11_lacksToOpen 36 = .ok (.iload_n 2, 1) := by decide +kernel
theorem dX11_lacksToOpen_37 : decode cX11_lacksToOpen 37 = .ok (.ifCond .ne 7, 3) := by decide +kernel
theorem dX11_lacksToOpen_40 : decode cX11_lacksToOpen 40 = .ok (.iconst 3, 1) := by decide +kernel
theorem dX11_lacksToOpen_41 : decode cX11_lacksToOpen 41 = .ok (.goto 17, 3) := by decide +kernel
theorem dX11_lacksToOpen_44 : decode cX11_lacksToOpen 44 = .ok (.aload_n 0, 1) := by decide +kernel
theorem dX11_lacksToOpen_45 : decode cX11_lacksToOpen 45 = .ok (.getfield 76, 3) := by decide +kernel
theorem dX11_lacksToOpen_48 : decode cX11_lacksToOpen 48 = .ok (.bipush 10, 2) := by decide +kernel
theorem dX11_lacksToOpen_50 : decode cX11_lacksToOpen 50 = .ok (.if_icmp .ne 7, 3) := by decide +kernel
theorem dX11_lacksToOpen_53 : decode cX11_lacksToOpen 53 = .ok (.iconst 1, 1) := by decide +kernel
theorem dX11_lacksToOpen_54 : decode cX11_lacksToOpen 54 = .ok (.goto 4, 3) := by decide +kernel
theorem dX11_lacksToOpen_57 : decode cX11_lacksToOpen 57 = .ok (.iconst (-1), 1) := by decide +kernel
theorem dX11_lacksToOpen_58 : decode cX11_lacksToOpen 58 = .ok (.ireturn, 1) := by decide +kernel
theorem b_X11_lacksToOpen_36 {Z : qZ} {G : qG} {v2 : Int32} {μ : qM} {post : Int32 → qM → Prop} (C : qX Z G RX11 cX11_lacksToOpen 4 ({ frames := 6, cells := 0, slots := 0, locals := 136 } : Room) (some .int)) (hQ : qQi Z G 0 0 post) (hn : 66 ≤ gn G) (h : q_X11_lacksToOpen_36 post v2 μ) : qV Z G 4 0 0 μ 36 [(0, .ref (ga G 46)), (2, .int v2)] [] := by
  unfold q_X11_lacksToOpen_36 at h
  refine x_iload_n C 1 dX11_lacksToOpen_36 rfl rfl ?_
  refine x_if_ne C dX11_lacksToOpen_37 (tgt := 44) (by decide) h (fun h => ?_) (fun h => ?_)
  · refine x_aload_n C 0 dX11_lacksToOpen_44 rfl rfl ?_
    refine g_RX11_76 C hn dX11_lacksToOpen_45 ?_
    refine x_bipush C dX11_lacksToOpen_48 (v := 10) (by decide) ?_
    refine x_icmp_ne C dX11_lacksToOpen_50 (tgt := 57) (by decide) h (fun h => ?_) (fun h => ?_)
    · refine x_iconst C dX11_lacksToOpen_57 (v := -1) (by decide) ?_
      exact x_iret C hQ dX11_lacksToOpen_58 h
    · refine x_iconst C dX11_lacksToOpen_53 (v := 1) (by decide) ?_
      refine x_goto C dX11_lacksToOpen_54 (tgt := 58) (by decide) ?_
      exact x_iret C hQ dX11_lacksToOpen_58 h
  · refine x_iconst C dX11_lacksToOpen_40 (v := 3) (by decide) ?_
    refine x_goto C dX11_lacksToOpen_41 (tgt := 58) (by decide) ?_
    exact x_iret C hQ dX11_lacksToOpen_58 h
theorem b_X11_lacksToOpen_13 {Z : qZ} {G : qG} {v2 : Int32} {v3 : Int32} {μ : qM} {post : Int32 → qM → Prop} (C : qX Z G RX11 cX11_lacksToOpen 4 ({ frames := 6, cells := 0, slots := 0, locals := 136 } : Room) (some .int)) (hQ : qQi Z G 0 0 post) (hn : 66 ≤ gn G) (h : q_X11_lacksToOpen_13 post v2 v3 μ) : qV Z G 4 0 0 μ 13 [(0, .ref (ga G 46)), (2, .int v2), (3, .int v3)] [] := by
  refine h (fun v2 v3 μ => qV Z G 4 0 0 μ 13 [(0, .ref (ga G 46)), (2, .int v2), (3, .int v3)] []) (fun v2 v3 μ h => ?_)
  refine x_iload_n C 2 dX11_lacksToOpen_13 rfl rfl ?_
  refine x_sipush C dX11_lacksToOpen_14 (v := 144) (by decide) ?_
  refine x_icmp_ge C dX11_lacksToOpen_17 (tgt := 36) (by decide) h (fun h => ?_) (fun h => ?_)
  · exact qV_sub [0, 1] rfl (b_X11_lacksToOpen_36 C hQ hn h)
  · refine x_iload_n C 1 dX11_lacksToOpen_20 rfl rfl ?_
    refine x_if_ne C dX11_lacksToOpen_21 (tgt := 36) (by decide) h (fun h => ?_) (fun h => ?_)
    · exact qV_sub [0, 1] rfl (b_X11_lacksToOpen_36 C hQ hn h)
    · refine x_aload_n C 0 dX11_lacksToOpen_24 rfl rfl ?_
      refine x_iload_n C 2 dX11_lacksToOpen_25 rfl rfl ?_
      refine i_RX11_109 (rest := []) C hn  rfl (by decide) rfl dX11_lacksToOpen_26 h (fun r26 μ26 h => ?_)
      refine x_istore_n C (L' := [(2, .int r26), (0, .ref (ga G 46)), (3, .int v3)]) dX11_lacksToOpen_29 rfl (by decide) rfl ?_
      refine x_iinc C 2 (v := 1) (L' := [(3, .int ((v3 + 1))), (2, .int r26), (0, .ref (ga G 46))]) dX11_lacksToOpen_30 rfl (by decide) (by decide) rfl ?_
      refine x_goto C dX11_lacksToOpen_33 (tgt := 13) (by decide) ?_
      exact qV_sub [2, 1, 0] rfl (h)
theorem y_X11_lacksToOpen : qY yX11_lacksToOpen cX11_lacksToOpen 4 (some .int) 1 ({ frames := 6, cells := 0, slots := 0, locals := 136 } : Room) 0 0 := ⟨(qm_28 _ (List.mem_of_getElem? (i := 6) rfl)), (qm_1 _ (List.mem_of_getElem? (i := 5) rfl)), by decide +kernel, by decide +kernel, rfl, rfl⟩
theorem c_X11_lacksToOpen (l : Launch) (G : qG) {v1 : Int32} {μ : qM} (hn : 66 ≤ gn G) : qCi l G yX11_lacksToOpen cX11_lacksToOpen 4 (some .int) ({ frames := 6, cells := 0, slots := 0, locals := 136 } : Room) 0 0 [.ref (ga G 46), .int v1] μ (fun post => w_X11_lacksToOpen v1 post μ) := by
  refine qCi_of (L := [(0, .ref (ga G 46)), (1, .int v1)]) (by decide) rfl rfl ?_
  intro Z post hl C hQ h
  have C : qX Z G RX11 cX11_lacksToOpen 4 ({ frames := 6, cells := 0, slots := 0, locals := 136 } : Room) (some .int) := C
  have h : w_X11_lacksToOpen v1 post μ := h
  unfold w_X11_lacksToOpen at h
  refine x_iload_n C 1 dX11_lacksToOpen_0 rfl rfl ?_
  refine i_RX11_113 (rest := []) C hn  rfl (by decide) rfl dX11_lacksToOpen_1 h (fun r1 μ1 h => ?_)
  refine x_if_ne C dX11_lacksToOpen_4 (tgt := 9) (by decide) h (fun h => ?_) (fun h => ?_)
  · refine x_iconst C dX11_lacksToOpen_9 (v := 0) (by decide) ?_
    refine x_istore_n C (L' := [(2, .int ((0 : Int32))), (0, .ref (ga G 46)), (1, .int v1)]) dX11_lacksToOpen_10 rfl (by decide) rfl ?_
    refine x_iconst C dX11_lacksToOpen_11 (v := 0) (by decide) ?_
    refine x_istore_n C (L' := [(3, .int ((0 : Int32))), (2, .int ((0 : Int32))), (0, .ref (ga G 46)), (1, .int v1)]) dX11_lacksToOpen_12 rfl (by decide) rfl ?_
    exact qV_sub [2, 1, 0] rfl (b_X11_lacksToOpen_13 C hQ hn h)
  · refine x_iconst C dX11_lacksToOpen_7 (v := 0) (by decide) ?_
    exact x_iret C hQ dX11_lacksToOpen_8 h
theorem dX11_opens_0 : decode cX11_opens 0 = .ok (.aload_n 0, 1) := by decide +kernel
theorem dX11_opens_1 : decode cX11_opens 1 = .ok (.iload_n 1, 1) := by decide +kernel
theorem dX11_opens_2 : decode cX11_opens 2 = .ok (.invokevirtual 178, 3) := by decide +kernel
theorem dX11_opens_5 : decode cX11_opens 5 = .ok (.istore_n 2, 1) := by decide +kernel
theorem dX11_opens_6 : decode cX11_opens 6 = .ok (.iload_n 2, 1) := by decide +kernel
theorem dX11_opens_7 : decode cX11_opens 7 = .ok (.ifCond .lt 11, 3) := by decide +kernel
theorem dX11_opens_10 : decode cX11_opens 10 = .ok (.aload_n 0, 1) := by decide +kernel
theorem dX11_opens_11 : decode cX11_opens 11 = .ok (.iload_n 2, 1) := by decide +kernel
theorem dX11_opens_12 : decode cX11_opens 12 = .ok (.invokevirtual 119, 3) := by decide +kernel
theorem dX11_opens_15 : decode cX11_opens 15 = .ok (.goto 8, 3) := by decide +kernel
theorem dX11_opens_18 : decode cX11_opens 18 = .ok (.aload_n 0, 1) := by decide +kernel
theorem dX11_opens_19 : decode cX11_opens 19 = .ok (.iload_n 1, 1) := by decide +kernel
theorem dX11_opens_20 : decode cX11_opens 20 = .ok (.invokevirtual 181, 3) := by decide +kernel
theorem dX11_opens_23 : decode cX11_opens 23 = .ok (.ireturn, 1) := by decide +kernel
theorem i_RX11_178 {Z : qZ} {G : qG} {cc : ByteArray} {nL k n : Nat} {rm : Room} {ret : Option FieldType} {μ : qM} {pc : Nat} {L : List (Nat × Value)} {rest : List Value} {K : Int32 → qM → Prop} {v1 : Int32} (C : qX Z G RX11 cc nL rm ret) (hn : 66 ≤ gn G) (hR : (Nat.ble (6 + 1) rm.frames && Nat.ble (8 + (4 + 11) + 136) rm.locals) = true) (hf : k + 0 ≤ rm.cells ∧ n + 0 ≤ rm.slots) (hsz : Nat.ble (rest.map fun v => v.category).sum 8 = true) (hd : decode cc pc = .ok (.invokevirtual 178, 3)) (h : w_X11_lacksToOpen v1 K μ) (hk : ∀ (r : Int32) (μ1 : qM), K r μ1 → qV Z G nL k n μ1 (pc + 3) L (.int r :: rest)) : qV Z G nL k n μ pc L (.int v1 :: .ref (ga G 46) :: rest) := x_Vi [.int v1] rest C 46 10 (wp := fun K => w_X11_lacksToOpen v1 K μ) (y_X11_lacksToOpen : qY yX11_lacksToOpen cX11_lacksToOpen 4 (some .int) 1 ({ frames := 6, cells := 0, slots := 0, locals := 136 } : Room) 0 0) (qm_28 _ (List.mem_of_getElem? (i := 4) rfl)) (qm_28 _ (List.mem_of_getElem? (i := 5) rfl)) (qm_28 _ (List.mem_of_getElem? (i := 3) rfl)) (c_X11_lacksToOpen Z.2.1 G hn ) (Nat.lt_of_lt_of_le (by decide) hn) rfl (by decide) rfl rfl hR hf rfl rfl hsz hd h hk
theorem i_RX11_181 {Z : qZ} {G : qG} {cc : ByteArray} {nL k n : Nat} {rm : Room} {ret : Option FieldType} {μ : qM} {pc : Nat} {L : List (Nat × Value)} {rest : List Value} {K : Int32 → qM → Prop} {v1 : Int32} (C : qX Z G RX11 cc nL rm ret) (hn : 66 ≤ gn G) (hR : (Nat.ble (7 + 1) rm.frames && Nat.ble (8 + (5 + 11) + 158) rm.locals) = true) (hf : k + 0 ≤ rm.cells ∧ n + 0 ≤ rm.slots) (hsz : Nat.ble (rest.map fun v => v.category).sum 8 = true) (hd : decode cc pc = .ok (.invokevirtual 181, 3)) (h : w_X11_opensFor v1 K μ) (hk : ∀ (r : Int32) (μ1 : qM), K r μ1 → qV Z G nL k n μ1 (pc + 3) L (.int r :: rest)) : qV Z G nL k n μ pc L (.int v1 :: .ref (ga G 46) :: rest) := x_Vi [.int v1] rest C 46 10 (wp := fun K => w_X11_opensFor v1 K μ) (y_X11_opensFor : qY yX11_opensFor cX11_opensFor 5 (some .int) 1 ({ frames := 7, cells := 0, slots := 0, locals := 158 } : Room) 0 0) (qm_28 _ (List.mem_of_getElem? (i := 8) rfl)) (qm_28 _ (List.mem_of_getElem? (i := 9) rfl)) (qm_28 _ (List.mem_of_getElem? (i := 7) rfl)) (c_X11_opensFor Z.2.1 G hn ) (Nat.lt_of_lt_of_le (by decide) hn) rfl (by decide) rfl rfl hR hf rfl rfl hsz hd h hk
theorem y_X11_opens : qY yX11_opens cX11_opens 3 (some .int) 1 ({ frames := 8, cells := 0, slots := 0, locals := 182 } : Room) 0 0 := ⟨(qm_28 _ (List.mem_of_getElem? (i := 2) rfl)), (qm_1 _ (List.mem_of_getElem? (i := 5) rfl)), by decide +kernel, by decide +kernel, rfl, rfl⟩
theorem c_X11_opens (l : Launch) (G : qG) {v1 : Int32} {μ : qM} (hn : 66 ≤ gn G) : qCi l G yX11_opens cX11_opens 3 (some .int) ({ frames := 8, cells := 0, slots := 0, locals := 182 } : Room) 0 0 [.ref (ga G 46), .int v1] μ (fun post => w_X11_opens v1 post μ) := by
  refine qCi_of (L := [(0, .ref (ga G 46)), (1, .int v1)]) (by decide) rfl rfl ?_
  intro Z post hl C hQ h
  have C : qX Z G RX11 cX11_opens 3 ({ frames := 8, cells := 0, slots := 0, locals := 182 } : Room) (some .int) := C
  have h : w_X11_opens v1 post μ := h
  unfold w_X11_opens at h
  refine x_aload_n C 0 dX11_opens_0 rfl rfl ?_
  refine x_iload_n C 1 dX11_opens_1 rfl rfl ?_
  refine i_RX11_178 (rest := []) C hn  rfl (by decide) rfl dX11_opens_2 h (fun r2 μ2 h => ?_)
  refine x_istore_n C (L' := [(2, .int r2), (0, .ref (ga G 46)), (1, .int v1)]) dX11_opens_5 rfl (by decide) rfl ?_
  refine x_iload_n C 0 dX11_opens_6 rfl rfl ?_
  refine x_if_lt C dX11_opens_7 (tgt := 18) (by decide) h (fun h => ?_) (fun h => ?_)
  · refine x_aload_n C 1 dX11_opens_18 rfl rfl ?_
    refine x_iload_n C 2 dX11_opens_19 rfl rfl ?_
    refine i_RX11_181 (rest := []) C hn  rfl (by decide) rfl dX11_opens_20 h (fun r20 μ20 h => ?_)
    exact x_iret C hQ dX11_opens_23 h
  · refine x_aload_n C 1 dX11_opens_10 rfl rfl ?_
    refine x_iload_n C 0 dX11_opens_11 rfl rfl ?_
    refine i_RX11_119 (rest := []) C hn  rfl (by decide) rfl dX11_opens_12 h (fun r12 μ12 h => ?_)
    refine x_goto C dX11_opens_15 (tgt := 23) (by decide) ?_
    exact x_iret C hQ dX11_opens_23 h
theorem dX11_opened_0 : decode cX11_opened 0 = .ok (.aload_n 0, 1) := by decide +kernel
theorem dX11_opened_1 : decode cX11_opened 1 = .ok (.iload_n 1, 1) := by decide +kernel
theorem dX11_opened_2 : decode cX11_opened 2 = .ok (.invokevirtual 178, 3) := by decide +kernel
theorem dX11_opened_5 : decode cX11_opened 5 = .ok (.istore_n 2, 1) := by decide +kernel
theorem dX11_opened_6 : decode cX11_opened 6 = .ok (.iload_n 2, 1) := by decide +kernel
theorem dX11_opened_7 : decode cX11_opened 7 = .ok (.ifCond .lt 9, 3) := by decide +kernel
theorem dX11_opened_10 : decode cX11_opened 10 = .ok (.aload_n 0, 1) := by decide +kernel
theorem dX11_opened_11 : decode cX11_opened 11 = .ok (.iload_n 2, 1) := by decide +kernel
theorem dX11_opened_12 : decode cX11_opened 12 = .ok (.invokevirtual 119, 3) := by decide +kernel
theorem dX11_opened_15 : decode cX11_opened 15 = .ok (.ireturn, 1) := by decide +kernel
theorem dX11_opened_16 : decode cX11_opened 16 = .ok (.aload_n 0, 1) := by decide +kernel
theorem dX11_opened_17 : decode cX11_opened 17 = .ok (.iload_n 1, 1) := by decide +kernel
theorem dX11_opened_18 : decode cX11_opened 18 = .ok (.invokevirtual 181, 3) := by decide +kernel
theorem dX11_opened_21 : decode cX11_opened 21 = .ok (.istore_n 3, 1) := by decide +kernel
theorem dX11_opened_22 : decode cX11_opened 22 = .ok (.aload_n 0, 1) := by decide +kernel
theorem dX11_opened_23 : decode cX11_opened 23 = .ok (.getfield 175, 3) := by decide +kernel
theorem dX11_opened_26 : decode cX11_opened 26 = .ok (.ireturn, 1) := by decide +kernel
theorem y_X11_opened : qY yX11_opened cX11_opened 4 (some .int) 1 ({ frames := 8, cells := 0, slots := 0, locals := 182 } : Room) 0 0 := ⟨(qm_28 _ (List.mem_of_getElem? (i := 23) rfl)), (qm_1 _ (List.mem_of_getElem? (i := 5) rfl)), by decide +kernel, by decide +kernel, rfl, rfl⟩
theorem c_X11_opened (l : Launch) (G : qG) {v1 : Int32} {μ : qM} (hn : 66 ≤ gn G) : qCi l G yX11_opened cX11_opened 4 (some .int) ({ frames := 8, cells := 0, slots := 0, locals := 182 } : Room) 0 0 [.ref (ga G 46), .int v1] μ (fun post => w_X11_opened v1 post μ) := by
  refine qCi_of (L := [(0, .ref (ga G 46)), (1, .int v1)]) (by decide) rfl rfl ?_
  intro Z post hl C hQ h
  have C : qX Z G RX11 cX11_opened 4 ({ frames := 8, cells := 0, slots := 0, locals := 182 } : Room) (some .int) := C
  have h : w_X11_opened v1 post μ := h
  unfold w_X11_opened at h
  refine x_aload_n C 0 dX11_opened_0 rfl rfl ?_
  refine x_iload_n C 1 dX11_opened_1 rfl rfl ?_
  refine i_RX11_178 (rest := []) C hn  rfl (by decide) rfl dX11_opened_2 h (fun r2 μ2 h => ?_)
  refine x_istore_n C (L' := [(2, .int r2), (0, .ref (ga G 46)), (1, .int v1)]) dX11_opened_5 rfl (by decide) rfl ?_
  refine x_iload_n C 0 dX11_opened_6 rfl rfl ?_
  refine x_if_lt C dX11_opened_7 (tgt := 16) (by decide) h (fun h => ?_) (fun h => ?_)
  · refine x_aload_n C 1 dX11_opened_16 rfl rfl ?_
    refine x_iload_n C 2 dX11_opened_17 rfl rfl ?_
    refine i_RX11_181 (rest := []) C hn  rfl (by decide) rfl dX11_opened_18 h (fun r18 μ18 h => ?_)
    refine x_istore_n C (L' := [(3, .int r18), (2, .int r2), (0, .ref (ga G 46)), (1, .int v1)]) dX11_opened_21 rfl (by decide) rfl ?_
    refine x_aload_n C 2 dX11_opened_22 rfl rfl ?_
    refine g_RX11_175 C hn dX11_opened_23 ?_
    exact x_iret C hQ dX11_opened_26 h
  · refine x_aload_n C 1 dX11_opened_10 rfl rfl ?_
    refine x_iload_n C 0 dX11_opened_11 rfl rfl ?_
    refine i_RX11_119 (rest := []) C hn  rfl (by decide) rfl dX11_opened_12 h (fun r12 μ12 h => ?_)
    exact x_iret C hQ dX11_opened_15 h
theorem dX11_isFreeBy_0 : decode cX11_isFreeBy 0 = .ok (.iconst 0, 1) := by decide +kernel
theorem dX11_isFreeBy_1 : decode cX11_isFreeBy 1 = .ok (.istore_n 3, 1) := by decide +kernel
theorem dX11_isFreeBy_2 : decode cX11_isFreeBy 2 = .ok (.iload_n 3, 1) := by decide +kernel
theorem dX11_isFreeBy_3 : decode cX11_isFreeBy 3 = .ok (.aload_n 0, 1) := by decide +kernel
theorem dX11_isFreeBy_4 : decode cX11_isFreeBy 4 = .ok (.getfield 76, 3) := by decide +kernel
theorem dX11_isFreeBy_7 : decode cX11_isFreeBy 7 = .ok (.if_icmp .ge 119, 3) := by decide +kernel
theorem dX11_isFreeBy_10 : decode cX11_isFreeBy 10 = .ok (.iload_n 3, 1) := by decide +kernel
theorem dX11_isFreeBy_11 : decode cX11_isFreeBy 11 = .ok (.iconst 1, 1) := by decide +kernel
theorem dX11_isFreeBy_12 : decode cX11_isFreeBy 12 = .ok (.iadd, 1) := by decide +kernel
theorem dX11_isFreeBy_13 : decode cX11_isFreeBy 13 = .ok (.istore 4, 2) := by decide +kernel
theorem dX11_isFreeBy_15 : decode cX11_isFreeBy 15 = .ok (.iload 4, 2) := by decide +kernel
theorem dX11_isFreeBy_17 : decode cX11_isFreeBy 17 = .ok (.aload_n 0, 1) := by decide +kernel
theorem dX11_isFreeBy_18 : decode cX11_isFreeBy 18 = .ok (.getfield 76, 3) := by decide +kernel
theorem dX11_isFreeBy_21 : decode cX11_isFreeBy 21 = .ok (.if_icmp .ge 99, 3) := by decide +kernel
theorem dX11_isFreeBy_24 : decode cX11_isFreeBy 24 = .ok (.iload_n 1, 1) := by decide +kernel
theorem dX11_isFreeBy_25 : decode cX11_isFreeBy 25 = .ok (.iload_n 3, 1) := by decide +kernel
theorem dX11_isFreeBy_26 : decode cX11_isFreeBy 26 = .ok (.ishr, 1) := by decide +kernel
theorem dX11_isFreeBy_27 : decode cX11_isFreeBy 27 = .ok (.iconst 1, 1) := by decide +kernel
theorem dX11_isFreeBy_28 : decode cX11_isFreeBy 28 = .ok (.iand, 1) := by decide +kernel
theorem dX11_isFreeBy_29 : decode cX11_isFreeBy 29 = .ok (.iconst 1, 1) := by decide +kernel
theorem dX11_isFreeBy_30 : decode cX11_isFreeBy 30 = .ok (.if_icmp .ne 27, 3) := by decide +kernel
theorem dX11_isFreeBy_33 : decode cX11_isFreeBy 33 = .ok (.iload_n 1, 1) := by decide +kernel
theorem dX11_isFreeBy_34 : decode cX11_isFreeBy 34 = .ok (.iload 4, 2) := by decide +kernel
theorem dX11_isFreeBy_36 : decode cX11_isFreeBy 36 = .ok (.ishr, 1) := by decide +kernel
theorem dX11_isFreeBy_37 : decode cX11_isFreeBy 37 = .ok (.iconst 1, 1) := by decide +kernel
theorem dX11_isFreeBy_38 : decode cX11_isFreeBy 38 = .ok (.iand, 1) := by decide +kernel
theorem dX11_isFreeBy_39 : decode cX11_isFreeBy 39 = .ok (.iconst 1, 1) := by decide +kernel
theorem dX11_isFreeBy_40 : decode cX11_isFreeBy 40 = .ok (.if_icmp .ne 17, 3) := by decide +kernel
theorem dX11_isFreeBy_43 : decode cX11_isFreeBy 43 = .ok (.aload_n 0, 1) := by decide +kernel
theorem dX11_isFreeBy_44 : decode cX11_isFreeBy 44 = .ok (.iload_n 3, 1) := by decide +kernel
theorem dX11_isFreeBy_45 : decode cX11_isFreeBy 45 = .ok (.iload 4, 2) := by decide +kernel
theorem dX11_isFreeBy_47 : decode cX11_isFreeBy 47 = .ok (.invokevirtual 100, 3) := by decide +kernel
theorem dX11_isFreeBy_50 : decode cX11_isFreeBy 50 = .ok (.ifCond .eq 7, 3) := by decide +kernel
theorem dX11_isFreeBy_53 : decode cX11_isFreeBy 53 = .ok (.iconst 1, 1) := by decide +kernel
theorem dX11_isFreeBy_54 : decode cX11_isFreeBy 54 = .ok (.goto 4, 3) := by decide +kernel
theorem dX11_isFreeBy_57 : decode cX11_isFreeBy 57 = .ok (.iconst 0, 1) := by decide +kernel
theorem dX11_isFreeBy_58 : decode cX11_isFreeBy 58 = .ok (.istore 5, 2) := by decide +kernel
theorem dX11_isFreeBy_60 : decode cX11_isFreeBy 60 = .ok (.iload 5, 2) := by decide +kernel
theorem dX11_isFreeBy_62 : decode cX11_isFreeBy 62 = .ok (.ifCond .eq 52, 3) := by decide +kernel
theorem dX11_isFreeBy_65 : decode cX11_isFreeBy 65 = .ok (.aload_n 0, 1) := by decide +kernel
theorem dX11_isFreeBy_66 : decode cX11_isFreeBy 66 = .ok (.getfield 9, 3) := by decide +kernel
theorem dX11_isFreeBy_69 : decode cX11_isFreeBy 69 = .ok (.iload_n 3, 1) := by decide +kernel
theorem dX11_isFreeBy_70 : decode cX11_isFreeBy 70 = .ok (.iaload, 1) := by decide +kernel
theorem dX11_isFreeBy_71 : decode cX11_isFreeBy 71 = .ok (.aload_n 0, 1) := by decide +kernel
theorem dX11_isFreeBy_72 : decode cX11_isFreeBy 72 = .ok (.getfield 13, 3) := by decide +kernel
theorem dX11_isFreeBy_75 : decode cX11_isFreeBy 75 = .ok (.iload_n 3, 1) := by decide +kernel
theorem dX11_isFreeBy_76 : decode cX11_isFreeBy 76 = .ok (.iaload, 1) := by decide +kernel
theorem dX11_isFreeBy_77 : decode cX11_isFreeBy 77 = .ok (.aload_n 0, 1) := by decide +kernel
theorem dX11_isFreeBy_78 : decode cX11_isFreeBy 78 = .ok (.getfield 13, 3) := by decide +kernel
theorem dX11_isFreeBy_81 : decode cX11_isFreeBy 81 = .ok (.iload_n 2, 1) := by decide +kernel
theorem dX11_isFreeBy_82 : decode cX11_isFreeBy 82 = .ok (.iaload, 1) := by decide +kernel
theorem dX11_isFreeBy_83 : decode cX11_isFreeBy 83 = .ok (.invokestatic 92, 3) := by decide +kernel
theorem dX11_isFreeBy_86 : decode cX11_isFreeBy 86 = .ok (.aload_n 0, 1) := by decide +kernel
theorem dX11_isFreeBy_87 : decode cX11_isFreeBy 87 = .ok (.getfield 9, 3) := by decide +kernel
theorem dX11_isFreeBy_90 : decode cX11_isFreeBy 90 = .ok (.iload 4, 2) := by decide +kernel
theorem dX11_isFreeBy_92 : decode cX11_isFreeBy 92 = .ok (.iaload, 1) := by decide +kernel
theorem dX11_isFreeBy_93 : decode cX11_isFreeBy 93 = .ok (.aload_n 0, 1) := by decide +kernel
theorem dX11_isFreeBy_94 : decode cX11_isFreeBy 94 = .ok (.getfield 13, 3) := by decide +kernel
theorem dX11_isFreeBy_97 : decode cX11_isFreeBy 97 = .ok (.iload 4, 2) := by decide +kernel
theorem dX11_isFreeBy_99 : decode cX11_isFreeBy 99 = .ok (.iaload, 1) := by decide +kernel
theorem dX11_isFreeBy_100 : decode cX11_isFreeBy 100 = .ok (.aload_n 0, 1) := by decide +kernel
theorem dX11_isFreeBy_101 : decode cX11_isFreeBy 101 = .ok (.getfield 13, 3) := by decide +kernel
theorem dX11_isFreeBy_104 : decode cX11_isFreeBy 104 = .ok (.iload_n 2, 1) := by decide +kernel
theorem dX11_isFreeBy_105 : decode cX11_isFreeBy 105 = .ok (.iaload, 1) := by decide +kernel
theorem dX11_isFreeBy_106 : decode cX11_isFreeBy 106 = .ok (.invokestatic 92, 3) := by decide +kernel
theorem dX11_isFreeBy_109 : decode cX11_isFreeBy 109 = .ok (.if_icmp .ne 5, 3) := by decide +kernel
theorem dX11_isFreeBy_112 : decode cX11_isFreeBy 112 = .ok (.iconst 1, 1) := by decide +kernel
theorem dX11_isFreeBy_113 : decode cX11_isFreeBy 113 = .ok (.ireturn, 1) := by decide +kernel
theorem dX11_isFreeBy_114 : decode cX11_isFreeBy 114 = .ok (.iinc 4 1, 3) := by decide +kernel
theorem dX11_isFreeBy_117 : decode cX11_isFreeBy 117 = .ok (.goto (-102), 3) := by decide +kernel
theorem dX11_isFreeBy_120 : decode cX11_isFreeBy 120 = .ok (.iinc 3 1, 3) := by decide +kernel
theorem dX11_isFreeBy_123 : decode cX11_isFreeBy 123 = .ok (.goto (-121), 3) := by decide +kernel
theorem dX11_isFreeBy_126 : decode cX11_isFreeBy 126 = .ok (.iconst 0, 1) := by decide +kernel
theorem dX11_isFreeBy_127 : decode cX11_isFreeBy 127 = .ok (.ireturn, 1) := by decide +kernel
theorem b_X11_isFreeBy_114 {Z : qZ} {G : qG} {v1 : Int32} {v2 : Int32} {v3 : Int32} {v4 : Int32} {μ : qM} {P2 : Int32 → qM → Prop} {P15 : Int32 → qM → Prop} {post : Int32 → qM → Prop} (C : qX Z G RX11 cX11_isFreeBy 6 ({ frames := 4, cells := 0, slots := 0, locals := 89 } : Room) (some .boolean)) (hQ : qQi Z G 0 0 post) (hn : 66 ≤ gn G) (hP2 : ∀ (b3 : Int32) (μ1 : qM), P2 b3 μ1 → qV Z G 6 0 0 μ1 2 [(0, .ref (ga G 46)), (1, .int v1), (2, .int v2), (3, .int b3)] []) (hP15 : ∀ (b4 : Int32) (μ1 : qM), P15 b4 μ1 → qV Z G 6 0 0 μ1 15 [(0, .ref (ga G 46)), (1, .int v1), (2, .int v2), (3, .int v3), (4, .int b4)] []) (h : q_X11_isFreeBy_114 P2 P15 post v1 v2 v3 v4 μ) : qV Z G 6 0 0 μ 114 [(0, .ref (ga G 46)), (1, .int v1), (2, .int v2), (3, .int v3), (4, .int v4)] [] := by
  unfold q_X11_isFreeBy_114 at h
  refine x_iinc C 4 (v := 1) (L' := [(4, .int ((v4 + 1))), (0, .ref (ga G 46)), (1, .int v1), (2, .int v2), (3, .int v3)]) dX11_isFreeBy_114 rfl (by decide) (by decide) rfl ?_
  refine x_goto C dX11_isFreeBy_117 (tgt := 15) (by decide) ?_
  exact qV_sub [1, 2, 3, 4, 0] rfl ((hP15 _ _ h))
theorem b_X11_isFreeBy_58 {Z : qZ} {G : qG} {v1 : Int32} {v2 : Int32} {v3 : Int32} {v4 : Int32} {s0 : Int32} {μ : qM} {P2 : Int32 → qM → Prop} {P15 : Int32 → qM → Prop} {post : Int32 → qM → Prop} (C : qX Z G RX11 cX11_isFreeBy 6 ({ frames := 4, cells := 0, slots := 0, locals := 89 } : Room) (some .boolean)) (hQ : qQi Z G 0 0 post) (hn : 66 ≤ gn G) (hP2 : ∀ (b3 : Int32) (μ1 : qM), P2 b3 μ1 → qV Z G 6 0 0 μ1 2 [(0, .ref (ga G 46)), (1, .int v1), (2, .int v2), (3, .int b3)] []) (hP15 : ∀ (b4 : Int32) (μ1 : qM), P15 b4 μ1 → qV Z G 6 0 0 μ1 15 [(0, .ref (ga G 46)), (1, .int v1), (2, .int v2), (3, .int v3), (4, .int b4)] []) (h : q_X11_isFreeBy_58 P2 P15 post v1 v2 v3 v4 s0 μ) : qV Z G 6 0 0 μ 58 [(0, .ref (ga G 46)), (1, .int v1), (2, .int v2), (3, .int v3), (4, .int v4)] [.int s0] := by
  unfold q_X11_isFreeBy_58 at h
  refine x_istore C (L' := [(5, .int s0), (0, .ref (ga G 46)), (1, .int v1), (2, .int v2), (3, .int v3), (4, .int v4)]) dX11_isFreeBy_58 (by decide) rfl ?_
  refine x_iload C 0 dX11_isFreeBy_60 rfl ?_
  refine x_if_eq C dX11_isFreeBy_62 (tgt := 114) (by decide) h (fun h => ?_) (fun h => ?_)
  · exact qV_sub [1, 2, 3, 4, 5] rfl (b_X11_isFreeBy_114 C hQ hn hP2 hP15 h)
  · refine x_aload_n C 1 dX11_isFreeBy_65 rfl rfl ?_
    refine g_RX11_9 C hn dX11_isFreeBy_66 ?_
    refine x_iload_n C 4 dX11_isFreeBy_69 rfl rfl ?_
    refine x_iald C 47 19 154 (q_lt rfl rfl hn) rfl rfl rfl rfl rfl dX11_isFreeBy_70 h (fun h => ?_)
    refine x_aload_n C 1 dX11_isFreeBy_71 rfl rfl ?_
    refine g_RX11_13 C hn dX11_isFreeBy_72 ?_
    refine x_iload_n C 4 dX11_isFreeBy_75 rfl rfl ?_
    refine x_iald C 48 19 154 (q_lt rfl rfl hn) rfl rfl rfl rfl rfl dX11_isFreeBy_76 h (fun h => ?_)
    refine x_aload_n C 1 dX11_isFreeBy_77 rfl rfl ?_
    refine g_RX11_13 C hn dX11_isFreeBy_78 ?_
    refine x_iload_n C 3 dX11_isFreeBy_81 rfl rfl ?_
    refine x_iald C 48 19 154 (q_lt rfl rfl hn) rfl rfl rfl rfl rfl dX11_isFreeBy_82 h (fun h => ?_)
    refine i_RX11_92 (rest := []) C hn  rfl (by decide) rfl dX11_isFreeBy_83 h (fun r83 μ83 h => ?_)
    refine x_aload_n C 1 dX11_isFreeBy_86 rfl rfl ?_
    refine g_RX11_9 C hn dX11_isFreeBy_87 ?_
    refine x_iload C 5 dX11_isFreeBy_90 rfl ?_
    refine x_iald C 47 19 154 (q_lt rfl rfl hn) rfl rfl rfl rfl rfl dX11_isFreeBy_92 h (fun h => ?_)
    refine x_aload_n C 1 dX11_isFreeBy_93 rfl rfl ?_
    refine g_RX11_13 C hn dX11_isFreeBy_94 ?_
    refine x_iload C 5 dX11_isFreeBy_97 rfl ?_
    refine x_iald C 48 19 154 (q_lt rfl rfl hn) rfl rfl rfl rfl rfl dX11_isFreeBy_99 h (fun h => ?_)
    refine x_aload_n C 1 dX11_isFreeBy_100 rfl rfl ?_
    refine g_RX11_13 C hn dX11_isFreeBy_101 ?_
    refine x_iload_n C 3 dX11_isFreeBy_104 rfl rfl ?_
    refine x_iald C 48 19 154 (q_lt rfl rfl hn) rfl rfl rfl rfl rfl dX11_isFreeBy_105 h (fun h => ?_)
    refine i_RX11_92 (rest := [.int r83]) C hn  rfl (by decide) rfl dX11_isFreeBy_106 h (fun r106 μ106 h => ?_)
    refine x_icmp_ne C dX11_isFreeBy_109 (tgt := 114) (by decide) h (fun h => ?_) (fun h => ?_)
    · exact qV_sub [1, 2, 3, 4, 5] rfl (b_X11_isFreeBy_114 C hQ hn hP2 hP15 h)
    · refine x_iconst C dX11_isFreeBy_112 (v := 1) (by decide) ?_
      exact x_zret C hQ dX11_isFreeBy_113 h
theorem b_X11_isFreeBy_57 {Z : qZ} {G : qG} {v1 : Int32} {v2 : Int32} {v3 : Int32} {v4 : Int32} {μ : qM} {P2 : Int32 → qM → Prop} {P15 : Int32 → qM → Prop} {post : Int32 → qM → Prop} (C : qX Z G RX11 cX11_isFreeBy 6 ({ frames := 4, cells := 0, slots := 0, locals := 89 } : Room) (some .boolean)) (hQ : qQi Z G 0 0 post) (hn : 66 ≤ gn G) (hP2 : ∀ (b3 : Int32) (μ1 : qM), P2 b3 μ1 → qV Z G 6 0 0 μ1 2 [(0, .ref (ga G 46)), (1, .int v1), (2, .int v2), (3, .int b3)] []) (hP15 : ∀ (b4 : Int32) (μ1 : qM), P15 b4 μ1 → qV Z G 6 0 0 μ1 15 [(0, .ref (ga G 46)), (1, .int v1), (2, .int v2), (3, .int v3), (4, .int b4)] []) (h : q_X11_isFreeBy_57 P2 P15 post v1 v2 v3 v4 μ) : qV Z G 6 0 0 μ 57 [(0, .ref (ga G 46)), (1, .int v1), (2, .int v2), (3, .int v3), (4, .int v4)] [] := by
  unfold q_X11_isFreeBy_57 at h
  refine x_iconst C dX11_isFreeBy_57 (v := 0) (by decide) ?_
  exact b_X11_isFreeBy_58 C hQ hn hP2 hP15 h
theorem b_X11_isFreeBy_15 {Z : qZ} {G : qG} {v1 : Int32} {v2 : Int32} {v3 : Int32} {v4 : Int32} {μ : qM} {P2 : Int32 → qM → Prop} {post : Int32 → qM → Prop} (C : qX Z G RX11 cX11_isFreeBy 6 ({ frames := 4, cells := 0, slots := 0, locals := 89 } : Room) (some .boolean)) (hQ : qQi Z G 0 0 post) (hn : 66 ≤ gn G) (hP2 : ∀ (b3 : Int32) (μ1 : qM), P2 b3 μ1 → qV Z G 6 0 0 μ1 2 [(0, .ref (ga G 46)), (1, .int v1), (2, .int v2), (3, .int b3)] []) (h : q_X11_isFreeBy_15 v1 v2 v3 P2 post v4 μ) : qV Z G 6 0 0 μ 15 [(0, .ref (ga G 46)), (1, .int v1), (2, .int v2), (3, .int v3), (4, .int v4)] [] := by
  refine h (fun v4 μ => qV Z G 6 0 0 μ 15 [(0, .ref (ga G 46)), (1, .int v1), (2, .int v2), (3, .int v3), (4, .int v4)] []) (fun v4 μ h => ?_)
  refine x_iload C 4 dX11_isFreeBy_15 rfl ?_
  refine x_aload_n C 0 dX11_isFreeBy_17 rfl rfl ?_
  refine g_RX11_76 C hn dX11_isFreeBy_18 ?_
  refine x_icmp_ge C dX11_isFreeBy_21 (tgt := 120) (by decide) h (fun h => ?_) (fun h => ?_)
  · refine x_iinc C 3 (v := 1) (L' := [(3, .int ((v3 + 1))), (0, .ref (ga G 46)), (1, .int v1), (2, .int v2), (4, .int v4)]) dX11_isFreeBy_120 rfl (by decide) (by decide) rfl ?_
    refine x_goto C dX11_isFreeBy_123 (tgt := 2) (by decide) ?_
    exact qV_sub [1, 2, 3, 0] rfl ((hP2 _ _ h))
  · refine x_iload_n C 1 dX11_isFreeBy_24 rfl rfl ?_
    refine x_iload_n C 3 dX11_isFreeBy_25 rfl rfl ?_
    refine x_ishr C dX11_isFreeBy_26 ?_
    refine x_iconst C dX11_isFreeBy_27 (v := 1) (by decide) ?_
    refine x_iand C dX11_isFreeBy_28 ?_
    refine x_iconst C dX11_isFreeBy_29 (v := 1) (by decide) ?_
    refine x_icmp_ne C dX11_isFreeBy_30 (tgt := 57) (by decide) h (fun h => ?_) (fun h => ?_)
    · exact b_X11_isFreeBy_57 C hQ hn hP2 (fun _ _ h => h) h
    · refine x_iload_n C 1 dX11_isFreeBy_33 rfl rfl ?_
      refine x_iload C 4 dX11_isFreeBy_34 rfl ?_
      refine x_ishr C dX11_isFreeBy_36 ?_
      refine x_iconst C dX11_isFreeBy_37 (v := 1) (by decide) ?_
      refine x_iand C dX11_isFreeBy_38 ?_
      refine x_iconst C dX11_isFreeBy_39 (v := 1) (by decide) ?_
      refine x_icmp_ne C dX11_isFreeBy_40 (tgt := 57) (by decide) h (fun h => ?_) (fun h => ?_)
      · exact b_X11_isFreeBy_57 C hQ hn hP2 (fun _ _ h => h) h
      · refine x_aload_n C 0 dX11_isFreeBy_43 rfl rfl ?_
        refine x_iload_n C 3 dX11_isFreeBy_44 rfl rfl ?_
        refine x_iload C 4 dX11_isFreeBy_45 rfl ?_
        refine i_RX11_100 (rest := []) C hn  rfl (by decide) rfl dX11_isFreeBy_47 h (fun r47 μ47 h => ?_)
        refine x_if_eq C dX11_isFreeBy_50 (tgt := 57) (by decide) h (fun h => ?_) (fun h => ?_)
        · exact b_X11_isFreeBy_57 C hQ hn hP2 (fun _ _ h => h) h
        · refine x_iconst C dX11_isFreeBy_53 (v := 1) (by decide) ?_
          refine x_goto C dX11_isFreeBy_54 (tgt := 58) (by decide) ?_
          exact b_X11_isFreeBy_58 C hQ hn hP2 (fun _ _ h => h) h
theorem b_X11_isFreeBy_2 {Z : qZ} {G : qG} {v1 : Int32} {v2 : Int32} {v3 : Int32} {μ : qM} {post : Int32 → qM → Prop} (C : qX Z G RX11 cX11_isFreeBy 6 ({ frames := 4, cells := 0, slots := 0, locals := 89 } : Room) (some .boolean)) (hQ : qQi Z G 0 0 post) (hn : 66 ≤ gn G) (h : q_X11_isFreeBy_2 v1 v2 post v3 μ) : qV Z G 6 0 0 μ 2 [(0, .ref (ga G 46)), (1, .int v1), (2, .int v2), (3, .int v3)] [] := by
  refine h (fun v3 μ => qV Z G 6 0 0 μ 2 [(0, .ref (ga G 46)), (1, .int v1), (2, .int v2), (3, .int v3)] []) (fun v3 μ h => ?_)
  refine x_iload_n C 3 dX11_isFreeBy_2 rfl rfl ?_
  refine x_aload_n C 0 dX11_isFreeBy_3 rfl rfl ?_
  refine g_RX11_76 C hn dX11_isFreeBy_4 ?_
  refine x_icmp_ge C dX11_isFreeBy_7 (tgt := 126) (by decide) h (fun h => ?_) (fun h => ?_)
  · refine x_iconst C dX11_isFreeBy_126 (v := 0) (by decide) ?_
    exact x_zret C hQ dX11_isFreeBy_127 h
  · refine x_iload_n C 3 dX11_isFreeBy_10 rfl rfl ?_
    refine x_iconst C dX11_isFreeBy_11 (v := 1) (by decide) ?_
    refine x_iadd C dX11_isFreeBy_12 ?_
    refine x_istore C (L' := [(4, .int ((v3 + (1 : Int32)))), (0, .ref (ga G 46)), (1, .int v1), (2, .int v2), (3, .int v3)]) dX11_isFreeBy_13 (by decide) rfl ?_
    exact qV_sub [1, 2, 3, 4, 0] rfl (b_X11_isFreeBy_15 C hQ hn (fun _ _ h => h) h)
theorem y_X11_isFreeBy : qY yX11_isFreeBy cX11_isFreeBy 6 (some .boolean) 2 ({ frames := 4, cells := 0, slots := 0, locals := 89 } : Room) 0 0 := ⟨(qm_31 _ (List.mem_of_getElem? (i := 1) rfl)), (qm_1 _ (List.mem_of_getElem? (i := 5) rfl)), by decide +kernel, by decide +kernel, rfl, rfl⟩
theorem c_X11_isFreeBy (l : Launch) (G : qG) {v1 : Int32} {v2 : Int32} {μ : qM} (hn : 66 ≤ gn G) : qCi l G yX11_isFreeBy cX11_isFreeBy 6 (some .boolean) ({ frames := 4, cells := 0, slots := 0, locals := 89 } : Room) 0 0 [.ref (ga G 46), .int v1, .int v2] μ (fun post => w_X11_isFreeBy v1 v2 post μ) := by
  refine qCi_of (L := [(0, .ref (ga G 46)), (1, .int v1), (2, .int v2)]) (by decide) rfl rfl ?_
  intro Z post hl C hQ h
  have C : qX Z G RX11 cX11_isFreeBy 6 ({ frames := 4, cells := 0, slots := 0, locals := 89 } : Room) (some .boolean) := C
  have h : w_X11_isFreeBy v1 v2 post μ := h
  unfold w_X11_isFreeBy at h
  refine x_iconst C dX11_isFreeBy_0 (v := 0) (by decide) ?_
  refine x_istore_n C (L' := [(3, .int ((0 : Int32))), (0, .ref (ga G 46)), (1, .int v1), (2, .int v2)]) dX11_isFreeBy_1 rfl (by decide) rfl ?_
  exact qV_sub [1, 2, 3, 0] rfl (b_X11_isFreeBy_2 C hQ hn h)
theorem dX11_bits_0 : decode cX11_bits 0 = .ok (.iconst 0, 1) := by decide +kernel
theorem dX11_bits_1 : decode cX11_bits 1 = .ok (.istore_n 1, 1) := by decide +kernel
theorem dX11_bits_2 : decode cX11_bits 2 = .ok (.iload_n 0, 1) := by decide +kernel
theorem dX11_bits_3 : decode cX11_bits 3 = .ok (.istore_n 2, 1) := by decide +kernel
theorem dX11_bits_4 : decode cX11_bits 4 = .ok (.iload_n 2, 1) := by decide +kernel
theorem dX11_bits_5 : decode cX11_bits 5 = .ok (.ifCond .le 15, 3) := by decide +kernel
theorem dX11_bits_8 : decode cX11_bits 8 = .ok (.iinc 1 1, 3) := by decide +kernel
theorem dX11_bits_11 : decode cX11_bits 11 = .ok (.iload_n 2, 1) := by decide +kernel
theorem dX11_bits_12 : decode cX11_bits 12 = .ok (.iload_n 2, 1) := by decide +kernel
theorem dX11_bits_13 : decode cX11_bits 13 = .ok (.iconst 1, 1) := by decide +kernel
theorem dX11_bits_14 : decode cX11_bits 14 = .ok (.isub, 1) := by decide +kernel
theorem dX11_bits_15 : decode cX11_bits 15 = .ok (.iand, 1) := by decide +kernel
theorem dX11_bits_16 : decode cX11_bits 16 = .ok (.istore_n 2, 1) := by decide +kernel
theorem dX11_bits_17 : decode cX11_bits 17 = .ok (.goto (-13), 3) := by decide +kernel
theorem dX11_bits_20 : decode cX11_bits 20 = .ok (.iload_n 1, 1) := by decide +kernel
theorem dX11_bits_21 : decode cX11_bits 21 = .ok (.ireturn, 1) := by decide +kernel
theorem b_X11_bits_4 {Z : qZ} {G : qG} {v1 : Int32} {v2 : Int32} {μ : qM} {post : Int32 → qM → Prop} (C : qX Z G RX11 cX11_bits 3 ({ frames := 0, cells := 0, slots := 0, locals := 0 } : Room) (some .int)) (hQ : qQi Z G 0 0 post) (hn : 66 ≤ gn G) (h : q_X11_bits_4 post v1 v2 μ) : qV Z G 3 0 0 μ 4 [(1, .int v1), (2, .int v2)] [] := by
  refine h (fun v1 v2 μ => qV Z G 3 0 0 μ 4 [(1, .int v1), (2, .int v2)] []) (fun v1 v2 μ h => ?_)
  refine x_iload_n C 1 dX11_bits_4 rfl rfl ?_
  refine x_if_le C dX11_bits_5 (tgt := 20) (by decide) h (fun h => ?_) (fun h => ?_)
  · refine x_iload_n C 0 dX11_bits_20 rfl rfl ?_
    exact x_iret C hQ dX11_bits_21 h
  · refine x_iinc C 0 (v := 1) (L' := [(1, .int ((v1 + 1))), (2, .int v2)]) dX11_bits_8 rfl (by decide) (by decide) rfl ?_
    refine x_iload_n C 1 dX11_bits_11 rfl rfl ?_
    refine x_iload_n C 1 dX11_bits_12 rfl rfl ?_
    refine x_iconst C dX11_bits_13 (v := 1) (by decide) ?_
    refine x_isub C dX11_bits_14 ?_
    refine x_iand C dX11_bits_15 ?_
    refine x_istore_n C (L' := [(2, .int ((v2 &&& (v2 - (1 : Int32))))), (1, .int ((v1 + 1)))]) dX11_bits_16 rfl (by decide) rfl ?_
    refine x_goto C dX11_bits_17 (tgt := 4) (by decide) ?_
    exact qV_sub [1, 0] rfl (h)
theorem y_X11_bits : qY yX11_bits cX11_bits 3 (some .int) 1 ({ frames := 0, cells := 0, slots := 0, locals := 0 } : Room) 0 0 := ⟨(qm_30 _ (List.mem_of_getElem? (i := 21) rfl)), (qm_1 _ (List.mem_of_getElem? (i := 5) rfl)), by decide +kernel, by decide +kernel, rfl, rfl⟩
theorem c_X11_bits (l : Launch) (G : qG) {v0 : Int32} {μ : qM} (hn : 66 ≤ gn G) : qCi l G yX11_bits cX11_bits 3 (some .int) ({ frames := 0, cells := 0, slots := 0, locals := 0 } : Room) 0 0 [.int v0] μ (fun post => w_X11_bits v0 post μ) := by
  refine qCi_of (L := [(0, .int v0)]) (by decide) rfl rfl ?_
  intro Z post hl C hQ h
  have C : qX Z G RX11 cX11_bits 3 ({ frames := 0, cells := 0, slots := 0, locals := 0 } : Room) (some .int) := C
  have h : w_X11_bits v0 post μ := h
  unfold w_X11_bits at h
  refine x_iconst C dX11_bits_0 (v := 0) (by decide) ?_
  refine x_istore_n C (L' := [(1, .int ((0 : Int32))), (0, .int v0)]) dX11_bits_1 rfl (by decide) rfl ?_
  refine x_iload_n C 1 dX11_bits_2 rfl rfl ?_
  refine x_istore_n C (L' := [(2, .int v0), (1, .int ((0 : Int32))), (0, .int v0)]) dX11_bits_3 rfl (by decide) rfl ?_
  exact qV_sub [1, 0] rfl (b_X11_bits_4 C hQ hn h)
theorem dX11_findWays_0 : decode cX11_findWays 0 = .ok (.aload_n 0, 1) := by decide +kernel
theorem dX11_findWays_1 : decode cX11_findWays 1 = .ok (.getfield 57, 3) := by decide +kernel
theorem dX11_findWays_4 : decode cX11_findWays 4 = .ok (.iconst 0, 1) := by decide +kernel
theorem dX11_findWays_5 : decode cX11_findWays 5 = .ok (.iconst 1, 1) := by decide +kernel
theorem dX11_findWays_6 : decode cX11_findWays 6 = .ok (.iastore, 1) := by decide +kernel
theorem dX11_findWays_7 : decode cX11_findWays 7 = .ok (.iconst 1, 1) := by decide +kernel
theorem dX11_findWays_8 : decode cX11_findWays 8 = .ok (.istore_n 2, 1) := by decide +kernel
theorem dX11_findWays_9 : decode cX11_findWays 9 = .ok (.iload_n 2, 1) := by decide +kernel
theorem dX11_findWays_10 : decode cX11_findWays 10 = .ok (.iconst 1, 1) := by decide +kernel
theorem dX11_findWays_11 : decode cX11_findWays 11 = .ok (.aload_n 0, 1) := by decide +kernel
theorem dX11_findWays_12 : decode cX11_findWays 12 = .ok (.getfield 76, 3) := by decide +kernel
theorem dX11_findWays_15 : decode cX11_findWays 15 = .ok (.ishl, 1) := by decide +kernel
theorem dX11_findWays_16 : decode cX11_findWays 16 = .ok (.if_icmp .ge 118, 3) := by decide +kernel
theorem dX11_findWays_19 : decode cX11_findWays 19 = .ok (.aload_n 0, 1) := by decide +kernel
theorem dX11_findWays_20 : decode cX11_findWays 20 = .ok (.getfield 57, 3) := by decide +kernel
theorem dX11_findWays_23 : decode cX11_findWays 23 = .ok (.iload_n 2, 1) := by decide +kernel
theorem dX11_findWays_24 : decode cX11_findWays 24 = .ok (.iconst 0, 1) := by decide +kernel
theorem dX11_findWays_25 : decode cX11_findWays 25 = .ok (.iastore, 1) := by decide +kernel
theorem dX11_findWays_26 : decode cX11_findWays 26 = .ok (.iload_n 2, 1) := by decide +kernel
theorem dX11_findWays_27 : decode cX11_findWays 27 = .ok (.invokestatic 184, 3) := by decide +kernel
theorem dX11_findWays_30 : decode cX11_findWays 30 = .ok (.istore_n 3, 1) := by decide +kernel
theorem dX11_findWays_31 : decode cX11_findWays 31 = .ok (.iconst 0, 1) := by decide +kernel
theorem dX11_findWays_32 : decode cX11_findWays 32 = .ok (.istore 4, 2) := by decide +kernel
theorem dX11_findWays_34 : decode cX11_findWays 34 = .ok (.iload 4, 2) := by decide +kernel
theorem dX11_findWays_36 : decode cX11_findWays 36 = .ok (.aload_n 0, 1) := by decide +kernel
theorem dX11_findWays_37 : decode cX11_findWays 37 = .ok (.getfield 76, 3) := by decide +kernel
theorem dX11_findWays_40 : decode cX11_findWays 40 = .ok (.if_icmp .ge 57, 3) := by decide +kernel
theorem dX11_findWays_43 : decode cX11_findWays 43 = .ok (.iload_n 2, 1) := by decide +kernel
theorem dX11_findWays_44 : decode cX11_findWays 44 = .ok (.iconst 1, 1) := by decide +kernel
theorem dX11_findWays_45 : decode cX11_findWays 45 = .ok (.iload 4, 2) := by decide +kernel
theorem dX11_findWays_47 : decode cX11_findWays 47 = .ok (.ishl, 1) := by decide +kernel
theorem dX11_findWays_48 : decode cX11_findWays 48 = .ok (.iconst (-1), 1) := by decide +kernel
theorem dX11_findWays_49 : decode cX11_findWays 49 = .ok (.ixor, 1) := by decide +kernel
theorem dX11_findWays_50 : decode cX11_findWays 50 = .ok (.iand, 1) := by decide +kernel
theorem dX11_findWays_51 : decode cX11_findWays 51 = .ok (.istore 5, 2) := by decide +kernel
theorem dX11_findWays_53 : decode cX11_findWays 53 = .ok (.iload 5, 2) := by decide +kernel
theorem dX11_findWays_55 : decode cX11_findWays 55 = .ok (.iload_n 2, 1) := by decide +kernel
theorem dX11_findWays_56 : decode cX11_findWays 56 = .ok (.if_icmp .eq 35, 3) := by decide +kernel
theorem dX11_findWays_59 : decode cX11_findWays 59 = .ok (.iload_n 3, 1) := by decide +kernel
theorem dX11_findWays_60 : decode cX11_findWays 60 = .ok (.iconst 3, 1) := by decide +kernel
theorem dX11_findWays_61 : decode cX11_findWays 61 = .ok (.if_icmp .lt 14, 3) := by decide +kernel
theorem dX11_findWays_64 : decode cX11_findWays 64 = .ok (.aload_n 0, 1) := by decide +kernel
theorem dX11_findWays_65 : decode cX11_findWays 65 = .ok (.iload 5, 2) := by decide +kernel
theorem dX11_findWays_67 : decode cX11_findWays 67 = .ok (.iload 4, 2) := by decide +kernel
theorem dX11_findWays_69 : decode cX11_findWays 69 = .ok (.invokevirtual 187, 3) := by decide +kernel
theorem dX11_findWays_72 : decode cX11_findWays 72 = .ok (.ifCond .eq 19, 3) := by decide +kernel
theorem dX11_findWays_75 : decode cX11_findWays 75 = .ok (.aload_n 0, 1) := by decide +kernel
theorem dX11_findWays_76 : decode cX11_findWays 76 = .ok (.getfield 57, 3) := by decide +kernel
theorem dX11_findWays_79 : decode cX11_findWays 79 = .ok (.iload_n 2, 1) := by decide +kernel
theorem dX11_findWays_80 : decode cX11_findWays 80 = .ok (.dup2, 1) := by decide +kernel
theorem dX11_findWays_81 : decode cX11_findWays 81 = .ok (.iaload, 1) := by decide +kernel
theorem dX11_findWays_82 : decode cX11_findWays 82 = .ok (.aload_n 0, 1) := by decide +kernel
theorem dX11_findWays_83 : decode cX11_findWays 83 = .ok (.getfield 57, 3) := by decide +kernel
theorem dX11_findWays_86 : decode cX11_findWays 86 = .ok (.iload 5, 2) := by decide +kernel
theorem dX11_findWays_88 : decode cX11_findWays 88 = .ok (.iaload, 1) := by decide +kernel
theorem dX11_findWays_89 : decode cX11_findWays 89 = .ok (.iadd, 1) := by decide +kernel
theorem dX11_findWays_90 : decode cX11_findWays 90 = .ok (.iastore, 1) := by decide +kernel
theorem dX11_findWays_91 : decode cX11_findWays 91 = .ok (.iinc 4 1, 3) := by decide +kernel
theorem dX11_findWays_94 : decode cX11_findWays 94 = .ok (.goto (-60), 3) := by decide +kernel
theorem dX11_findWays_97 : decode cX11_findWays 97 = .ok (.iload_n 1, 1) := by decide +kernel
theorem dX11_findWays_98 : decode cX11_findWays 98 = .ok (.ifCond .lt 30, 3) := by decide +kernel
theorem dX11_findWays_101 : decode cX11_findWays 101 = .ok (.iload_n 3, 1) := by decide +kernel
theorem dX11_findWays_102 : decode cX11_findWays 102 = .ok (.iconst 2, 1) := by decide +kernel
theorem dX11_findWays_103 : decode cX11_findWays 103 = .ok (.aload_n 0, 1) := by decide +kernel
theorem dX11_findWays_104 : decode cX11_findWays 104 = .ok (.getfield 76, 3) := by decide +kernel
theorem dX11_findWays_107 : decode cX11_findWays 107 = .ok (.invokestatic 190, 3) := by decide +kernel
theorem dX11_findWays_110 : decode cX11_findWays 110 = .ok (.if_icmp .ne 18, 3) := by decide +kernel
theorem dX11_findWays_113 : decode cX11_findWays 113 = .ok (.iload_n 2, 1) := by decide +kernel
theorem dX11_findWays_114 : decode cX11_findWays 114 = .ok (.iload_n 1, 1) := by decide +kernel
theorem dX11_findWays_115 : decode cX11_findWays 115 = .ok (.ishr, 1) := by decide +kernel
theorem dX11_findWays_116 : decode cX11_findWays 116 = .ok (.iconst 1, 1) := by decide +kernel
theorem dX11_findWays_117 : decode cX11_findWays 117 = .ok (.iand, 1) := by decide +kernel
theorem dX11_findWays_118 : decode cX11_findWays 118 = .ok (.ifCond .ne 10, 3) := by decide +kernel
theorem dX11_findWays_121 : decode cX11_findWays 121 = .ok (.aload_n 0, 1) := by decide +kernel
theorem dX11_findWays_122 : decode cX11_findWays 122 = .ok (.getfield 57, 3) := by decide +kernel
theorem dX11_findWays_125 : decode cX11_findWays 125 = .ok (.iload_n 2, 1) := by decide +kernel
theorem dX11_findWays_126 : decode cX11_findWays 126 = .ok (.iconst 0, 1) := by decide +kernel
theorem dX11_findWays_127 : decode cX11_findWays 127 = .ok (.iastore, 1) := by decide +kernel
theorem dX11_findWays_128 : decode cX11_findWays 128 = .ok (.iinc 2 1, 3) := by decide +kernel
theorem dX11_findWays_131 : decode cX11_findWays 131 = .ok (.goto (-122), 3) := by decide +kernel
theorem dX11_findWays_134 : decode cX11_findWays 134 = .ok (.return_, 1) := by decide +kernel
theorem i_RX11_184 {Z : qZ} {G : qG} {cc : ByteArray} {nL k n : Nat} {rm : Room} {ret : Option FieldType} {μ : qM} {pc : Nat} {L : List (Nat × Value)} {rest : List Value} {K : Int32 → qM → Prop} {v0 : Int32} (C : qX Z G RX11 cc nL rm ret) (hn : 66 ≤ gn G) (hR : (Nat.ble (0 + 1) rm.frames && Nat.ble (8 + (3 + 11) + 0) rm.locals) = true) (hf : k + 0 ≤ rm.cells ∧ n + 0 ≤ rm.slots) (hsz : Nat.ble (rest.map fun v => v.category).sum 8 = true) (hd : decode cc pc = .ok (.invokestatic 184, 3)) (h : w_X11_bits v0 K μ) (hk : ∀ (r : Int32) (μ1 : qM), K r μ1 → qV Z G nL k n μ1 (pc + 3) L (.int r :: rest)) : qV Z G nL k n μ pc L (.int v0 :: rest) := x_Si [.int v0] rest C (wp := fun K => w_X11_bits v0 K μ) (y_X11_bits : qY yX11_bits cX11_bits 3 (some .int) 1 ({ frames := 0, cells := 0, slots := 0, locals := 0 } : Room) 0 0) (qm_30 _ (List.mem_of_getElem? (i := 20) rfl)) (qm_30 _ (List.mem_of_getElem? (i := 19) rfl)) (c_X11_bits Z.2.1 G hn ) hR hf rfl rfl hsz hd h hk
theorem i_RX11_187 {Z : qZ} {G : qG} {cc : ByteArray} {nL k n : Nat} {rm : Room} {ret : Option FieldType} {μ : qM} {pc : Nat} {L : List (Nat × Value)} {rest : List Value} {K : Int32 → qM → Prop} {v1 : Int32} {v2 : Int32} (C : qX Z G RX11 cc nL rm ret) (hn : 66 ≤ gn G) (hR : (Nat.ble (4 + 1) rm.frames && Nat.ble (8 + (6 + 11) + 89) rm.locals) = true) (hf : k + 0 ≤ rm.cells ∧ n + 0 ≤ rm.slots) (hsz : Nat.ble (rest.map fun v => v.category).sum 8 = true) (hd : decode cc pc = .ok (.invokevirtual 187, 3)) (h : w_X11_isFreeBy v1 v2 K μ) (hk : ∀ (r : Int32) (μ1 : qM), K r μ1 → qV Z G nL k n μ1 (pc + 3) L (.int r :: rest)) : qV Z G nL k n μ pc L (.int v2 :: .int v1 :: .ref (ga G 46) :: rest) := x_Vi [.int v1, .int v2] rest C 46 10 (wp := fun K => w_X11_isFreeBy v1 v2 K μ) (y_X11_isFreeBy : qY yX11_isFreeBy cX11_isFreeBy 6 (some .boolean) 2 ({ frames := 4, cells := 0, slots := 0, locals := 89 } : Room) 0 0) (qm_30 _ (List.mem_of_getElem? (i := 23) rfl)) (qm_31 _ (List.mem_of_getElem? (i := 0) rfl)) (qm_30 _ (List.mem_of_getElem? (i := 22) rfl)) (c_X11_isFreeBy Z.2.1 G hn ) (Nat.lt_of_lt_of_le (by decide) hn) rfl (by decide) rfl rfl hR hf rfl rfl hsz hd h hk
theorem g_RX11_57 {Z : qZ} {G : qG} {cc : ByteArray} {nL k n : Nat} {rm : Room} {ret : Option FieldType} {μ : qM} {pc : Nat} {L : List (Nat × Value)} {st : List Value} (C : qX Z G RX11 cc nL rm ret) (hn : 66 ≤ gn G) (hd : decode cc pc = .ok (.getfield 57, 3)) (h : qV Z G nL k n μ (pc + 3) L (.ref (ga G 60) :: st)) : qV Z G nL k n μ pc L (.ref (ga G 46) :: st) := x_getr C 46 10 26 14 60 (C0 := RX11) (fn := "ways") (fd := "[I") (Nat.lt_of_lt_of_le (by decide) hn) rfl (by decide) rfl (by decide) rfl inlX11 (qm_6 _ (List.mem_of_getElem? (i := 6) rfl)) rfl rfl rfl hd h
theorem b_X11_findWays_128 {Z : qZ} {G : qG} {v1 : Int32} {v2 : Int32} {μ : qM} {P9 : Int32 → qM → Prop} {post : qM → Prop} (C : qX Z G RX11 cX11_findWays 6 ({ frames := 5, cells := 0, slots := 0, locals := 114 } : Room) none) (hQ : qQv Z G 0 0 post) (hn : 66 ≤ gn G) (hP9 : ∀ (b2 : Int32) (μ1 : qM), P9 b2 μ1 → qV Z G 6 0 0 μ1 9 [(0, .ref (ga G 46)), (1, .int v1), (2, .int b2)] []) (h : q_X11_findWays_128 P9 post v1 v2 μ) : qV Z G 6 0 0 μ 128 [(0, .ref (ga G 46)), (1, .int v1), (2, .int v2)] [] := by
  unfold q_X11_findWays_128 at h
  refine x_iinc C 2 (v := 1) (L' := [(2, .int ((v2 + 1))), (0, .ref (ga G 46)), (1, .int v1)]) dX11_findWays_128 rfl (by decide) (by decide) rfl ?_
  refine x_goto C dX11_findWays_131 (tgt := 9) (by decide) ?_
  exact qV_sub [1, 2, 0] rfl ((hP9 _ _ h))
theorem b_X11_findWays_91 {Z : qZ} {G : qG} {v1 : Int32} {v2 : Int32} {v3 : Int32} {v4 : Int32} {μ : qM} {P9 : Int32 → qM → Prop} {P34 : Int32 → qM → Prop} {post : qM → Prop} (C : qX Z G RX11 cX11_findWays 6 ({ frames := 5, cells := 0, slots := 0, locals := 114 } : Room) none) (hQ : qQv Z G 0 0 post) (hn : 66 ≤ gn G) (hP9 : ∀ (b2 : Int32) (μ1 : qM), P9 b2 μ1 → qV Z G 6 0 0 μ1 9 [(0, .ref (ga G 46)), (1, .int v1), (2, .int b2)] []) (hP34 : ∀ (b4 : Int32) (μ1 : qM), P34 b4 μ1 → qV Z G 6 0 0 μ1 34 [(0, .ref (ga G 46)), (1, .int v1), (2, .int v2), (3, .int v3), (4, .int b4)] []) (h : q_X11_findWays_91 P9 P34 post v1 v2 v3 v4 μ) : qV Z G 6 0 0 μ 91 [(0, .ref (ga G 46)), (1, .int v1), (2, .int v2), (3, .int v3), (4, .int v4)] [] := by
  unfold q_X11_findWays_91 at h
  refine x_iinc C 4 (v := 1) (L' := [(4, .int ((v4 + 1))), (0, .ref (ga G 46)), (1, .int v1), (2, .int v2), (3, .int v3)]) dX11_findWays_91 rfl (by decide) (by decide) rfl ?_
  refine x_goto C dX11_findWays_94 (tgt := 34) (by decide) ?_
  exact qV_sub [1, 2, 3, 4, 0] rfl ((hP34 _ _ h))
theorem b_X11_findWays_75 {Z : qZ} {G : qG} {v1 : Int32} {v2 : Int32} {v3 : Int32} {v4 : Int32} {v5 : Int32} {μ : qM} {P9 : Int32 → qM → Prop} {P34 : Int32 → qM → Prop} {post : qM → Prop} (C : qX Z G RX11 cX11_findWays 6 ({ frames := 5, cells := 0, slots := 0, locals := 114 } : Room) none) (hQ : qQv Z G 0 0 post) (hn : 66 ≤ gn G) (hP9 : ∀ (b2 : Int32) (μ1 : qM), P9 b2 μ1 → qV Z G 6 0 0 μ1 9 [(0, .ref (ga G 46)), (1, .int v1), (2, .int b2)] []) (hP34 : ∀ (b4 : Int32) (μ1 : qM), P34 b4 μ1 → qV Z G 6 0 0 μ1 34 [(0, .ref (ga G 46)), (1, .int v1), (2, .int v2), (3, .int v3), (4, .int b4)] []) (h : q_X11_findWays_75 P9 P34 post v1 v2 v3 v4 v5 μ) : qV Z G 6 0 0 μ 75 [(0, .ref (ga G 46)), (1, .int v1), (2, .int v2), (3, .int v3), (4, .int v4), (5, .int v5)] [] := by
  unfold q_X11_findWays_75 at h
  refine x_aload_n C 0 dX11_findWays_75 rfl rfl ?_
  refine g_RX11_57 C hn dX11_findWays_76 ?_
  refine x_iload_n C 2 dX11_findWays_79 rfl rfl ?_
  refine x_dup2 C dX11_findWays_80 rfl rfl ?_
  refine x_iald C 60 17 1024 (q_lt rfl rfl hn) rfl rfl rfl rfl rfl dX11_findWays_81 h (fun h => ?_)
  refine x_aload_n C 0 dX11_findWays_82 rfl rfl ?_
  refine g_RX11_57 C hn dX11_findWays_83 ?_
  refine x_iload C 5 dX11_findWays_86 rfl ?_
  refine x_iald C 60 17 1024 (q_lt rfl rfl hn) rfl rfl rfl rfl rfl dX11_findWays_88 h (fun h => ?_)
  refine x_iadd C dX11_findWays_89 ?_
  refine x_iast C 60 17 1024 (q_lt rfl rfl hn) rfl rfl rfl rfl rfl dX11_findWays_90 h (fun h => ?_)
  exact qV_sub [0, 1, 2, 3, 4] rfl (b_X11_findWays_91 C hQ hn hP9 hP34 h)
theorem b_X11_findWays_34 {Z : qZ} {G : qG} {v1 : Int32} {v2 : Int32} {v3 : Int32} {v4 : Int32} {μ : qM} {P9 : Int32 → qM → Prop} {post : qM → Prop} (C : qX Z G RX11 cX11_findWays 6 ({ frames := 5, cells := 0, slots := 0, locals := 114 } : Room) none) (hQ : qQv Z G 0 0 post) (hn : 66 ≤ gn G) (hP9 : ∀ (b2 : Int32) (μ1 : qM), P9 b2 μ1 → qV Z G 6 0 0 μ1 9 [(0, .ref (ga G 46)), (1, .int v1), (2, .int b2)] []) (h : q_X11_findWays_34 v1 v2 v3 P9 post v4 μ) : qV Z G 6 0 0 μ 34 [(0, .ref (ga G 46)), (1, .int v1), (2, .int v2), (3, .int v3), (4, .int v4)] [] := by
  refine h (fun v4 μ => qV Z G 6 0 0 μ 34 [(0, .ref (ga G 46)), (1, .int v1), (2, .int v2), (3, .int v3), (4, .int v4)] []) (fun v4 μ h => ?_)
  refine x_iload C 4 dX11_findWays_34 rfl ?_
  refine x_aload_n C 0 dX11_findWays_36 rfl rfl ?_
  refine g_RX11_76 C hn dX11_findWays_37 ?_
  refine x_icmp_ge C dX11_findWays_40 (tgt := 97) (by decide) h (fun h => ?_) (fun h => ?_)
  · refine x_iload_n C 1 dX11_findWays_97 rfl rfl ?_
    refine x_if_lt C dX11_findWays_98 (tgt := 128) (by decide) h (fun h => ?_) (fun h => ?_)
    · exact qV_sub [0, 1, 2] rfl (b_X11_findWays_128 C hQ hn hP9 h)
    · refine x_iload_n C 3 dX11_findWays_101 rfl rfl ?_
      refine x_iconst C dX11_findWays_102 (v := 2) (by decide) ?_
      refine x_aload_n C 0 dX11_findWays_103 rfl rfl ?_
      refine g_RX11_76 C hn dX11_findWays_104 ?_
      refine x_min C (qm_30 _ (List.mem_of_getElem? (i := 18) rfl)) rfl rfl dX11_findWays_107 (by decide) ?_
      refine x_icmp_ne C dX11_findWays_110 (tgt := 128) (by decide) h (fun h => ?_) (fun h => ?_)
      · exact qV_sub [0, 1, 2] rfl (b_X11_findWays_128 C hQ hn hP9 h)
      · refine x_iload_n C 2 dX11_findWays_113 rfl rfl ?_
        refine x_iload_n C 1 dX11_findWays_114 rfl rfl ?_
        refine x_ishr C dX11_findWays_115 ?_
        refine x_iconst C dX11_findWays_116 (v := 1) (by decide) ?_
        refine x_iand C dX11_findWays_117 ?_
        refine x_if_ne C dX11_findWays_118 (tgt := 128) (by decide) h (fun h => ?_) (fun h => ?_)
        · exact qV_sub [0, 1, 2] rfl (b_X11_findWays_128 C hQ hn hP9 h)
        · refine x_aload_n C 0 dX11_findWays_121 rfl rfl ?_
          refine g_RX11_57 C hn dX11_findWays_122 ?_
          refine x_iload_n C 2 dX11_findWays_125 rfl rfl ?_
          refine x_iconst C dX11_findWays_126 (v := 0) (by decide) ?_
          refine x_iast C 60 17 1024 (q_lt rfl rfl hn) rfl rfl rfl rfl rfl dX11_findWays_127 h (fun h => ?_)
          exact qV_sub [0, 1, 2] rfl (b_X11_findWays_128 C hQ hn hP9 h)
  · refine x_iload_n C 2 dX11_findWays_43 rfl rfl ?_
    refine x_iconst C dX11_findWays_44 (v := 1) (by decide) ?_
    refine x_iload C 4 dX11_findWays_45 rfl ?_
    refine x_ishl C dX11_findWays_47 ?_
    refine x_iconst C dX11_findWays_48 (v := -1) (by decide) ?_
    refine x_ixor C dX11_findWays_49 ?_
    refine x_iand C dX11_findWays_50 ?_
    refine x_istore C (L' := [(5, .int ((v2 &&& (((1 : Int32) <<< (v4 &&& 31)) ^^^ (-1 : Int32))))), (0, .ref (ga G 46)), (1, .int v1), (2, .int v2), (3, .int v3), (4, .int v4)]) dX11_findWays_51 (by decide) rfl ?_
    refine x_iload C 0 dX11_findWays_53 rfl ?_
    refine x_iload_n C 3 dX11_findWays_55 rfl rfl ?_
    refine x_icmp_eq C dX11_findWays_56 (tgt := 91) (by decide) h (fun h => ?_) (fun h => ?_)
    · exact qV_sub [1, 2, 3, 4, 5] rfl (b_X11_findWays_91 C hQ hn hP9 (fun _ _ h => h) h)
    · refine x_iload_n C 4 dX11_findWays_59 rfl rfl ?_
      refine x_iconst C dX11_findWays_60 (v := 3) (by decide) ?_
      refine x_icmp_lt C dX11_findWays_61 (tgt := 75) (by decide) h (fun h => ?_) (fun h => ?_)
      · exact qV_sub [1, 2, 3, 4, 5, 0] rfl (b_X11_findWays_75 C hQ hn hP9 (fun _ _ h => h) h)
      · refine x_aload_n C 1 dX11_findWays_64 rfl rfl ?_
        refine x_iload C 0 dX11_findWays_65 rfl ?_
        refine x_iload C 5 dX11_findWays_67 rfl ?_
        refine i_RX11_187 (rest := []) C hn  rfl (by decide) rfl dX11_findWays_69 h (fun r69 μ69 h => ?_)
        refine x_if_eq C dX11_findWays_72 (tgt := 91) (by decide) h (fun h => ?_) (fun h => ?_)
        · exact qV_sub [1, 2, 3, 4, 5] rfl (b_X11_findWays_91 C hQ hn hP9 (fun _ _ h => h) h)
        · exact qV_sub [1, 2, 3, 4, 5, 0] rfl (b_X11_findWays_75 C hQ hn hP9 (fun _ _ h => h) h)
theorem b_X11_findWays_9 {Z : qZ} {G : qG} {v1 : Int32} {v2 : Int32} {μ : qM} {post : qM → Prop} (C : qX Z G RX11 cX11_findWays 6 ({ frames := 5, cells := 0, slots := 0, locals := 114 } : Room) none) (hQ : qQv Z G 0 0 post) (hn : 66 ≤ gn G) (h : q_X11_findWays_9 v1 post v2 μ) : qV Z G 6 0 0 μ 9 [(0, .ref (ga G 46)), (1, .int v1), (2, .int v2)] [] := by
  refine h (fun v2 μ => qV Z G 6 0 0 μ 9 [(0, .ref (ga G 46)), (1, .int v1), (2, .int v2)] []) (fun v2 μ h => ?_)
  refine x_iload_n C 2 dX11_findWays_9 rfl rfl ?_
  refine x_iconst C dX11_findWays_10 (v := 1) (by decide) ?_
  refine x_aload_n C 0 dX11_findWays_11 rfl rfl ?_
  refine g_RX11_76 C hn dX11_findWays_12 ?_
  refine x_ishl C dX11_findWays_15 ?_
  refine x_icmp_ge C dX11_findWays_16 (tgt := 134) (by decide) h (fun h => ?_) (fun h => ?_)
  · exact x_vret C hQ dX11_findWays_134 h
  · refine x_aload_n C 0 dX11_findWays_19 rfl rfl ?_
    refine g_RX11_57 C hn dX11_findWays_20 ?_
    refine x_iload_n C 2 dX11_findWays_23 rfl rfl ?_
    refine x_iconst C dX11_findWays_24 (v := 0) (by decide) ?_
    refine x_iast C 60 17 1024 (q_lt rfl rfl hn) rfl rfl rfl rfl rfl dX11_findWays_25 h (fun h => ?_)
    refine x_iload_n C 2 dX11_findWays_26 rfl rfl ?_
    refine i_RX11_184 (rest := []) C hn  rfl (by decide) rfl dX11_findWays_27 h (fun r27 μ27 h => ?_)
    refine x_istore_n C (L' := [(3, .int r27), (0, .ref (ga G 46)), (1, .int v1), (2, .int v2)]) dX11_findWays_30 rfl (by decide) rfl ?_
    refine x_iconst C dX11_findWays_31 (v := 0) (by decide) ?_
    refine x_istore C (L' := [(4, .int ((0 : Int32))), (3, .int r27), (0, .ref (ga G 46)), (1, .int v1), (2, .int v2)]) dX11_findWays_32 (by decide) rfl ?_
    exact qV_sub [2, 3, 4, 1, 0] rfl (b_X11_findWays_34 C hQ hn (fun _ _ h => h) h)
theorem y_X11_findWays : qY yX11_findWays cX11_findWays 6 none 1 ({ frames := 5, cells := 0, slots := 0, locals := 114 } : Room) 0 0 := ⟨(qm_30 _ (List.mem_of_getElem? (i := 17) rfl)), (qm_1 _ (List.mem_of_getElem? (i := 5) rfl)), by decide +kernel, by decide +kernel, rfl, rfl⟩
theorem c_X11_findWays (l : Launch) (G : qG) {v1 : Int32} {μ : qM} (hn : 66 ≤ gn G) : qCv l G yX11_findWays cX11_findWays 6 none ({ frames := 5, cells := 0, slots := 0, locals := 114 } : Room) 0 0 [.ref (ga G 46), .int v1] μ (fun post => w_X11_findWays v1 post μ) := by
  refine qCv_of (L := [(0, .ref (ga G 46)), (1, .int v1)]) (by decide) rfl rfl ?_
  intro Z post hl C hQ h
  have C : qX Z G RX11 cX11_findWays 6 ({ frames := 5, cells := 0, slots := 0, locals := 114 } : Room) none := C
  have h : w_X11_findWays v1 post μ := h
  unfold w_X11_findWays at h
  refine x_aload_n C 0 dX11_findWays_0 rfl rfl ?_
  refine g_RX11_57 C hn dX11_findWays_1 ?_
  refine x_iconst C dX11_findWays_4 (v := 0) (by decide) ?_
  refine x_iconst C dX11_findWays_5 (v := 1) (by decide) ?_
  refine x_iast C 60 17 1024 (q_lt rfl rfl hn) rfl rfl rfl rfl rfl dX11_findWays_6 h (fun h => ?_)
  refine x_iconst C dX11_findWays_7 (v := 1) (by decide) ?_
  refine x_istore_n C (L' := [(2, .int ((1 : Int32))), (0, .ref (ga G 46)), (1, .int v1)]) dX11_findWays_8 rfl (by decide) rfl ?_
  exact qV_sub [1, 2, 0] rfl (b_X11_findWays_9 C hQ hn h)
theorem dX11_orders_0 : decode cX11_orders 0 = .ok (.aload_n 0, 1) := by decide +kernel
theorem dX11_orders_1 : decode cX11_orders 1 = .ok (.iconst (-1), 1) := by decide +kernel
theorem dX11_orders_2 : decode cX11_orders 2 = .ok (.invokevirtual 193, 3) := by decide +kernel
theorem dX11_orders_5 : decode cX11_orders 5 = .ok (.aload_n 0, 1) := by decide +kernel
theorem dX11_orders_6 : decode cX11_orders 6 = .ok (.getfield 57, 3) := by decide +kernel
theorem dX11_orders_9 : decode cX11_orders 9 = .ok (.iconst 1, 1) := by decide +kernel
theorem dX11_orders_10 : decode cX11_orders 10 = .ok (.aload_n 0, 1) := by decide +kernel
theorem dX11_orders_11 : decode cX11_orders 11 = .ok (.getfield 76, 3) := by decide +kernel
theorem dX11_orders_14 : decode cX11_orders 14 = .ok (.ishl, 1) := by decide +kernel
theorem dX11_orders_15 : decode cX11_orders 15 = .ok (.iconst 1, 1) := by decide +kernel
theorem dX11_orders_16 : decode cX11_orders 16 = .ok (.isub, 1) := by decide +kernel
theorem dX11_orders_17 : decode cX11_orders 17 = .ok (.iaload, 1) := by decide +kernel
theorem dX11_orders_18 : decode cX11_orders 18 = .ok (.ireturn, 1) := by decide +kernel
theorem i_RX11_193 {Z : qZ} {G : qG} {cc : ByteArray} {nL k n : Nat} {rm : Room} {ret : Option FieldType} {μ : qM} {pc : Nat} {L : List (Nat × Value)} {rest : List Value} {K : qM → Prop} {v1 : Int32} (C : qX Z G RX11 cc nL rm ret) (hn : 66 ≤ gn G) (hR : (Nat.ble (5 + 1) rm.frames && Nat.ble (8 + (6 + 11) + 114) rm.locals) = true) (hf : k + 0 ≤ rm.cells ∧ n + 0 ≤ rm.slots) (hsz : Nat.ble (rest.map fun v => v.category).sum 8 = true) (hd : decode cc pc = .ok (.invokevirtual 193, 3)) (h : w_X11_findWays v1 K μ) (hk : ∀ (μ1 : qM), K μ1 → qV Z G nL k n μ1 (pc + 3) L rest) : qV Z G nL k n μ pc L (.int v1 :: .ref (ga G 46) :: rest) := x_Vv [.int v1] rest C 46 10 (wp := fun K => w_X11_findWays v1 K μ) (y_X11_findWays : qY yX11_findWays cX11_findWays 6 none 1 ({ frames := 5, cells := 0, slots := 0, locals := 114 } : Room) 0 0) (qm_30 _ (List.mem_of_getElem? (i := 15) rfl)) (qm_30 _ (List.mem_of_getElem? (i := 16) rfl)) (qm_30 _ (List.mem_of_getElem? (i := 14) rfl)) (c_X11_findWays Z.2.1 G hn ) (Nat.lt_of_lt_of_le (by decide) hn) rfl (by decide) rfl rfl hR hf rfl rfl hsz hd h hk
theorem y_X11_orders : qY yX11_orders cX11_orders 1 (some .int) 0 ({ frames := 6, cells := 0, slots := 0, locals := 139 } : Room) 0 0 := ⟨(qm_30 _ (List.mem_of_getElem? (i := 13) rfl)), (qm_1 _ (List.mem_of_getElem? (i := 5) rfl)), by decide +kernel, by decide +kernel, rfl, rfl⟩
theorem c_X11_orders (l : Launch) (G : qG) {μ : qM} (hn : 66 ≤ gn G) : qCi l G yX11_orders cX11_orders 1 (some .int) ({ frames := 6, cells := 0, slots := 0, locals := 139 } : Room) 0 0 [.ref (ga G 46)] μ (fun post => w_X11_orders  post μ) := by
  refine qCi_of (L := [(0, .ref (ga G 46))]) (by decide) rfl rfl ?_
  intro Z post hl C hQ h
  have C : qX Z G RX11 cX11_orders 1 ({ frames := 6, cells := 0, slots := 0, locals := 139 } : Room) (some .int) := C
  have h : w_X11_orders  post μ := h
  unfold w_X11_orders at h
  refine x_aload_n C 0 dX11_orders_0 rfl rfl ?_
  refine x_iconst C dX11_orders_1 (v := -1) (by decide) ?_
  refine i_RX11_193 (rest := []) C hn  rfl (by decide) rfl dX11_orders_2 h (fun μ2 h => ?_)
  refine x_aload_n C 0 dX11_orders_5 rfl rfl ?_
  refine g_RX11_57 C hn dX11_orders_6 ?_
  refine x_iconst C dX11_orders_9 (v := 1) (by decide) ?_
  refine x_aload_n C 0 dX11_orders_10 rfl rfl ?_
  refine g_RX11_76 C hn dX11_orders_11 ?_
  refine x_ishl C dX11_orders_14 ?_
  refine x_iconst C dX11_orders_15 (v := 1) (by decide) ?_
  refine x_isub C dX11_orders_16 ?_
  refine x_iald C 60 17 1024 (q_lt rfl rfl hn) rfl rfl rfl rfl rfl dX11_orders_17 h (fun h => ?_)
  exact x_iret C hQ dX11_orders_18 h
theorem dX11_founders_0 : decode cX11_founders 0 = .ok (.aload_n 0, 1) := by decide +kernel
theorem dX11_founders_1 : decode cX11_founders 1 = .ok (.iload_n 1, 1) := by decide +kernel
theorem dX11_founders_2 : decode cX11_founders 2 = .ok (.invokevirtual 132, 3) := by decide +kernel
theorem dX11_founders_5 : decode cX11_founders 5 = .ok (.ifCond .ne 9, 3) := by decide +kernel
theorem dX11_founders_8 : decode cX11_founders 8 = .ok (.aload_n 0, 1) := by decide +kernel
theorem dX11_founders_9 : decode cX11_founders 9 = .ok (.iconst 0, 1) := by decide +kernel
theorem dX11_founders_10 : decode cX11_founders 10 = .ok (.invokevirtual 119, 3) := by decide +kernel
theorem dX11_founders_13 : decode cX11_founders 13 = .ok (.ireturn, 1) := by decide +kernel
theorem dX11_founders_14 : decode cX11_founders 14 = .ok (.aload_n 0, 1) := by decide +kernel
theorem dX11_founders_15 : decode cX11_founders 15 = .ok (.iload_n 1, 1) := by decide +kernel
theorem dX11_founders_16 : decode cX11_founders 16 = .ok (.invokevirtual 193, 3) := by decide +kernel
theorem dX11_founders_19 : decode cX11_founders 19 = .ok (.aload_n 0, 1) := by decide +kernel
theorem dX11_founders_20 : decode cX11_founders 20 = .ok (.getfield 57, 3) := by decide +kernel
theorem dX11_founders_23 : decode cX11_founders 23 = .ok (.iconst 1, 1) := by decide +kernel
theorem dX11_founders_24 : decode cX11_founders 24 = .ok (.aload_n 0, 1) := by decide +kernel
theorem dX11_founders_25 : decode cX11_founders 25 = .ok (.getfield 76, 3) := by decide +kernel
theorem dX11_founders_28 : decode cX11_founders 28 = .ok (.ishl, 1) := by decide +kernel
theorem dX11_founders_29 : decode cX11_founders 29 = .ok (.iconst 1, 1) := by decide +kernel
theorem dX11_founders_30 : decode cX11_founders 30 = .ok (.isub, 1) := by decide +kernel
theorem dX11_founders_31 : decode cX11_founders 31 = .ok (.iaload, 1) := by decide +kernel
theorem dX11_founders_32 : decode cX11_founders 32 = .ok (.ireturn, 1) := by decide +kernel
theorem y_X11_founders : qY yX11_founders cX11_founders 2 (some .int) 1 ({ frames := 6, cells := 0, slots := 0, locals := 139 } : Room) 0 0 := ⟨(qm_31 _ (List.mem_of_getElem? (i := 9) rfl)), (qm_1 _ (List.mem_of_getElem? (i := 5) rfl)), by decide +kernel, by decide +kernel, rfl, rfl⟩
theorem c_X11_founders (l : Launch) (G : qG) {v1 : Int32} {μ : qM} (hn : 66 ≤ gn G) : qCi l G yX11_founders cX11_founders 2 (some .int) ({ frames := 6, cells := 0, slots := 0, locals := 139 } : Room) 0 0 [.ref (ga G 46), .int v1] μ (fun post => w_X11_founders v1 post μ) := by
  refine qCi_of (L := [(0, .ref (ga G 46)), (1, .int v1)]) (by decide) rfl rfl ?_
  intro Z post hl C hQ h
  have C : qX Z G RX11 cX11_founders 2 ({ frames := 6, cells := 0, slots := 0, locals := 139 } : Room) (some .int) := C
  have h : w_X11_founders v1 post μ := h
  unfold w_X11_founders at h
  refine x_aload_n C 0 dX11_founders_0 rfl rfl ?_
  refine x_iload_n C 1 dX11_founders_1 rfl rfl ?_
  refine i_RX11_132 (rest := []) C hn  rfl (by decide) rfl dX11_founders_2 h (fun r2 μ2 h => ?_)
  refine x_if_ne C dX11_founders_5 (tgt := 14) (by decide) h (fun h => ?_) (fun h => ?_)
  · refine x_aload_n C 0 dX11_founders_14 rfl rfl ?_
    refine x_iload_n C 1 dX11_founders_15 rfl rfl ?_
    refine i_RX11_193 (rest := []) C hn  rfl (by decide) rfl dX11_founders_16 h (fun μ16 h => ?_)
    refine x_aload_n C 0 dX11_founders_19 rfl rfl ?_
    refine g_RX11_57 C hn dX11_founders_20 ?_
    refine x_iconst C dX11_founders_23 (v := 1) (by decide) ?_
    refine x_aload_n C 0 dX11_founders_24 rfl rfl ?_
    refine g_RX11_76 C hn dX11_founders_25 ?_
    refine x_ishl C dX11_founders_28 ?_
    refine x_iconst C dX11_founders_29 (v := 1) (by decide) ?_
    refine x_isub C dX11_founders_30 ?_
    refine x_iald C 60 17 1024 (q_lt rfl rfl hn) rfl rfl rfl rfl rfl dX11_founders_31 h (fun h => ?_)
    exact x_iret C hQ dX11_founders_32 h
  · refine x_aload_n C 0 dX11_founders_8 rfl rfl ?_
    refine x_iconst C dX11_founders_9 (v := 0) (by decide) ?_
    refine i_RX11_119 (rest := []) C hn  rfl (by decide) rfl dX11_founders_10 h (fun r10 μ10 h => ?_)
    exact x_iret C hQ dX11_founders_13 h
theorem dX11_latest_0 : decode cX11_latest 0 = .ok (.aload_n 0, 1) := by decide +kernel
theorem dX11_latest_1 : decode cX11_latest 1 = .ok (.iconst (-1), 1) := by decide +kernel
theorem dX11_latest_2 : decode cX11_latest 2 = .ok (.invokevirtual 193, 3) := by decide +kernel
theorem dX11_latest_5 : decode cX11_latest 5 = .ok (.iconst 1, 1) := by decide +kernel
theorem dX11_latest_6 : decode cX11_latest 6 = .ok (.aload_n 0, 1) := by decide +kernel
theorem dX11_latest_7 : decode cX11_latest 7 = .ok (.getfield 76, 3) := by decide +kernel
theorem dX11_latest_10 : decode cX11_latest 10 = .ok (.ishl, 1) := by decide +kernel
theorem dX11_latest_11 : decode cX11_latest 11 = .ok (.iconst 1, 1) := by decide +kernel
theorem dX11_latest_12 : decode cX11_latest 12 = .ok (.isub, 1) := by decide +kernel
theorem dX11_latest_13 : decode cX11_latest 13 = .ok (.istore_n 1, 1) := by decide +kernel
theorem dX11_latest_14 : decode cX11_latest 14 = .ok (.aload_n 0, 1) := by decide +kernel
theorem dX11_latest_15 : decode cX11_latest 15 = .ok (.getfield 76, 3) := by decide +kernel
theorem dX11_latest_18 : decode cX11_latest 18 = .ok (.iconst 1, 1) := by decide +kernel
theorem dX11_latest_19 : decode cX11_latest 19 = .ok (.isub, 1) := by decide +kernel
theorem dX11_latest_20 : decode cX11_latest 20 = .ok (.istore_n 2, 1) := by decide +kernel
theorem dX11_latest_21 : decode cX11_latest 21 = .ok (.iload_n 2, 1) := by decide +kernel
theorem dX11_latest_22 : decode cX11_latest 22 = .ok (.ifCond .lt 47, 3) := by decide +kernel
theorem dX11_latest_25 : decode cX11_latest 25 = .ok (.aload_n 0, 1) := by decide +kernel
theorem dX11_latest_26 : decode cX11_latest 26 = .ok (.getfield 57, 3) := by decide +kernel
theorem dX11_latest_29 : decode cX11_latest 29 = .ok (.iload_n 1, 1) := by decide +kernel
theorem dX11_latest_30 : decode cX11_latest 30 = .ok (.iconst 1, 1) := by decide +kernel
theorem dX11_latest_31 : decode cX11_latest 31 = .ok (.iload_n 2, 1) := by decide +kernel
theorem dX11_latest_32 : decode cX11_latest 32 = .ok (.ishl, 1) := by decide +kernel
theorem dX11_latest_33 : decode cX11_latest 33 = .ok (.iconst (-1), 1) := by decide +kernel
theorem dX11_latest_34 : decode cX11_latest 34 = .ok (.ixor, 1) := by decide +kernel
theorem dX11_latest_35 : decode cX11_latest 35 = .ok (.iand, 1) := by decide +kernel
theorem dX11_latest_36 : decode cX11_latest 36 = .ok (.iaload, 1) := by decide +kernel
theorem dX11_latest_37 : decode cX11_latest 37 = .ok (.ifCond .eq 26, 3) := by decide +kernel
theorem dX11_latest_40 : decode cX11_latest 40 = .ok (.aload_n 0, 1) := by decide +kernel
theorem dX11_latest_41 : decode cX11_latest 41 = .ok (.getfield 76, 3) := by decide +kernel
theorem dX11_latest_44 : decode cX11_latest 44 = .ok (.iconst 2, 1) := by decide +kernel
theorem dX11_latest_45 : decode cX11_latest 45 = .ok (.if_icmp .le 24, 3) := by decide +kernel
theorem dX11_latest_48 : decode cX11_latest 48 = .ok (.aload_n 0, 1) := by decide +kernel
theorem dX11_latest_49 : decode cX11_latest 49 = .ok (.iload_n 1, 1) := by decide +kernel
theorem dX11_latest_50 : decode cX11_latest 50 = .ok (.iconst 1, 1) := by decide +kernel
theorem dX11_latest_51 : decode cX11_latest 51 = .ok (.iload_n 2, 1) := by decide +kernel
theorem dX11_latest_52 : decode cX11_latest 52 = .ok (.ishl, 1) := by decide +kernel
theorem dX11_latest_53 : decode cX11_latest 53 = .ok (.iconst (-1), 1) := by decide +kernel
theorem dX11_latest_54 : decode cX11_latest 54 = .ok (.ixor, 1) := by decide +kernel
theorem dX11_latest_55 : decode cX11_latest 55 = .ok (.iand, 1) := by decide +kernel
theorem dX11_latest_56 : decode cX11_latest 56 = .ok (.iload_n 2, 1) := by decide +kernel
theorem dX11_latest_57 : decode cX11_latest 57 = .ok (.invokevirtual 187, 3) := by decide +kernel
theorem dX11_latest_60 : decode cX11_latest 60 = .ok (.ifCond .ne 9, 3) := by decide +kernel
theorem dX11_latest_63 : decode cX11_latest 63 = .ok (.iinc 2 (-1), 3) := by decide +kernel
theorem dX11_latest_66 : decode cX11_latest 66 = .ok (.goto (-45), 3) := by decide +kernel
theorem dX11_latest_69 : decode cX11_latest 69 = .ok (.iload_n 2, 1) := by decide +kernel
theorem dX11_latest_70 : decode cX11_latest 70 = .ok (.ifCond .ge 11, 3) := by decide +kernel
theorem dX11_latest_73 : decode cX11_latest 73 = .ok (.aload_n 0, 1) := by decide +kernel
theorem dX11_latest_74 : decode cX11_latest 74 = .ok (.iconst 3, 1) := by decide +kernel
theorem dX11_latest_75 : decode cX11_latest 75 = .ok (.invokevirtual 119, 3) := by decide +kernel
theorem dX11_latest_78 : decode cX11_latest 78 = .ok (.goto 4, 3) := by decide +kernel
theorem dX11_latest_81 : decode cX11_latest 81 = .ok (.iload_n 2, 1) := by decide +kernel
theorem dX11_latest_82 : decode cX11_latest 82 = .ok (.ireturn, 1) := by decide +kernel
theorem b_X11_latest_69 {Z : qZ} {G : qG} {v2 : Int32} {μ : qM} {post : Int32 → qM → Prop} (C : qX Z G RX11 cX11_latest 3 ({ frames := 6, cells := 0, slots := 0, locals := 139 } : Room) (some .int)) (hQ : qQi Z G 0 0 post) (hn : 66 ≤ gn G) (h : q_X11_latest_69 post v2 μ) : qV Z G 3 0 0 μ 69 [(0, .ref (ga G 46)), (2, .int v2)] [] := by
  unfold q_X11_latest_69 at h
  refine x_iload_n C 1 dX11_latest_69 rfl rfl ?_
  refine x_if_ge C dX11_latest_70 (tgt := 81) (by decide) h (fun h => ?_) (fun h => ?_)
  · refine x_iload_n C 1 dX11_latest_81 rfl rfl ?_
    exact x_iret C hQ dX11_latest_82 h
  · refine x_aload_n C 0 dX11_latest_73 rfl rfl ?_
    refine x_iconst C dX11_latest_74 (v := 3) (by decide) ?_
    refine i_RX11_119 (rest := []) C hn  rfl (by decide) rfl dX11_latest_75 h (fun r75 μ75 h => ?_)
    refine x_goto C dX11_latest_78 (tgt := 82) (by decide) ?_
    exact x_iret C hQ dX11_latest_82 h
theorem b_X11_latest_63 {Z : qZ} {G : qG} {v1 : Int32} {v2 : Int32} {μ : qM} {P21 : Int32 → qM → Prop} {post : Int32 → qM → Prop} (C : qX Z G RX11 cX11_latest 3 ({ frames := 6, cells := 0, slots := 0, locals := 139 } : Room) (some .int)) (hQ : qQi Z G 0 0 post) (hn : 66 ≤ gn G) (hP21 : ∀ (b2 : Int32) (μ1 : qM), P21 b2 μ1 → qV Z G 3 0 0 μ1 21 [(0, .ref (ga G 46)), (1, .int v1), (2, .int b2)] []) (h : q_X11_latest_63 P21 post v1 v2 μ) : qV Z G 3 0 0 μ 63 [(0, .ref (ga G 46)), (1, .int v1), (2, .int v2)] [] := by
  unfold q_X11_latest_63 at h
  refine x_iinc C 2 (v := -1) (L' := [(2, .int ((v2 + -1))), (0, .ref (ga G 46)), (1, .int v1)]) dX11_latest_63 rfl (by decide) (by decide) rfl ?_
  refine x_goto C dX11_latest_66 (tgt := 21) (by decide) ?_
  exact qV_sub [1, 2, 0] rfl ((hP21 _ _ h))
theorem b_X11_latest_21 {Z : qZ} {G : qG} {v1 : Int32} {v2 : Int32} {μ : qM} {post : Int32 → qM → Prop} (C : qX Z G RX11 cX11_latest 3 ({ frames := 6, cells := 0, slots := 0, locals := 139 } : Room) (some .int)) (hQ : qQi Z G 0 0 post) (hn : 66 ≤ gn G) (h : q_X11_latest_21 v1 post v2 μ) : qV Z G 3 0 0 μ 21 [(0, .ref (ga G 46)), (1, .int v1), (2, .int v2)] [] := by
  refine h (fun v2 μ => qV Z G 3 0 0 μ 21 [(0, .ref (ga G 46)), (1, .int v1), (2, .int v2)] []) (fun v2 μ h => ?_)
  refine x_iload_n C 2 dX11_latest_21 rfl rfl ?_
  refine x_if_lt C dX11_latest_22 (tgt := 69) (by decide) h (fun h => ?_) (fun h => ?_)
  · exact qV_sub [0, 2] rfl (b_X11_latest_69 C hQ hn h)
  · refine x_aload_n C 0 dX11_latest_25 rfl rfl ?_
    refine g_RX11_57 C hn dX11_latest_26 ?_
    refine x_iload_n C 1 dX11_latest_29 rfl rfl ?_
    refine x_iconst C dX11_latest_30 (v := 1) (by decide) ?_
    refine x_iload_n C 2 dX11_latest_31 rfl rfl ?_
    refine x_ishl C dX11_latest_32 ?_
    refine x_iconst C dX11_latest_33 (v := -1) (by decide) ?_
    refine x_ixor C dX11_latest_34 ?_
    refine x_iand C dX11_latest_35 ?_
    refine x_iald C 60 17 1024 (q_lt rfl rfl hn) rfl rfl rfl rfl rfl dX11_latest_36 h (fun h => ?_)
    refine x_if_eq C dX11_latest_37 (tgt := 63) (by decide) h (fun h => ?_) (fun h => ?_)
    · exact b_X11_latest_63 C hQ hn (fun _ _ h => h) h
    · refine x_aload_n C 0 dX11_latest_40 rfl rfl ?_
      refine g_RX11_76 C hn dX11_latest_41 ?_
      refine x_iconst C dX11_latest_44 (v := 2) (by decide) ?_
      refine x_icmp_le C dX11_latest_45 (tgt := 69) (by decide) h (fun h => ?_) (fun h => ?_)
      · exact qV_sub [0, 2] rfl (b_X11_latest_69 C hQ hn h)
      · refine x_aload_n C 0 dX11_latest_48 rfl rfl ?_
        refine x_iload_n C 1 dX11_latest_49 rfl rfl ?_
        refine x_iconst C dX11_latest_50 (v := 1) (by decide) ?_
        refine x_iload_n C 2 dX11_latest_51 rfl rfl ?_
        refine x_ishl C dX11_latest_52 ?_
        refine x_iconst C dX11_latest_53 (v := -1) (by decide) ?_
        refine x_ixor C dX11_latest_54 ?_
        refine x_iand C dX11_latest_55 ?_
        refine x_iload_n C 2 dX11_latest_56 rfl rfl ?_
        refine i_RX11_187 (rest := []) C hn  rfl (by decide) rfl dX11_latest_57 h (fun r57 μ57 h => ?_)
        refine x_if_ne C dX11_latest_60 (tgt := 69) (by decide) h (fun h => ?_) (fun h => ?_)
        · exact qV_sub [0, 2] rfl (b_X11_latest_69 C hQ hn h)
        · exact b_X11_latest_63 C hQ hn (fun _ _ h => h) h
theorem y_X11_latest : qY yX11_latest cX11_latest 3 (some .int) 0 ({ frames := 6, cells := 0, slots := 0, locals := 139 } : Room) 0 0 := ⟨(qm_31 _ (List.mem_of_getElem? (i := 21) rfl)), (qm_1 _ (List.mem_of_getElem? (i := 5) rfl)), by decide +kernel, by decide +kernel, rfl, rfl⟩
theorem c_X11_latest (l : Launch) (G : qG) {μ : qM} (hn : 66 ≤ gn G) : qCi l G yX11_latest cX11_latest 3 (some .int) ({ frames := 6, cells := 0, slots := 0, locals := 139 } : Room) 0 0 [.ref (ga G 46)] μ (fun post => w_X11_latest  post μ) := by
  refine qCi_of (L := [(0, .ref (ga G 46))]) (by decide) rfl rfl ?_
  intro Z post hl C hQ h
  have C : qX Z G RX11 cX11_latest 3 ({ frames := 6, cells := 0, slots := 0, locals := 139 } : Room) (some .int) := C
  have h : w_X11_latest  post μ := h
  unfold w_X11_latest at h
  refine x_aload_n C 0 dX11_latest_0 rfl rfl ?_
  refine x_iconst C dX11_latest_1 (v := -1) (by decide) ?_
  refine i_RX11_193 (rest := []) C hn  rfl (by decide) rfl dX11_latest_2 h (fun μ2 h => ?_)
  refine x_iconst C dX11_latest_5 (v := 1) (by decide) ?_
  refine x_aload_n C 0 dX11_latest_6 rfl rfl ?_
  refine g_RX11_76 C hn dX11_latest_7 ?_
  refine x_ishl C dX11_latest_10 ?_
  refine x_iconst C dX11_latest_11 (v := 1) (by decide) ?_
  refine x_isub C dX11_latest_12 ?_
  refine x_istore_n C (L' := [(1, .int ((((1 : Int32) <<< ((μ2 46 0) &&& 31)) - (1 : Int32)))), (0, .ref (ga G 46))]) dX11_latest_13 rfl (by decide) rfl ?_
  refine x_aload_n C 1 dX11_latest_14 rfl rfl ?_
  refine g_RX11_76 C hn dX11_latest_15 ?_
  refine x_iconst C dX11_latest_18 (v := 1) (by decide) ?_
  refine x_isub C dX11_latest_19 ?_
  refine x_istore_n C (L' := [(2, .int (((μ2 46 0) - (1 : Int32)))), (1, .int ((((1 : Int32) <<< ((μ2 46 0) &&& 31)) - (1 : Int32)))), (0, .ref (ga G 46))]) dX11_latest_20 rfl (by decide) rfl ?_
  exact qV_sub [2, 1, 0] rfl (b_X11_latest_21 C hQ hn h)
theorem dX11_draw_0 : decode cX11_draw 0 = .ok (.aload_n 0, 1) := by decide +kernel
theorem dX11_draw_1 : decode cX11_draw 1 = .ok (.aload_n 0, 1) := by decide +kernel
theorem dX11_draw_2 : decode cX11_draw 2 = .ok (.getfield 26, 3) := by decide +kernel
theorem dX11_draw_5 : decode cX11_draw 5 = .ok (.ldc 197, 2) := by decide +kernel
theorem dX11_draw_7 : decode cX11_draw 7 = .ok (.imul, 1) := by decide +kernel
theorem dX11_draw_8 : decode cX11_draw 8 = .ok (.sipush 12345, 3) := by decide +kernel
theorem dX11_draw_11 : decode cX11_draw 11 = .ok (.iadd, 1) := by decide +kernel
theorem dX11_draw_12 : decode cX11_draw 12 = .ok (.putfield 26, 3) := by decide +kernel
theorem dX11_draw_15 : decode cX11_draw 15 = .ok (.aload_n 0, 1) := by decide +kernel
theorem dX11_draw_16 : decode cX11_draw 16 = .ok (.getfield 26, 3) := by decide +kernel
theorem dX11_draw_19 : decode cX11_draw 19 = .ok (.bipush 8, 2) := by decide +kernel
theorem dX11_draw_21 : decode cX11_draw 21 = .ok (.iushr, 1) := by decide +kernel
theorem dX11_draw_22 : decode cX11_draw 22 = .ok (.ireturn, 1) := by decide +kernel
theorem g_RX11_26 {Z : qZ} {G : qG} {cc : ByteArray} {nL k n : Nat} {rm : Room} {ret : Option FieldType} {μ : qM} {pc : Nat} {L : List (Nat × Value)} {st : List Value} (C : qX Z G RX11 cc nL rm ret) (hn : 66 ≤ gn G) (hd : decode cc pc = .ok (.getfield 26, 3)) (h : qV Z G nL k n μ (pc + 3) L (.int (μ 46 7) :: st)) : qV Z G nL k n μ pc L (.ref (ga G 46) :: st) := x_geti C 46 10 7 (C0 := RX11) (fn := "z") (fd := "I") (Nat.lt_of_lt_of_le (by decide) hn) rfl (by decide) rfl (by decide) rfl inlX11 (qm_5 _ (List.mem_of_getElem? (i := 20) rfl)) rfl hd h
theorem p_RX11_26 {Z : qZ} {G : qG} {cc : ByteArray} {nL k n : Nat} {rm : Room} {ret : Option FieldType} {μ : qM} {pc : Nat} {L : List (Nat × Value)} {st : List Value} {x : Int32} (C : qX Z G RX11 cc nL rm ret) (hn : 66 ≤ gn G) (hd : decode cc pc = .ok (.putfield 26, 3)) (h : qV Z G nL k n (qu μ 46 7 x) (pc + 3) L st) : qV Z G nL k n μ pc L (.int x :: .ref (ga G 46) :: st) := x_puti C 46 10 7 (C0 := RX11) (fn := "z") (fd := "I") (ty := .int) (Nat.lt_of_lt_of_le (by decide) hn) rfl (by decide) rfl (by decide) rfl inlX11 tyX11_ok nmX11 (qm_5 _ (List.mem_of_getElem? (i := 20) rfl)) rfl (by decide +kernel) rfl rfl hd h
theorem y_X11_draw : qY yX11_draw cX11_draw 1 (some .int) 0 ({ frames := 0, cells := 0, slots := 0, locals := 0 } : Room) 0 0 := ⟨(qm_33 _ (List.mem_of_getElem? (i := 5) rfl)), (qm_1 _ (List.mem_of_getElem? (i := 5) rfl)), by decide +kernel, by decide +kernel, rfl, rfl⟩
theorem c_X11_draw (l : Launch) (G : qG) {μ : qM} (hn : 66 ≤ gn G) : qCi l G yX11_draw cX11_draw 1 (some .int) ({ frames := 0, cells := 0, slots := 0, locals := 0 } : Room) 0 0 [.ref (ga G 46)] μ (fun post => w_X11_draw  post μ) := by
  refine qCi_of (L := [(0, .ref (ga G 46))]) (by decide) rfl rfl ?_
  intro Z post hl C hQ h
  have C : qX Z G RX11 cX11_draw 1 ({ frames := 0, cells := 0, slots := 0, locals := 0 } : Room) (some .int) := C
  have h : w_X11_draw  post μ := h
  unfold w_X11_draw at h
  refine x_aload_n C 0 dX11_draw_0 rfl rfl ?_
  refine x_aload_n C 0 dX11_draw_1 rfl rfl ?_
  refine g_RX11_26 C hn dX11_draw_2 ?_
  refine x_ldc C (v := 1103515245) (qm_33 _ (List.mem_of_getElem? (i := 6) rfl)) dX11_draw_5 ?_
  refine x_imul C dX11_draw_7 ?_
  refine x_sipush C dX11_draw_8 (v := 12345) (by decide) ?_
  refine x_iadd C dX11_draw_11 ?_
  refine p_RX11_26 C hn dX11_draw_12 ?_
  refine x_aload_n C 0 dX11_draw_15 rfl rfl ?_
  refine g_RX11_26 C hn dX11_draw_16 ?_
  refine x_bipush C dX11_draw_19 (v := 8) (by decide) ?_
  refine x_iushr C dX11_draw_21 ?_
  exact x_iret C hQ dX11_draw_22 h
theorem dX11_aYear_0 : decode cX11_aYear 0 = .ok (.aload_n 0, 1) := by decide +kernel
theorem dX11_aYear_1 : decode cX11_aYear 1 = .ok (.invokevirtual 198, 3) := by decide +kernel
theorem dX11_aYear_4 : decode cX11_aYear 4 = .ok (.bipush 12, 2) := by decide +kernel
theorem dX11_aYear_6 : decode cX11_aYear 6 = .ok (.irem, 1) := by decide +kernel
theorem dX11_aYear_7 : decode cX11_aYear 7 = .ok (.istore_n 1, 1) := by decide +kernel
theorem dX11_aYear_8 : decode cX11_aYear 8 = .ok (.aload_n 0, 1) := by decide +kernel
theorem dX11_aYear_9 : decode cX11_aYear 9 = .ok (.invokevirtual 198, 3) := by decide +kernel
theorem dX11_aYear_12 : decode cX11_aYear 12 = .ok (.bipush 12, 2) := by decide +kernel
theorem dX11_aYear_14 : decode cX11_aYear 14 = .ok (.irem, 1) := by decide +kernel
theorem dX11_aYear_15 : decode cX11_aYear 15 = .ok (.istore_n 2, 1) := by decide +kernel
theorem dX11_aYear_16 : decode cX11_aYear 16 = .ok (.aload_n 0, 1) := by decide +kernel
theorem dX11_aYear_17 : decode cX11_aYear 17 = .ok (.invokevirtual 198, 3) := by decide +kernel
theorem dX11_aYear_20 : decode cX11_aYear 20 = .ok (.bipush 7, 2) := by decide +kernel
theorem dX11_aYear_22 : decode cX11_aYear 22 = .ok (.irem, 1) := by decide +kernel
theorem dX11_aYear_23 : decode cX11_aYear 23 = .ok (.istore_n 3, 1) := by decide +kernel
theorem dX11_aYear_24 : decode cX11_aYear 24 = .ok (.aload_n 0, 1) := by decide +kernel
theorem dX11_aYear_25 : decode cX11_aYear 25 = .ok (.dup, 1) := by decide +kernel
theorem dX11_aYear_26 : decode cX11_aYear 26 = .ok (.getfield 201, 3) := by decide +kernel
theorem dX11_aYear_29 : decode cX11_aYear 29 = .ok (.iconst 1, 1) := by decide +kernel
theorem dX11_aYear_30 : decode cX11_aYear 30 = .ok (.iadd, 1) := by decide +kernel
theorem dX11_aYear_31 : decode cX11_aYear 31 = .ok (.putfield 201, 3) := by decide +kernel
theorem dX11_aYear_34 : decode cX11_aYear 34 = .ok (.aload_n 0, 1) := by decide +kernel
theorem dX11_aYear_35 : decode cX11_aYear 35 = .ok (.getfield 76, 3) := by decide +kernel
theorem dX11_aYear_38 : decode cX11_aYear 38 = .ok (.bipush 10, 2) := by decide +kernel
theorem dX11_aYear_40 : decode cX11_aYear 40 = .ok (.if_icmp .ge 31, 3) := by decide +kernel
theorem dX11_aYear_43 : decode cX11_aYear 43 = .ok (.aload_n 0, 1) := by decide +kernel
theorem dX11_aYear_44 : decode cX11_aYear 44 = .ok (.getfield 22, 3) := by decide +kernel
theorem dX11_aYear_47 : decode cX11_aYear 47 = .ok (.iload_n 3, 1) := by decide +kernel
theorem dX11_aYear_48 : decode cX11_aYear 48 = .ok (.invokestatic 126, 3) := by decide +kernel
theorem dX11_aYear_51 : decode cX11_aYear 51 = .ok (.if_icmp .lt 20, 3) := by decide +kernel
theorem dX11_aYear_54 : decode cX11_aYear 54 = .ok (.aload_n 0, 1) := by decide +kernel
theorem dX11_aYear_55 : decode cX11_aYear 55 = .ok (.bipush 12, 2) := by decide +kernel
theorem dX11_aYear_57 : decode cX11_aYear 57 = .ok (.iload_n 2, 1) := by decide +kernel
theorem dX11_aYear_58 : decode cX11_aYear 58 = .ok (.imul, 1) := by decide +kernel
theorem dX11_aYear_59 : decode cX11_aYear 59 = .ok (.iload_n 1, 1) := by decide +kernel
theorem dX11_aYear_60 : decode cX11_aYear 60 = .ok (.iadd, 1) := by decide +kernel
theorem dX11_aYear_61 : decode cX11_aYear 61 = .ok (.invokevirtual 109, 3) := by decide +kernel
theorem dX11_aYear_64 : decode cX11_aYear 64 = .ok (.ifCond .eq 7, 3) := by decide +kernel
theorem dX11_aYear_67 : decode cX11_aYear 67 = .ok (.iconst 1, 1) := by decide +kernel
theorem dX11_aYear_68 : decode cX11_aYear 68 = .ok (.goto 4, 3) := by decide +kernel
theorem dX11_aYear_71 : decode cX11_aYear 71 = .ok (.iconst 0, 1) := by decide +kernel
theorem dX11_aYear_72 : decode cX11_aYear 72 = .ok (.istore 4, 2) := by decide +kernel
theorem dX11_aYear_74 : decode cX11_aYear 74 = .ok (.iload 4, 2) := by decide +kernel
theorem dX11_aYear_76 : decode cX11_aYear 76 = .ok (.ifCond .eq 14, 3) := by decide +kernel
theorem dX11_aYear_79 : decode cX11_aYear 79 = .ok (.aload_n 0, 1) := by decide +kernel
theorem dX11_aYear_80 : decode cX11_aYear 80 = .ok (.iload_n 3, 1) := by decide +kernel
theorem dX11_aYear_81 : decode cX11_aYear 81 = .ok (.bipush 12, 2) := by decide +kernel
theorem dX11_aYear_83 : decode cX11_aYear 83 = .ok (.iload_n 2, 1) := by decide +kernel
theorem dX11_aYear_84 : decode cX11_aYear 84 = .ok (.imul, 1) := by decide +kernel
theorem dX11_aYear_85 : decode cX11_aYear 85 = .ok (.iload_n 1, 1) := by decide +kernel
theorem dX11_aYear_86 : decode cX11_aYear 86 = .ok (.iadd, 1) := by decide +kernel
theorem dX11_aYear_87 : decode cX11_aYear 87 = .ok (.invokevirtual 129, 3) := by decide +kernel
theorem dX11_aYear_90 : decode cX11_aYear 90 = .ok (.iload 4, 2) := by decide +kernel
theorem dX11_aYear_92 : decode cX11_aYear 92 = .ok (.ireturn, 1) := by decide +kernel
theorem i_RX11_198 {Z : qZ} {G : qG} {cc : ByteArray} {nL k n : Nat} {rm : Room} {ret : Option FieldType} {μ : qM} {pc : Nat} {L : List (Nat × Value)} {rest : List Value} {K : Int32 → qM → Prop} (C : qX Z G RX11 cc nL rm ret) (hn : 66 ≤ gn G) (hR : (Nat.ble (0 + 1) rm.frames && Nat.ble (8 + (1 + 11) + 0) rm.locals) = true) (hf : k + 0 ≤ rm.cells ∧ n + 0 ≤ rm.slots) (hsz : Nat.ble (rest.map fun v => v.category).sum 8 = true) (hd : decode cc pc = .ok (.invokevirtual 198, 3)) (h : w_X11_draw  K μ) (hk : ∀ (r : Int32) (μ1 : qM), K r μ1 → qV Z G nL k n μ1 (pc + 3) L (.int r :: rest)) : qV Z G nL k n μ pc L (.ref (ga G 46) :: rest) := x_Vi [] rest C 46 10 (wp := fun K => w_X11_draw  K μ) (y_X11_draw : qY yX11_draw cX11_draw 1 (some .int) 0 ({ frames := 0, cells := 0, slots := 0, locals := 0 } : Room) 0 0) (qm_33 _ (List.mem_of_getElem? (i := 3) rfl)) (qm_33 _ (List.mem_of_getElem? (i := 4) rfl)) (qm_33 _ (List.mem_of_getElem? (i := 2) rfl)) (c_X11_draw Z.2.1 G hn ) (Nat.lt_of_lt_of_le (by decide) hn) rfl (by decide) rfl rfl hR hf rfl rfl hsz hd h hk
theorem g_RX11_201 {Z : qZ} {G : qG} {cc : ByteArray} {nL k n : Nat} {rm : Room} {ret : Option FieldType} {μ : qM} {pc : Nat} {L : List (Nat × Value)} {st : List Value} (C : qX Z G RX11 cc nL rm ret) (hn : 66 ≤ gn G) (hd : decode cc pc = .ok (.getfield 201, 3)) (h : qV Z G nL k n μ (pc + 3) L (.int (μ 46 6) :: st)) : qV Z G nL k n μ pc L (.ref (ga G 46) :: st) := x_geti C 46 10 6 (C0 := RX11) (fn := "year") (fd := "I") (Nat.lt_of_lt_of_le (by decide) hn) rfl (by decide) rfl (by decide) rfl inlX11 (qm_32 _ (List.mem_of_getElem? (i := 21) rfl)) rfl hd h
theorem p_RX11_201 {Z : qZ} {G : qG} {cc : ByteArray} {nL k n : Nat} {rm : Room} {ret : Option FieldType} {μ : qM} {pc : Nat} {L : List (Nat × Value)} {st : List Value} {x : Int32} (C : qX Z G RX11 cc nL rm ret) (hn : 66 ≤ gn G) (hd : decode cc pc = .ok (.putfield 201, 3)) (h : qV Z G nL k n (qu μ 46 6 x) (pc + 3) L st) : qV Z G nL k n μ pc L (.int x :: .ref (ga G 46) :: st) := x_puti C 46 10 6 (C0 := RX11) (fn := "year") (fd := "I") (ty := .int) (Nat.lt_of_lt_of_le (by decide) hn) rfl (by decide) rfl (by decide) rfl inlX11 tyX11_ok nmX11 (qm_32 _ (List.mem_of_getElem? (i := 21) rfl)) rfl (by decide +kernel) rfl rfl hd h
theorem b_X11_aYear_90 {Z : qZ} {G : qG} {v4 : Int32} {μ : qM} {post : Int32 → qM → Prop} (C : qX Z G RX11 cX11_aYear 5 ({ frames := 6, cells := 0, slots := 0, locals := 136 } : Room) (some .boolean)) (hQ : qQi Z G 0 0 post) (hn : 66 ≤ gn G) (h : q_X11_aYear_90 post v4 μ) : qV Z G 5 0 0 μ 90 [(4, .int v4)] [] := by
  unfold q_X11_aYear_90 at h
  refine x_iload C 0 dX11_aYear_90 rfl ?_
  exact x_zret C hQ dX11_aYear_92 h
theorem b_X11_aYear_72 {Z : qZ} {G : qG} {v1 : Int32} {v2 : Int32} {v3 : Int32} {s0 : Int32} {μ : qM} {post : Int32 → qM → Prop} (C : qX Z G RX11 cX11_aYear 5 ({ frames := 6, cells := 0, slots := 0, locals := 136 } : Room) (some .boolean)) (hQ : qQi Z G 0 0 post) (hn : 66 ≤ gn G) (h : q_X11_aYear_72 post v1 v2 v3 s0 μ) : qV Z G 5 0 0 μ 72 [(0, .ref (ga G 46)), (1, .int v1), (2, .int v2), (3, .int v3)] [.int s0] := by
  unfold q_X11_aYear_72 at h
  refine x_istore C (L' := [(4, .int s0), (0, .ref (ga G 46)), (1, .int v1), (2, .int v2), (3, .int v3)]) dX11_aYear_72 (by decide) rfl ?_
  refine x_iload C 0 dX11_aYear_74 rfl ?_
  refine x_if_eq C dX11_aYear_76 (tgt := 90) (by decide) h (fun h => ?_) (fun h => ?_)
  · exact qV_sub [0] rfl (b_X11_aYear_90 C hQ hn h)
  · refine x_aload_n C 1 dX11_aYear_79 rfl rfl ?_
    refine x_iload_n C 4 dX11_aYear_80 rfl rfl ?_
    refine x_bipush C dX11_aYear_81 (v := 12) (by decide) ?_
    refine x_iload_n C 3 dX11_aYear_83 rfl rfl ?_
    refine x_imul C dX11_aYear_84 ?_
    refine x_iload_n C 2 dX11_aYear_85 rfl rfl ?_
    refine x_iadd C dX11_aYear_86 ?_
    refine i_RX11_129 (rest := []) C hn  rfl (by decide) rfl dX11_aYear_87 h (fun μ87 h => ?_)
    exact qV_sub [0] rfl (b_X11_aYear_90 C hQ hn h)
theorem b_X11_aYear_71 {Z : qZ} {G : qG} {v1 : Int32} {v2 : Int32} {v3 : Int32} {μ : qM} {post : Int32 → qM → Prop} (C : qX Z G RX11 cX11_aYear 5 ({ frames := 6, cells := 0, slots := 0, locals := 136 } : Room) (some .boolean)) (hQ : qQi Z G 0 0 post) (hn : 66 ≤ gn G) (h : q_X11_aYear_71 post v1 v2 v3 μ) : qV Z G 5 0 0 μ 71 [(0, .ref (ga G 46)), (1, .int v1), (2, .int v2), (3, .int v3)] [] := by
  unfold q_X11_aYear_71 at h
  refine x_iconst C dX11_aYear_71 (v := 0) (by decide) ?_
  exact b_X11_aYear_72 C hQ hn h
theorem y_X11_aYear : qY yX11_aYear cX11_aYear 5 (some .boolean) 0 ({ frames := 6, cells := 0, slots := 0, locals := 136 } : Room) 0 0 := ⟨(qm_33 _ (List.mem_of_getElem? (i := 1) rfl)), (qm_1 _ (List.mem_of_getElem? (i := 5) rfl)), by decide +kernel, by decide +kernel, rfl, rfl⟩
theorem c_X11_aYear (l : Launch) (G : qG) {μ : qM} (hn : 66 ≤ gn G) : qCi l G yX11_aYear cX11_aYear 5 (some .boolean) ({ frames := 6, cells := 0, slots := 0, locals := 136 } : Room) 0 0 [.ref (ga G 46)] μ (fun post => w_X11_aYear  post μ) := by
  refine qCi_of (L := [(0, .ref (ga G 46))]) (by decide) rfl rfl ?_
  intro Z post hl C hQ h
  have C : qX Z G RX11 cX11_aYear 5 ({ frames := 6, cells := 0, slots := 0, locals := 136 } : Room) (some .boolean) := C
  have h : w_X11_aYear  post μ := h
  unfold w_X11_aYear at h
  refine x_aload_n C 0 dX11_aYear_0 rfl rfl ?_
  refine i_RX11_198 (rest := []) C hn  rfl (by decide) rfl dX11_aYear_1 h (fun r1 μ1 h => ?_)
  refine x_bipush C dX11_aYear_4 (v := 12) (by decide) ?_
  refine x_irem C dX11_aYear_6 h (fun h => ?_)
  refine x_istore_n C (L' := [(1, .int ((r1 - r1 / (12 : Int32) * (12 : Int32)))), (0, .ref (ga G 46))]) dX11_aYear_7 rfl (by decide) rfl ?_
  refine x_aload_n C 1 dX11_aYear_8 rfl rfl ?_
  refine i_RX11_198 (rest := []) C hn  rfl (by decide) rfl dX11_aYear_9 h (fun r9 μ9 h => ?_)
  refine x_bipush C dX11_aYear_12 (v := 12) (by decide) ?_
  refine x_irem C dX11_aYear_14 h (fun h => ?_)
  refine x_istore_n C (L' := [(2, .int ((r9 - r9 / (12 : Int32) * (12 : Int32)))), (1, .int ((r1 - r1 / (12 : Int32) * (12 : Int32)))), (0, .ref (ga G 46))]) dX11_aYear_15 rfl (by decide) rfl ?_
  refine x_aload_n C 2 dX11_aYear_16 rfl rfl ?_
  refine i_RX11_198 (rest := []) C hn  rfl (by decide) rfl dX11_aYear_17 h (fun r17 μ17 h => ?_)
  refine x_bipush C dX11_aYear_20 (v := 7) (by decide) ?_
  refine x_irem C dX11_aYear_22 h (fun h => ?_)
  refine x_istore_n C (L' := [(3, .int ((r17 - r17 / (7 : Int32) * (7 : Int32)))), (2, .int ((r9 - r9 / (12 : Int32) * (12 : Int32)))), (1, .int ((r1 - r1 / (12 : Int32) * (12 : Int32)))), (0, .ref (ga G 46))]) dX11_aYear_23 rfl (by decide) rfl ?_
  refine x_aload_n C 3 dX11_aYear_24 rfl rfl ?_
  refine x_dup C dX11_aYear_25 rfl ?_
  refine g_RX11_201 C hn dX11_aYear_26 ?_
  refine x_iconst C dX11_aYear_29 (v := 1) (by decide) ?_
  refine x_iadd C dX11_aYear_30 ?_
  refine p_RX11_201 C hn dX11_aYear_31 ?_
  refine x_aload_n C 3 dX11_aYear_34 rfl rfl ?_
  refine g_RX11_76 C hn dX11_aYear_35 ?_
  refine x_bipush C dX11_aYear_38 (v := 10) (by decide) ?_
  refine x_icmp_ge C dX11_aYear_40 (tgt := 71) (by decide) h (fun h => ?_) (fun h => ?_)
  · exact qV_sub [3, 2, 1, 0] rfl (b_X11_aYear_71 C hQ hn h)
  · refine x_aload_n C 3 dX11_aYear_43 rfl rfl ?_
    refine g_RX11_22 C hn dX11_aYear_44 ?_
    refine x_iload_n C 0 dX11_aYear_47 rfl rfl ?_
    refine i_RX11_126 (rest := [.int (((qu μ17 46 6 ((μ17 46 6) + (1 : Int32))) 46 5))]) C hn  rfl (by decide) rfl dX11_aYear_48 h (fun r48 μ48 h => ?_)
    refine x_icmp_lt C dX11_aYear_51 (tgt := 71) (by decide) h (fun h => ?_) (fun h => ?_)
    · exact qV_sub [3, 2, 1, 0] rfl (b_X11_aYear_71 C hQ hn h)
    · refine x_aload_n C 3 dX11_aYear_54 rfl rfl ?_
      refine x_bipush C dX11_aYear_55 (v := 12) (by decide) ?_
      refine x_iload_n C 1 dX11_aYear_57 rfl rfl ?_
      refine x_imul C dX11_aYear_58 ?_
      refine x_iload_n C 2 dX11_aYear_59 rfl rfl ?_
      refine x_iadd C dX11_aYear_60 ?_
      refine i_RX11_109 (rest := []) C hn  rfl (by decide) rfl dX11_aYear_61 h (fun r61 μ61 h => ?_)
      refine x_if_eq C dX11_aYear_64 (tgt := 71) (by decide) h (fun h => ?_) (fun h => ?_)
      · exact qV_sub [3, 2, 1, 0] rfl (b_X11_aYear_71 C hQ hn h)
      · refine x_iconst C dX11_aYear_67 (v := 1) (by decide) ?_
        refine x_goto C dX11_aYear_68 (tgt := 72) (by decide) ?_
        exact qV_sub [3, 2, 1, 0] rfl (b_X11_aYear_72 C hQ hn h)
