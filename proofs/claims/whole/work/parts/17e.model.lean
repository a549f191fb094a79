theorem dX11_worthTold_0 : decode cX11_worthTold 0 = .ok (.aload_n 0, 1) := by decide +kernel
theorem dX11_worthTold_1 : decode cX11_worthTold 1 = .ok (.bipush 99, 2) := by decide +kernel
theorem dX11_worthTold_3 : decode cX11_worthTold 3 = .ok (.invokevirtual 285, 3) := by decide +kernel
theorem dX11_worthTold_6 : decode cX11_worthTold 6 = .ok (.istore_n 1, 1) := by decide +kernel
theorem dX11_worthTold_7 : decode cX11_worthTold 7 = .ok (.aload_n 0, 1) := by decide +kernel
theorem dX11_worthTold_8 : decode cX11_worthTold 8 = .ok (.ldc_w 287, 3) := by decide +kernel
theorem dX11_worthTold_11 : decode cX11_worthTold 11 = .ok (.invokevirtual 281, 3) := by decide +kernel
theorem dX11_worthTold_14 : decode cX11_worthTold 14 = .ok (.aload_n 0, 1) := by decide +kernel
theorem dX11_worthTold_15 : decode cX11_worthTold 15 = .ok (.bipush 11, 2) := by decide +kernel
theorem dX11_worthTold_17 : decode cX11_worthTold 17 = .ok (.invokevirtual 285, 3) := by decide +kernel
theorem dX11_worthTold_20 : decode cX11_worthTold 20 = .ok (.istore_n 2, 1) := by decide +kernel
theorem dX11_worthTold_21 : decode cX11_worthTold 21 = .ok (.aload_n 0, 1) := by decide +kernel
theorem dX11_worthTold_22 : decode cX11_worthTold 22 = .ok (.bipush 11, 2) := by decide +kernel
theorem dX11_worthTold_24 : decode cX11_worthTold 24 = .ok (.invokevirtual 285, 3) := by decide +kernel
theorem dX11_worthTold_27 : decode cX11_worthTold 27 = .ok (.istore_n 3, 1) := by decide +kernel
theorem dX11_worthTold_28 : decode cX11_worthTold 28 = .ok (.aload_n 0, 1) := by decide +kernel
theorem dX11_worthTold_29 : decode cX11_worthTold 29 = .ok (.getfield 238, 3) := by decide +kernel
theorem dX11_worthTold_32 : decode cX11_worthTold 32 = .ok (.ifCond .ne 15, 3) := by decide +kernel
theorem dX11_worthTold_35 : decode cX11_worthTold 35 = .ok (.aload_n 0, 1) := by decide +kernel
theorem dX11_worthTold_36 : decode cX11_worthTold 36 = .ok (.getfield 16, 3) := by decide +kernel
theorem dX11_worthTold_39 : decode cX11_worthTold 39 = .ok (.bipush 12, 2) := by decide +kernel
theorem dX11_worthTold_41 : decode cX11_worthTold 41 = .ok (.iload_n 3, 1) := by decide +kernel
theorem dX11_worthTold_42 : decode cX11_worthTold 42 = .ok (.imul, 1) := by decide +kernel
theorem dX11_worthTold_43 : decode cX11_worthTold 43 = .ok (.iload_n 2, 1) := by decide +kernel
theorem dX11_worthTold_44 : decode cX11_worthTold 44 = .ok (.iadd, 1) := by decide +kernel
theorem dX11_worthTold_45 : decode cX11_worthTold 45 = .ok (.iload_n 1, 1) := by decide +kernel
theorem dX11_worthTold_46 : decode cX11_worthTold 46 = .ok (.iastore, 1) := by decide +kernel
theorem dX11_worthTold_47 : decode cX11_worthTold 47 = .ok (.return_, 1) := by decide +kernel
theorem y_X11_worthTold : qY yX11_worthTold cX11_worthTold 4 none 0 ({ frames := 8, cells := 0, slots := 0, locals := 205 } : Room) 0 0 := ⟨(qm_44 _ (List.mem_of_getElem? (i := 21) rfl)), (qm_1 _ (List.mem_of_getElem? (i := 5) rfl)), by decide +kernel, by decide +kernel, rfl, rfl⟩
theorem c_X11_worthTold (l : Launch) (G : qG) {μ : qM} (hn : 66 ≤ gn G) : qCv l G yX11_worthTold cX11_worthTold 4 none ({ frames := 8, cells := 0, slots := 0, locals := 205 } : Room) 0 0 [.ref (ga G 46)] μ (fun post => w_X11_worthTold  post μ) := by
  refine qCv_of (L := [(0, .ref (ga G 46))]) (by decide) rfl rfl ?_
  intro Z post hl C hQ h
  have C : qX Z G RX11 cX11_worthTold 4 ({ frames := 8, cells := 0, slots := 0, locals := 205 } : Room) none := C
  have h : w_X11_worthTold  post μ := h
  unfold w_X11_worthTold at h
  refine x_aload_n C 0 dX11_worthTold_0 rfl rfl ?_
  refine x_bipush C dX11_worthTold_1 (v := 99) (by decide) ?_
  refine i_RX11_285 (rest := []) C hn  rfl (by decide) rfl dX11_worthTold_3 h (fun r3 μ3 h => ?_)
  refine x_istore_n C (L' := [(1, .int r3), (0, .ref (ga G 46))]) dX11_worthTold_6 rfl (by decide) rfl ?_
  refine x_aload_n C 1 dX11_worthTold_7 rfl rfl ?_
  refine x_ldcsw C (i := 287) (q := 10) (tx := "on") (by decide) dX11_worthTold_8 ?_
  refine i_RX11_281 (rest := []) C hn (by decide) rfl (by decide) rfl dX11_worthTold_11 h (fun μ11 h => ?_)
  refine x_aload_n C 1 dX11_worthTold_14 rfl rfl ?_
  refine x_bipush C dX11_worthTold_15 (v := 11) (by decide) ?_
  refine i_RX11_285 (rest := []) C hn  rfl (by decide) rfl dX11_worthTold_17 h (fun r17 μ17 h => ?_)
  refine x_istore_n C (L' := [(2, .int r17), (1, .int r3), (0, .ref (ga G 46))]) dX11_worthTold_20 rfl (by decide) rfl ?_
  refine x_aload_n C 2 dX11_worthTold_21 rfl rfl ?_
  refine x_bipush C dX11_worthTold_22 (v := 11) (by decide) ?_
  refine i_RX11_285 (rest := []) C hn  rfl (by decide) rfl dX11_worthTold_24 h (fun r24 μ24 h => ?_)
  refine x_istore_n C (L' := [(3, .int r24), (2, .int r17), (1, .int r3), (0, .ref (ga G 46))]) dX11_worthTold_27 rfl (by decide) rfl ?_
  refine x_aload_n C 3 dX11_worthTold_28 rfl rfl ?_
  refine g_RX11_238 C hn dX11_worthTold_29 ?_
  refine x_if_ne C dX11_worthTold_32 (tgt := 47) (by decide) h (fun h => ?_) (fun h => ?_)
  · exact x_vret C hQ dX11_worthTold_47 h
  · refine x_aload_n C 3 dX11_worthTold_35 rfl rfl ?_
    refine g_RX11_16 C hn dX11_worthTold_36 ?_
    refine x_bipush C dX11_worthTold_39 (v := 12) (by decide) ?_
    refine x_iload_n C 0 dX11_worthTold_41 rfl rfl ?_
    refine x_imul C dX11_worthTold_42 ?_
    refine x_iload_n C 1 dX11_worthTold_43 rfl rfl ?_
    refine x_iadd C dX11_worthTold_44 ?_
    refine x_iload_n C 2 dX11_worthTold_45 rfl rfl ?_
    refine x_iast C 49 12 144 (q_lt rfl rfl hn) rfl rfl rfl rfl rfl dX11_worthTold_46 h (fun h => ?_)
    exact x_vret C hQ dX11_worthTold_47 h
theorem dX11_item_0 : decode cX11_item 0 = .ok (.aload_n 0, 1) := by decide +kernel
theorem dX11_item_1 : decode cX11_item 1 = .ok (.invokevirtual 289, 3) := by decide +kernel
theorem dX11_item_4 : decode cX11_item 4 = .ok (.istore_n 1, 1) := by decide +kernel
theorem dX11_item_5 : decode cX11_item 5 = .ok (.iload_n 1, 1) := by decide +kernel
theorem dX11_item_6 : decode cX11_item 6 = .ok (.ifCond .lt 11, 3) := by decide +kernel
theorem dX11_item_9 : decode cX11_item 9 = .ok (.aload_n 0, 1) := by decide +kernel
theorem dX11_item_10 : decode cX11_item 10 = .ok (.iload_n 1, 1) := by decide +kernel
theorem dX11_item_11 : decode cX11_item 11 = .ok (.invokevirtual 292, 3) := by decide +kernel
theorem dX11_item_14 : decode cX11_item 14 = .ok (.goto 64, 3) := by decide +kernel
theorem dX11_item_17 : decode cX11_item 17 = .ok (.aload_n 0, 1) := by decide +kernel
theorem dX11_item_18 : decode cX11_item 18 = .ok (.ldc_w 295, 3) := by decide +kernel
theorem dX11_item_21 : decode cX11_item 21 = .ok (.invokevirtual 296, 3) := by decide +kernel
theorem dX11_item_24 : decode cX11_item 24 = .ok (.ifCond .eq 10, 3) := by decide +kernel
theorem dX11_item_27 : decode cX11_item 27 = .ok (.aload_n 0, 1) := by decide +kernel
theorem dX11_item_28 : decode cX11_item 28 = .ok (.invokevirtual 299, 3) := by decide +kernel
theorem dX11_item_31 : decode cX11_item 31 = .ok (.goto 47, 3) := by decide +kernel
theorem dX11_item_34 : decode cX11_item 34 = .ok (.aload_n 0, 1) := by decide +kernel
theorem dX11_item_35 : decode cX11_item 35 = .ok (.ldc_w 302, 3) := by decide +kernel
theorem dX11_item_38 : decode cX11_item 38 = .ok (.invokevirtual 296, 3) := by decide +kernel
theorem dX11_item_41 : decode cX11_item 41 = .ok (.ifCond .eq 32, 3) := by decide +kernel
theorem dX11_item_44 : decode cX11_item 44 = .ok (.aload_n 0, 1) := by decide +kernel
theorem dX11_item_45 : decode cX11_item 45 = .ok (.ldc 138, 2) := by decide +kernel
theorem dX11_item_47 : decode cX11_item 47 = .ok (.invokevirtual 285, 3) := by decide +kernel
theorem dX11_item_50 : decode cX11_item 50 = .ok (.istore_n 2, 1) := by decide +kernel
theorem dX11_item_51 : decode cX11_item 51 = .ok (.aload_n 0, 1) := by decide +kernel
theorem dX11_item_52 : decode cX11_item 52 = .ok (.aload_n 0, 1) := by decide +kernel
theorem dX11_item_53 : decode cX11_item 53 = .ok (.getfield 238, 3) := by decide +kernel
theorem dX11_item_56 : decode cX11_item 56 = .ok (.ifCond .eq 10, 3) := by decide +kernel
theorem dX11_item_59 : decode cX11_item 59 = .ok (.aload_n 0, 1) := by decide +kernel
theorem dX11_item_60 : decode cX11_item 60 = .ok (.getfield 22, 3) := by decide +kernel
theorem dX11_item_63 : decode cX11_item 63 = .ok (.goto 4, 3) := by decide +kernel
theorem dX11_item_66 : decode cX11_item 66 = .ok (.iload_n 2, 1) := by decide +kernel
theorem dX11_item_67 : decode cX11_item 67 = .ok (.putfield 22, 3) := by decide +kernel
theorem dX11_item_70 : decode cX11_item 70 = .ok (.goto 8, 3) := by decide +kernel
theorem dX11_item_73 : decode cX11_item 73 = .ok (.aload_n 0, 1) := by decide +kernel
theorem dX11_item_74 : decode cX11_item 74 = .ok (.iconst 1, 1) := by decide +kernel
theorem dX11_item_75 : decode cX11_item 75 = .ok (.putfield 238, 3) := by decide +kernel
theorem dX11_item_78 : decode cX11_item 78 = .ok (.return_, 1) := by decide +kernel
theorem i_RX11_289 {Z : qZ} {G : qG} {cc : ByteArray} {nL k n : Nat} {rm : Room} {ret : Option FieldType} {μ : qM} {pc : Nat} {L : List (Nat × Value)} {rest : List Value} {K : Int32 → qM → Prop} (C : qX Z G RX11 cc nL rm ret) (hn : 66 ≤ gn G) (hR : (Nat.ble (7 + 1) rm.frames && Nat.ble (8 + (2 + 11) + 184) rm.locals) = true) (hf : k + 0 ≤ rm.cells ∧ n + 0 ≤ rm.slots) (hsz : Nat.ble (rest.map fun v => v.category).sum 8 = true) (hd : decode cc pc = .ok (.invokevirtual 289, 3)) (h : w_X11_kindHere  K μ) (hk : ∀ (r : Int32) (μ1 : qM), K r μ1 → qV Z G nL k n μ1 (pc + 3) L (.int r :: rest)) : qV Z G nL k n μ pc L (.ref (ga G 46) :: rest) := x_Vi [] rest C 46 10 (wp := fun K => w_X11_kindHere  K μ) (y_X11_kindHere : qY yX11_kindHere cX11_kindHere 2 (some .int) 0 ({ frames := 7, cells := 0, slots := 0, locals := 184 } : Room) 0 0) (qm_43 _ (List.mem_of_getElem? (i := 10) rfl)) (qm_43 _ (List.mem_of_getElem? (i := 11) rfl)) (qm_43 _ (List.mem_of_getElem? (i := 9) rfl)) (c_X11_kindHere Z.2.1 G hn ) (Nat.lt_of_lt_of_le (by decide) hn) rfl (by decide) rfl rfl hR hf rfl rfl hsz hd h hk
theorem i_RX11_292 {Z : qZ} {G : qG} {cc : ByteArray} {nL k n : Nat} {rm : Room} {ret : Option FieldType} {μ : qM} {pc : Nat} {L : List (Nat × Value)} {rest : List Value} {K : qM → Prop} {v1 : Int32} (C : qX Z G RX11 cc nL rm ret) (hn : 66 ≤ gn G) (hR : (Nat.ble (8 + 1) rm.frames && Nat.ble (8 + (4 + 11) + 205) rm.locals) = true) (hf : k + 0 ≤ rm.cells ∧ n + 0 ≤ rm.slots) (hsz : Nat.ble (rest.map fun v => v.category).sum 8 = true) (hd : decode cc pc = .ok (.invokevirtual 292, 3)) (h : w_X11_houseTold v1 K μ) (hk : ∀ (μ1 : qM), K μ1 → qV Z G nL k n μ1 (pc + 3) L rest) : qV Z G nL k n μ pc L (.int v1 :: .ref (ga G 46) :: rest) := x_Vv [.int v1] rest C 46 10 (wp := fun K => w_X11_houseTold v1 K μ) (y_X11_houseTold : qY yX11_houseTold cX11_houseTold 4 none 1 ({ frames := 8, cells := 0, slots := 0, locals := 205 } : Room) 0 0) (qm_43 _ (List.mem_of_getElem? (i := 23) rfl)) (qm_44 _ (List.mem_of_getElem? (i := 0) rfl)) (qm_43 _ (List.mem_of_getElem? (i := 22) rfl)) (c_X11_houseTold Z.2.1 G hn ) (Nat.lt_of_lt_of_le (by decide) hn) rfl (by decide) rfl rfl hR hf rfl rfl hsz hd h hk
theorem i_RX11_296 {Z : qZ} {G : qG} {cc : ByteArray} {nL k n : Nat} {rm : Room} {ret : Option FieldType} {μ : qM} {pc : Nat} {L : List (Nat × Value)} {rest : List Value} {K : Int32 → qM → Prop} {t1 : Nat} (C : qX Z G RX11 cc nL rm ret) (hn : 66 ≤ gn G) (ht_t1 : t1 < 12) (hR : (Nat.ble (7 + 1) rm.frames && Nat.ble (8 + (3 + 11) + 184) rm.locals) = true) (hf : k + 0 ≤ rm.cells ∧ n + 0 ≤ rm.slots) (hsz : Nat.ble (rest.map fun v => v.category).sum 8 = true) (hd : decode cc pc = .ok (.invokevirtual 296, 3)) (h : w_X11_takes t1 K μ) (hk : ∀ (r : Int32) (μ1 : qM), K r μ1 → qV Z G nL k n μ1 (pc + 3) L (.int r :: rest)) : qV Z G nL k n μ pc L (.ref (gK G t1) :: .ref (ga G 46) :: rest) := x_Vi [.ref (gK G t1)] rest C 46 10 (wp := fun K => w_X11_takes t1 K μ) (y_X11_takes : qY yX11_takes cX11_takes 3 (some .boolean) 1 ({ frames := 7, cells := 0, slots := 0, locals := 184 } : Room) 0 0) (qm_44 _ (List.mem_of_getElem? (i := 15) rfl)) (qm_44 _ (List.mem_of_getElem? (i := 16) rfl)) (qm_44 _ (List.mem_of_getElem? (i := 14) rfl)) (c_X11_takes Z.2.1 G hn ht_t1) (Nat.lt_of_lt_of_le (by decide) hn) rfl (by decide) rfl rfl hR hf rfl rfl hsz hd h hk
theorem i_RX11_299 {Z : qZ} {G : qG} {cc : ByteArray} {nL k n : Nat} {rm : Room} {ret : Option FieldType} {μ : qM} {pc : Nat} {L : List (Nat × Value)} {rest : List Value} {K : qM → Prop} (C : qX Z G RX11 cc nL rm ret) (hn : 66 ≤ gn G) (hR : (Nat.ble (8 + 1) rm.frames && Nat.ble (8 + (4 + 11) + 205) rm.locals) = true) (hf : k + 0 ≤ rm.cells ∧ n + 0 ≤ rm.slots) (hsz : Nat.ble (rest.map fun v => v.category).sum 8 = true) (hd : decode cc pc = .ok (.invokevirtual 299, 3)) (h : w_X11_worthTold  K μ) (hk : ∀ (μ1 : qM), K μ1 → qV Z G nL k n μ1 (pc + 3) L rest) : qV Z G nL k n μ pc L (.ref (ga G 46) :: rest) := x_Vv [] rest C 46 10 (wp := fun K => w_X11_worthTold  K μ) (y_X11_worthTold : qY yX11_worthTold cX11_worthTold 4 none 0 ({ frames := 8, cells := 0, slots := 0, locals := 205 } : Room) 0 0) (qm_44 _ (List.mem_of_getElem? (i := 19) rfl)) (qm_44 _ (List.mem_of_getElem? (i := 20) rfl)) (qm_44 _ (List.mem_of_getElem? (i := 18) rfl)) (c_X11_worthTold Z.2.1 G hn ) (Nat.lt_of_lt_of_le (by decide) hn) rfl (by decide) rfl rfl hR hf rfl rfl hsz hd h hk
theorem b_X11_item_67 {Z : qZ} {G : qG} {s0 : Int32} {μ : qM} {post : qM → Prop} (C : qX Z G RX11 cX11_item 3 ({ frames := 9, cells := 0, slots := 0, locals := 228 } : Room) none) (hQ : qQv Z G 0 0 post) (hn : 66 ≤ gn G) (h : q_X11_item_67 post s0 μ) : qV Z G 3 0 0 μ 67 [] [.int s0, .ref (ga G 46)] := by
  unfold q_X11_item_67 at h
  refine p_RX11_22 C hn dX11_item_67 ?_
  refine x_goto C dX11_item_70 (tgt := 78) (by decide) ?_
  exact x_vret C hQ dX11_item_78 h
theorem y_X11_item : qY yX11_item cX11_item 3 none 0 ({ frames := 9, cells := 0, slots := 0, locals := 228 } : Room) 0 0 := ⟨(qm_43 _ (List.mem_of_getElem? (i := 8) rfl)), (qm_1 _ (List.mem_of_getElem? (i := 5) rfl)), by decide +kernel, by decide +kernel, rfl, rfl⟩
theorem c_X11_item (l : Launch) (G : qG) {μ : qM} (hn : 66 ≤ gn G) : qCv l G yX11_item cX11_item 3 none ({ frames := 9, cells := 0, slots := 0, locals := 228 } : Room) 0 0 [.ref (ga G 46)] μ (fun post => w_X11_item  post μ) := by
  refine qCv_of (L := [(0, .ref (ga G 46))]) (by decide) rfl rfl ?_
  intro Z post hl C hQ h
  have C : qX Z G RX11 cX11_item 3 ({ frames := 9, cells := 0, slots := 0, locals := 228 } : Room) none := C
  have h : w_X11_item  post μ := h
  unfold w_X11_item at h
  refine x_aload_n C 0 dX11_item_0 rfl rfl ?_
  refine i_RX11_289 (rest := []) C hn  rfl (by decide) rfl dX11_item_1 h (fun r1 μ1 h => ?_)
  refine x_istore_n C (L' := [(1, .int r1), (0, .ref (ga G 46))]) dX11_item_4 rfl (by decide) rfl ?_
  refine x_iload_n C 0 dX11_item_5 rfl rfl ?_
  refine x_if_lt C dX11_item_6 (tgt := 17) (by decide) h (fun h => ?_) (fun h => ?_)
  · refine x_aload_n C 1 dX11_item_17 rfl rfl ?_
    refine x_ldcsw C (i := 295) (q := 7) (tx := "worth") (by decide) dX11_item_18 ?_
    refine i_RX11_296 (rest := []) C hn (by decide) rfl (by decide) rfl dX11_item_21 h (fun r21 μ21 h => ?_)
    refine x_if_eq C dX11_item_24 (tgt := 34) (by decide) h (fun h => ?_) (fun h => ?_)
    · refine x_aload_n C 1 dX11_item_34 rfl rfl ?_
      refine x_ldcsw C (i := 302) (q := 8) (tx := "coin") (by decide) dX11_item_35 ?_
      refine i_RX11_296 (rest := []) C hn (by decide) rfl (by decide) rfl dX11_item_38 h (fun r38 μ38 h => ?_)
      refine x_if_eq C dX11_item_41 (tgt := 73) (by decide) h (fun h => ?_) (fun h => ?_)
      · refine x_aload_n C 1 dX11_item_73 rfl rfl ?_
        refine x_iconst C dX11_item_74 (v := 1) (by decide) ?_
        refine p_RX11_238 C hn dX11_item_75 h (fun h => ?_)
        exact x_vret C hQ dX11_item_78 h
      · refine x_aload_n C 1 dX11_item_44 rfl rfl ?_
        refine x_ldc C (v := 99999) (qm_16 _ (List.mem_of_getElem? (i := 14) rfl)) dX11_item_45 ?_
        refine i_RX11_285 (rest := []) C hn  rfl (by decide) rfl dX11_item_47 h (fun r47 μ47 h => ?_)
        refine x_istore_n C (L' := [(2, .int r47), (1, .int r1), (0, .ref (ga G 46))]) dX11_item_50 rfl (by decide) rfl ?_
        refine x_aload_n C 2 dX11_item_51 rfl rfl ?_
        refine x_aload_n C 2 dX11_item_52 rfl rfl ?_
        refine g_RX11_238 C hn dX11_item_53 ?_
        refine x_if_eq C dX11_item_56 (tgt := 66) (by decide) h (fun h => ?_) (fun h => ?_)
        · refine x_iload_n C 0 dX11_item_66 rfl rfl ?_
          exact qV_sub [] rfl (b_X11_item_67 C hQ hn h)
        · refine x_aload_n C 2 dX11_item_59 rfl rfl ?_
          refine g_RX11_22 C hn dX11_item_60 ?_
          refine x_goto C dX11_item_63 (tgt := 67) (by decide) ?_
          exact qV_sub [] rfl (b_X11_item_67 C hQ hn h)
    · refine x_aload_n C 1 dX11_item_27 rfl rfl ?_
      refine i_RX11_299 (rest := []) C hn  rfl (by decide) rfl dX11_item_28 h (fun μ28 h => ?_)
      refine x_goto C dX11_item_31 (tgt := 78) (by decide) ?_
      exact x_vret C hQ dX11_item_78 h
  · refine x_aload_n C 1 dX11_item_9 rfl rfl ?_
    refine x_iload_n C 0 dX11_item_10 rfl rfl ?_
    refine i_RX11_292 (rest := []) C hn  rfl (by decide) rfl dX11_item_11 h (fun μ11 h => ?_)
    refine x_goto C dX11_item_14 (tgt := 78) (by decide) ?_
    exact x_vret C hQ dX11_item_78 h
theorem dX11_text_0 : decode cX11_text 0 = .ok (.iconst 0, 1) := by decide +kernel
theorem dX11_text_1 : decode cX11_text 1 = .ok (.istore_n 1, 1) := by decide +kernel
theorem dX11_text_2 : decode cX11_text 2 = .ok (.iload_n 1, 1) := by decide +kernel
theorem dX11_text_3 : decode cX11_text 3 = .ok (.sipush 144, 3) := by decide +kernel
theorem dX11_text_6 : decode cX11_text 6 = .ok (.if_icmp .ge 21, 3) := by decide +kernel
theorem dX11_text_9 : decode cX11_text 9 = .ok (.aload_n 0, 1) := by decide +kernel
theorem dX11_text_10 : decode cX11_text 10 = .ok (.getfield 60, 3) := by decide +kernel
theorem dX11_text_13 : decode cX11_text 13 = .ok (.iload_n 1, 1) := by decide +kernel
theorem dX11_text_14 : decode cX11_text 14 = .ok (.aload_n 0, 1) := by decide +kernel
theorem dX11_text_15 : decode cX11_text 15 = .ok (.getfield 16, 3) := by decide +kernel
theorem dX11_text_18 : decode cX11_text 18 = .ok (.iload_n 1, 1) := by decide +kernel
theorem dX11_text_19 : decode cX11_text 19 = .ok (.iaload, 1) := by decide +kernel
theorem dX11_text_20 : decode cX11_text 20 = .ok (.iastore, 1) := by decide +kernel
theorem dX11_text_21 : decode cX11_text 21 = .ok (.iinc 1 1, 3) := by decide +kernel
theorem dX11_text_24 : decode cX11_text 24 = .ok (.goto (-22), 3) := by decide +kernel
theorem dX11_text_27 : decode cX11_text 27 = .ok (.aload_n 0, 1) := by decide +kernel
theorem dX11_text_28 : decode cX11_text 28 = .ok (.invokevirtual 220, 3) := by decide +kernel
theorem dX11_text_31 : decode cX11_text 31 = .ok (.aload_n 0, 1) := by decide +kernel
theorem dX11_text_32 : decode cX11_text 32 = .ok (.iconst 0, 1) := by decide +kernel
theorem dX11_text_33 : decode cX11_text 33 = .ok (.putfield 238, 3) := by decide +kernel
theorem dX11_text_36 : decode cX11_text 36 = .ok (.aload_n 0, 1) := by decide +kernel
theorem dX11_text_37 : decode cX11_text 37 = .ok (.iconst 0, 1) := by decide +kernel
theorem dX11_text_38 : decode cX11_text 38 = .ok (.putfield 229, 3) := by decide +kernel
theorem dX11_text_41 : decode cX11_text 41 = .ok (.aload_n 0, 1) := by decide +kernel
theorem dX11_text_42 : decode cX11_text 42 = .ok (.invokevirtual 255, 3) := by decide +kernel
theorem dX11_text_45 : decode cX11_text 45 = .ok (.aload_n 0, 1) := by decide +kernel
theorem dX11_text_46 : decode cX11_text 46 = .ok (.invokevirtual 303, 3) := by decide +kernel
theorem dX11_text_49 : decode cX11_text 49 = .ok (.iconst 1, 1) := by decide +kernel
theorem dX11_text_50 : decode cX11_text 50 = .ok (.istore_n 1, 1) := by decide +kernel
theorem dX11_text_51 : decode cX11_text 51 = .ok (.aload_n 0, 1) := by decide +kernel
theorem dX11_text_52 : decode cX11_text 52 = .ok (.getfield 238, 3) := by decide +kernel
theorem dX11_text_55 : decode cX11_text 55 = .ok (.ifCond .ne 27, 3) := by decide +kernel
theorem dX11_text_58 : decode cX11_text 58 = .ok (.aload_n 0, 1) := by decide +kernel
theorem dX11_text_59 : decode cX11_text 59 = .ok (.ldc_w 306, 3) := by decide +kernel
theorem dX11_text_62 : decode cX11_text 62 = .ok (.invokevirtual 251, 3) := by decide +kernel
theorem dX11_text_65 : decode cX11_text 65 = .ok (.ifCond .eq 17, 3) := by decide +kernel
theorem dX11_text_68 : decode cX11_text 68 = .ok (.aload_n 0, 1) := by decide +kernel
theorem dX11_text_69 : decode cX11_text 69 = .ok (.invokevirtual 255, 3) := by decide +kernel
theorem dX11_text_72 : decode cX11_text 72 = .ok (.aload_n 0, 1) := by decide +kernel
theorem dX11_text_73 : decode cX11_text 73 = .ok (.invokevirtual 303, 3) := by decide +kernel
theorem dX11_text_76 : decode cX11_text 76 = .ok (.iinc 1 1, 3) := by decide +kernel
theorem dX11_text_79 : decode cX11_text 79 = .ok (.goto (-28), 3) := by decide +kernel
theorem dX11_text_82 : decode cX11_text 82 = .ok (.aload_n 0, 1) := by decide +kernel
theorem dX11_text_83 : decode cX11_text 83 = .ok (.aload_n 0, 1) := by decide +kernel
theorem dX11_text_84 : decode cX11_text 84 = .ok (.getfield 238, 3) := by decide +kernel
theorem dX11_text_87 : decode cX11_text 87 = .ok (.ifCond .ne 14, 3) := by decide +kernel
theorem dX11_text_90 : decode cX11_text 90 = .ok (.aload_n 0, 1) := by decide +kernel
theorem dX11_text_91 : decode cX11_text 91 = .ok (.getfield 232, 3) := by decide +kernel
theorem dX11_text_94 : decode cX11_text 94 = .ok (.aload_n 0, 1) := by decide +kernel
theorem dX11_text_95 : decode cX11_text 95 = .ok (.getfield 226, 3) := by decide +kernel
theorem dX11_text_98 : decode cX11_text 98 = .ok (.if_icmp .ge 7, 3) := by decide +kernel
theorem dX11_text_101 : decode cX11_text 101 = .ok (.iconst 1, 1) := by decide +kernel
theorem dX11_text_102 : decode cX11_text 102 = .ok (.goto 4, 3) := by decide +kernel
theorem dX11_text_105 : decode cX11_text 105 = .ok (.iconst 0, 1) := by decide +kernel
theorem dX11_text_106 : decode cX11_text 106 = .ok (.putfield 238, 3) := by decide +kernel
theorem dX11_text_109 : decode cX11_text 109 = .ok (.aload_n 0, 1) := by decide +kernel
theorem dX11_text_110 : decode cX11_text 110 = .ok (.iconst 0, 1) := by decide +kernel
theorem dX11_text_111 : decode cX11_text 111 = .ok (.putfield 226, 3) := by decide +kernel
theorem dX11_text_114 : decode cX11_text 114 = .ok (.aload_n 0, 1) := by decide +kernel
theorem dX11_text_115 : decode cX11_text 115 = .ok (.getfield 238, 3) := by decide +kernel
theorem dX11_text_118 : decode cX11_text 118 = .ok (.ifCond .ne 5, 3) := by decide +kernel
theorem dX11_text_121 : decode cX11_text 121 = .ok (.iload_n 1, 1) := by decide +kernel
theorem dX11_text_122 : decode cX11_text 122 = .ok (.ireturn, 1) := by decide +kernel
theorem dX11_text_123 : decode cX11_text 123 = .ok (.iconst 0, 1) := by decide +kernel
theorem dX11_text_124 : decode cX11_text 124 = .ok (.istore_n 2, 1) := by decide +kernel
theorem dX11_text_125 : decode cX11_text 125 = .ok (.iload_n 2, 1) := by decide +kernel
theorem dX11_text_126 : decode cX11_text 126 = .ok (.sipush 144, 3) := by decide +kernel
theorem dX11_text_129 : decode cX11_text 129 = .ok (.if_icmp .ge 21, 3) := by decide +kernel
theorem dX11_text_132 : decode cX11_text 132 = .ok (.aload_n 0, 1) := by decide +kernel
theorem dX11_text_133 : decode cX11_text 133 = .ok (.getfield 16, 3) := by decide +kernel
theorem dX11_text_136 : decode cX11_text 136 = .ok (.iload_n 2, 1) := by decide +kernel
theorem dX11_text_137 : decode cX11_text 137 = .ok (.aload_n 0, 1) := by decide +kernel
theorem dX11_text_138 : decode cX11_text 138 = .ok (.getfield 60, 3) := by decide +kernel
theorem dX11_text_141 : decode cX11_text 141 = .ok (.iload_n 2, 1) := by decide +kernel
theorem dX11_text_142 : decode cX11_text 142 = .ok (.iaload, 1) := by decide +kernel
theorem dX11_text_143 : decode cX11_text 143 = .ok (.iastore, 1) := by decide +kernel
theorem dX11_text_144 : decode cX11_text 144 = .ok (.iinc 2 1, 3) := by decide +kernel
theorem dX11_text_147 : decode cX11_text 147 = .ok (.goto (-22), 3) := by decide +kernel
theorem dX11_text_150 : decode cX11_text 150 = .ok (.aload_n 0, 1) := by decide +kernel
theorem dX11_text_151 : decode cX11_text 151 = .ok (.invokevirtual 223, 3) := by decide +kernel
theorem dX11_text_154 : decode cX11_text 154 = .ok (.iconst (-1), 1) := by decide +kernel
theorem dX11_text_155 : decode cX11_text 155 = .ok (.aload_n 0, 1) := by decide +kernel
theorem dX11_text_156 : decode cX11_text 156 = .ok (.getfield 232, 3) := by decide +kernel
theorem dX11_text_159 : decode cX11_text 159 = .ok (.isub, 1) := by decide +kernel
theorem dX11_text_160 : decode cX11_text 160 = .ok (.ireturn, 1) := by decide +kernel
theorem i_RX11_303 {Z : qZ} {G : qG} {cc : ByteArray} {nL k n : Nat} {rm : Room} {ret : Option FieldType} {μ : qM} {pc : Nat} {L : List (Nat × Value)} {rest : List Value} {K : qM → Prop} (C : qX Z G RX11 cc nL rm ret) (hn : 66 ≤ gn G) (hR : (Nat.ble (9 + 1) rm.frames && Nat.ble (8 + (3 + 11) + 228) rm.locals) = true) (hf : k + 0 ≤ rm.cells ∧ n + 0 ≤ rm.slots) (hsz : Nat.ble (rest.map fun v => v.category).sum 8 = true) (hd : decode cc pc = .ok (.invokevirtual 303, 3)) (h : w_X11_item  K μ) (hk : ∀ (μ1 : qM), K μ1 → qV Z G nL k n μ1 (pc + 3) L rest) : qV Z G nL k n μ pc L (.ref (ga G 46) :: rest) := x_Vv [] rest C 46 10 (wp := fun K => w_X11_item  K μ) (y_X11_item : qY yX11_item cX11_item 3 none 0 ({ frames := 9, cells := 0, slots := 0, locals := 228 } : Room) 0 0) (qm_43 _ (List.mem_of_getElem? (i := 6) rfl)) (qm_43 _ (List.mem_of_getElem? (i := 7) rfl)) (qm_43 _ (List.mem_of_getElem? (i := 5) rfl)) (c_X11_item Z.2.1 G hn ) (Nat.lt_of_lt_of_le (by decide) hn) rfl (by decide) rfl rfl hR hf rfl rfl hsz hd h hk
theorem g_RX11_60 {Z : qZ} {G : qG} {cc : ByteArray} {nL k n : Nat} {rm : Room} {ret : Option FieldType} {μ : qM} {pc : Nat} {L : List (Nat × Value)} {st : List Value} (C : qX Z G RX11 cc nL rm ret) (hn : 66 ≤ gn G) (hd : decode cc pc = .ok (.getfield 60, 3)) (h : qV Z G nL k n μ (pc + 3) L (.ref (ga G 61) :: st)) : qV Z G nL k n μ pc L (.ref (ga G 46) :: st) := x_getr C 46 10 34 15 61 (C0 := RX11) (fn := "worthBefore") (fd := "[I") (Nat.lt_of_lt_of_le (by decide) hn) rfl (by decide) rfl (by decide) rfl inlX11 (qm_6 _ (List.mem_of_getElem? (i := 7) rfl)) rfl rfl rfl hd h
theorem b_X11_text_125 {Z : qZ} {G : qG} {v2 : Int32} {μ : qM} {post : Int32 → qM → Prop} (C : qX Z G RX11 cX11_text 3 ({ frames := 10, cells := 0, slots := 0, locals := 250 } : Room) (some .int)) (hQ : qQi Z G 0 0 post) (hn : 66 ≤ gn G) (h : q_X11_text_125 post v2 μ) : qV Z G 3 0 0 μ 125 [(0, .ref (ga G 46)), (2, .int v2)] [] := by
  refine h (fun v2 μ => qV Z G 3 0 0 μ 125 [(0, .ref (ga G 46)), (2, .int v2)] []) (fun v2 μ h => ?_)
  refine x_iload_n C 1 dX11_text_125 rfl rfl ?_
  refine x_sipush C dX11_text_126 (v := 144) (by decide) ?_
  refine x_icmp_ge C dX11_text_129 (tgt := 150) (by decide) h (fun h => ?_) (fun h => ?_)
  · refine x_aload_n C 0 dX11_text_150 rfl rfl ?_
    refine i_RX11_223 (rest := []) C hn  rfl (by decide) rfl dX11_text_151 h (fun μ151 h => ?_)
    refine x_iconst C dX11_text_154 (v := -1) (by decide) ?_
    refine x_aload_n C 0 dX11_text_155 rfl rfl ?_
    refine g_RX11_232 C hn dX11_text_156 ?_
    refine x_isub C dX11_text_159 ?_
    exact x_iret C hQ dX11_text_160 h
  · refine x_aload_n C 0 dX11_text_132 rfl rfl ?_
    refine g_RX11_16 C hn dX11_text_133 ?_
    refine x_iload_n C 1 dX11_text_136 rfl rfl ?_
    refine x_aload_n C 0 dX11_text_137 rfl rfl ?_
    refine g_RX11_60 C hn dX11_text_138 ?_
    refine x_iload_n C 1 dX11_text_141 rfl rfl ?_
    refine x_iald C 61 12 144 (q_lt rfl rfl hn) rfl rfl rfl rfl rfl dX11_text_142 h (fun h => ?_)
    refine x_iast C 49 12 144 (q_lt rfl rfl hn) rfl rfl rfl rfl rfl dX11_text_143 h (fun h => ?_)
    refine x_iinc C 1 (v := 1) (L' := [(2, .int ((v2 + 1))), (0, .ref (ga G 46))]) dX11_text_144 rfl (by decide) (by decide) rfl ?_
    refine x_goto C dX11_text_147 (tgt := 125) (by decide) ?_
    exact qV_sub [1, 0] rfl (h)
theorem b_X11_text_106 {Z : qZ} {G : qG} {v1 : Int32} {s0 : Int32} {μ : qM} {post : Int32 → qM → Prop} (C : qX Z G RX11 cX11_text 3 ({ frames := 10, cells := 0, slots := 0, locals := 250 } : Room) (some .int)) (hQ : qQi Z G 0 0 post) (hn : 66 ≤ gn G) (h : q_X11_text_106 post v1 s0 μ) : qV Z G 3 0 0 μ 106 [(0, .ref (ga G 46)), (1, .int v1)] [.int s0, .ref (ga G 46)] := by
  unfold q_X11_text_106 at h
  refine p_RX11_238 C hn dX11_text_106 h (fun h => ?_)
  refine x_aload_n C 0 dX11_text_109 rfl rfl ?_
  refine x_iconst C dX11_text_110 (v := 0) (by decide) ?_
  refine p_RX11_226 C hn dX11_text_111 ?_
  refine x_aload_n C 0 dX11_text_114 rfl rfl ?_
  refine g_RX11_238 C hn dX11_text_115 ?_
  refine x_if_ne C dX11_text_118 (tgt := 123) (by decide) h (fun h => ?_) (fun h => ?_)
  · refine x_iconst C dX11_text_123 (v := 0) (by decide) ?_
    refine x_istore_n C (L' := [(2, .int ((0 : Int32))), (0, .ref (ga G 46)), (1, .int v1)]) dX11_text_124 rfl (by decide) rfl ?_
    exact qV_sub [1, 0] rfl (b_X11_text_125 C hQ hn h)
  · refine x_iload_n C 1 dX11_text_121 rfl rfl ?_
    exact x_iret C hQ dX11_text_122 h
theorem b_X11_text_101 {Z : qZ} {G : qG} {v1 : Int32} {μ : qM} {post : Int32 → qM → Prop} (C : qX Z G RX11 cX11_text 3 ({ frames := 10, cells := 0, slots := 0, locals := 250 } : Room) (some .int)) (hQ : qQi Z G 0 0 post) (hn : 66 ≤ gn G) (h : q_X11_text_101 post v1 μ) : qV Z G 3 0 0 μ 101 [(0, .ref (ga G 46)), (1, .int v1)] [.ref (ga G 46)] := by
  unfold q_X11_text_101 at h
  refine x_iconst C dX11_text_101 (v := 1) (by decide) ?_
  refine x_goto C dX11_text_102 (tgt := 106) (by decide) ?_
  exact b_X11_text_106 C hQ hn h
theorem b_X11_text_82 {Z : qZ} {G : qG} {v1 : Int32} {μ : qM} {post : Int32 → qM → Prop} (C : qX Z G RX11 cX11_text 3 ({ frames := 10, cells := 0, slots := 0, locals := 250 } : Room) (some .int)) (hQ : qQi Z G 0 0 post) (hn : 66 ≤ gn G) (h : q_X11_text_82 post v1 μ) : qV Z G 3 0 0 μ 82 [(0, .ref (ga G 46)), (1, .int v1)] [] := by
  unfold q_X11_text_82 at h
  refine x_aload_n C 0 dX11_text_82 rfl rfl ?_
  refine x_aload_n C 0 dX11_text_83 rfl rfl ?_
  refine g_RX11_238 C hn dX11_text_84 ?_
  refine x_if_ne C dX11_text_87 (tgt := 101) (by decide) h (fun h => ?_) (fun h => ?_)
  · exact b_X11_text_101 C hQ hn h
  · refine x_aload_n C 0 dX11_text_90 rfl rfl ?_
    refine g_RX11_232 C hn dX11_text_91 ?_
    refine x_aload_n C 0 dX11_text_94 rfl rfl ?_
    refine g_RX11_226 C hn dX11_text_95 ?_
    refine x_icmp_ge C dX11_text_98 (tgt := 105) (by decide) h (fun h => ?_) (fun h => ?_)
    · refine x_iconst C dX11_text_105 (v := 0) (by decide) ?_
      exact b_X11_text_106 C hQ hn h
    · exact b_X11_text_101 C hQ hn h
theorem b_X11_text_51 {Z : qZ} {G : qG} {v1 : Int32} {μ : qM} {post : Int32 → qM → Prop} (C : qX Z G RX11 cX11_text 3 ({ frames := 10, cells := 0, slots := 0, locals := 250 } : Room) (some .int)) (hQ : qQi Z G 0 0 post) (hn : 66 ≤ gn G) (h : q_X11_text_51 post v1 μ) : qV Z G 3 0 0 μ 51 [(0, .ref (ga G 46)), (1, .int v1)] [] := by
  refine h (fun v1 μ => qV Z G 3 0 0 μ 51 [(0, .ref (ga G 46)), (1, .int v1)] []) (fun v1 μ h => ?_)
  refine x_aload_n C 0 dX11_text_51 rfl rfl ?_
  refine g_RX11_238 C hn dX11_text_52 ?_
  refine x_if_ne C dX11_text_55 (tgt := 82) (by decide) h (fun h => ?_) (fun h => ?_)
  · exact b_X11_text_82 C hQ hn h
  · refine x_aload_n C 0 dX11_text_58 rfl rfl ?_
    refine x_ldcsw C (i := 306) (q := 11) (tx := ";") (by decide) dX11_text_59 ?_
    refine i_RX11_251 (rest := []) C hn (by decide) rfl (by decide) rfl dX11_text_62 h (fun r62 μ62 h => ?_)
    refine x_if_eq C dX11_text_65 (tgt := 82) (by decide) h (fun h => ?_) (fun h => ?_)
    · exact b_X11_text_82 C hQ hn h
    · refine x_aload_n C 0 dX11_text_68 rfl rfl ?_
      refine i_RX11_255 (rest := []) C hn  rfl (by decide) rfl dX11_text_69 h (fun μ69 h => ?_)
      refine x_aload_n C 0 dX11_text_72 rfl rfl ?_
      refine i_RX11_303 (rest := []) C hn  rfl (by decide) rfl dX11_text_73 h (fun μ73 h => ?_)
      refine x_iinc C 1 (v := 1) (L' := [(1, .int ((v1 + 1))), (0, .ref (ga G 46))]) dX11_text_76 rfl (by decide) (by decide) rfl ?_
      refine x_goto C dX11_text_79 (tgt := 51) (by decide) ?_
      exact qV_sub [1, 0] rfl (h)
theorem b_X11_text_2 {Z : qZ} {G : qG} {v1 : Int32} {μ : qM} {post : Int32 → qM → Prop} (C : qX Z G RX11 cX11_text 3 ({ frames := 10, cells := 0, slots := 0, locals := 250 } : Room) (some .int)) (hQ : qQi Z G 0 0 post) (hn : 66 ≤ gn G) (h : q_X11_text_2 post v1 μ) : qV Z G 3 0 0 μ 2 [(0, .ref (ga G 46)), (1, .int v1)] [] := by
  refine h (fun v1 μ => qV Z G 3 0 0 μ 2 [(0, .ref (ga G 46)), (1, .int v1)] []) (fun v1 μ h => ?_)
  refine x_iload_n C 1 dX11_text_2 rfl rfl ?_
  refine x_sipush C dX11_text_3 (v := 144) (by decide) ?_
  refine x_icmp_ge C dX11_text_6 (tgt := 27) (by decide) h (fun h => ?_) (fun h => ?_)
  · refine x_aload_n C 0 dX11_text_27 rfl rfl ?_
    refine i_RX11_220 (rest := []) C hn  rfl (by decide) rfl dX11_text_28 h (fun μ28 h => ?_)
    refine x_aload_n C 0 dX11_text_31 rfl rfl ?_
    refine x_iconst C dX11_text_32 (v := 0) (by decide) ?_
    refine p_RX11_238 C hn dX11_text_33 h (fun h => ?_)
    refine x_aload_n C 0 dX11_text_36 rfl rfl ?_
    refine x_iconst C dX11_text_37 (v := 0) (by decide) ?_
    refine p_RX11_229 C hn dX11_text_38 ?_
    refine x_aload_n C 0 dX11_text_41 rfl rfl ?_
    refine i_RX11_255 (rest := []) C hn  rfl (by decide) rfl dX11_text_42 h (fun μ42 h => ?_)
    refine x_aload_n C 0 dX11_text_45 rfl rfl ?_
    refine i_RX11_303 (rest := []) C hn  rfl (by decide) rfl dX11_text_46 h (fun μ46 h => ?_)
    refine x_iconst C dX11_text_49 (v := 1) (by decide) ?_
    refine x_istore_n C (L' := [(1, .int ((1 : Int32))), (0, .ref (ga G 46))]) dX11_text_50 rfl (by decide) rfl ?_
    exact qV_sub [1, 0] rfl (b_X11_text_51 C hQ hn h)
  · refine x_aload_n C 0 dX11_text_9 rfl rfl ?_
    refine g_RX11_60 C hn dX11_text_10 ?_
    refine x_iload_n C 1 dX11_text_13 rfl rfl ?_
    refine x_aload_n C 0 dX11_text_14 rfl rfl ?_
    refine g_RX11_16 C hn dX11_text_15 ?_
    refine x_iload_n C 1 dX11_text_18 rfl rfl ?_
    refine x_iald C 49 12 144 (q_lt rfl rfl hn) rfl rfl rfl rfl rfl dX11_text_19 h (fun h => ?_)
    refine x_iast C 61 12 144 (q_lt rfl rfl hn) rfl rfl rfl rfl rfl dX11_text_20 h (fun h => ?_)
    refine x_iinc C 1 (v := 1) (L' := [(1, .int ((v1 + 1))), (0, .ref (ga G 46))]) dX11_text_21 rfl (by decide) (by decide) rfl ?_
    refine x_goto C dX11_text_24 (tgt := 2) (by decide) ?_
    exact qV_sub [1, 0] rfl (h)
theorem y_X11_text : qY yX11_text cX11_text 3 (some .int) 0 ({ frames := 10, cells := 0, slots := 0, locals := 250 } : Room) 0 0 := ⟨(qm_42 _ (List.mem_of_getElem? (i := 17) rfl)), (qm_1 _ (List.mem_of_getElem? (i := 5) rfl)), by decide +kernel, by decide +kernel, rfl, rfl⟩
theorem c_X11_text (l : Launch) (G : qG) {μ : qM} (hn : 66 ≤ gn G) : qCi l G yX11_text cX11_text 3 (some .int) ({ frames := 10, cells := 0, slots := 0, locals := 250 } : Room) 0 0 [.ref (ga G 46)] μ (fun post => w_X11_text  post μ) := by
  refine qCi_of (L := [(0, .ref (ga G 46))]) (by decide) rfl rfl ?_
  intro Z post hl C hQ h
  have C : qX Z G RX11 cX11_text 3 ({ frames := 10, cells := 0, slots := 0, locals := 250 } : Room) (some .int) := C
  have h : w_X11_text  post μ := h
  unfold w_X11_text at h
  refine x_iconst C dX11_text_0 (v := 0) (by decide) ?_
  refine x_istore_n C (L' := [(1, .int ((0 : Int32))), (0, .ref (ga G 46))]) dX11_text_1 rfl (by decide) rfl ?_
  exact qV_sub [1, 0] rfl (b_X11_text_2 C hQ hn h)
theorem dX11_hold_0 : decode cX11_hold 0 = .ok (.iload_n 1, 1) := by decide +kernel
theorem dX11_hold_1 : decode cX11_hold 1 = .ok (.iconst 0, 1) := by decide +kernel
theorem dX11_hold_2 : decode cX11_hold 2 = .ok (.bipush 9, 2) := by decide +kernel
theorem dX11_hold_4 : decode cX11_hold 4 = .ok (.invokestatic 79, 3) := by decide +kernel
theorem dX11_hold_7 : decode cX11_hold 7 = .ok (.ifCond .eq 17, 3) := by decide +kernel
theorem dX11_hold_10 : decode cX11_hold 10 = .ok (.iload_n 2, 1) := by decide +kernel
theorem dX11_hold_11 : decode cX11_hold 11 = .ok (.iconst (-1), 1) := by decide +kernel
theorem dX11_hold_12 : decode cX11_hold 12 = .ok (.aload_n 0, 1) := by decide +kernel
theorem dX11_hold_13 : decode cX11_hold 13 = .ok (.getfield 76, 3) := by decide +kernel
theorem dX11_hold_16 : decode cX11_hold 16 = .ok (.iconst 1, 1) := by decide +kernel
theorem dX11_hold_17 : decode cX11_hold 17 = .ok (.isub, 1) := by decide +kernel
theorem dX11_hold_18 : decode cX11_hold 18 = .ok (.invokestatic 79, 3) := by decide +kernel
theorem dX11_hold_21 : decode cX11_hold 21 = .ok (.ifCond .ne 9, 3) := by decide +kernel
theorem dX11_hold_24 : decode cX11_hold 24 = .ok (.aload_n 0, 1) := by decide +kernel
theorem dX11_hold_25 : decode cX11_hold 25 = .ok (.iconst 0, 1) := by decide +kernel
theorem dX11_hold_26 : decode cX11_hold 26 = .ok (.invokevirtual 119, 3) := by decide +kernel
theorem dX11_hold_29 : decode cX11_hold 29 = .ok (.ireturn, 1) := by decide +kernel
theorem dX11_hold_30 : decode cX11_hold 30 = .ok (.aload_n 0, 1) := by decide +kernel
theorem dX11_hold_31 : decode cX11_hold 31 = .ok (.getfield 19, 3) := by decide +kernel
theorem dX11_hold_34 : decode cX11_hold 34 = .ok (.iload_n 1, 1) := by decide +kernel
theorem dX11_hold_35 : decode cX11_hold 35 = .ok (.iload_n 2, 1) := by decide +kernel
theorem dX11_hold_36 : decode cX11_hold 36 = .ok (.iastore, 1) := by decide +kernel
theorem dX11_hold_37 : decode cX11_hold 37 = .ok (.iconst 1, 1) := by decide +kernel
theorem dX11_hold_38 : decode cX11_hold 38 = .ok (.ireturn, 1) := by decide +kernel
theorem g_RX11_19 {Z : qZ} {G : qG} {cc : ByteArray} {nL k n : Nat} {rm : Room} {ret : Option FieldType} {μ : qM} {pc : Nat} {L : List (Nat × Value)} {st : List Value} (C : qX Z G RX11 cc nL rm ret) (hn : 66 ≤ gn G) (hd : decode cc pc = .ok (.getfield 19, 3)) (h : qV Z G nL k n μ (pc + 3) L (.ref (ga G 50) :: st)) : qV Z G nL k n μ pc L (.ref (ga G 46) :: st) := x_getr C 46 10 4 4 50 (C0 := RX11) (fn := "spot") (fd := "[I") (Nat.lt_of_lt_of_le (by decide) hn) rfl (by decide) rfl (by decide) rfl inlX11 (qm_5 _ (List.mem_of_getElem? (i := 18) rfl)) rfl rfl rfl hd h
theorem b_X11_hold_24 {Z : qZ} {G : qG} {μ : qM} {post : Int32 → qM → Prop} (C : qX Z G RX11 cX11_hold 3 ({ frames := 1, cells := 0, slots := 0, locals := 22 } : Room) (some .int)) (hQ : qQi Z G 0 0 post) (hn : 66 ≤ gn G) (h : q_X11_hold_24 post μ) : qV Z G 3 0 0 μ 24 [(0, .ref (ga G 46))] [] := by
  unfold q_X11_hold_24 at h
  refine x_aload_n C 0 dX11_hold_24 rfl rfl ?_
  refine x_iconst C dX11_hold_25 (v := 0) (by decide) ?_
  refine i_RX11_119 (rest := []) C hn  rfl (by decide) rfl dX11_hold_26 h (fun r26 μ26 h => ?_)
  exact x_iret C hQ dX11_hold_29 h
theorem y_X11_hold : qY yX11_hold cX11_hold 3 (some .int) 2 ({ frames := 1, cells := 0, slots := 0, locals := 22 } : Room) 0 0 := ⟨(qm_45 _ (List.mem_of_getElem? (i := 12) rfl)), (qm_1 _ (List.mem_of_getElem? (i := 5) rfl)), by decide +kernel, by decide +kernel, rfl, rfl⟩
theorem c_X11_hold (l : Launch) (G : qG) {v1 : Int32} {v2 : Int32} {μ : qM} (hn : 66 ≤ gn G) : qCi l G yX11_hold cX11_hold 3 (some .int) ({ frames := 1, cells := 0, slots := 0, locals := 22 } : Room) 0 0 [.ref (ga G 46), .int v1, .int v2] μ (fun post => w_X11_hold v1 v2 post μ) := by
  refine qCi_of (L := [(0, .ref (ga G 46)), (1, .int v1), (2, .int v2)]) (by decide) rfl rfl ?_
  intro Z post hl C hQ h
  have C : qX Z G RX11 cX11_hold 3 ({ frames := 1, cells := 0, slots := 0, locals := 22 } : Room) (some .int) := C
  have h : w_X11_hold v1 v2 post μ := h
  unfold w_X11_hold at h
  refine x_iload_n C 1 dX11_hold_0 rfl rfl ?_
  refine x_iconst C dX11_hold_1 (v := 0) (by decide) ?_
  refine x_bipush C dX11_hold_2 (v := 9) (by decide) ?_
  refine i_RX11_79 (rest := []) C hn  rfl (by decide) rfl dX11_hold_4 h (fun r4 μ4 h => ?_)
  refine x_if_eq C dX11_hold_7 (tgt := 24) (by decide) h (fun h => ?_) (fun h => ?_)
  · exact qV_sub [0] rfl (b_X11_hold_24 C hQ hn h)
  · refine x_iload_n C 2 dX11_hold_10 rfl rfl ?_
    refine x_iconst C dX11_hold_11 (v := -1) (by decide) ?_
    refine x_aload_n C 0 dX11_hold_12 rfl rfl ?_
    refine g_RX11_76 C hn dX11_hold_13 ?_
    refine x_iconst C dX11_hold_16 (v := 1) (by decide) ?_
    refine x_isub C dX11_hold_17 ?_
    refine i_RX11_79 (rest := []) C hn  rfl (by decide) rfl dX11_hold_18 h (fun r18 μ18 h => ?_)
    refine x_if_ne C dX11_hold_21 (tgt := 30) (by decide) h (fun h => ?_) (fun h => ?_)
    · refine x_aload_n C 0 dX11_hold_30 rfl rfl ?_
      refine g_RX11_19 C hn dX11_hold_31 ?_
      refine x_iload_n C 1 dX11_hold_34 rfl rfl ?_
      refine x_iload_n C 2 dX11_hold_35 rfl rfl ?_
      refine x_iast C 50 11 10 (q_lt rfl rfl hn) rfl rfl rfl rfl rfl dX11_hold_36 h (fun h => ?_)
      refine x_iconst C dX11_hold_37 (v := 1) (by decide) ?_
      exact x_iret C hQ dX11_hold_38 h
    · exact qV_sub [0] rfl (b_X11_hold_24 C hQ hn h)
theorem dX11_as_0 : decode cX11_as 0 = .ok (.iload_n 1, 1) := by decide +kernel
theorem dX11_as_1 : decode cX11_as 1 = .ok (.iconst 0, 1) := by decide +kernel
theorem dX11_as_2 : decode cX11_as 2 = .ok (.bipush 9, 2) := by decide +kernel
theorem dX11_as_4 : decode cX11_as 4 = .ok (.invokestatic 79, 3) := by decide +kernel
theorem dX11_as_7 : decode cX11_as 7 = .ok (.ifCond .eq 10, 3) := by decide +kernel
theorem dX11_as_10 : decode cX11_as 10 = .ok (.iload_n 2, 1) := by decide +kernel
theorem dX11_as_11 : decode cX11_as 11 = .ok (.invokestatic 113, 3) := by decide +kernel
theorem dX11_as_14 : decode cX11_as 14 = .ok (.ifCond .ne 9, 3) := by decide +kernel
theorem dX11_as_17 : decode cX11_as 17 = .ok (.aload_n 0, 1) := by decide +kernel
theorem dX11_as_18 : decode cX11_as 18 = .ok (.iconst 0, 1) := by decide +kernel
theorem dX11_as_19 : decode cX11_as 19 = .ok (.invokevirtual 119, 3) := by decide +kernel
theorem dX11_as_22 : decode cX11_as 22 = .ok (.ireturn, 1) := by decide +kernel
theorem dX11_as_23 : decode cX11_as 23 = .ok (.aload_n 0, 1) := by decide +kernel
theorem dX11_as_24 : decode cX11_as 24 = .ok (.aload_n 0, 1) := by decide +kernel
theorem dX11_as_25 : decode cX11_as 25 = .ok (.getfield 19, 3) := by decide +kernel
theorem dX11_as_28 : decode cX11_as 28 = .ok (.iload_n 1, 1) := by decide +kernel
theorem dX11_as_29 : decode cX11_as 29 = .ok (.iaload, 1) := by decide +kernel
theorem dX11_as_30 : decode cX11_as 30 = .ok (.invokevirtual 132, 3) := by decide +kernel
theorem dX11_as_33 : decode cX11_as 33 = .ok (.ifCond .ne 9, 3) := by decide +kernel
theorem dX11_as_36 : decode cX11_as 36 = .ok (.aload_n 0, 1) := by decide +kernel
theorem dX11_as_37 : decode cX11_as 37 = .ok (.iconst 5, 1) := by decide +kernel
theorem dX11_as_38 : decode cX11_as 38 = .ok (.invokevirtual 119, 3) := by decide +kernel
theorem dX11_as_41 : decode cX11_as 41 = .ok (.ireturn, 1) := by decide +kernel
theorem dX11_as_42 : decode cX11_as 42 = .ok (.aload_n 0, 1) := by decide +kernel
theorem dX11_as_43 : decode cX11_as 43 = .ok (.getfield 9, 3) := by decide +kernel
theorem dX11_as_46 : decode cX11_as 46 = .ok (.aload_n 0, 1) := by decide +kernel
theorem dX11_as_47 : decode cX11_as 47 = .ok (.getfield 19, 3) := by decide +kernel
theorem dX11_as_50 : decode cX11_as 50 = .ok (.iload_n 1, 1) := by decide +kernel
theorem dX11_as_51 : decode cX11_as 51 = .ok (.iaload, 1) := by decide +kernel
theorem dX11_as_52 : decode cX11_as 52 = .ok (.iaload, 1) := by decide +kernel
theorem dX11_as_53 : decode cX11_as 53 = .ok (.iload_n 2, 1) := by decide +kernel
theorem dX11_as_54 : decode cX11_as 54 = .ok (.invokestatic 308, 3) := by decide +kernel
theorem dX11_as_57 : decode cX11_as 57 = .ok (.ifCond .eq 12, 3) := by decide +kernel
theorem dX11_as_60 : decode cX11_as 60 = .ok (.aload_n 0, 1) := by decide +kernel
theorem dX11_as_61 : decode cX11_as 61 = .ok (.getfield 19, 3) := by decide +kernel
theorem dX11_as_64 : decode cX11_as 64 = .ok (.iload_n 1, 1) := by decide +kernel
theorem dX11_as_65 : decode cX11_as 65 = .ok (.iaload, 1) := by decide +kernel
theorem dX11_as_66 : decode cX11_as 66 = .ok (.goto 8, 3) := by decide +kernel
theorem dX11_as_69 : decode cX11_as 69 = .ok (.aload_n 0, 1) := by decide +kernel
theorem dX11_as_70 : decode cX11_as 70 = .ok (.iconst 2, 1) := by decide +kernel
theorem dX11_as_71 : decode cX11_as 71 = .ok (.invokevirtual 119, 3) := by decide +kernel
theorem dX11_as_74 : decode cX11_as 74 = .ok (.ireturn, 1) := by decide +kernel
theorem i_RX11_308 {Z : qZ} {G : qG} {cc : ByteArray} {nL k n : Nat} {rm : Room} {ret : Option FieldType} {μ : qM} {pc : Nat} {L : List (Nat × Value)} {rest : List Value} {K : Int32 → qM → Prop} {v0 : Int32} {v1 : Int32} (C : qX Z G RX11 cc nL rm ret) (hn : 66 ≤ gn G) (hR : (Nat.ble (1 + 1) rm.frames && Nat.ble (8 + (3 + 11) + 20) rm.locals) = true) (hf : k + 0 ≤ rm.cells ∧ n + 0 ≤ rm.slots) (hsz : Nat.ble (rest.map fun v => v.category).sum 8 = true) (hd : decode cc pc = .ok (.invokestatic 308, 3)) (h : w_X11_isUnder v0 v1 K μ) (hk : ∀ (r : Int32) (μ1 : qM), K r μ1 → qV Z G nL k n μ1 (pc + 3) L (.int r :: rest)) : qV Z G nL k n μ pc L (.int v1 :: .int v0 :: rest) := x_Si [.int v0, .int v1] rest C (wp := fun K => w_X11_isUnder v0 v1 K μ) (y_X11_isUnder : qY yX11_isUnder cX11_isUnder 3 (some .boolean) 2 ({ frames := 1, cells := 0, slots := 0, locals := 20 } : Room) 0 0) (qm_46 _ (List.mem_of_getElem? (i := 10) rfl)) (qm_46 _ (List.mem_of_getElem? (i := 9) rfl)) (c_X11_isUnder Z.2.1 G hn ) hR hf rfl rfl hsz hd h hk
theorem b_X11_as_17 {Z : qZ} {G : qG} {μ : qM} {post : Int32 → qM → Prop} (C : qX Z G RX11 cX11_as 3 ({ frames := 2, cells := 0, slots := 0, locals := 43 } : Room) (some .int)) (hQ : qQi Z G 0 0 post) (hn : 66 ≤ gn G) (h : q_X11_as_17 post μ) : qV Z G 3 0 0 μ 17 [(0, .ref (ga G 46))] [] := by
  unfold q_X11_as_17 at h
  refine x_aload_n C 0 dX11_as_17 rfl rfl ?_
  refine x_iconst C dX11_as_18 (v := 0) (by decide) ?_
  refine i_RX11_119 (rest := []) C hn  rfl (by decide) rfl dX11_as_19 h (fun r19 μ19 h => ?_)
  exact x_iret C hQ dX11_as_22 h
theorem y_X11_as : qY yX11_as cX11_as 3 (some .int) 2 ({ frames := 2, cells := 0, slots := 0, locals := 43 } : Room) 0 0 := ⟨(qm_46 _ (List.mem_of_getElem? (i := 8) rfl)), (qm_1 _ (List.mem_of_getElem? (i := 5) rfl)), by decide +kernel, by decide +kernel, rfl, rfl⟩
theorem c_X11_as (l : Launch) (G : qG) {v1 : Int32} {v2 : Int32} {μ : qM} (hn : 66 ≤ gn G) : qCi l G yX11_as cX11_as 3 (some .int) ({ frames := 2, cells := 0, slots := 0, locals := 43 } : Room) 0 0 [.ref (ga G 46), .int v1, .int v2] μ (fun post => w_X11_as v1 v2 post μ) := by
  refine qCi_of (L := [(0, .ref (ga G 46)), (1, .int v1), (2, .int v2)]) (by decide) rfl rfl ?_
  intro Z post hl C hQ h
  have C : qX Z G RX11 cX11_as 3 ({ frames := 2, cells := 0, slots := 0, locals := 43 } : Room) (some .int) := C
  have h : w_X11_as v1 v2 post μ := h
  unfold w_X11_as at h
  refine x_iload_n C 1 dX11_as_0 rfl rfl ?_
  refine x_iconst C dX11_as_1 (v := 0) (by decide) ?_
  refine x_bipush C dX11_as_2 (v := 9) (by decide) ?_
  refine i_RX11_79 (rest := []) C hn  rfl (by decide) rfl dX11_as_4 h (fun r4 μ4 h => ?_)
  refine x_if_eq C dX11_as_7 (tgt := 17) (by decide) h (fun h => ?_) (fun h => ?_)
  · exact qV_sub [0] rfl (b_X11_as_17 C hQ hn h)
  · refine x_iload_n C 2 dX11_as_10 rfl rfl ?_
    refine i_RX11_113 (rest := []) C hn  rfl (by decide) rfl dX11_as_11 h (fun r11 μ11 h => ?_)
    refine x_if_ne C dX11_as_14 (tgt := 23) (by decide) h (fun h => ?_) (fun h => ?_)
    · refine x_aload_n C 0 dX11_as_23 rfl rfl ?_
      refine x_aload_n C 0 dX11_as_24 rfl rfl ?_
      refine g_RX11_19 C hn dX11_as_25 ?_
      refine x_iload_n C 1 dX11_as_28 rfl rfl ?_
      refine x_iald C 50 11 10 (q_lt rfl rfl hn) rfl rfl rfl rfl rfl dX11_as_29 h (fun h => ?_)
      refine i_RX11_132 (rest := []) C hn  rfl (by decide) rfl dX11_as_30 h (fun r30 μ30 h => ?_)
      refine x_if_ne C dX11_as_33 (tgt := 42) (by decide) h (fun h => ?_) (fun h => ?_)
      · refine x_aload_n C 0 dX11_as_42 rfl rfl ?_
        refine g_RX11_9 C hn dX11_as_43 ?_
        refine x_aload_n C 0 dX11_as_46 rfl rfl ?_
        refine g_RX11_19 C hn dX11_as_47 ?_
        refine x_iload_n C 1 dX11_as_50 rfl rfl ?_
        refine x_iald C 50 11 10 (q_lt rfl rfl hn) rfl rfl rfl rfl rfl dX11_as_51 h (fun h => ?_)
        refine x_iald C 47 19 154 (q_lt rfl rfl hn) rfl rfl rfl rfl rfl dX11_as_52 h (fun h => ?_)
        refine x_iload_n C 2 dX11_as_53 rfl rfl ?_
        refine i_RX11_308 (rest := []) C hn  rfl (by decide) rfl dX11_as_54 h (fun r54 μ54 h => ?_)
        refine x_if_eq C dX11_as_57 (tgt := 69) (by decide) h (fun h => ?_) (fun h => ?_)
        · refine x_aload_n C 0 dX11_as_69 rfl rfl ?_
          refine x_iconst C dX11_as_70 (v := 2) (by decide) ?_
          refine i_RX11_119 (rest := []) C hn  rfl (by decide) rfl dX11_as_71 h (fun r71 μ71 h => ?_)
          exact x_iret C hQ dX11_as_74 h
        · refine x_aload_n C 0 dX11_as_60 rfl rfl ?_
          refine g_RX11_19 C hn dX11_as_61 ?_
          refine x_iload_n C 1 dX11_as_64 rfl rfl ?_
          refine x_iald C 50 11 10 (q_lt rfl rfl hn) rfl rfl rfl rfl rfl dX11_as_65 h (fun h => ?_)
          refine x_goto C dX11_as_66 (tgt := 74) (by decide) ?_
          exact x_iret C hQ dX11_as_74 h
      · refine x_aload_n C 0 dX11_as_36 rfl rfl ?_
        refine x_iconst C dX11_as_37 (v := 5) (by decide) ?_
        refine i_RX11_119 (rest := []) C hn  rfl (by decide) rfl dX11_as_38 h (fun r38 μ38 h => ?_)
        exact x_iret C hQ dX11_as_41 h
    · exact qV_sub [0] rfl (b_X11_as_17 C hQ hn h)
theorem dX11_isSheet_0 : decode cX11_isSheet 0 = .ok (.iload_n 0, 1) := by decide +kernel
theorem dX11_isSheet_1 : decode cX11_isSheet 1 = .ok (.iconst 0, 1) := by decide +kernel
theorem dX11_isSheet_2 : decode cX11_isSheet 2 = .ok (.iconst 3, 1) := by decide +kernel
theorem dX11_isSheet_3 : decode cX11_isSheet 3 = .ok (.invokestatic 79, 3) := by decide +kernel
theorem dX11_isSheet_6 : decode cX11_isSheet 6 = .ok (.ireturn, 1) := by decide +kernel
theorem y_X11_isSheet : qY yX11_isSheet cX11_isSheet 1 (some .boolean) 1 ({ frames := 1, cells := 0, slots := 0, locals := 22 } : Room) 0 0 := ⟨(qm_47 _ (List.mem_of_getElem? (i := 15) rfl)), (qm_1 _ (List.mem_of_getElem? (i := 5) rfl)), by decide +kernel, by decide +kernel, rfl, rfl⟩
theorem c_X11_isSheet (l : Launch) (G : qG) {v0 : Int32} {μ : qM} (hn : 66 ≤ gn G) : qCi l G yX11_isSheet cX11_isSheet 1 (some .boolean) ({ frames := 1, cells := 0, slots := 0, locals := 22 } : Room) 0 0 [.int v0] μ (fun post => w_X11_isSheet v0 post μ) := by
  refine qCi_of (L := [(0, .int v0)]) (by decide) rfl rfl ?_
  intro Z post hl C hQ h
  have C : qX Z G RX11 cX11_isSheet 1 ({ frames := 1, cells := 0, slots := 0, locals := 22 } : Room) (some .boolean) := C
  have h : w_X11_isSheet v0 post μ := h
  unfold w_X11_isSheet at h
  refine x_iload_n C 0 dX11_isSheet_0 rfl rfl ?_
  refine x_iconst C dX11_isSheet_1 (v := 0) (by decide) ?_
  refine x_iconst C dX11_isSheet_2 (v := 3) (by decide) ?_
  refine i_RX11_79 (rest := []) C hn  rfl (by decide) rfl dX11_isSheet_3 h (fun r3 μ3 h => ?_)
  exact x_zret C hQ dX11_isSheet_6 h
theorem dX11_cut_0 : decode cX11_cut 0 = .ok (.iload_n 1, 1) := by decide +kernel
theorem dX11_cut_1 : decode cX11_cut 1 = .ok (.bipush 8, 2) := by decide +kernel
theorem dX11_cut_3 : decode cX11_cut 3 = .ok (.if_icmp .ne 8, 3) := by decide +kernel
theorem dX11_cut_6 : decode cX11_cut 6 = .ok (.iload_n 0, 1) := by decide +kernel
theorem dX11_cut_7 : decode cX11_cut 7 = .ok (.i2b, 1) := by decide +kernel
theorem dX11_cut_8 : decode cX11_cut 8 = .ok (.goto 15, 3) := by decide +kernel
theorem dX11_cut_11 : decode cX11_cut 11 = .ok (.iload_n 1, 1) := by decide +kernel
theorem dX11_cut_12 : decode cX11_cut 12 = .ok (.bipush 16, 2) := by decide +kernel
theorem dX11_cut_14 : decode cX11_cut 14 = .ok (.if_icmp .ne 8, 3) := by decide +kernel
theorem dX11_cut_17 : decode cX11_cut 17 = .ok (.iload_n 0, 1) := by decide +kernel
theorem dX11_cut_18 : decode cX11_cut 18 = .ok (.i2s, 1) := by decide +kernel
theorem dX11_cut_19 : decode cX11_cut 19 = .ok (.goto 4, 3) := by decide +kernel
theorem dX11_cut_22 : decode cX11_cut 22 = .ok (.iload_n 0, 1) := by decide +kernel
theorem dX11_cut_23 : decode cX11_cut 23 = .ok (.ireturn, 1) := by decide +kernel
theorem y_X11_cut : qY yX11_cut cX11_cut 2 (some .int) 2 ({ frames := 0, cells := 0, slots := 0, locals := 0 } : Room) 0 0 := ⟨(qm_48 _ (List.mem_of_getElem? (i := 14) rfl)), (qm_1 _ (List.mem_of_getElem? (i := 5) rfl)), by decide +kernel, by decide +kernel, rfl, rfl⟩
theorem c_X11_cut (l : Launch) (G : qG) {v0 : Int32} {v1 : Int32} {μ : qM} (hn : 66 ≤ gn G) : qCi l G yX11_cut cX11_cut 2 (some .int) ({ frames := 0, cells := 0, slots := 0, locals := 0 } : Room) 0 0 [.int v0, .int v1] μ (fun post => w_X11_cut v0 v1 post μ) := by
  refine qCi_of (L := [(0, .int v0), (1, .int v1)]) (by decide) rfl rfl ?_
  intro Z post hl C hQ h
  have C : qX Z G RX11 cX11_cut 2 ({ frames := 0, cells := 0, slots := 0, locals := 0 } : Room) (some .int) := C
  have h : w_X11_cut v0 v1 post μ := h
  unfold w_X11_cut at h
  refine x_iload_n C 1 dX11_cut_0 rfl rfl ?_
  refine x_bipush C dX11_cut_1 (v := 8) (by decide) ?_
  refine x_icmp_ne C dX11_cut_3 (tgt := 11) (by decide) h (fun h => ?_) (fun h => ?_)
  · refine x_iload_n C 1 dX11_cut_11 rfl rfl ?_
    refine x_bipush C dX11_cut_12 (v := 16) (by decide) ?_
    refine x_icmp_ne C dX11_cut_14 (tgt := 22) (by decide) h (fun h => ?_) (fun h => ?_)
    · refine x_iload_n C 0 dX11_cut_22 rfl rfl ?_
      exact x_iret C hQ dX11_cut_23 h
    · refine x_iload_n C 0 dX11_cut_17 rfl rfl ?_
      refine x_i2s C dX11_cut_18 ?_
      refine x_goto C dX11_cut_19 (tgt := 23) (by decide) ?_
      exact x_iret C hQ dX11_cut_23 h
  · refine x_iload_n C 0 dX11_cut_6 rfl rfl ?_
    refine x_i2b C dX11_cut_7 ?_
    refine x_goto C dX11_cut_8 (tgt := 23) (by decide) ?_
    exact x_iret C hQ dX11_cut_23 h
theorem dX11_sheet_0 : decode cX11_sheet 0 = .ok (.iload_n 2, 1) := by decide +kernel
theorem dX11_sheet_1 : decode cX11_sheet 1 = .ok (.ifCond .eq 21, 3) := by decide +kernel
theorem dX11_sheet_4 : decode cX11_sheet 4 = .ok (.iload_n 2, 1) := by decide +kernel
theorem dX11_sheet_5 : decode cX11_sheet 5 = .ok (.bipush 8, 2) := by decide +kernel
theorem dX11_sheet_7 : decode cX11_sheet 7 = .ok (.if_icmp .eq 15, 3) := by decide +kernel
theorem dX11_sheet_10 : decode cX11_sheet 10 = .ok (.iload_n 2, 1) := by decide +kernel
theorem dX11_sheet_11 : decode cX11_sheet 11 = .ok (.bipush 16, 2) := by decide +kernel
theorem dX11_sheet_13 : decode cX11_sheet 13 = .ok (.if_icmp .eq 9, 3) := by decide +kernel
theorem dX11_sheet_16 : decode cX11_sheet 16 = .ok (.iload_n 2, 1) := by decide +kernel
theorem dX11_sheet_17 : decode cX11_sheet 17 = .ok (.bipush 32, 2) := by decide +kernel
theorem dX11_sheet_19 : decode cX11_sheet 19 = .ok (.if_icmp .ne 7, 3) := by decide +kernel
theorem dX11_sheet_22 : decode cX11_sheet 22 = .ok (.iconst 1, 1) := by decide +kernel
theorem dX11_sheet_23 : decode cX11_sheet 23 = .ok (.goto 4, 3) := by decide +kernel
theorem dX11_sheet_26 : decode cX11_sheet 26 = .ok (.iconst 0, 1) := by decide +kernel
theorem dX11_sheet_27 : decode cX11_sheet 27 = .ok (.istore 4, 2) := by decide +kernel
theorem dX11_sheet_29 : decode cX11_sheet 29 = .ok (.iload_n 1, 1) := by decide +kernel
theorem dX11_sheet_30 : decode cX11_sheet 30 = .ok (.invokestatic 311, 3) := by decide +kernel
theorem dX11_sheet_33 : decode cX11_sheet 33 = .ok (.ifCond .eq 8, 3) := by decide +kernel
theorem dX11_sheet_36 : decode cX11_sheet 36 = .ok (.iload 4, 2) := by decide +kernel
theorem dX11_sheet_38 : decode cX11_sheet 38 = .ok (.ifCond .ne 9, 3) := by decide +kernel
theorem dX11_sheet_41 : decode cX11_sheet 41 = .ok (.aload_n 0, 1) := by decide +kernel
theorem dX11_sheet_42 : decode cX11_sheet 42 = .ok (.iconst 0, 1) := by decide +kernel
theorem dX11_sheet_43 : decode cX11_sheet 43 = .ok (.invokevirtual 119, 3) := by decide +kernel
theorem dX11_sheet_46 : decode cX11_sheet 46 = .ok (.ireturn, 1) := by decide +kernel
theorem dX11_sheet_47 : decode cX11_sheet 47 = .ok (.iload_n 3, 1) := by decide +kernel
theorem dX11_sheet_48 : decode cX11_sheet 48 = .ok (.ifCond .ge 10, 3) := by decide +kernel
theorem dX11_sheet_51 : decode cX11_sheet 51 = .ok (.aload_n 0, 1) := by decide +kernel
theorem dX11_sheet_52 : decode cX11_sheet 52 = .ok (.bipush 6, 2) := by decide +kernel
theorem dX11_sheet_54 : decode cX11_sheet 54 = .ok (.invokevirtual 119, 3) := by decide +kernel
theorem dX11_sheet_57 : decode cX11_sheet 57 = .ok (.ireturn, 1) := by decide +kernel
theorem dX11_sheet_58 : decode cX11_sheet 58 = .ok (.iload_n 3, 1) := by decide +kernel
theorem dX11_sheet_59 : decode cX11_sheet 59 = .ok (.bipush 40, 2) := by decide +kernel
theorem dX11_sheet_61 : decode cX11_sheet 61 = .ok (.if_icmp .le 9, 3) := by decide +kernel
theorem dX11_sheet_64 : decode cX11_sheet 64 = .ok (.aload_n 0, 1) := by decide +kernel
theorem dX11_sheet_65 : decode cX11_sheet 65 = .ok (.iconst 0, 1) := by decide +kernel
theorem dX11_sheet_66 : decode cX11_sheet 66 = .ok (.invokevirtual 119, 3) := by decide +kernel
theorem dX11_sheet_69 : decode cX11_sheet 69 = .ok (.ireturn, 1) := by decide +kernel
theorem dX11_sheet_70 : decode cX11_sheet 70 = .ok (.aload_n 0, 1) := by decide +kernel
theorem dX11_sheet_71 : decode cX11_sheet 71 = .ok (.getfield 63, 3) := by decide +kernel
theorem dX11_sheet_74 : decode cX11_sheet 74 = .ok (.iload_n 1, 1) := by decide +kernel
theorem dX11_sheet_75 : decode cX11_sheet 75 = .ok (.iload_n 2, 1) := by decide +kernel
theorem dX11_sheet_76 : decode cX11_sheet 76 = .ok (.iastore, 1) := by decide +kernel
theorem dX11_sheet_77 : decode cX11_sheet 77 = .ok (.aload_n 0, 1) := by decide +kernel
theorem dX11_sheet_78 : decode cX11_sheet 78 = .ok (.getfield 66, 3) := by decide +kernel
theorem dX11_sheet_81 : decode cX11_sheet 81 = .ok (.iload_n 1, 1) := by decide +kernel
theorem dX11_sheet_82 : decode cX11_sheet 82 = .ok (.iload_n 2, 1) := by decide +kernel
theorem dX11_sheet_83 : decode cX11_sheet 83 = .ok (.ifCond .ne 7, 3) := by decide +kernel
theorem dX11_sheet_86 : decode cX11_sheet 86 = .ok (.iconst 0, 1) := by decide +kernel
theorem dX11_sheet_87 : decode cX11_sheet 87 = .ok (.goto 4, 3) := by decide +kernel
theorem dX11_sheet_90 : decode cX11_sheet 90 = .ok (.iload_n 3, 1) := by decide +kernel
theorem dX11_sheet_91 : decode cX11_sheet 91 = .ok (.iastore, 1) := by decide +kernel
theorem dX11_sheet_92 : decode cX11_sheet 92 = .ok (.iconst 0, 1) := by decide +kernel
theorem dX11_sheet_93 : decode cX11_sheet 93 = .ok (.istore 5, 2) := by decide +kernel
theorem dX11_sheet_95 : decode cX11_sheet 95 = .ok (.iload 5, 2) := by decide +kernel
theorem dX11_sheet_97 : decode cX11_sheet 97 = .ok (.bipush 40, 2) := by decide +kernel
theorem dX11_sheet_99 : decode cX11_sheet 99 = .ok (.if_icmp .ge 22, 3) := by decide +kernel
theorem dX11_sheet_102 : decode cX11_sheet 102 = .ok (.aload_n 0, 1) := by decide +kernel
theorem dX11_sheet_103 : decode cX11_sheet 103 = .ok (.getfield 69, 3) := by decide +kernel
theorem dX11_sheet_106 : decode cX11_sheet 106 = .ok (.bipush 40, 2) := by decide +kernel
theorem dX11_sheet_108 : decode cX11_sheet 108 = .ok (.iload_n 1, 1) := by decide +kernel
theorem dX11_sheet_109 : decode cX11_sheet 109 = .ok (.imul, 1) := by decide +kernel
theorem dX11_sheet_110 : decode cX11_sheet 110 = .ok (.iload 5, 2) := by decide +kernel
theorem dX11_sheet_112 : decode cX11_sheet 112 = .ok (.iadd, 1) := by decide +kernel
theorem dX11_sheet_113 : decode cX11_sheet 113 = .ok (.iconst 0, 1) := by decide +kernel
theorem dX11_sheet_114 : decode cX11_sheet 114 = .ok (.iastore, 1) := by decide +kernel
theorem dX11_sheet_115 : decode cX11_sheet 115 = .ok (.iinc 5 1, 3) := by decide +kernel
theorem dX11_sheet_118 : decode cX11_sheet 118 = .ok (.goto (-23), 3) := by decide +kernel
theorem dX11_sheet_121 : decode cX11_sheet 121 = .ok (.aload_n 0, 1) := by decide +kernel
theorem dX11_sheet_122 : decode cX11_sheet 122 = .ok (.getfield 66, 3) := by decide +kernel
theorem dX11_sheet_125 : decode cX11_sheet 125 = .ok (.iload_n 1, 1) := by decide +kernel
theorem dX11_sheet_126 : decode cX11_sheet 126 = .ok (.iaload, 1) := by decide +kernel
theorem dX11_sheet_127 : decode cX11_sheet 127 = .ok (.ireturn, 1) := by decide +kernel
theorem i_RX11_311 {Z : qZ} {G : qG} {cc : ByteArray} {nL k n : Nat} {rm : Room} {ret : Option FieldType} {μ : qM} {pc : Nat} {L : List (Nat × Value)} {rest : List Value} {K : Int32 → qM → Prop} {v0 : Int32} (C : qX Z G RX11 cc nL rm ret) (hn : 66 ≤ gn G) (hR : (Nat.ble (1 + 1) rm.frames && Nat.ble (8 + (1 + 11) + 22) rm.locals) = true) (hf : k + 0 ≤ rm.cells ∧ n + 0 ≤ rm.slots) (hsz : Nat.ble (rest.map fun v => v.category).sum 8 = true) (hd : decode cc pc = .ok (.invokestatic 311, 3)) (h : w_X11_isSheet v0 K μ) (hk : ∀ (r : Int32) (μ1 : qM), K r μ1 → qV Z G nL k n μ1 (pc + 3) L (.int r :: rest)) : qV Z G nL k n μ pc L (.int v0 :: rest) := x_Si [.int v0] rest C (wp := fun K => w_X11_isSheet v0 K μ) (y_X11_isSheet : qY yX11_isSheet cX11_isSheet 1 (some .boolean) 1 ({ frames := 1, cells := 0, slots := 0, locals := 22 } : Room) 0 0) (qm_47 _ (List.mem_of_getElem? (i := 14) rfl)) (qm_47 _ (List.mem_of_getElem? (i := 13) rfl)) (c_X11_isSheet Z.2.1 G hn ) hR hf rfl rfl hsz hd h hk
theorem g_RX11_63 {Z : qZ} {G : qG} {cc : ByteArray} {nL k n : Nat} {rm : Room} {ret : Option FieldType} {μ : qM} {pc : Nat} {L : List (Nat × Value)} {st : List Value} (C : qX Z G RX11 cc nL rm ret) (hn : 66 ≤ gn G) (hd : decode cc pc = .ok (.getfield 63, 3)) (h : qV Z G nL k n μ (pc + 3) L (.ref (ga G 62) :: st)) : qV Z G nL k n μ pc L (.ref (ga G 46) :: st) := x_getr C 46 10 35 16 62 (C0 := RX11) (fn := "bitsOf") (fd := "[I") (Nat.lt_of_lt_of_le (by decide) hn) rfl (by decide) rfl (by decide) rfl inlX11 (qm_6 _ (List.mem_of_getElem? (i := 8) rfl)) rfl rfl rfl hd h
theorem g_RX11_66 {Z : qZ} {G : qG} {cc : ByteArray} {nL k n : Nat} {rm : Room} {ret : Option FieldType} {μ : qM} {pc : Nat} {L : List (Nat × Value)} {st : List Value} (C : qX Z G RX11 cc nL rm ret) (hn : 66 ≤ gn G) (hd : decode cc pc = .ok (.getfield 66, 3)) (h : qV Z G nL k n μ (pc + 3) L (.ref (ga G 63) :: st)) : qV Z G nL k n μ pc L (.ref (ga G 46) :: st) := x_getr C 46 10 36 17 63 (C0 := RX11) (fn := "sizeOf") (fd := "[I") (Nat.lt_of_lt_of_le (by decide) hn) rfl (by decide) rfl (by decide) rfl inlX11 (qm_6 _ (List.mem_of_getElem? (i := 9) rfl)) rfl rfl rfl hd h
theorem g_RX11_69 {Z : qZ} {G : qG} {cc : ByteArray} {nL k n : Nat} {rm : Room} {ret : Option FieldType} {μ : qM} {pc : Nat} {L : List (Nat × Value)} {st : List Value} (C : qX Z G RX11 cc nL rm ret) (hn : 66 ≤ gn G) (hd : decode cc pc = .ok (.getfield 69, 3)) (h : qV Z G nL k n μ (pc + 3) L (.ref (ga G 64) :: st)) : qV Z G nL k n μ pc L (.ref (ga G 46) :: st) := x_getr C 46 10 37 18 64 (C0 := RX11) (fn := "number") (fd := "[I") (Nat.lt_of_lt_of_le (by decide) hn) rfl (by decide) rfl (by decide) rfl inlX11 (qm_6 _ (List.mem_of_getElem? (i := 10) rfl)) rfl rfl rfl hd h
theorem b_X11_sheet_95 {Z : qZ} {G : qG} {v1 : Int32} {v5 : Int32} {μ : qM} {post : Int32 → qM → Prop} (C : qX Z G RX11 cX11_sheet 6 ({ frames := 2, cells := 0, slots := 0, locals := 42 } : Room) (some .int)) (hQ : qQi Z G 0 0 post) (hn : 66 ≤ gn G) (h : q_X11_sheet_95 v1 post v5 μ) : qV Z G 6 0 0 μ 95 [(0, .ref (ga G 46)), (1, .int v1), (5, .int v5)] [] := by
  refine h (fun v5 μ => qV Z G 6 0 0 μ 95 [(0, .ref (ga G 46)), (1, .int v1), (5, .int v5)] []) (fun v5 μ h => ?_)
  refine x_iload C 2 dX11_sheet_95 rfl ?_
  refine x_bipush C dX11_sheet_97 (v := 40) (by decide) ?_
  refine x_icmp_ge C dX11_sheet_99 (tgt := 121) (by decide) h (fun h => ?_) (fun h => ?_)
  · refine x_aload_n C 0 dX11_sheet_121 rfl rfl ?_
    refine g_RX11_66 C hn dX11_sheet_122 ?_
    refine x_iload_n C 1 dX11_sheet_125 rfl rfl ?_
    refine x_iald C 63 21 4 (q_lt rfl rfl hn) rfl rfl rfl rfl rfl dX11_sheet_126 h (fun h => ?_)
    exact x_iret C hQ dX11_sheet_127 h
  · refine x_aload_n C 0 dX11_sheet_102 rfl rfl ?_
    refine g_RX11_69 C hn dX11_sheet_103 ?_
    refine x_bipush C dX11_sheet_106 (v := 40) (by decide) ?_
    refine x_iload_n C 1 dX11_sheet_108 rfl rfl ?_
    refine x_imul C dX11_sheet_109 ?_
    refine x_iload C 2 dX11_sheet_110 rfl ?_
    refine x_iadd C dX11_sheet_112 ?_
    refine x_iconst C dX11_sheet_113 (v := 0) (by decide) ?_
    refine x_iast C 64 22 160 (q_lt rfl rfl hn) rfl rfl rfl rfl rfl dX11_sheet_114 h (fun h => ?_)
    refine x_iinc C 2 (v := 1) (L' := [(5, .int ((v5 + 1))), (0, .ref (ga G 46)), (1, .int v1)]) dX11_sheet_115 rfl (by decide) (by decide) rfl ?_
    refine x_goto C dX11_sheet_118 (tgt := 95) (by decide) ?_
    exact qV_sub [1, 2, 0] rfl (h)
theorem b_X11_sheet_91 {Z : qZ} {G : qG} {v1 : Int32} {s0 : Int32} {s1 : Int32} {μ : qM} {post : Int32 → qM → Prop} (C : qX Z G RX11 cX11_sheet 6 ({ frames := 2, cells := 0, slots := 0, locals := 42 } : Room) (some .int)) (hQ : qQi Z G 0 0 post) (hn : 66 ≤ gn G) (h : q_X11_sheet_91 post v1 s0 s1 μ) : qV Z G 6 0 0 μ 91 [(0, .ref (ga G 46)), (1, .int v1)] [.int s0, .int s1, .ref (ga G 63)] := by
  unfold q_X11_sheet_91 at h
  refine x_iast C 63 21 4 (q_lt rfl rfl hn) rfl rfl rfl rfl rfl dX11_sheet_91 h (fun h => ?_)
  refine x_iconst C dX11_sheet_92 (v := 0) (by decide) ?_
  refine x_istore C (L' := [(5, .int ((0 : Int32))), (0, .ref (ga G 46)), (1, .int v1)]) dX11_sheet_93 (by decide) rfl ?_
  exact qV_sub [1, 2, 0] rfl (b_X11_sheet_95 C hQ hn h)
theorem b_X11_sheet_41 {Z : qZ} {G : qG} {μ : qM} {post : Int32 → qM → Prop} (C : qX Z G RX11 cX11_sheet 6 ({ frames := 2, cells := 0, slots := 0, locals := 42 } : Room) (some .int)) (hQ : qQi Z G 0 0 post) (hn : 66 ≤ gn G) (h : q_X11_sheet_41 post μ) : qV Z G 6 0 0 μ 41 [(0, .ref (ga G 46))] [] := by
  unfold q_X11_sheet_41 at h
  refine x_aload_n C 0 dX11_sheet_41 rfl rfl ?_
  refine x_iconst C dX11_sheet_42 (v := 0) (by decide) ?_
  refine i_RX11_119 (rest := []) C hn  rfl (by decide) rfl dX11_sheet_43 h (fun r43 μ43 h => ?_)
  exact x_iret C hQ dX11_sheet_46 h
theorem b_X11_sheet_27 {Z : qZ} {G : qG} {v1 : Int32} {v2 : Int32} {v3 : Int32} {s0 : Int32} {μ : qM} {post : Int32 → qM → Prop} (C : qX Z G RX11 cX11_sheet 6 ({ frames := 2, cells := 0, slots := 0, locals := 42 } : Room) (some .int)) (hQ : qQi Z G 0 0 post) (hn : 66 ≤ gn G) (h : q_X11_sheet_27 post v1 v2 v3 s0 μ) : qV Z G 6 0 0 μ 27 [(0, .ref (ga G 46)), (1, .int v1), (2, .int v2), (3, .int v3)] [.int s0] := by
  unfold q_X11_sheet_27 at h
  refine x_istore C (L' := [(4, .int s0), (0, .ref (ga G 46)), (1, .int v1), (2, .int v2), (3, .int v3)]) dX11_sheet_27 (by decide) rfl ?_
  refine x_iload_n C 2 dX11_sheet_29 rfl rfl ?_
  refine i_RX11_311 (rest := []) C hn  rfl (by decide) rfl dX11_sheet_30 h (fun r30 μ30 h => ?_)
  refine x_if_eq C dX11_sheet_33 (tgt := 41) (by decide) h (fun h => ?_) (fun h => ?_)
  · exact qV_sub [1] rfl (b_X11_sheet_41 C hQ hn h)
  · refine x_iload C 0 dX11_sheet_36 rfl ?_
    refine x_if_ne C dX11_sheet_38 (tgt := 47) (by decide) h (fun h => ?_) (fun h => ?_)
    · refine x_iload_n C 4 dX11_sheet_47 rfl rfl ?_
      refine x_if_ge C dX11_sheet_48 (tgt := 58) (by decide) h (fun h => ?_) (fun h => ?_)
      · refine x_iload_n C 4 dX11_sheet_58 rfl rfl ?_
        refine x_bipush C dX11_sheet_59 (v := 40) (by decide) ?_
        refine x_icmp_le C dX11_sheet_61 (tgt := 70) (by decide) h (fun h => ?_) (fun h => ?_)
        · refine x_aload_n C 1 dX11_sheet_70 rfl rfl ?_
          refine g_RX11_63 C hn dX11_sheet_71 ?_
          refine x_iload_n C 2 dX11_sheet_74 rfl rfl ?_
          refine x_iload_n C 3 dX11_sheet_75 rfl rfl ?_
          refine x_iast C 62 21 4 (q_lt rfl rfl hn) rfl rfl rfl rfl rfl dX11_sheet_76 h (fun h => ?_)
          refine x_aload_n C 1 dX11_sheet_77 rfl rfl ?_
          refine g_RX11_66 C hn dX11_sheet_78 ?_
          refine x_iload_n C 2 dX11_sheet_81 rfl rfl ?_
          refine x_iload_n C 3 dX11_sheet_82 rfl rfl ?_
          refine x_if_ne C dX11_sheet_83 (tgt := 90) (by decide) h (fun h => ?_) (fun h => ?_)
          · refine x_iload_n C 4 dX11_sheet_90 rfl rfl ?_
            exact qV_sub [1, 2] rfl (b_X11_sheet_91 C hQ hn h)
          · refine x_iconst C dX11_sheet_86 (v := 0) (by decide) ?_
            refine x_goto C dX11_sheet_87 (tgt := 91) (by decide) ?_
            exact qV_sub [1, 2] rfl (b_X11_sheet_91 C hQ hn h)
        · refine x_aload_n C 1 dX11_sheet_64 rfl rfl ?_
          refine x_iconst C dX11_sheet_65 (v := 0) (by decide) ?_
          refine i_RX11_119 (rest := []) C hn  rfl (by decide) rfl dX11_sheet_66 h (fun r66 μ66 h => ?_)
          exact x_iret C hQ dX11_sheet_69 h
      · refine x_aload_n C 1 dX11_sheet_51 rfl rfl ?_
        refine x_bipush C dX11_sheet_52 (v := 6) (by decide) ?_
        refine i_RX11_119 (rest := []) C hn  rfl (by decide) rfl dX11_sheet_54 h (fun r54 μ54 h => ?_)
        exact x_iret C hQ dX11_sheet_57 h
    · exact qV_sub [1] rfl (b_X11_sheet_41 C hQ hn h)
theorem b_X11_sheet_22 {Z : qZ} {G : qG} {v1 : Int32} {v2 : Int32} {v3 : Int32} {μ : qM} {post : Int32 → qM → Prop} (C : qX Z G RX11 cX11_sheet 6 ({ frames := 2, cells := 0, slots := 0, locals := 42 } : Room) (some .int)) (hQ : qQi Z G 0 0 post) (hn : 66 ≤ gn G) (h : q_X11_sheet_22 post v1 v2 v3 μ) : qV Z G 6 0 0 μ 22 [(0, .ref (ga G 46)), (1, .int v1), (2, .int v2), (3, .int v3)] [] := by
  unfold q_X11_sheet_22 at h
  refine x_iconst C dX11_sheet_22 (v := 1) (by decide) ?_
  refine x_goto C dX11_sheet_23 (tgt := 27) (by decide) ?_
  exact b_X11_sheet_27 C hQ hn h
theorem y_X11_sheet : qY yX11_sheet cX11_sheet 6 (some .int) 3 ({ frames := 2, cells := 0, slots := 0, locals := 42 } : Room) 0 0 := ⟨(qm_47 _ (List.mem_of_getElem? (i := 12) rfl)), (qm_1 _ (List.mem_of_getElem? (i := 5) rfl)), by decide +kernel, by decide +kernel, rfl, rfl⟩
theorem c_X11_sheet (l : Launch) (G : qG) {v1 : Int32} {v2 : Int32} {v3 : Int32} {μ : qM} (hn : 66 ≤ gn G) : qCi l G yX11_sheet cX11_sheet 6 (some .int) ({ frames := 2, cells := 0, slots := 0, locals := 42 } : Room) 0 0 [.ref (ga G 46), .int v1, .int v2, .int v3] μ (fun post => w_X11_sheet v1 v2 v3 post μ) := by
  refine qCi_of (L := [(0, .ref (ga G 46)), (1, .int v1), (2, .int v2), (3, .int v3)]) (by decide) rfl rfl ?_
  intro Z post hl C hQ h
  have C : qX Z G RX11 cX11_sheet 6 ({ frames := 2, cells := 0, slots := 0, locals := 42 } : Room) (some .int) := C
  have h : w_X11_sheet v1 v2 v3 post μ := h
  unfold w_X11_sheet at h
  refine x_iload_n C 2 dX11_sheet_0 rfl rfl ?_
  refine x_if_eq C dX11_sheet_1 (tgt := 22) (by decide) h (fun h => ?_) (fun h => ?_)
  · exact b_X11_sheet_22 C hQ hn h
  · refine x_iload_n C 2 dX11_sheet_4 rfl rfl ?_
    refine x_bipush C dX11_sheet_5 (v := 8) (by decide) ?_
    refine x_icmp_eq C dX11_sheet_7 (tgt := 22) (by decide) h (fun h => ?_) (fun h => ?_)
    · exact b_X11_sheet_22 C hQ hn h
    · refine x_iload_n C 2 dX11_sheet_10 rfl rfl ?_
      refine x_bipush C dX11_sheet_11 (v := 16) (by decide) ?_
      refine x_icmp_eq C dX11_sheet_13 (tgt := 22) (by decide) h (fun h => ?_) (fun h => ?_)
      · exact b_X11_sheet_22 C hQ hn h
      · refine x_iload_n C 2 dX11_sheet_16 rfl rfl ?_
        refine x_bipush C dX11_sheet_17 (v := 32) (by decide) ?_
        refine x_icmp_ne C dX11_sheet_19 (tgt := 26) (by decide) h (fun h => ?_) (fun h => ?_)
        · refine x_iconst C dX11_sheet_26 (v := 0) (by decide) ?_
          exact b_X11_sheet_27 C hQ hn h
        · exact b_X11_sheet_22 C hQ hn h
theorem dX11_lacks_0 : decode cX11_lacks 0 = .ok (.iload_n 1, 1) := by decide +kernel
theorem dX11_lacks_1 : decode cX11_lacks 1 = .ok (.invokestatic 311, 3) := by decide +kernel
theorem dX11_lacks_4 : decode cX11_lacks 4 = .ok (.ifCond .ne 7, 3) := by decide +kernel
theorem dX11_lacks_7 : decode cX11_lacks 7 = .ok (.iconst 0, 1) := by decide +kernel
theorem dX11_lacks_8 : decode cX11_lacks 8 = .ok (.goto 17, 3) := by decide +kernel
theorem dX11_lacks_11 : decode cX11_lacks 11 = .ok (.aload_n 0, 1) := by decide +kernel
theorem dX11_lacks_12 : decode cX11_lacks 12 = .ok (.getfield 63, 3) := by decide +kernel
theorem dX11_lacks_15 : decode cX11_lacks 15 = .ok (.iload_n 1, 1) := by decide +kernel
theorem dX11_lacks_16 : decode cX11_lacks 16 = .ok (.iaload, 1) := by decide +kernel
theorem dX11_lacks_17 : decode cX11_lacks 17 = .ok (.ifCond .ne 7, 3) := by decide +kernel
theorem dX11_lacks_20 : decode cX11_lacks 20 = .ok (.iconst 5, 1) := by decide +kernel
theorem dX11_lacks_21 : decode cX11_lacks 21 = .ok (.goto 4, 3) := by decide +kernel
theorem dX11_lacks_24 : decode cX11_lacks 24 = .ok (.iconst (-1), 1) := by decide +kernel
theorem dX11_lacks_25 : decode cX11_lacks 25 = .ok (.ireturn, 1) := by decide +kernel
theorem y_X11_lacks : qY yX11_lacks cX11_lacks 2 (some .int) 1 ({ frames := 2, cells := 0, slots := 0, locals := 42 } : Room) 0 0 := ⟨(qm_48 _ (List.mem_of_getElem? (i := 11) rfl)), (qm_1 _ (List.mem_of_getElem? (i := 5) rfl)), by decide +kernel, by decide +kernel, rfl, rfl⟩
theorem c_X11_lacks (l : Launch) (G : qG) {v1 : Int32} {μ : qM} (hn : 66 ≤ gn G) : qCi l G yX11_lacks cX11_lacks 2 (some .int) ({ frames := 2, cells := 0, slots := 0, locals := 42 } : Room) 0 0 [.ref (ga G 46), .int v1] μ (fun post => w_X11_lacks v1 post μ) := by
  refine qCi_of (L := [(0, .ref (ga G 46)), (1, .int v1)]) (by decide) rfl rfl ?_
  intro Z post hl C hQ h
  have C : qX Z G RX11 cX11_lacks 2 ({ frames := 2, cells := 0, slots := 0, locals := 42 } : Room) (some .int) := C
  have h : w_X11_lacks v1 post μ := h
  unfold w_X11_lacks at h
  refine x_iload_n C 1 dX11_lacks_0 rfl rfl ?_
  refine i_RX11_311 (rest := []) C hn  rfl (by decide) rfl dX11_lacks_1 h (fun r1 μ1 h => ?_)
  refine x_if_ne C dX11_lacks_4 (tgt := 11) (by decide) h (fun h => ?_) (fun h => ?_)
  · refine x_aload_n C 0 dX11_lacks_11 rfl rfl ?_
    refine g_RX11_63 C hn dX11_lacks_12 ?_
    refine x_iload_n C 1 dX11_lacks_15 rfl rfl ?_
    refine x_iald C 62 21 4 (q_lt rfl rfl hn) rfl rfl rfl rfl rfl dX11_lacks_16 h (fun h => ?_)
    refine x_if_ne C dX11_lacks_17 (tgt := 24) (by decide) h (fun h => ?_) (fun h => ?_)
    · refine x_iconst C dX11_lacks_24 (v := -1) (by decide) ?_
      exact x_iret C hQ dX11_lacks_25 h
    · refine x_iconst C dX11_lacks_20 (v := 5) (by decide) ?_
      refine x_goto C dX11_lacks_21 (tgt := 25) (by decide) ?_
      exact x_iret C hQ dX11_lacks_25 h
  · refine x_iconst C dX11_lacks_7 (v := 0) (by decide) ?_
    refine x_goto C dX11_lacks_8 (tgt := 25) (by decide) ?_
    exact x_iret C hQ dX11_lacks_25 h
theorem dX11_write_0 : decode cX11_write 0 = .ok (.aload_n 0, 1) := by decide +kernel
theorem dX11_write_1 : decode cX11_write 1 = .ok (.iload_n 1, 1) := by decide +kernel
theorem dX11_write_2 : decode cX11_write 2 = .ok (.invokevirtual 314, 3) := by decide +kernel
theorem dX11_write_5 : decode cX11_write 5 = .ok (.istore 4, 2) := by decide +kernel
theorem dX11_write_7 : decode cX11_write 7 = .ok (.iload 4, 2) := by decide +kernel
theorem dX11_write_9 : decode cX11_write 9 = .ok (.ifCond .lt 10, 3) := by decide +kernel
theorem dX11_write_12 : decode cX11_write 12 = .ok (.aload_n 0, 1) := by decide +kernel
theorem dX11_write_13 : decode cX11_write 13 = .ok (.iload 4, 2) := by decide +kernel
theorem dX11_write_15 : decode cX11_write 15 = .ok (.invokevirtual 119, 3) := by decide +kernel
theorem dX11_write_18 : decode cX11_write 18 = .ok (.ireturn, 1) := by decide +kernel
theorem dX11_write_19 : decode cX11_write 19 = .ok (.iload_n 2, 1) := by decide +kernel
theorem dX11_write_20 : decode cX11_write 20 = .ok (.iconst 0, 1) := by decide +kernel
theorem dX11_write_21 : decode cX11_write 21 = .ok (.aload_n 0, 1) := by decide +kernel
theorem dX11_write_22 : decode cX11_write 22 = .ok (.getfield 66, 3) := by decide +kernel
theorem dX11_write_25 : decode cX11_write 25 = .ok (.iload_n 1, 1) := by decide +kernel
theorem dX11_write_26 : decode cX11_write 26 = .ok (.iaload, 1) := by decide +kernel
theorem dX11_write_27 : decode cX11_write 27 = .ok (.iconst 1, 1) := by decide +kernel
theorem dX11_write_28 : decode cX11_write 28 = .ok (.isub, 1) := by decide +kernel
theorem dX11_write_29 : decode cX11_write 29 = .ok (.invokestatic 79, 3) := by decide +kernel
theorem dX11_write_32 : decode cX11_write 32 = .ok (.ifCond .ne 9, 3) := by decide +kernel
theorem dX11_write_35 : decode cX11_write 35 = .ok (.aload_n 0, 1) := by decide +kernel
theorem dX11_write_36 : decode cX11_write 36 = .ok (.iconst 0, 1) := by decide +kernel
theorem dX11_write_37 : decode cX11_write 37 = .ok (.invokevirtual 119, 3) := by decide +kernel
theorem dX11_write_40 : decode cX11_write 40 = .ok (.ireturn, 1) := by decide +kernel
theorem dX11_write_41 : decode cX11_write 41 = .ok (.aload_n 0, 1) := by decide +kernel
theorem dX11_write_42 : decode cX11_write 42 = .ok (.getfield 69, 3) := by decide +kernel
theorem dX11_write_45 : decode cX11_write 45 = .ok (.bipush 40, 2) := by decide +kernel
theorem dX11_write_47 : decode cX11_write 47 = .ok (.iload_n 1, 1) := by decide +kernel
theorem dX11_write_48 : decode cX11_write 48 = .ok (.imul, 1) := by decide +kernel
theorem dX11_write_49 : decode cX11_write 49 = .ok (.iload_n 2, 1) := by decide +kernel
theorem dX11_write_50 : decode cX11_write 50 = .ok (.iadd, 1) := by decide +kernel
theorem dX11_write_51 : decode cX11_write 51 = .ok (.iload_n 3, 1) := by decide +kernel
theorem dX11_write_52 : decode cX11_write 52 = .ok (.aload_n 0, 1) := by decide +kernel
theorem dX11_write_53 : decode cX11_write 53 = .ok (.getfield 63, 3) := by decide +kernel
theorem dX11_write_56 : decode cX11_write 56 = .ok (.iload_n 1, 1) := by decide +kernel
theorem dX11_write_57 : decode cX11_write 57 = .ok (.iaload, 1) := by decide +kernel
theorem dX11_write_58 : decode cX11_write 58 = .ok (.invokestatic 317, 3) := by decide +kernel
theorem dX11_write_61 : decode cX11_write 61 = .ok (.iastore, 1) := by decide +kernel
theorem dX11_write_62 : decode cX11_write 62 = .ok (.iconst 1, 1) := by decide +kernel
theorem dX11_write_63 : decode cX11_write 63 = .ok (.ireturn, 1) := by decide +kernel
theorem i_RX11_314 {Z : qZ} {G : qG} {cc : ByteArray} {nL k n : Nat} {rm : Room} {ret : Option FieldType} {μ : qM} {pc : Nat} {L : List (Nat × Value)} {rest : List Value} {K : Int32 → qM → Prop} {v1 : Int32} (C : qX Z G RX11 cc nL rm ret) (hn : 66 ≤ gn G) (hR : (Nat.ble (2 + 1) rm.frames && Nat.ble (8 + (2 + 11) + 42) rm.locals) = true) (hf : k + 0 ≤ rm.cells ∧ n + 0 ≤ rm.slots) (hsz : Nat.ble (rest.map fun v => v.category).sum 8 = true) (hd : decode cc pc = .ok (.invokevirtual 314, 3)) (h : w_X11_lacks v1 K μ) (hk : ∀ (r : Int32) (μ1 : qM), K r μ1 → qV Z G nL k n μ1 (pc + 3) L (.int r :: rest)) : qV Z G nL k n μ pc L (.int v1 :: .ref (ga G 46) :: rest) := x_Vi [.int v1] rest C 46 10 (wp := fun K => w_X11_lacks v1 K μ) (y_X11_lacks : qY yX11_lacks cX11_lacks 2 (some .int) 1 ({ frames := 2, cells := 0, slots := 0, locals := 42 } : Room) 0 0) (qm_48 _ (List.mem_of_getElem? (i := 9) rfl)) (qm_48 _ (List.mem_of_getElem? (i := 10) rfl)) (qm_48 _ (List.mem_of_getElem? (i := 8) rfl)) (c_X11_lacks Z.2.1 G hn ) (Nat.lt_of_lt_of_le (by decide) hn) rfl (by decide) rfl rfl hR hf rfl rfl hsz hd h hk
theorem i_RX11_317 {Z : qZ} {G : qG} {cc : ByteArray} {nL k n : Nat} {rm : Room} {ret : Option FieldType} {μ : qM} {pc : Nat} {L : List (Nat × Value)} {rest : List Value} {K : Int32 → qM → Prop} {v0 : Int32} {v1 : Int32} (C : qX Z G RX11 cc nL rm ret) (hn : 66 ≤ gn G) (hR : (Nat.ble (0 + 1) rm.frames && Nat.ble (8 + (2 + 11) + 0) rm.locals) = true) (hf : k + 0 ≤ rm.cells ∧ n + 0 ≤ rm.slots) (hsz : Nat.ble (rest.map fun v => v.category).sum 8 = true) (hd : decode cc pc = .ok (.invokestatic 317, 3)) (h : w_X11_cut v0 v1 K μ) (hk : ∀ (r : Int32) (μ1 : qM), K r μ1 → qV Z G nL k n μ1 (pc + 3) L (.int r :: rest)) : qV Z G nL k n μ pc L (.int v1 :: .int v0 :: rest) := x_Si [.int v0, .int v1] rest C (wp := fun K => w_X11_cut v0 v1 K μ) (y_X11_cut : qY yX11_cut cX11_cut 2 (some .int) 2 ({ frames := 0, cells := 0, slots := 0, locals := 0 } : Room) 0 0) (qm_48 _ (List.mem_of_getElem? (i := 13) rfl)) (qm_48 _ (List.mem_of_getElem? (i := 12) rfl)) (c_X11_cut Z.2.1 G hn ) hR hf rfl rfl hsz hd h hk
theorem y_X11_write : qY yX11_write cX11_write 5 (some .int) 3 ({ frames := 3, cells := 0, slots := 0, locals := 63 } : Room) 0 0 := ⟨(qm_48 _ (List.mem_of_getElem? (i := 7) rfl)), (qm_1 _ (List.mem_of_getElem? (i := 5) rfl)), by decide +kernel, by decide +kernel, rfl, rfl⟩
theorem c_X11_write (l : Launch) (G : qG) {v1 : Int32} {v2 : Int32} {v3 : Int32} {μ : qM} (hn : 66 ≤ gn G) : qCi l G yX11_write cX11_write 5 (some .int) ({ frames := 3, cells := 0, slots := 0, locals := 63 } : Room) 0 0 [.ref (ga G 46), .int v1, .int v2, .int v3] μ (fun post => w_X11_write v1 v2 v3 post μ) := by
  refine qCi_of (L := [(0, .ref (ga G 46)), (1, .int v1), (2, .int v2), (3, .int v3)]) (by decide) rfl rfl ?_
  intro Z post hl C hQ h
  have C : qX Z G RX11 cX11_write 5 ({ frames := 3, cells := 0, slots := 0, locals := 63 } : Room) (some .int) := C
  have h : w_X11_write v1 v2 v3 post μ := h
  unfold w_X11_write at h
  refine x_aload_n C 0 dX11_write_0 rfl rfl ?_
  refine x_iload_n C 1 dX11_write_1 rfl rfl ?_
  refine i_RX11_314 (rest := []) C hn  rfl (by decide) rfl dX11_write_2 h (fun r2 μ2 h => ?_)
  refine x_istore C (L' := [(4, .int r2), (0, .ref (ga G 46)), (1, .int v1), (2, .int v2), (3, .int v3)]) dX11_write_5 (by decide) rfl ?_
  refine x_iload C 0 dX11_write_7 rfl ?_
  refine x_if_lt C dX11_write_9 (tgt := 19) (by decide) h (fun h => ?_) (fun h => ?_)
  · refine x_iload_n C 3 dX11_write_19 rfl rfl ?_
    refine x_iconst C dX11_write_20 (v := 0) (by decide) ?_
    refine x_aload_n C 1 dX11_write_21 rfl rfl ?_
    refine g_RX11_66 C hn dX11_write_22 ?_
    refine x_iload_n C 2 dX11_write_25 rfl rfl ?_
    refine x_iald C 63 21 4 (q_lt rfl rfl hn) rfl rfl rfl rfl rfl dX11_write_26 h (fun h => ?_)
    refine x_iconst C dX11_write_27 (v := 1) (by decide) ?_
    refine x_isub C dX11_write_28 ?_
    refine i_RX11_79 (rest := []) C hn  rfl (by decide) rfl dX11_write_29 h (fun r29 μ29 h => ?_)
    refine x_if_ne C dX11_write_32 (tgt := 41) (by decide) h (fun h => ?_) (fun h => ?_)
    · refine x_aload_n C 1 dX11_write_41 rfl rfl ?_
      refine g_RX11_69 C hn dX11_write_42 ?_
      refine x_bipush C dX11_write_45 (v := 40) (by decide) ?_
      refine x_iload_n C 2 dX11_write_47 rfl rfl ?_
      refine x_imul C dX11_write_48 ?_
      refine x_iload_n C 3 dX11_write_49 rfl rfl ?_
      refine x_iadd C dX11_write_50 ?_
      refine x_iload_n C 4 dX11_write_51 rfl rfl ?_
      refine x_aload_n C 1 dX11_write_52 rfl rfl ?_
      refine g_RX11_63 C hn dX11_write_53 ?_
      refine x_iload_n C 2 dX11_write_56 rfl rfl ?_
      refine x_iald C 62 21 4 (q_lt rfl rfl hn) rfl rfl rfl rfl rfl dX11_write_57 h (fun h => ?_)
      refine i_RX11_317 (rest := [.int ((((40 : Int32) * v1) + v2)), .ref (ga G 64)]) C hn  rfl (by decide) rfl dX11_write_58 h (fun r58 μ58 h => ?_)
      refine x_iast C 64 22 160 (q_lt rfl rfl hn) rfl rfl rfl rfl rfl dX11_write_61 h (fun h => ?_)
      refine x_iconst C dX11_write_62 (v := 1) (by decide) ?_
      exact x_iret C hQ dX11_write_63 h
    · refine x_aload_n C 1 dX11_write_35 rfl rfl ?_
      refine x_iconst C dX11_write_36 (v := 0) (by decide) ?_
      refine i_RX11_119 (rest := []) C hn  rfl (by decide) rfl dX11_write_37 h (fun r37 μ37 h => ?_)
      exact x_iret C hQ dX11_write_40 h
  · refine x_aload_n C 1 dX11_write_12 rfl rfl ?_
    refine x_iload C 0 dX11_write_13 rfl ?_
    refine i_RX11_119 (rest := []) C hn  rfl (by decide) rfl dX11_write_15 h (fun r15 μ15 h => ?_)
    exact x_iret C hQ dX11_write_18 h
theorem dX11_copy_0 : decode cX11_copy 0 = .ok (.iload_n 1, 1) := by decide +kernel
theorem dX11_copy_1 : decode cX11_copy 1 = .ok (.invokestatic 311, 3) := by decide +kernel
theorem dX11_copy_4 : decode cX11_copy 4 = .ok (.ifCond .eq 10, 3) := by decide +kernel
theorem dX11_copy_7 : decode cX11_copy 7 = .ok (.iload_n 3, 1) := by decide +kernel
theorem dX11_copy_8 : decode cX11_copy 8 = .ok (.invokestatic 311, 3) := by decide +kernel
theorem dX11_copy_11 : decode cX11_copy 11 = .ok (.ifCond .ne 9, 3) := by decide +kernel
theorem dX11_copy_14 : decode cX11_copy 14 = .ok (.aload_n 0, 1) := by decide +kernel
theorem dX11_copy_15 : decode cX11_copy 15 = .ok (.iconst 0, 1) := by decide +kernel
theorem dX11_copy_16 : decode cX11_copy 16 = .ok (.invokevirtual 119, 3) := by decide +kernel
theorem dX11_copy_19 : decode cX11_copy 19 = .ok (.ireturn, 1) := by decide +kernel
theorem dX11_copy_20 : decode cX11_copy 20 = .ok (.aload_n 0, 1) := by decide +kernel
theorem dX11_copy_21 : decode cX11_copy 21 = .ok (.getfield 63, 3) := by decide +kernel
theorem dX11_copy_24 : decode cX11_copy 24 = .ok (.iload_n 1, 1) := by decide +kernel
theorem dX11_copy_25 : decode cX11_copy 25 = .ok (.iaload, 1) := by decide +kernel
theorem dX11_copy_26 : decode cX11_copy 26 = .ok (.ifCond .eq 12, 3) := by decide +kernel
theorem dX11_copy_29 : decode cX11_copy 29 = .ok (.aload_n 0, 1) := by decide +kernel
theorem dX11_copy_30 : decode cX11_copy 30 = .ok (.getfield 63, 3) := by decide +kernel
theorem dX11_copy_33 : decode cX11_copy 33 = .ok (.iload_n 3, 1) := by decide +kernel
theorem dX11_copy_34 : decode cX11_copy 34 = .ok (.iaload, 1) := by decide +kernel
theorem dX11_copy_35 : decode cX11_copy 35 = .ok (.ifCond .ne 9, 3) := by decide +kernel
theorem dX11_copy_38 : decode cX11_copy 38 = .ok (.aload_n 0, 1) := by decide +kernel
theorem dX11_copy_39 : decode cX11_copy 39 = .ok (.iconst 5, 1) := by decide +kernel
theorem dX11_copy_40 : decode cX11_copy 40 = .ok (.invokevirtual 119, 3) := by decide +kernel
theorem dX11_copy_43 : decode cX11_copy 43 = .ok (.ireturn, 1) := by decide +kernel
theorem dX11_copy_44 : decode cX11_copy 44 = .ok (.aload_n 0, 1) := by decide +kernel
theorem dX11_copy_45 : decode cX11_copy 45 = .ok (.getfield 63, 3) := by decide +kernel
theorem dX11_copy_48 : decode cX11_copy 48 = .ok (.iload_n 1, 1) := by decide +kernel
theorem dX11_copy_49 : decode cX11_copy 49 = .ok (.iaload, 1) := by decide +kernel
theorem dX11_copy_50 : decode cX11_copy 50 = .ok (.aload_n 0, 1) := by decide +kernel
theorem dX11_copy_51 : decode cX11_copy 51 = .ok (.getfield 63, 3) := by decide +kernel
theorem dX11_copy_54 : decode cX11_copy 54 = .ok (.iload_n 3, 1) := by decide +kernel
theorem dX11_copy_55 : decode cX11_copy 55 = .ok (.iaload, 1) := by decide +kernel
theorem dX11_copy_56 : decode cX11_copy 56 = .ok (.if_icmp .eq 9, 3) := by decide +kernel
theorem dX11_copy_59 : decode cX11_copy 59 = .ok (.aload_n 0, 1) := by decide +kernel
theorem dX11_copy_60 : decode cX11_copy 60 = .ok (.iconst 2, 1) := by decide +kernel
theorem dX11_copy_61 : decode cX11_copy 61 = .ok (.invokevirtual 119, 3) := by decide +kernel
theorem dX11_copy_64 : decode cX11_copy 64 = .ok (.ireturn, 1) := by decide +kernel
theorem dX11_copy_65 : decode cX11_copy 65 = .ok (.iload 5, 2) := by decide +kernel
theorem dX11_copy_67 : decode cX11_copy 67 = .ok (.ifCond .lt 51, 3) := by decide +kernel
theorem dX11_copy_70 : decode cX11_copy 70 = .ok (.iload_n 2, 1) := by decide +kernel
theorem dX11_copy_71 : decode cX11_copy 71 = .ok (.ifCond .lt 47, 3) := by decide +kernel
theorem dX11_copy_74 : decode cX11_copy 74 = .ok (.iload 4, 2) := by decide +kernel
theorem dX11_copy_76 : decode cX11_copy 76 = .ok (.ifCond .lt 42, 3) := by decide +kernel
theorem dX11_copy_79 : decode cX11_copy 79 = .ok (.iload_n 2, 1) := by decide +kernel
theorem dX11_copy_80 : decode cX11_copy 80 = .ok (.i2l, 1) := by decide +kernel
theorem dX11_copy_81 : decode cX11_copy 81 = .ok (.iload 5, 2) := by decide +kernel
theorem dX11_copy_83 : decode cX11_copy 83 = .ok (.i2l, 1) := by decide +kernel
theorem dX11_copy_84 : decode cX11_copy 84 = .ok (.ladd, 1) := by decide +kernel
theorem dX11_copy_85 : decode cX11_copy 85 = .ok (.aload_n 0, 1) := by decide +kernel
theorem dX11_copy_86 : decode cX11_copy 86 = .ok (.getfield 66, 3) := by decide +kernel
theorem dX11_copy_89 : decode cX11_copy 89 = .ok (.iload_n 1, 1) := by decide +kernel
theorem dX11_copy_90 : decode cX11_copy 90 = .ok (.iaload, 1) := by decide +kernel
theorem dX11_copy_91 : decode cX11_copy 91 = .ok (.i2l, 1) := by decide +kernel
theorem dX11_copy_92 : decode cX11_copy 92 = .ok (.lcmp, 1) := by decide +kernel
theorem dX11_copy_93 : decode cX11_copy 93 = .ok (.ifCond .gt 25, 3) := by decide +kernel
theorem dX11_copy_96 : decode cX11_copy 96 = .ok (.iload 4, 2) := by decide +kernel
theorem dX11_copy_98 : decode cX11_copy 98 = .ok (.i2l, 1) := by decide +kernel
theorem dX11_copy_99 : decode cX11_copy 99 = .ok (.iload 5, 2) := by decide +kernel
theorem dX11_copy_101 : decode cX11_copy 101 = .ok (.i2l, 1) := by decide +kernel
theorem dX11_copy_102 : decode cX11_copy 102 = .ok (.ladd, 1) := by decide +kernel
theorem dX11_copy_103 : decode cX11_copy 103 = .ok (.aload_n 0, 1) := by decide +kernel
theorem dX11_copy_104 : decode cX11_copy 104 = .ok (.getfield 66, 3) := by decide +kernel
theorem dX11_copy_107 : decode cX11_copy 107 = .ok (.iload_n 3, 1) := by decide +kernel
theorem dX11_copy_108 : decode cX11_copy 108 = .ok (.iaload, 1) := by decide +kernel
theorem dX11_copy_109 : decode cX11_copy 109 = .ok (.i2l, 1) := by decide +kernel
theorem dX11_copy_110 : decode cX11_copy 110 = .ok (.lcmp, 1) := by decide +kernel
theorem dX11_copy_111 : decode cX11_copy 111 = .ok (.ifCond .gt 7, 3) := by decide +kernel
theorem dX11_copy_114 : decode cX11_copy 114 = .ok (.iconst 1, 1) := by decide +kernel
theorem dX11_copy_115 : decode cX11_copy 115 = .ok (.goto 4, 3) := by decide +kernel
theorem dX11_copy_118 : decode cX11_copy 118 = .ok (.iconst 0, 1) := by decide +kernel
theorem dX11_copy_119 : decode cX11_copy 119 = .ok (.istore 6, 2) := by decide +kernel
theorem dX11_copy_121 : decode cX11_copy 121 = .ok (.iload 6, 2) := by decide +kernel
theorem dX11_copy_123 : decode cX11_copy 123 = .ok (.ifCond .ne 9, 3) := by decide +kernel
theorem dX11_copy_126 : decode cX11_copy 126 = .ok (.aload_n 0, 1) := by decide +kernel
theorem dX11_copy_127 : decode cX11_copy 127 = .ok (.iconst 0, 1) := by decide +kernel
theorem dX11_copy_128 : decode cX11_copy 128 = .ok (.invokevirtual 119, 3) := by decide +kernel
theorem dX11_copy_131 : decode cX11_copy 131 = .ok (.ireturn, 1) := by decide +kernel
theorem dX11_copy_132 : decode cX11_copy 132 = .ok (.iconst 0, 1) := by decide +kernel
theorem dX11_copy_133 : decode cX11_copy 133 = .ok (.istore 7, 2) := by decide +kernel
theorem dX11_copy_135 : decode cX11_copy 135 = .ok (.iload 7, 2) := by decide +kernel
theorem dX11_copy_137 : decode cX11_copy 137 = .ok (.iload 5, 2) := by decide +kernel
theorem dX11_copy_139 : decode cX11_copy 139 = .ok (.if_icmp .ge 30, 3) := by decide +kernel
theorem dX11_copy_142 : decode cX11_copy 142 = .ok (.aload_n 0, 1) := by decide +kernel
theorem dX11_copy_143 : decode cX11_copy 143 = .ok (.getfield 72, 3) := by decide +kernel
theorem dX11_copy_146 : decode cX11_copy 146 = .ok (.iload 7, 2) := by decide +kernel
theorem dX11_copy_148 : decode cX11_copy 148 = .ok (.aload_n 0, 1) := by decide +kernel
theorem dX11_copy_149 : decode cX11_copy 149 = .ok (.getfield 69, 3) := by decide +kernel
theorem dX11_copy_152 : decode cX11_copy 152 = .ok (.bipush 40, 2) := by decide +kernel
theorem dX11_copy_154 : decode cX11_copy 154 = .ok (.iload_n 1, 1) := by decide +kernel
theorem dX11_copy_155 : decode cX11_copy 155 = .ok (.imul, 1) := by decide +kernel
theorem dX11_copy_156 : decode cX11_copy 156 = .ok (.iload_n 2, 1) := by decide +kernel
theorem dX11_copy_157 : decode cX11_copy 157 = .ok (.iadd, 1) := by decide +kernel
theorem dX11_copy_158 : decode cX11_copy 158 = .ok (.iload 7, 2) := by decide +kernel
theorem dX11_copy_160 : decode cX11_copy 160 = .ok (.iadd, 1) := by decide +kernel
theorem dX11_copy_161 : decode cX11_copy 161 = .ok (.iaload, 1) := by decide +kernel
theorem dX11_copy_162 : decode cX11_copy 162 = .ok (.iastore, 1) := by decide +kernel
theorem dX11_copy_163 : decode cX11_copy 163 = .ok (.iinc 7 1, 3) := by decide +kernel
theorem dX11_copy_166 : decode cX11_copy 166 = .ok (.goto (-31), 3) := by decide +kernel
theorem dX11_copy_169 : decode cX11_copy 169 = .ok (.iconst 0, 1) := by decide +kernel
theorem dX11_copy_170 : decode cX11_copy 170 = .ok (.istore 7, 2) := by decide +kernel
theorem dX11_copy_172 : decode cX11_copy 172 = .ok (.iload 7, 2) := by decide +kernel
theorem dX11_copy_174 : decode cX11_copy 174 = .ok (.iload 5, 2) := by decide +kernel
theorem dX11_copy_176 : decode cX11_copy 176 = .ok (.if_icmp .ge 31, 3) := by decide +kernel
theorem dX11_copy_179 : decode cX11_copy 179 = .ok (.aload_n 0, 1) := by decide +kernel
theorem dX11_copy_180 : decode cX11_copy 180 = .ok (.getfield 69, 3) := by decide +kernel
theorem dX11_copy_183 : decode cX11_copy 183 = .ok (.bipush 40, 2) := by decide +kernel
theorem dX11_copy_185 : decode cX11_copy 185 = .ok (.iload_n 3, 1) := by decide +kernel
theorem dX11_copy_186 : decode cX11_copy 186 = .ok (.imul, 1) := by decide +kernel
theorem dX11_copy_187 : decode cX11_copy 187 = .ok (.iload 4, 2) := by decide +kernel
theorem dX11_copy_189 : decode cX11_copy 189 = .ok (.iadd, 1) := by decide +kernel
theorem dX11_copy_190 : decode cX11_copy 190 = .ok (.iload 7, 2) := by decide +kernel
theorem dX11_copy_192 : decode cX11_copy 192 = .ok (.iadd, 1) := by decide +kernel
theorem dX11_copy_193 : decode cX11_copy 193 = .ok (.aload_n 0, 1) := by decide +kernel
theorem dX11_copy_194 : decode cX11_copy 194 = .ok (.getfield 72, 3) := by decide +kernel
theorem dX11_copy_197 : decode cX11_copy 197 = .ok (.iload 7, 2) := by decide +kernel
theorem dX11_copy_199 : decode cX11_copy 199 = .ok (.iaload, 1) := by decide +kernel
theorem dX11_copy_200 : decode cX11_copy 200 = .ok (.iastore, 1) := by decide +kernel
theorem dX11_copy_201 : decode cX11_copy 201 = .ok (.iinc 7 1, 3) := by decide +kernel
theorem dX11_copy_204 : decode cX11_copy 204 = .ok (.goto (-32), 3) := by decide +kernel
theorem dX11_copy_207 : decode cX11_copy 207 = .ok (.iload 5, 2) := by decide +kernel
theorem dX11_copy_209 : decode cX11_copy 209 = .ok (.ireturn, 1) := by decide +kernel
theorem g_RX11_72 {Z : qZ} {G : qG} {cc : ByteArray} {nL k n : Nat} {rm : Room} {ret : Option FieldType} {μ : qM} {pc : Nat} {L : List (Nat × Value)} {st : List Value} (C : qX Z G RX11 cc nL rm ret) (hn : 66 ≤ gn G) (hd : decode cc pc = .ok (.getfield 72, 3)) (h : qV Z G nL k n μ (pc + 3) L (.ref (ga G 65) :: st)) : qV Z G nL k n μ pc L (.ref (ga G 46) :: st) := x_getr C 46 10 38 19 65 (C0 := RX11) (fn := "moved") (fd := "[I") (Nat.lt_of_lt_of_le (by decide) hn) rfl (by decide) rfl (by decide) rfl inlX11 (qm_6 _ (List.mem_of_getElem? (i := 11) rfl)) rfl rfl rfl hd h
theorem b_X11_copy_14 {Z : qZ} {G : qG} {μ : qM} {post : Int32 → qM → Prop} (C : qX Z G RX11 cX11_copy 8 ({ frames := 2, cells := 0, slots := 0, locals := 42 } : Room) (some .int)) (hQ : qQi Z G 0 0 post) (hn : 66 ≤ gn G) (h : q_X11_copy_14 post μ) : qV Z G 8 0 0 μ 14 [(0, .ref (ga G 46))] [] := by
  unfold q_X11_copy_14 at h
  refine x_aload_n C 0 dX11_copy_14 rfl rfl ?_
  refine x_iconst C dX11_copy_15 (v := 0) (by decide) ?_
  refine i_RX11_119 (rest := []) C hn  rfl (by decide) rfl dX11_copy_16 h (fun r16 μ16 h => ?_)
  exact x_iret C hQ dX11_copy_19 h
theorem b_X11_copy_38 {Z : qZ} {G : qG} {μ : qM} {post : Int32 → qM → Prop} (C : qX Z G RX11 cX11_copy 8 ({ frames := 2, cells := 0, slots := 0, locals := 42 } : Room) (some .int)) (hQ : qQi Z G 0 0 post) (hn : 66 ≤ gn G) (h : q_X11_copy_38 post μ) : qV Z G 8 0 0 μ 38 [(0, .ref (ga G 46))] [] := by
  unfold q_X11_copy_38 at h
  refine x_aload_n C 0 dX11_copy_38 rfl rfl ?_
  refine x_iconst C dX11_copy_39 (v := 5) (by decide) ?_
  refine i_RX11_119 (rest := []) C hn  rfl (by decide) rfl dX11_copy_40 h (fun r40 μ40 h => ?_)
  exact x_iret C hQ dX11_copy_43 h
theorem b_X11_copy_172 {Z : qZ} {G : qG} {v3 : Int32} {v4 : Int32} {v5 : Int32} {v7 : Int32} {μ : qM} {post : Int32 → qM → Prop} (C : qX Z G RX11 cX11_copy 8 ({ frames := 2, cells := 0, slots := 0, locals := 42 } : Room) (some .int)) (hQ : qQi Z G 0 0 post) (hn : 66 ≤ gn G) (h : q_X11_copy_172 v3 v4 v5 post v7 μ) : qV Z G 8 0 0 μ 172 [(0, .ref (ga G 46)), (3, .int v3), (4, .int v4), (5, .int v5), (7, .int v7)] [] := by
  refine h (fun v7 μ => qV Z G 8 0 0 μ 172 [(0, .ref (ga G 46)), (3, .int v3), (4, .int v4), (5, .int v5), (7, .int v7)] []) (fun v7 μ h => ?_)
  refine x_iload C 4 dX11_copy_172 rfl ?_
  refine x_iload C 3 dX11_copy_174 rfl ?_
  refine x_icmp_ge C dX11_copy_176 (tgt := 207) (by decide) h (fun h => ?_) (fun h => ?_)
  · refine x_iload C 3 dX11_copy_207 rfl ?_
    exact x_iret C hQ dX11_copy_209 h
  · refine x_aload_n C 0 dX11_copy_179 rfl rfl ?_
    refine g_RX11_69 C hn dX11_copy_180 ?_
    refine x_bipush C dX11_copy_183 (v := 40) (by decide) ?_
    refine x_iload_n C 1 dX11_copy_185 rfl rfl ?_
    refine x_imul C dX11_copy_186 ?_
    refine x_iload C 2 dX11_copy_187 rfl ?_
    refine x_iadd C dX11_copy_189 ?_
    refine x_iload C 4 dX11_copy_190 rfl ?_
    refine x_iadd C dX11_copy_192 ?_
    refine x_aload_n C 0 dX11_copy_193 rfl rfl ?_
    refine g_RX11_72 C hn dX11_copy_194 ?_
    refine x_iload C 4 dX11_copy_197 rfl ?_
    refine x_iald C 65 15 40 (q_lt rfl rfl hn) rfl rfl rfl rfl rfl dX11_copy_199 h (fun h => ?_)
    refine x_iast C 64 22 160 (q_lt rfl rfl hn) rfl rfl rfl rfl rfl dX11_copy_200 h (fun h => ?_)
    refine x_iinc C 4 (v := 1) (L' := [(7, .int ((v7 + 1))), (0, .ref (ga G 46)), (3, .int v3), (4, .int v4), (5, .int v5)]) dX11_copy_201 rfl (by decide) (by decide) rfl ?_
    refine x_goto C dX11_copy_204 (tgt := 172) (by decide) ?_
    exact qV_sub [1, 2, 3, 4, 0] rfl (h)
theorem b_X11_copy_135 {Z : qZ} {G : qG} {v1 : Int32} {v2 : Int32} {v3 : Int32} {v4 : Int32} {v5 : Int32} {v7 : Int32} {μ : qM} {post : Int32 → qM → Prop} (C : qX Z G RX11 cX11_copy 8 ({ frames := 2, cells := 0, slots := 0, locals := 42 } : Room) (some .int)) (hQ : qQi Z G 0 0 post) (hn : 66 ≤ gn G) (h : q_X11_copy_135 v1 v2 v3 v4 v5 post v7 μ) : qV Z G 8 0 0 μ 135 [(0, .ref (ga G 46)), (1, .int v1), (2, .int v2), (3, .int v3), (4, .int v4), (5, .int v5), (7, .int v7)] [] := by
  refine h (fun v7 μ => qV Z G 8 0 0 μ 135 [(0, .ref (ga G 46)), (1, .int v1), (2, .int v2), (3, .int v3), (4, .int v4), (5, .int v5), (7, .int v7)] []) (fun v7 μ h => ?_)
  refine x_iload C 6 dX11_copy_135 rfl ?_
  refine x_iload C 5 dX11_copy_137 rfl ?_
  refine x_icmp_ge C dX11_copy_139 (tgt := 169) (by decide) h (fun h => ?_) (fun h => ?_)
  · refine x_iconst C dX11_copy_169 (v := 0) (by decide) ?_
    refine x_istore C (L' := [(7, .int ((0 : Int32))), (0, .ref (ga G 46)), (1, .int v1), (2, .int v2), (3, .int v3), (4, .int v4), (5, .int v5)]) dX11_copy_170 (by decide) rfl ?_
    exact qV_sub [1, 4, 5, 6, 0] rfl (b_X11_copy_172 C hQ hn h)
  · refine x_aload_n C 0 dX11_copy_142 rfl rfl ?_
    refine g_RX11_72 C hn dX11_copy_143 ?_
    refine x_iload C 6 dX11_copy_146 rfl ?_
    refine x_aload_n C 0 dX11_copy_148 rfl rfl ?_
    refine g_RX11_69 C hn dX11_copy_149 ?_
    refine x_bipush C dX11_copy_152 (v := 40) (by decide) ?_
    refine x_iload_n C 1 dX11_copy_154 rfl rfl ?_
    refine x_imul C dX11_copy_155 ?_
    refine x_iload_n C 2 dX11_copy_156 rfl rfl ?_
    refine x_iadd C dX11_copy_157 ?_
    refine x_iload C 6 dX11_copy_158 rfl ?_
    refine x_iadd C dX11_copy_160 ?_
    refine x_iald C 64 22 160 (q_lt rfl rfl hn) rfl rfl rfl rfl rfl dX11_copy_161 h (fun h => ?_)
    refine x_iast C 65 15 40 (q_lt rfl rfl hn) rfl rfl rfl rfl rfl dX11_copy_162 h (fun h => ?_)
    refine x_iinc C 6 (v := 1) (L' := [(7, .int ((v7 + 1))), (0, .ref (ga G 46)), (1, .int v1), (2, .int v2), (3, .int v3), (4, .int v4), (5, .int v5)]) dX11_copy_163 rfl (by decide) (by decide) rfl ?_
    refine x_goto C dX11_copy_166 (tgt := 135) (by decide) ?_
    exact qV_sub [1, 2, 3, 4, 5, 6, 0] rfl (h)
theorem b_X11_copy_119 {Z : qZ} {G : qG} {v1 : Int32} {v2 : Int32} {v3 : Int32} {v4 : Int32} {v5 : Int32} {s0 : Int32} {μ : qM} {post : Int32 → qM → Prop} (C : qX Z G RX11 cX11_copy 8 ({ frames := 2, cells := 0, slots := 0, locals := 42 } : Room) (some .int)) (hQ : qQi Z G 0 0 post) (hn : 66 ≤ gn G) (h : q_X11_copy_119 post v1 v2 v3 v4 v5 s0 μ) : qV Z G 8 0 0 μ 119 [(0, .ref (ga G 46)), (1, .int v1), (2, .int v2), (3, .int v3), (4, .int v4), (5, .int v5)] [.int s0] := by
  unfold q_X11_copy_119 at h
  refine x_istore C (L' := [(6, .int s0), (0, .ref (ga G 46)), (1, .int v1), (2, .int v2), (3, .int v3), (4, .int v4), (5, .int v5)]) dX11_copy_119 (by decide) rfl ?_
  refine x_iload C 0 dX11_copy_121 rfl ?_
  refine x_if_ne C dX11_copy_123 (tgt := 132) (by decide) h (fun h => ?_) (fun h => ?_)
  · refine x_iconst C dX11_copy_132 (v := 0) (by decide) ?_
    refine x_istore C (L' := [(7, .int ((0 : Int32))), (6, .int s0), (0, .ref (ga G 46)), (1, .int v1), (2, .int v2), (3, .int v3), (4, .int v4), (5, .int v5)]) dX11_copy_133 (by decide) rfl ?_
    exact qV_sub [2, 3, 4, 5, 6, 7, 0] rfl (b_X11_copy_135 C hQ hn h)
  · refine x_aload_n C 1 dX11_copy_126 rfl rfl ?_
    refine x_iconst C dX11_copy_127 (v := 0) (by decide) ?_
    refine i_RX11_119 (rest := []) C hn  rfl (by decide) rfl dX11_copy_128 h (fun r128 μ128 h => ?_)
    exact x_iret C hQ dX11_copy_131 h
theorem b_X11_copy_118 {Z : qZ} {G : qG} {v1 : Int32} {v2 : Int32} {v3 : Int32} {v4 : Int32} {v5 : Int32} {μ : qM} {post : Int32 → qM → Prop} (C : qX Z G RX11 cX11_copy 8 ({ frames := 2, cells := 0, slots := 0, locals := 42 } : Room) (some .int)) (hQ : qQi Z G 0 0 post) (hn : 66 ≤ gn G) (h : q_X11_copy_118 post v1 v2 v3 v4 v5 μ) : qV Z G 8 0 0 μ 118 [(0, .ref (ga G 46)), (1, .int v1), (2, .int v2), (3, .int v3), (4, .int v4), (5, .int v5)] [] := by
  unfold q_X11_copy_118 at h
  refine x_iconst C dX11_copy_118 (v := 0) (by decide) ?_
  exact b_X11_copy_119 C hQ hn h
theorem y_X11_copy : qY yX11_copy cX11_copy 8 (some .int) 5 ({ frames := 2, cells := 0, slots := 0, locals := 42 } : Room) 0 0 := ⟨(qm_49 _ (List.mem_of_getElem? (i := 12) rfl)), (qm_1 _ (List.mem_of_getElem? (i := 5) rfl)), by decide +kernel, by decide +kernel, rfl, rfl⟩
theorem c_X11_copy (l : Launch) (G : qG) {v1 : Int32} {v2 : Int32} {v3 : Int32} {v4 : Int32} {v5 : Int32} {μ : qM} (hn : 66 ≤ gn G) : qCi l G yX11_copy cX11_copy 8 (some .int) ({ frames := 2, cells := 0, slots := 0, locals := 42 } : Room) 0 0 [.ref (ga G 46), .int v1, .int v2, .int v3, .int v4, .int v5] μ (fun post => w_X11_copy v1 v2 v3 v4 v5 post μ) := by
  refine qCi_of (L := [(0, .ref (ga G 46)), (1, .int v1), (2, .int v2), (3, .int v3), (4, .int v4), (5, .int v5)]) (by decide) rfl rfl ?_
  intro Z post hl C hQ h
  have C : qX Z G RX11 cX11_copy 8 ({ frames := 2, cells := 0, slots := 0, locals := 42 } : Room) (some .int) := C
  have h : w_X11_copy v1 v2 v3 v4 v5 post μ := h
  unfold w_X11_copy at h
  refine x_iload_n C 1 dX11_copy_0 rfl rfl ?_
  refine i_RX11_311 (rest := []) C hn  rfl (by decide) rfl dX11_copy_1 h (fun r1 μ1 h => ?_)
  refine x_if_eq C dX11_copy_4 (tgt := 14) (by decide) h (fun h => ?_) (fun h => ?_)
  · exact qV_sub [0] rfl (b_X11_copy_14 C hQ hn h)
  · refine x_iload_n C 3 dX11_copy_7 rfl rfl ?_
    refine i_RX11_311 (rest := []) C hn  rfl (by decide) rfl dX11_copy_8 h (fun r8 μ8 h => ?_)
    refine x_if_ne C dX11_copy_11 (tgt := 20) (by decide) h (fun h => ?_) (fun h => ?_)
    · refine x_aload_n C 0 dX11_copy_20 rfl rfl ?_
      refine g_RX11_63 C hn dX11_copy_21 ?_
      refine x_iload_n C 1 dX11_copy_24 rfl rfl ?_
      refine x_iald C 62 21 4 (q_lt rfl rfl hn) rfl rfl rfl rfl rfl dX11_copy_25 h (fun h => ?_)
      refine x_if_eq C dX11_copy_26 (tgt := 38) (by decide) h (fun h => ?_) (fun h => ?_)
      · exact qV_sub [0] rfl (b_X11_copy_38 C hQ hn h)
      · refine x_aload_n C 0 dX11_copy_29 rfl rfl ?_
        refine g_RX11_63 C hn dX11_copy_30 ?_
        refine x_iload_n C 3 dX11_copy_33 rfl rfl ?_
        refine x_iald C 62 21 4 (q_lt rfl rfl hn) rfl rfl rfl rfl rfl dX11_copy_34 h (fun h => ?_)
        refine x_if_ne C dX11_copy_35 (tgt := 44) (by decide) h (fun h => ?_) (fun h => ?_)
        · refine x_aload_n C 0 dX11_copy_44 rfl rfl ?_
          refine g_RX11_63 C hn dX11_copy_45 ?_
          refine x_iload_n C 1 dX11_copy_48 rfl rfl ?_
          refine x_iald C 62 21 4 (q_lt rfl rfl hn) rfl rfl rfl rfl rfl dX11_copy_49 h (fun h => ?_)
          refine x_aload_n C 0 dX11_copy_50 rfl rfl ?_
          refine g_RX11_63 C hn dX11_copy_51 ?_
          refine x_iload_n C 3 dX11_copy_54 rfl rfl ?_
          refine x_iald C 62 21 4 (q_lt rfl rfl hn) rfl rfl rfl rfl rfl dX11_copy_55 h (fun h => ?_)
          refine x_icmp_eq C dX11_copy_56 (tgt := 65) (by decide) h (fun h => ?_) (fun h => ?_)
          · refine x_iload C 5 dX11_copy_65 rfl ?_
            refine x_if_lt C dX11_copy_67 (tgt := 118) (by decide) h (fun h => ?_) (fun h => ?_)
            · exact b_X11_copy_118 C hQ hn h
            · refine x_iload_n C 2 dX11_copy_70 rfl rfl ?_
              refine x_if_lt C dX11_copy_71 (tgt := 118) (by decide) h (fun h => ?_) (fun h => ?_)
              · exact b_X11_copy_118 C hQ hn h
              · refine x_iload C 4 dX11_copy_74 rfl ?_
                refine x_if_lt C dX11_copy_76 (tgt := 118) (by decide) h (fun h => ?_) (fun h => ?_)
                · exact b_X11_copy_118 C hQ hn h
                · refine x_iload_n C 2 dX11_copy_79 rfl rfl ?_
                  refine x_i2l C dX11_copy_80 ?_
                  refine x_iload C 5 dX11_copy_81 rfl ?_
                  refine x_i2l C dX11_copy_83 ?_
                  refine x_ladd C dX11_copy_84 ?_
                  refine x_aload_n C 0 dX11_copy_85 rfl rfl ?_
                  refine g_RX11_66 C hn dX11_copy_86 ?_
                  refine x_iload_n C 1 dX11_copy_89 rfl rfl ?_
                  refine x_iald C 63 21 4 (q_lt rfl rfl hn) rfl rfl rfl rfl rfl dX11_copy_90 h (fun h => ?_)
                  refine x_i2l C dX11_copy_91 ?_
                  refine x_lcmp C dX11_copy_92 ?_
                  refine x_if_gt C dX11_copy_93 (tgt := 118) (by decide) h (fun h => ?_) (fun h => ?_)
                  · exact b_X11_copy_118 C hQ hn h
                  · refine x_iload C 4 dX11_copy_96 rfl ?_
                    refine x_i2l C dX11_copy_98 ?_
                    refine x_iload C 5 dX11_copy_99 rfl ?_
                    refine x_i2l C dX11_copy_101 ?_
                    refine x_ladd C dX11_copy_102 ?_
                    refine x_aload_n C 0 dX11_copy_103 rfl rfl ?_
                    refine g_RX11_66 C hn dX11_copy_104 ?_
                    refine x_iload_n C 3 dX11_copy_107 rfl rfl ?_
                    refine x_iald C 63 21 4 (q_lt rfl rfl hn) rfl rfl rfl rfl rfl dX11_copy_108 h (fun h => ?_)
                    refine x_i2l C dX11_copy_109 ?_
                    refine x_lcmp C dX11_copy_110 ?_
                    refine x_if_gt C dX11_copy_111 (tgt := 118) (by decide) h (fun h => ?_) (fun h => ?_)
                    · exact b_X11_copy_118 C hQ hn h
                    · refine x_iconst C dX11_copy_114 (v := 1) (by decide) ?_
                      refine x_goto C dX11_copy_115 (tgt := 119) (by decide) ?_
                      exact b_X11_copy_119 C hQ hn h
          · refine x_aload_n C 0 dX11_copy_59 rfl rfl ?_
            refine x_iconst C dX11_copy_60 (v := 2) (by decide) ?_
            refine i_RX11_119 (rest := []) C hn  rfl (by decide) rfl dX11_copy_61 h (fun r61 μ61 h => ?_)
            exact x_iret C hQ dX11_copy_64 h
        · exact qV_sub [0] rfl (b_X11_copy_38 C hQ hn h)
    · exact qV_sub [0] rfl (b_X11_copy_14 C hQ hn h)
theorem dX11_load_0 : decode cX11_load 0 = .ok (.aload_n 0, 1) := by decide +kernel
theorem dX11_load_1 : decode cX11_load 1 = .ok (.iload_n 1, 1) := by decide +kernel
theorem dX11_load_2 : decode cX11_load 2 = .ok (.invokevirtual 314, 3) := by decide +kernel
theorem dX11_load_5 : decode cX11_load 5 = .ok (.istore_n 2, 1) := by decide +kernel
theorem dX11_load_6 : decode cX11_load 6 = .ok (.iload_n 2, 1) := by decide +kernel
theorem dX11_load_7 : decode cX11_load 7 = .ok (.ifCond .lt 9, 3) := by decide +kernel
theorem dX11_load_10 : decode cX11_load 10 = .ok (.aload_n 0, 1) := by decide +kernel
theorem dX11_load_11 : decode cX11_load 11 = .ok (.iload_n 2, 1) := by decide +kernel
theorem dX11_load_12 : decode cX11_load 12 = .ok (.invokevirtual 119, 3) := by decide +kernel
theorem dX11_load_15 : decode cX11_load 15 = .ok (.ireturn, 1) := by decide +kernel
theorem dX11_load_16 : decode cX11_load 16 = .ok (.iconst 0, 1) := by decide +kernel
theorem dX11_load_17 : decode cX11_load 17 = .ok (.istore_n 3, 1) := by decide +kernel
theorem dX11_load_18 : decode cX11_load 18 = .ok (.iload_n 3, 1) := by decide +kernel
theorem dX11_load_19 : decode cX11_load 19 = .ok (.aload_n 0, 1) := by decide +kernel
theorem dX11_load_20 : decode cX11_load 20 = .ok (.getfield 66, 3) := by decide +kernel
theorem dX11_load_23 : decode cX11_load 23 = .ok (.iload_n 1, 1) := by decide +kernel
theorem dX11_load_24 : decode cX11_load 24 = .ok (.iaload, 1) := by decide +kernel
theorem dX11_load_25 : decode cX11_load 25 = .ok (.if_icmp .ge 46, 3) := by decide +kernel
theorem dX11_load_28 : decode cX11_load 28 = .ok (.aload_n 0, 1) := by decide +kernel
theorem dX11_load_29 : decode cX11_load 29 = .ok (.getfield 69, 3) := by decide +kernel
theorem dX11_load_32 : decode cX11_load 32 = .ok (.bipush 40, 2) := by decide +kernel
theorem dX11_load_34 : decode cX11_load 34 = .ok (.iload_n 1, 1) := by decide +kernel
theorem dX11_load_35 : decode cX11_load 35 = .ok (.imul, 1) := by decide +kernel
theorem dX11_load_36 : decode cX11_load 36 = .ok (.iload_n 3, 1) := by decide +kernel
theorem dX11_load_37 : decode cX11_load 37 = .ok (.iadd, 1) := by decide +kernel
theorem dX11_load_38 : decode cX11_load 38 = .ok (.iaload, 1) := by decide +kernel
theorem dX11_load_39 : decode cX11_load 39 = .ok (.iconst 0, 1) := by decide +kernel
theorem dX11_load_40 : decode cX11_load 40 = .ok (.bipush 99, 2) := by decide +kernel
theorem dX11_load_42 : decode cX11_load 42 = .ok (.invokestatic 79, 3) := by decide +kernel
theorem dX11_load_45 : decode cX11_load 45 = .ok (.ifCond .eq 26, 3) := by decide +kernel
theorem dX11_load_48 : decode cX11_load 48 = .ok (.aload_n 0, 1) := by decide +kernel
theorem dX11_load_49 : decode cX11_load 49 = .ok (.getfield 16, 3) := by decide +kernel
theorem dX11_load_52 : decode cX11_load 52 = .ok (.iload_n 3, 1) := by decide +kernel
theorem dX11_load_53 : decode cX11_load 53 = .ok (.aload_n 0, 1) := by decide +kernel
theorem dX11_load_54 : decode cX11_load 54 = .ok (.getfield 69, 3) := by decide +kernel
theorem dX11_load_57 : decode cX11_load 57 = .ok (.bipush 40, 2) := by decide +kernel
theorem dX11_load_59 : decode cX11_load 59 = .ok (.iload_n 1, 1) := by decide +kernel
theorem dX11_load_60 : decode cX11_load 60 = .ok (.imul, 1) := by decide +kernel
theorem dX11_load_61 : decode cX11_load 61 = .ok (.iload_n 3, 1) := by decide +kernel
theorem dX11_load_62 : decode cX11_load 62 = .ok (.iadd, 1) := by decide +kernel
theorem dX11_load_63 : decode cX11_load 63 = .ok (.iaload, 1) := by decide +kernel
theorem dX11_load_64 : decode cX11_load 64 = .ok (.iastore, 1) := by decide +kernel
theorem dX11_load_65 : decode cX11_load 65 = .ok (.iinc 3 1, 3) := by decide +kernel
theorem dX11_load_68 : decode cX11_load 68 = .ok (.goto (-50), 3) := by decide +kernel
theorem dX11_load_71 : decode cX11_load 71 = .ok (.iload_n 3, 1) := by decide +kernel
theorem dX11_load_72 : decode cX11_load 72 = .ok (.ireturn, 1) := by decide +kernel
theorem b_X11_load_71 {Z : qZ} {G : qG} {v3 : Int32} {μ : qM} {post : Int32 → qM → Prop} (C : qX Z G RX11 cX11_load 4 ({ frames := 3, cells := 0, slots := 0, locals := 63 } : Room) (some .int)) (hQ : qQi Z G 0 0 post) (hn : 66 ≤ gn G) (h : q_X11_load_71 post v3 μ) : qV Z G 4 0 0 μ 71 [(3, .int v3)] [] := by
  unfold q_X11_load_71 at h
  refine x_iload_n C 0 dX11_load_71 rfl rfl ?_
  exact x_iret C hQ dX11_load_72 h
theorem b_X11_load_18 {Z : qZ} {G : qG} {v1 : Int32} {v3 : Int32} {μ : qM} {post : Int32 → qM → Prop} (C : qX Z G RX11 cX11_load 4 ({ frames := 3, cells := 0, slots := 0, locals := 63 } : Room) (some .int)) (hQ : qQi Z G 0 0 post) (hn : 66 ≤ gn G) (h : q_X11_load_18 v1 post v3 μ) : qV Z G 4 0 0 μ 18 [(0, .ref (ga G 46)), (1, .int v1), (3, .int v3)] [] := by
  refine h (fun v3 μ => qV Z G 4 0 0 μ 18 [(0, .ref (ga G 46)), (1, .int v1), (3, .int v3)] []) (fun v3 μ h => ?_)
  refine x_iload_n C 2 dX11_load_18 rfl rfl ?_
  refine x_aload_n C 0 dX11_load_19 rfl rfl ?_
  refine g_RX11_66 C hn dX11_load_20 ?_
  refine x_iload_n C 1 dX11_load_23 rfl rfl ?_
  refine x_iald C 63 21 4 (q_lt rfl rfl hn) rfl rfl rfl rfl rfl dX11_load_24 h (fun h => ?_)
  refine x_icmp_ge C dX11_load_25 (tgt := 71) (by decide) h (fun h => ?_) (fun h => ?_)
  · exact qV_sub [2] rfl (b_X11_load_71 C hQ hn h)
  · refine x_aload_n C 0 dX11_load_28 rfl rfl ?_
    refine g_RX11_69 C hn dX11_load_29 ?_
    refine x_bipush C dX11_load_32 (v := 40) (by decide) ?_
    refine x_iload_n C 1 dX11_load_34 rfl rfl ?_
    refine x_imul C dX11_load_35 ?_
    refine x_iload_n C 2 dX11_load_36 rfl rfl ?_
    refine x_iadd C dX11_load_37 ?_
    refine x_iald C 64 22 160 (q_lt rfl rfl hn) rfl rfl rfl rfl rfl dX11_load_38 h (fun h => ?_)
    refine x_iconst C dX11_load_39 (v := 0) (by decide) ?_
    refine x_bipush C dX11_load_40 (v := 99) (by decide) ?_
    refine i_RX11_79 (rest := []) C hn  rfl (by decide) rfl dX11_load_42 h (fun r42 μ42 h => ?_)
    refine x_if_eq C dX11_load_45 (tgt := 71) (by decide) h (fun h => ?_) (fun h => ?_)
    · exact qV_sub [2] rfl (b_X11_load_71 C hQ hn h)
    · refine x_aload_n C 0 dX11_load_48 rfl rfl ?_
      refine g_RX11_16 C hn dX11_load_49 ?_
      refine x_iload_n C 2 dX11_load_52 rfl rfl ?_
      refine x_aload_n C 0 dX11_load_53 rfl rfl ?_
      refine g_RX11_69 C hn dX11_load_54 ?_
      refine x_bipush C dX11_load_57 (v := 40) (by decide) ?_
      refine x_iload_n C 1 dX11_load_59 rfl rfl ?_
      refine x_imul C dX11_load_60 ?_
      refine x_iload_n C 2 dX11_load_61 rfl rfl ?_
      refine x_iadd C dX11_load_62 ?_
      refine x_iald C 64 22 160 (q_lt rfl rfl hn) rfl rfl rfl rfl rfl dX11_load_63 h (fun h => ?_)
      refine x_iast C 49 12 144 (q_lt rfl rfl hn) rfl rfl rfl rfl rfl dX11_load_64 h (fun h => ?_)
      refine x_iinc C 2 (v := 1) (L' := [(3, .int ((v3 + 1))), (0, .ref (ga G 46)), (1, .int v1)]) dX11_load_65 rfl (by decide) (by decide) rfl ?_
      refine x_goto C dX11_load_68 (tgt := 18) (by decide) ?_
      exact qV_sub [1, 2, 0] rfl (h)
theorem y_X11_load : qY yX11_load cX11_load 4 (some .int) 1 ({ frames := 3, cells := 0, slots := 0, locals := 63 } : Room) 0 0 := ⟨(qm_50 _ (List.mem_of_getElem? (i := 0) rfl)), (qm_1 _ (List.mem_of_getElem? (i := 5) rfl)), by decide +kernel, by decide +kernel, rfl, rfl⟩
theorem c_X11_load (l : Launch) (G : qG) {v1 : Int32} {μ : qM} (hn : 66 ≤ gn G) : qCi l G yX11_load cX11_load 4 (some .int) ({ frames := 3, cells := 0, slots := 0, locals := 63 } : Room) 0 0 [.ref (ga G 46), .int v1] μ (fun post => w_X11_load v1 post μ) := by
  refine qCi_of (L := [(0, .ref (ga G 46)), (1, .int v1)]) (by decide) rfl rfl ?_
  intro Z post hl C hQ h
  have C : qX Z G RX11 cX11_load 4 ({ frames := 3, cells := 0, slots := 0, locals := 63 } : Room) (some .int) := C
  have h : w_X11_load v1 post μ := h
  unfold w_X11_load at h
  refine x_aload_n C 0 dX11_load_0 rfl rfl ?_
  refine x_iload_n C 1 dX11_load_1 rfl rfl ?_
  refine i_RX11_314 (rest := []) C hn  rfl (by decide) rfl dX11_load_2 h (fun r2 μ2 h => ?_)
  refine x_istore_n C (L' := [(2, .int r2), (0, .ref (ga G 46)), (1, .int v1)]) dX11_load_5 rfl (by decide) rfl ?_
  refine x_iload_n C 0 dX11_load_6 rfl rfl ?_
  refine x_if_lt C dX11_load_7 (tgt := 16) (by decide) h (fun h => ?_) (fun h => ?_)
  · refine x_iconst C dX11_load_16 (v := 0) (by decide) ?_
    refine x_istore_n C (L' := [(3, .int ((0 : Int32))), (2, .int r2), (0, .ref (ga G 46)), (1, .int v1)]) dX11_load_17 rfl (by decide) rfl ?_
    exact qV_sub [2, 3, 0] rfl (b_X11_load_18 C hQ hn h)
  · refine x_aload_n C 1 dX11_load_10 rfl rfl ?_
    refine x_iload_n C 0 dX11_load_11 rfl rfl ?_
    refine i_RX11_119 (rest := []) C hn  rfl (by decide) rfl dX11_load_12 h (fun r12 μ12 h => ?_)
    exact x_iret C hQ dX11_load_15 h
theorem dX11_judge_0 : decode cX11_judge 0 = .ok (.aload_n 0, 1) := by decide +kernel
theorem dX11_judge_1 : decode cX11_judge 1 = .ok (.iload_n 1, 1) := by decide +kernel
theorem dX11_judge_2 : decode cX11_judge 2 = .ok (.invokevirtual 314, 3) := by decide +kernel
theorem dX11_judge_5 : decode cX11_judge 5 = .ok (.istore_n 2, 1) := by decide +kernel
theorem dX11_judge_6 : decode cX11_judge 6 = .ok (.iload_n 2, 1) := by decide +kernel
theorem dX11_judge_7 : decode cX11_judge 7 = .ok (.ifCond .lt 9, 3) := by decide +kernel
theorem dX11_judge_10 : decode cX11_judge 10 = .ok (.aload_n 0, 1) := by decide +kernel
theorem dX11_judge_11 : decode cX11_judge 11 = .ok (.iload_n 2, 1) := by decide +kernel
theorem dX11_judge_12 : decode cX11_judge 12 = .ok (.invokevirtual 119, 3) := by decide +kernel
theorem dX11_judge_15 : decode cX11_judge 15 = .ok (.ireturn, 1) := by decide +kernel
theorem dX11_judge_16 : decode cX11_judge 16 = .ok (.aload_n 0, 1) := by decide +kernel
theorem dX11_judge_17 : decode cX11_judge 17 = .ok (.getfield 76, 3) := by decide +kernel
theorem dX11_judge_20 : decode cX11_judge 20 = .ok (.aload_n 0, 1) := by decide +kernel
theorem dX11_judge_21 : decode cX11_judge 21 = .ok (.getfield 66, 3) := by decide +kernel
theorem dX11_judge_24 : decode cX11_judge 24 = .ok (.iload_n 1, 1) := by decide +kernel
theorem dX11_judge_25 : decode cX11_judge 25 = .ok (.iaload, 1) := by decide +kernel
theorem dX11_judge_26 : decode cX11_judge 26 = .ok (.iadd, 1) := by decide +kernel
theorem dX11_judge_27 : decode cX11_judge 27 = .ok (.bipush 10, 2) := by decide +kernel
theorem dX11_judge_29 : decode cX11_judge 29 = .ok (.if_icmp .le 10, 3) := by decide +kernel
theorem dX11_judge_32 : decode cX11_judge 32 = .ok (.aload_n 0, 1) := by decide +kernel
theorem dX11_judge_33 : decode cX11_judge 33 = .ok (.bipush 6, 2) := by decide +kernel
theorem dX11_judge_35 : decode cX11_judge 35 = .ok (.invokevirtual 119, 3) := by decide +kernel
theorem dX11_judge_38 : decode cX11_judge 38 = .ok (.ireturn, 1) := by decide +kernel
theorem dX11_judge_39 : decode cX11_judge 39 = .ok (.aload_n 0, 1) := by decide +kernel
theorem dX11_judge_40 : decode cX11_judge 40 = .ok (.getfield 76, 3) := by decide +kernel
theorem dX11_judge_43 : decode cX11_judge 43 = .ok (.istore_n 3, 1) := by decide +kernel
theorem dX11_judge_44 : decode cX11_judge 44 = .ok (.iconst 0, 1) := by decide +kernel
theorem dX11_judge_45 : decode cX11_judge 45 = .ok (.istore 4, 2) := by decide +kernel
theorem dX11_judge_47 : decode cX11_judge 47 = .ok (.iload 4, 2) := by decide +kernel
theorem dX11_judge_49 : decode cX11_judge 49 = .ok (.aload_n 0, 1) := by decide +kernel
theorem dX11_judge_50 : decode cX11_judge 50 = .ok (.getfield 66, 3) := by decide +kernel
theorem dX11_judge_53 : decode cX11_judge 53 = .ok (.iload_n 1, 1) := by decide +kernel
theorem dX11_judge_54 : decode cX11_judge 54 = .ok (.iaload, 1) := by decide +kernel
theorem dX11_judge_55 : decode cX11_judge 55 = .ok (.if_icmp .ge 67, 3) := by decide +kernel
theorem dX11_judge_58 : decode cX11_judge 58 = .ok (.aload_n 0, 1) := by decide +kernel
theorem dX11_judge_59 : decode cX11_judge 59 = .ok (.getfield 69, 3) := by decide +kernel
theorem dX11_judge_62 : decode cX11_judge 62 = .ok (.bipush 40, 2) := by decide +kernel
theorem dX11_judge_64 : decode cX11_judge 64 = .ok (.iload_n 1, 1) := by decide +kernel
theorem dX11_judge_65 : decode cX11_judge 65 = .ok (.imul, 1) := by decide +kernel
theorem dX11_judge_66 : decode cX11_judge 66 = .ok (.iload 4, 2) := by decide +kernel
theorem dX11_judge_68 : decode cX11_judge 68 = .ok (.iadd, 1) := by decide +kernel
theorem dX11_judge_69 : decode cX11_judge 69 = .ok (.iaload, 1) := by decide +kernel
theorem dX11_judge_70 : decode cX11_judge 70 = .ok (.iconst 0, 1) := by decide +kernel
theorem dX11_judge_71 : decode cX11_judge 71 = .ok (.sipush 143, 3) := by decide +kernel
theorem dX11_judge_74 : decode cX11_judge 74 = .ok (.invokestatic 79, 3) := by decide +kernel
theorem dX11_judge_77 : decode cX11_judge 77 = .ok (.ifCond .eq 45, 3) := by decide +kernel
theorem dX11_judge_80 : decode cX11_judge 80 = .ok (.aload_n 0, 1) := by decide +kernel
theorem dX11_judge_81 : decode cX11_judge 81 = .ok (.aload_n 0, 1) := by decide +kernel
theorem dX11_judge_82 : decode cX11_judge 82 = .ok (.getfield 69, 3) := by decide +kernel
theorem dX11_judge_85 : decode cX11_judge 85 = .ok (.bipush 40, 2) := by decide +kernel
theorem dX11_judge_87 : decode cX11_judge 87 = .ok (.iload_n 1, 1) := by decide +kernel
theorem dX11_judge_88 : decode cX11_judge 88 = .ok (.imul, 1) := by decide +kernel
theorem dX11_judge_89 : decode cX11_judge 89 = .ok (.iload 4, 2) := by decide +kernel
theorem dX11_judge_91 : decode cX11_judge 91 = .ok (.iadd, 1) := by decide +kernel
theorem dX11_judge_92 : decode cX11_judge 92 = .ok (.iaload, 1) := by decide +kernel
theorem dX11_judge_93 : decode cX11_judge 93 = .ok (.invokevirtual 109, 3) := by decide +kernel
theorem dX11_judge_96 : decode cX11_judge 96 = .ok (.ifCond .eq 26, 3) := by decide +kernel
theorem dX11_judge_99 : decode cX11_judge 99 = .ok (.aload_n 0, 1) := by decide +kernel
theorem dX11_judge_100 : decode cX11_judge 100 = .ok (.iconst 0, 1) := by decide +kernel
theorem dX11_judge_101 : decode cX11_judge 101 = .ok (.aload_n 0, 1) := by decide +kernel
theorem dX11_judge_102 : decode cX11_judge 102 = .ok (.getfield 69, 3) := by decide +kernel
theorem dX11_judge_105 : decode cX11_judge 105 = .ok (.bipush 40, 2) := by decide +kernel
theorem dX11_judge_107 : decode cX11_judge 107 = .ok (.iload_n 1, 1) := by decide +kernel
theorem dX11_judge_108 : decode cX11_judge 108 = .ok (.imul, 1) := by decide +kernel
theorem dX11_judge_109 : decode cX11_judge 109 = .ok (.iload 4, 2) := by decide +kernel
theorem dX11_judge_111 : decode cX11_judge 111 = .ok (.iadd, 1) := by decide +kernel
theorem dX11_judge_112 : decode cX11_judge 112 = .ok (.iaload, 1) := by decide +kernel
theorem dX11_judge_113 : decode cX11_judge 113 = .ok (.invokevirtual 122, 3) := by decide +kernel
theorem dX11_judge_116 : decode cX11_judge 116 = .ok (.iinc 4 1, 3) := by decide +kernel
theorem dX11_judge_119 : decode cX11_judge 119 = .ok (.goto (-72), 3) := by decide +kernel
theorem dX11_judge_122 : decode cX11_judge 122 = .ok (.aload_n 0, 1) := by decide +kernel
theorem dX11_judge_123 : decode cX11_judge 123 = .ok (.iload_n 3, 1) := by decide +kernel
theorem dX11_judge_124 : decode cX11_judge 124 = .ok (.putfield 76, 3) := by decide +kernel
theorem dX11_judge_127 : decode cX11_judge 127 = .ok (.iload 4, 2) := by decide +kernel
theorem dX11_judge_129 : decode cX11_judge 129 = .ok (.aload_n 0, 1) := by decide +kernel
theorem dX11_judge_130 : decode cX11_judge 130 = .ok (.getfield 66, 3) := by decide +kernel
theorem dX11_judge_133 : decode cX11_judge 133 = .ok (.iload_n 1, 1) := by decide +kernel
theorem dX11_judge_134 : decode cX11_judge 134 = .ok (.iaload, 1) := by decide +kernel
theorem dX11_judge_135 : decode cX11_judge 135 = .ok (.if_icmp .ne 7, 3) := by decide +kernel
theorem dX11_judge_138 : decode cX11_judge 138 = .ok (.iconst 0, 1) := by decide +kernel
theorem dX11_judge_139 : decode cX11_judge 139 = .ok (.goto 7, 3) := by decide +kernel
theorem dX11_judge_142 : decode cX11_judge 142 = .ok (.iconst 1, 1) := by decide +kernel
theorem dX11_judge_143 : decode cX11_judge 143 = .ok (.iload 4, 2) := by decide +kernel
theorem dX11_judge_145 : decode cX11_judge 145 = .ok (.iadd, 1) := by decide +kernel
theorem dX11_judge_146 : decode cX11_judge 146 = .ok (.ireturn, 1) := by decide +kernel
theorem b_X11_judge_122 {Z : qZ} {G : qG} {v1 : Int32} {v3 : Int32} {v4 : Int32} {μ : qM} {post : Int32 → qM → Prop} (C : qX Z G RX11 cX11_judge 5 ({ frames := 6, cells := 0, slots := 0, locals := 136 } : Room) (some .int)) (hQ : qQi Z G 0 0 post) (hn : 66 ≤ gn G) (h : q_X11_judge_122 post v1 v3 v4 μ) : qV Z G 5 0 0 μ 122 [(0, .ref (ga G 46)), (1, .int v1), (3, .int v3), (4, .int v4)] [] := by
  unfold q_X11_judge_122 at h
  refine x_aload_n C 0 dX11_judge_122 rfl rfl ?_
  refine x_iload_n C 2 dX11_judge_123 rfl rfl ?_
  refine p_RX11_76 C hn dX11_judge_124 ?_
  refine x_iload C 3 dX11_judge_127 rfl ?_
  refine x_aload_n C 0 dX11_judge_129 rfl rfl ?_
  refine g_RX11_66 C hn dX11_judge_130 ?_
  refine x_iload_n C 1 dX11_judge_133 rfl rfl ?_
  refine x_iald C 63 21 4 (q_lt rfl rfl hn) rfl rfl rfl rfl rfl dX11_judge_134 h (fun h => ?_)
  refine x_icmp_ne C dX11_judge_135 (tgt := 142) (by decide) h (fun h => ?_) (fun h => ?_)
  · refine x_iconst C dX11_judge_142 (v := 1) (by decide) ?_
    refine x_iload C 3 dX11_judge_143 rfl ?_
    refine x_iadd C dX11_judge_145 ?_
    exact x_iret C hQ dX11_judge_146 h
  · refine x_iconst C dX11_judge_138 (v := 0) (by decide) ?_
    refine x_goto C dX11_judge_139 (tgt := 146) (by decide) ?_
    exact x_iret C hQ dX11_judge_146 h
theorem b_X11_judge_47 {Z : qZ} {G : qG} {v1 : Int32} {v3 : Int32} {v4 : Int32} {μ : qM} {post : Int32 → qM → Prop} (C : qX Z G RX11 cX11_judge 5 ({ frames := 6, cells := 0, slots := 0, locals := 136 } : Room) (some .int)) (hQ : qQi Z G 0 0 post) (hn : 66 ≤ gn G) (h : q_X11_judge_47 v1 v3 post v4 μ) : qV Z G 5 0 0 μ 47 [(0, .ref (ga G 46)), (1, .int v1), (3, .int v3), (4, .int v4)] [] := by
  refine h (fun v4 μ => qV Z G 5 0 0 μ 47 [(0, .ref (ga G 46)), (1, .int v1), (3, .int v3), (4, .int v4)] []) (fun v4 μ h => ?_)
  refine x_iload C 3 dX11_judge_47 rfl ?_
  refine x_aload_n C 0 dX11_judge_49 rfl rfl ?_
  refine g_RX11_66 C hn dX11_judge_50 ?_
  refine x_iload_n C 1 dX11_judge_53 rfl rfl ?_
  refine x_iald C 63 21 4 (q_lt rfl rfl hn) rfl rfl rfl rfl rfl dX11_judge_54 h (fun h => ?_)
  refine x_icmp_ge C dX11_judge_55 (tgt := 122) (by decide) h (fun h => ?_) (fun h => ?_)
  · exact b_X11_judge_122 C hQ hn h
  · refine x_aload_n C 0 dX11_judge_58 rfl rfl ?_
    refine g_RX11_69 C hn dX11_judge_59 ?_
    refine x_bipush C dX11_judge_62 (v := 40) (by decide) ?_
    refine x_iload_n C 1 dX11_judge_64 rfl rfl ?_
    refine x_imul C dX11_judge_65 ?_
    refine x_iload C 3 dX11_judge_66 rfl ?_
    refine x_iadd C dX11_judge_68 ?_
    refine x_iald C 64 22 160 (q_lt rfl rfl hn) rfl rfl rfl rfl rfl dX11_judge_69 h (fun h => ?_)
    refine x_iconst C dX11_judge_70 (v := 0) (by decide) ?_
    refine x_sipush C dX11_judge_71 (v := 143) (by decide) ?_
    refine i_RX11_79 (rest := []) C hn  rfl (by decide) rfl dX11_judge_74 h (fun r74 μ74 h => ?_)
    refine x_if_eq C dX11_judge_77 (tgt := 122) (by decide) h (fun h => ?_) (fun h => ?_)
    · exact b_X11_judge_122 C hQ hn h
    · refine x_aload_n C 0 dX11_judge_80 rfl rfl ?_
      refine x_aload_n C 0 dX11_judge_81 rfl rfl ?_
      refine g_RX11_69 C hn dX11_judge_82 ?_
      refine x_bipush C dX11_judge_85 (v := 40) (by decide) ?_
      refine x_iload_n C 1 dX11_judge_87 rfl rfl ?_
      refine x_imul C dX11_judge_88 ?_
      refine x_iload C 3 dX11_judge_89 rfl ?_
      refine x_iadd C dX11_judge_91 ?_
      refine x_iald C 64 22 160 (q_lt rfl rfl hn) rfl rfl rfl rfl rfl dX11_judge_92 h (fun h => ?_)
      refine i_RX11_109 (rest := []) C hn  rfl (by decide) rfl dX11_judge_93 h (fun r93 μ93 h => ?_)
      refine x_if_eq C dX11_judge_96 (tgt := 122) (by decide) h (fun h => ?_) (fun h => ?_)
      · exact b_X11_judge_122 C hQ hn h
      · refine x_aload_n C 0 dX11_judge_99 rfl rfl ?_
        refine x_iconst C dX11_judge_100 (v := 0) (by decide) ?_
        refine x_aload_n C 0 dX11_judge_101 rfl rfl ?_
        refine g_RX11_69 C hn dX11_judge_102 ?_
        refine x_bipush C dX11_judge_105 (v := 40) (by decide) ?_
        refine x_iload_n C 1 dX11_judge_107 rfl rfl ?_
        refine x_imul C dX11_judge_108 ?_
        refine x_iload C 3 dX11_judge_109 rfl ?_
        refine x_iadd C dX11_judge_111 ?_
        refine x_iald C 64 22 160 (q_lt rfl rfl hn) rfl rfl rfl rfl rfl dX11_judge_112 h (fun h => ?_)
        refine i_RX11_122 (rest := []) C hn  rfl (by decide) rfl dX11_judge_113 h (fun μ113 h => ?_)
        refine x_iinc C 3 (v := 1) (L' := [(4, .int ((v4 + 1))), (0, .ref (ga G 46)), (1, .int v1), (3, .int v3)]) dX11_judge_116 rfl (by decide) (by decide) rfl ?_
        refine x_goto C dX11_judge_119 (tgt := 47) (by decide) ?_
        exact qV_sub [1, 2, 3, 0] rfl (h)
theorem y_X11_judge : qY yX11_judge cX11_judge 5 (some .int) 1 ({ frames := 6, cells := 0, slots := 0, locals := 136 } : Room) 0 0 := ⟨(qm_50 _ (List.mem_of_getElem? (i := 8) rfl)), (qm_1 _ (List.mem_of_getElem? (i := 5) rfl)), by decide +kernel, by decide +kernel, rfl, rfl⟩
theorem c_X11_judge (l : Launch) (G : qG) {v1 : Int32} {μ : qM} (hn : 66 ≤ gn G) : qCi l G yX11_judge cX11_judge 5 (some .int) ({ frames := 6, cells := 0, slots := 0, locals := 136 } : Room) 0 0 [.ref (ga G 46), .int v1] μ (fun post => w_X11_judge v1 post μ) := by
  refine qCi_of (L := [(0, .ref (ga G 46)), (1, .int v1)]) (by decide) rfl rfl ?_
  intro Z post hl C hQ h
  have C : qX Z G RX11 cX11_judge 5 ({ frames := 6, cells := 0, slots := 0, locals := 136 } : Room) (some .int) := C
  have h : w_X11_judge v1 post μ := h
  unfold w_X11_judge at h
  refine x_aload_n C 0 dX11_judge_0 rfl rfl ?_
  refine x_iload_n C 1 dX11_judge_1 rfl rfl ?_
  refine i_RX11_314 (rest := []) C hn  rfl (by decide) rfl dX11_judge_2 h (fun r2 μ2 h => ?_)
  refine x_istore_n C (L' := [(2, .int r2), (0, .ref (ga G 46)), (1, .int v1)]) dX11_judge_5 rfl (by decide) rfl ?_
  refine x_iload_n C 0 dX11_judge_6 rfl rfl ?_
  refine x_if_lt C dX11_judge_7 (tgt := 16) (by decide) h (fun h => ?_) (fun h => ?_)
  · refine x_aload_n C 1 dX11_judge_16 rfl rfl ?_
    refine g_RX11_76 C hn dX11_judge_17 ?_
    refine x_aload_n C 1 dX11_judge_20 rfl rfl ?_
    refine g_RX11_66 C hn dX11_judge_21 ?_
    refine x_iload_n C 2 dX11_judge_24 rfl rfl ?_
    refine x_iald C 63 21 4 (q_lt rfl rfl hn) rfl rfl rfl rfl rfl dX11_judge_25 h (fun h => ?_)
    refine x_iadd C dX11_judge_26 ?_
    refine x_bipush C dX11_judge_27 (v := 10) (by decide) ?_
    refine x_icmp_le C dX11_judge_29 (tgt := 39) (by decide) h (fun h => ?_) (fun h => ?_)
    · refine x_aload_n C 1 dX11_judge_39 rfl rfl ?_
      refine g_RX11_76 C hn dX11_judge_40 ?_
      refine x_istore_n C (L' := [(3, .int ((μ2 46 0))), (2, .int r2), (0, .ref (ga G 46)), (1, .int v1)]) dX11_judge_43 rfl (by decide) rfl ?_
      refine x_iconst C dX11_judge_44 (v := 0) (by decide) ?_
      refine x_istore C (L' := [(4, .int ((0 : Int32))), (3, .int ((μ2 46 0))), (2, .int r2), (0, .ref (ga G 46)), (1, .int v1)]) dX11_judge_45 (by decide) rfl ?_
      exact qV_sub [3, 4, 1, 0] rfl (b_X11_judge_47 C hQ hn h)
    · refine x_aload_n C 1 dX11_judge_32 rfl rfl ?_
      refine x_bipush C dX11_judge_33 (v := 6) (by decide) ?_
      refine i_RX11_119 (rest := []) C hn  rfl (by decide) rfl dX11_judge_35 h (fun r35 μ35 h => ?_)
      exact x_iret C hQ dX11_judge_38 h
  · refine x_aload_n C 1 dX11_judge_10 rfl rfl ?_
    refine x_iload_n C 0 dX11_judge_11 rfl rfl ?_
    refine i_RX11_119 (rest := []) C hn  rfl (by decide) rfl dX11_judge_12 h (fun r12 μ12 h => ?_)
    exact x_iret C hQ dX11_judge_15 h
theorem dX11_row__0 : decode cX11_row_ 0 = .ok (.iconst 0, 1) := by decide +kernel
theorem dX11_row__1 : decode cX11_row_ 1 = .ok (.istore_n 3, 1) := by decide +kernel
theorem dX11_row__2 : decode cX11_row_ 2 = .ok (.iload_n 3, 1) := by decide +kernel
theorem dX11_row__3 : decode cX11_row_ 3 = .ok (.iload_n 2, 1) := by decide +kernel
theorem dX11_row__4 : decode cX11_row_ 4 = .ok (.if_icmp .ge 15, 3) := by decide +kernel
theorem dX11_row__7 : decode cX11_row_ 7 = .ok (.aload_n 1, 1) := by decide +kernel
theorem dX11_row__8 : decode cX11_row_ 8 = .ok (.iload_n 3, 1) := by decide +kernel
theorem dX11_row__9 : decode cX11_row_ 9 = .ok (.aload_n 0, 1) := by decide +kernel
theorem dX11_row__10 : decode cX11_row_ 10 = .ok (.iload_n 3, 1) := by decide +kernel
theorem dX11_row__11 : decode cX11_row_ 11 = .ok (.iaload, 1) := by decide +kernel
theorem dX11_row__12 : decode cX11_row_ 12 = .ok (.iastore, 1) := by decide +kernel
theorem dX11_row__13 : decode cX11_row_ 13 = .ok (.iinc 3 1, 3) := by decide +kernel
theorem dX11_row__16 : decode cX11_row_ 16 = .ok (.goto (-14), 3) := by decide +kernel
theorem dX11_row__19 : decode cX11_row_ 19 = .ok (.return_, 1) := by decide +kernel
theorem b_X11_row__2 {Z : qZ} {G : qG} {o0 : Nat} {o1 : Nat} {κ0 : Nat} {κ1 : Nat} {v2 : Int32} {v3 : Int32} {μ : qM} {post : qM → Prop} (C : qX Z G RX11 cX11_row_ 4 ({ frames := 0, cells := 0, slots := 0, locals := 0 } : Room) none) (hQ : qQv Z G 0 0 post) (hn : 66 ≤ gn G) (hk_o0 : qk o0 = κ0) (hk_o1 : qk o1 = κ1) (h11_κ0 : Nat.ble 11 κ0 = true) (h23_κ0 : (κ0 == 23) = false) (hT_κ0 : qaT κ0 = 0) (h9_κ0 : (κ0 == 99 || κ0 == 4) = false) (h11_κ1 : Nat.ble 11 κ1 = true) (h23_κ1 : (κ1 == 23) = false) (hT_κ1 : qaT κ1 = 0) (h9_κ1 : (κ1 == 99 || κ1 == 4) = false) (h : q_X11_row__2 o0 o1 κ0 κ1 v2 post v3 μ) : qV Z G 4 0 0 μ 2 [(0, .ref (ga G o0)), (1, .ref (ga G o1)), (2, .int v2), (3, .int v3)] [] := by
  refine h (fun v3 μ => qV Z G 4 0 0 μ 2 [(0, .ref (ga G o0)), (1, .ref (ga G o1)), (2, .int v2), (3, .int v3)] []) (fun v3 μ h => ?_)
  refine x_iload_n C 3 dX11_row__2 rfl rfl ?_
  refine x_iload_n C 2 dX11_row__3 rfl rfl ?_
  refine x_icmp_ge C dX11_row__4 (tgt := 19) (by decide) h (fun h => ?_) (fun h => ?_)
  · exact x_vret C hQ dX11_row__19 h
  · refine x_aload_n C 1 dX11_row__7 rfl rfl ?_
    refine x_iload_n C 3 dX11_row__8 rfl rfl ?_
    refine x_aload_n C 0 dX11_row__9 rfl rfl ?_
    refine x_iload_n C 3 dX11_row__10 rfl rfl ?_
    refine x_iald C o0 κ0 (qaN κ0) (q_lt hk_o0 h9_κ0 hn) hk_o0 h11_κ0 h23_κ0 hT_κ0 rfl dX11_row__11 h (fun h => ?_)
    refine x_iast C o1 κ1 (qaN κ1) (q_lt hk_o1 h9_κ1 hn) hk_o1 h11_κ1 h23_κ1 hT_κ1 rfl dX11_row__12 h (fun h => ?_)
    refine x_iinc C 3 (v := 1) (L' := [(3, .int ((v3 + 1))), (0, .ref (ga G o0)), (1, .ref (ga G o1)), (2, .int v2)]) dX11_row__13 rfl (by decide) (by decide) rfl ?_
    refine x_goto C dX11_row__16 (tgt := 2) (by decide) ?_
    exact qV_sub [1, 2, 3, 0] rfl (h)
theorem y_X11_row_ : qY yX11_row_ cX11_row_ 4 none 3 ({ frames := 0, cells := 0, slots := 0, locals := 0 } : Room) 0 0 := ⟨(qm_51 _ (List.mem_of_getElem? (i := 0) rfl)), (qm_1 _ (List.mem_of_getElem? (i := 5) rfl)), by decide +kernel, by decide +kernel, rfl, rfl⟩
theorem c_X11_row_ (l : Launch) (G : qG) {o0 : Nat} {o1 : Nat} {κ0 : Nat} {κ1 : Nat} {v2 : Int32} {μ : qM} (hn : 66 ≤ gn G) (hk_o0 : qk o0 = κ0) (hk_o1 : qk o1 = κ1) (h11_κ0 : Nat.ble 11 κ0 = true) (h23_κ0 : (κ0 == 23) = false) (hT_κ0 : qaT κ0 = 0) (h9_κ0 : (κ0 == 99 || κ0 == 4) = false) (h11_κ1 : Nat.ble 11 κ1 = true) (h23_κ1 : (κ1 == 23) = false) (hT_κ1 : qaT κ1 = 0) (h9_κ1 : (κ1 == 99 || κ1 == 4) = false) : qCv l G yX11_row_ cX11_row_ 4 none ({ frames := 0, cells := 0, slots := 0, locals := 0 } : Room) 0 0 [.ref (ga G o0), .ref (ga G o1), .int v2] μ (fun post => w_X11_row_ o0 o1 κ0 κ1 v2 post μ) := by
  refine qCv_of (L := [(0, .ref (ga G o0)), (1, .ref (ga G o1)), (2, .int v2)]) (by decide) rfl rfl ?_
  intro Z post hl C hQ h
  have C : qX Z G RX11 cX11_row_ 4 ({ frames := 0, cells := 0, slots := 0, locals := 0 } : Room) none := C
  have h : w_X11_row_ o0 o1 κ0 κ1 v2 post μ := h
  unfold w_X11_row_ at h
  refine x_iconst C dX11_row__0 (v := 0) (by decide) ?_
  refine x_istore_n C (L' := [(3, .int ((0 : Int32))), (0, .ref (ga G o0)), (1, .ref (ga G o1)), (2, .int v2)]) dX11_row__1 rfl (by decide) rfl ?_
  exact qV_sub [1, 2, 3, 0] rfl (b_X11_row__2 C hQ hn hk_o0 hk_o1 h11_κ0 h23_κ0 hT_κ0 h9_κ0 h11_κ1 h23_κ1 hT_κ1 h9_κ1 h)
theorem dX11_image_0 : decode cX11_image 0 = .ok (.aload_n 0, 1) := by decide +kernel
theorem dX11_image_1 : decode cX11_image 1 = .ok (.aload_n 0, 1) := by decide +kernel
theorem dX11_image_2 : decode cX11_image 2 = .ok (.getfield 76, 3) := by decide +kernel
theorem dX11_image_5 : decode cX11_image 5 = .ok (.putfield 320, 3) := by decide +kernel
theorem dX11_image_8 : decode cX11_image 8 = .ok (.aload_n 0, 1) := by decide +kernel
theorem dX11_image_9 : decode cX11_image 9 = .ok (.getfield 9, 3) := by decide +kernel
theorem dX11_image_12 : decode cX11_image 12 = .ok (.aload_n 0, 1) := by decide +kernel
theorem dX11_image_13 : decode cX11_image 13 = .ok (.getfield 29, 3) := by decide +kernel
theorem dX11_image_16 : decode cX11_image 16 = .ok (.aload_n 0, 1) := by decide +kernel
theorem dX11_image_17 : decode cX11_image 17 = .ok (.getfield 76, 3) := by decide +kernel
theorem dX11_image_20 : decode cX11_image 20 = .ok (.invokestatic 323, 3) := by decide +kernel
theorem dX11_image_23 : decode cX11_image 23 = .ok (.aload_n 0, 1) := by decide +kernel
theorem dX11_image_24 : decode cX11_image 24 = .ok (.getfield 13, 3) := by decide +kernel
theorem dX11_image_27 : decode cX11_image 27 = .ok (.aload_n 0, 1) := by decide +kernel
theorem dX11_image_28 : decode cX11_image 28 = .ok (.getfield 32, 3) := by decide +kernel
theorem dX11_image_31 : decode cX11_image 31 = .ok (.aload_n 0, 1) := by decide +kernel
theorem dX11_image_32 : decode cX11_image 32 = .ok (.getfield 76, 3) := by decide +kernel
theorem dX11_image_35 : decode cX11_image 35 = .ok (.invokestatic 323, 3) := by decide +kernel
theorem dX11_image_38 : decode cX11_image 38 = .ok (.aload_n 0, 1) := by decide +kernel
theorem dX11_image_39 : decode cX11_image 39 = .ok (.getfield 16, 3) := by decide +kernel
theorem dX11_image_42 : decode cX11_image 42 = .ok (.aload_n 0, 1) := by decide +kernel
theorem dX11_image_43 : decode cX11_image 43 = .ok (.getfield 35, 3) := by decide +kernel
theorem dX11_image_46 : decode cX11_image 46 = .ok (.sipush 144, 3) := by decide +kernel
theorem dX11_image_49 : decode cX11_image 49 = .ok (.invokestatic 323, 3) := by decide +kernel
theorem dX11_image_52 : decode cX11_image 52 = .ok (.aload_n 0, 1) := by decide +kernel
theorem dX11_image_53 : decode cX11_image 53 = .ok (.getfield 19, 3) := by decide +kernel
theorem dX11_image_56 : decode cX11_image 56 = .ok (.aload_n 0, 1) := by decide +kernel
theorem dX11_image_57 : decode cX11_image 57 = .ok (.getfield 38, 3) := by decide +kernel
theorem dX11_image_60 : decode cX11_image 60 = .ok (.bipush 10, 2) := by decide +kernel
theorem dX11_image_62 : decode cX11_image 62 = .ok (.invokestatic 323, 3) := by decide +kernel
theorem dX11_image_65 : decode cX11_image 65 = .ok (.aload_n 0, 1) := by decide +kernel
theorem dX11_image_66 : decode cX11_image 66 = .ok (.aload_n 0, 1) := by decide +kernel
theorem dX11_image_67 : decode cX11_image 67 = .ok (.getfield 22, 3) := by decide +kernel
theorem dX11_image_70 : decode cX11_image 70 = .ok (.putfield 327, 3) := by decide +kernel
theorem dX11_image_73 : decode cX11_image 73 = .ok (.aload_n 0, 1) := by decide +kernel
theorem dX11_image_74 : decode cX11_image 74 = .ok (.aload_n 0, 1) := by decide +kernel
theorem dX11_image_75 : decode cX11_image 75 = .ok (.getfield 201, 3) := by decide +kernel
theorem dX11_image_78 : decode cX11_image 78 = .ok (.putfield 330, 3) := by decide +kernel
theorem dX11_image_81 : decode cX11_image 81 = .ok (.aload_n 0, 1) := by decide +kernel
theorem dX11_image_82 : decode cX11_image 82 = .ok (.aload_n 0, 1) := by decide +kernel
theorem dX11_image_83 : decode cX11_image 83 = .ok (.getfield 26, 3) := by decide +kernel
theorem dX11_image_86 : decode cX11_image 86 = .ok (.putfield 333, 3) := by decide +kernel
theorem dX11_image_89 : decode cX11_image 89 = .ok (.aload_n 0, 1) := by decide +kernel
theorem dX11_image_90 : decode cX11_image 90 = .ok (.iconst 1, 1) := by decide +kernel
theorem dX11_image_91 : decode cX11_image 91 = .ok (.putfield 336, 3) := by decide +kernel
theorem dX11_image_94 : decode cX11_image 94 = .ok (.iconst 1, 1) := by decide +kernel
theorem dX11_image_95 : decode cX11_image 95 = .ok (.ireturn, 1) := by decide +kernel
theorem i_RX11_323 {Z : qZ} {G : qG} {cc : ByteArray} {nL k n : Nat} {rm : Room} {ret : Option FieldType} {μ : qM} {pc : Nat} {L : List (Nat × Value)} {rest : List Value} {K : qM → Prop} {o0 : Nat} {o1 : Nat} {κ0 : Nat} {κ1 : Nat} {v2 : Int32} (C : qX Z G RX11 cc nL rm ret) (hn : 66 ≤ gn G) (hk_o0 : qk o0 = κ0) (hk_o1 : qk o1 = κ1) (h11_κ0 : Nat.ble 11 κ0 = true) (h23_κ0 : (κ0 == 23) = false) (hT_κ0 : qaT κ0 = 0) (h9_κ0 : (κ0 == 99 || κ0 == 4) = false) (h11_κ1 : Nat.ble 11 κ1 = true) (h23_κ1 : (κ1 == 23) = false) (hT_κ1 : qaT κ1 = 0) (h9_κ1 : (κ1 == 99 || κ1 == 4) = false) (hR : (Nat.ble (0 + 1) rm.frames && Nat.ble (8 + (4 + 11) + 0) rm.locals) = true) (hf : k + 0 ≤ rm.cells ∧ n + 0 ≤ rm.slots) (hsz : Nat.ble (rest.map fun v => v.category).sum 8 = true) (hd : decode cc pc = .ok (.invokestatic 323, 3)) (h : w_X11_row_ o0 o1 κ0 κ1 v2 K μ) (hk : ∀ (μ1 : qM), K μ1 → qV Z G nL k n μ1 (pc + 3) L rest) : qV Z G nL k n μ pc L (.int v2 :: .ref (ga G o1) :: .ref (ga G o0) :: rest) := x_Sv [.ref (ga G o0), .ref (ga G o1), .int v2] rest C (wp := fun K => w_X11_row_ o0 o1 κ0 κ1 v2 K μ) (y_X11_row_ : qY yX11_row_ cX11_row_ 4 none 3 ({ frames := 0, cells := 0, slots := 0, locals := 0 } : Room) 0 0) (qm_50 _ (List.mem_of_getElem? (i := 23) rfl)) (qm_50 _ (List.mem_of_getElem? (i := 22) rfl)) (c_X11_row_ Z.2.1 G hn hk_o0 hk_o1 h11_κ0 h23_κ0 hT_κ0 h9_κ0 h11_κ1 h23_κ1 hT_κ1 h9_κ1) hR hf rfl rfl hsz hd h hk
theorem g_RX11_29 {Z : qZ} {G : qG} {cc : ByteArray} {nL k n : Nat} {rm : Room} {ret : Option FieldType} {μ : qM} {pc : Nat} {L : List (Nat × Value)} {st : List Value} (C : qX Z G RX11 cc nL rm ret) (hn : 66 ≤ gn G) (hd : decode cc pc = .ok (.getfield 29, 3)) (h : qV Z G nL k n μ (pc + 3) L (.ref (ga G 51) :: st)) : qV Z G nL k n μ pc L (.ref (ga G 46) :: st) := x_getr C 46 10 10 5 51 (C0 := RX11) (fn := "keptKind") (fd := "[I") (Nat.lt_of_lt_of_le (by decide) hn) rfl (by decide) rfl (by decide) rfl inlX11 (qm_5 _ (List.mem_of_getElem? (i := 21) rfl)) rfl rfl rfl hd h
theorem g_RX11_32 {Z : qZ} {G : qG} {cc : ByteArray} {nL k n : Nat} {rm : Room} {ret : Option FieldType} {μ : qM} {pc : Nat} {L : List (Nat × Value)} {st : List Value} (C : qX Z G RX11 cc nL rm ret) (hn : 66 ≤ gn G) (hd : decode cc pc = .ok (.getfield 32, 3)) (h : qV Z G nL k n μ (pc + 3) L (.ref (ga G 52) :: st)) : qV Z G nL k n μ pc L (.ref (ga G 46) :: st) := x_getr C 46 10 11 6 52 (C0 := RX11) (fn := "keptLot") (fd := "[I") (Nat.lt_of_lt_of_le (by decide) hn) rfl (by decide) rfl (by decide) rfl inlX11 (qm_5 _ (List.mem_of_getElem? (i := 22) rfl)) rfl rfl rfl hd h
theorem g_RX11_35 {Z : qZ} {G : qG} {cc : ByteArray} {nL k n : Nat} {rm : Room} {ret : Option FieldType} {μ : qM} {pc : Nat} {L : List (Nat × Value)} {st : List Value} (C : qX Z G RX11 cc nL rm ret) (hn : 66 ≤ gn G) (hd : decode cc pc = .ok (.getfield 35, 3)) (h : qV Z G nL k n μ (pc + 3) L (.ref (ga G 53) :: st)) : qV Z G nL k n μ pc L (.ref (ga G 46) :: st) := x_getr C 46 10 12 7 53 (C0 := RX11) (fn := "keptWorth") (fd := "[I") (Nat.lt_of_lt_of_le (by decide) hn) rfl (by decide) rfl (by decide) rfl inlX11 (qm_5 _ (List.mem_of_getElem? (i := 23) rfl)) rfl rfl rfl hd h
theorem g_RX11_38 {Z : qZ} {G : qG} {cc : ByteArray} {nL k n : Nat} {rm : Room} {ret : Option FieldType} {μ : qM} {pc : Nat} {L : List (Nat × Value)} {st : List Value} (C : qX Z G RX11 cc nL rm ret) (hn : 66 ≤ gn G) (hd : decode cc pc = .ok (.getfield 38, 3)) (h : qV Z G nL k n μ (pc + 3) L (.ref (ga G 54) :: st)) : qV Z G nL k n μ pc L (.ref (ga G 46) :: st) := x_getr C 46 10 13 8 54 (C0 := RX11) (fn := "keptSpot") (fd := "[I") (Nat.lt_of_lt_of_le (by decide) hn) rfl (by decide) rfl (by decide) rfl inlX11 (qm_6 _ (List.mem_of_getElem? (i := 0) rfl)) rfl rfl rfl hd h
theorem p_RX11_320 {Z : qZ} {G : qG} {cc : ByteArray} {nL k n : Nat} {rm : Room} {ret : Option FieldType} {μ : qM} {pc : Nat} {L : List (Nat × Value)} {st : List Value} {x : Int32} (C : qX Z G RX11 cc nL rm ret) (hn : 66 ≤ gn G) (hd : decode cc pc = .ok (.putfield 320, 3)) (h : qV Z G nL k n (qu μ 46 9 x) (pc + 3) L st) : qV Z G nL k n μ pc L (.int x :: .ref (ga G 46) :: st) := x_puti C 46 10 9 (C0 := RX11) (fn := "keptMany") (fd := "I") (ty := .int) (Nat.lt_of_lt_of_le (by decide) hn) rfl (by decide) rfl (by decide) rfl inlX11 tyX11_ok nmX11 (qm_50 _ (List.mem_of_getElem? (i := 17) rfl)) rfl (by decide +kernel) rfl rfl hd h
theorem p_RX11_327 {Z : qZ} {G : qG} {cc : ByteArray} {nL k n : Nat} {rm : Room} {ret : Option FieldType} {μ : qM} {pc : Nat} {L : List (Nat × Value)} {st : List Value} {x : Int32} (C : qX Z G RX11 cc nL rm ret) (hn : 66 ≤ gn G) (hd : decode cc pc = .ok (.putfield 327, 3)) (h : qV Z G nL k n (qu μ 46 14 x) (pc + 3) L st) : qV Z G nL k n μ pc L (.int x :: .ref (ga G 46) :: st) := x_puti C 46 10 14 (C0 := RX11) (fn := "keptCoin") (fd := "I") (ty := .int) (Nat.lt_of_lt_of_le (by decide) hn) rfl (by decide) rfl (by decide) rfl inlX11 tyX11_ok nmX11 (qm_50 _ (List.mem_of_getElem? (i := 18) rfl)) rfl (by decide +kernel) rfl rfl hd h
theorem p_RX11_330 {Z : qZ} {G : qG} {cc : ByteArray} {nL k n : Nat} {rm : Room} {ret : Option FieldType} {μ : qM} {pc : Nat} {L : List (Nat × Value)} {st : List Value} {x : Int32} (C : qX Z G RX11 cc nL rm ret) (hn : 66 ≤ gn G) (hd : decode cc pc = .ok (.putfield 330, 3)) (h : qV Z G nL k n (qu μ 46 15 x) (pc + 3) L st) : qV Z G nL k n μ pc L (.int x :: .ref (ga G 46) :: st) := x_puti C 46 10 15 (C0 := RX11) (fn := "keptYear") (fd := "I") (ty := .int) (Nat.lt_of_lt_of_le (by decide) hn) rfl (by decide) rfl (by decide) rfl inlX11 tyX11_ok nmX11 (qm_50 _ (List.mem_of_getElem? (i := 19) rfl)) rfl (by decide +kernel) rfl rfl hd h
theorem p_RX11_333 {Z : qZ} {G : qG} {cc : ByteArray} {nL k n : Nat} {rm : Room} {ret : Option FieldType} {μ : qM} {pc : Nat} {L : List (Nat × Value)} {st : List Value} {x : Int32} (C : qX Z G RX11 cc nL rm ret) (hn : 66 ≤ gn G) (hd : decode cc pc = .ok (.putfield 333, 3)) (h : qV Z G nL k n (qu μ 46 16 x) (pc + 3) L st) : qV Z G nL k n μ pc L (.int x :: .ref (ga G 46) :: st) := x_puti C 46 10 16 (C0 := RX11) (fn := "keptZ") (fd := "I") (ty := .int) (Nat.lt_of_lt_of_le (by decide) hn) rfl (by decide) rfl (by decide) rfl inlX11 tyX11_ok nmX11 (qm_50 _ (List.mem_of_getElem? (i := 20) rfl)) rfl (by decide +kernel) rfl rfl hd h
theorem p_RX11_336 {Z : qZ} {G : qG} {cc : ByteArray} {nL k n : Nat} {rm : Room} {ret : Option FieldType} {μ : qM} {pc : Nat} {L : List (Nat × Value)} {st : List Value} {x : Int32} {A : Prop} (C : qX Z G RX11 cc nL rm ret) (hn : 66 ≤ gn G) (hd : decode cc pc = .ok (.putfield 336, 3)) (hh : (x = 0 ∨ x = 1) ∧ A) (h : A → qV Z G nL k n (qu μ 46 8 x) (pc + 3) L st) : qV Z G nL k n μ pc L (.int x :: .ref (ga G 46) :: st) := x_puti C 46 10 8 (C0 := RX11) (fn := "isKept") (fd := "Z") (ty := .boolean) (Nat.lt_of_lt_of_le (by decide) hn) rfl (by decide) rfl (by decide) rfl inlX11 tyX11_ok nmX11 (qm_50 _ (List.mem_of_getElem? (i := 21) rfl)) rfl (by decide +kernel) (by rcases hh.1 with rfl | rfl <;> decide) (by rcases hh.1 with rfl | rfl <;> decide) hd (h hh.2)
theorem y_X11_image : qY yX11_image cX11_image 1 (some .int) 0 ({ frames := 1, cells := 0, slots := 0, locals := 23 } : Room) 0 0 := ⟨(qm_50 _ (List.mem_of_getElem? (i := 16) rfl)), (qm_1 _ (List.mem_of_getElem? (i := 5) rfl)), by decide +kernel, by decide +kernel, rfl, rfl⟩
theorem c_X11_image (l : Launch) (G : qG) {μ : qM} (hn : 66 ≤ gn G) : qCi l G yX11_image cX11_image 1 (some .int) ({ frames := 1, cells := 0, slots := 0, locals := 23 } : Room) 0 0 [.ref (ga G 46)] μ (fun post => w_X11_image  post μ) := by
  refine qCi_of (L := [(0, .ref (ga G 46))]) (by decide) rfl rfl ?_
  intro Z post hl C hQ h
  have C : qX Z G RX11 cX11_image 1 ({ frames := 1, cells := 0, slots := 0, locals := 23 } : Room) (some .int) := C
  have h : w_X11_image  post μ := h
  unfold w_X11_image at h
  refine x_aload_n C 0 dX11_image_0 rfl rfl ?_
  refine x_aload_n C 0 dX11_image_1 rfl rfl ?_
  refine g_RX11_76 C hn dX11_image_2 ?_
  refine p_RX11_320 C hn dX11_image_5 ?_
  refine x_aload_n C 0 dX11_image_8 rfl rfl ?_
  refine g_RX11_9 C hn dX11_image_9 ?_
  refine x_aload_n C 0 dX11_image_12 rfl rfl ?_
  refine g_RX11_29 C hn dX11_image_13 ?_
  refine x_aload_n C 0 dX11_image_16 rfl rfl ?_
  refine g_RX11_76 C hn dX11_image_17 ?_
  refine i_RX11_323 (rest := []) C hn rfl rfl rfl rfl rfl rfl rfl rfl rfl rfl rfl (by decide) rfl dX11_image_20 h (fun μ20 h => ?_)
  refine x_aload_n C 0 dX11_image_23 rfl rfl ?_
  refine g_RX11_13 C hn dX11_image_24 ?_
  refine x_aload_n C 0 dX11_image_27 rfl rfl ?_
  refine g_RX11_32 C hn dX11_image_28 ?_
  refine x_aload_n C 0 dX11_image_31 rfl rfl ?_
  refine g_RX11_76 C hn dX11_image_32 ?_
  refine i_RX11_323 (rest := []) C hn rfl rfl rfl rfl rfl rfl rfl rfl rfl rfl rfl (by decide) rfl dX11_image_35 h (fun μ35 h => ?_)
  refine x_aload_n C 0 dX11_image_38 rfl rfl ?_
  refine g_RX11_16 C hn dX11_image_39 ?_
  refine x_aload_n C 0 dX11_image_42 rfl rfl ?_
  refine g_RX11_35 C hn dX11_image_43 ?_
  refine x_sipush C dX11_image_46 (v := 144) (by decide) ?_
  refine i_RX11_323 (rest := []) C hn rfl rfl rfl rfl rfl rfl rfl rfl rfl rfl rfl (by decide) rfl dX11_image_49 h (fun μ49 h => ?_)
  refine x_aload_n C 0 dX11_image_52 rfl rfl ?_
  refine g_RX11_19 C hn dX11_image_53 ?_
  refine x_aload_n C 0 dX11_image_56 rfl rfl ?_
  refine g_RX11_38 C hn dX11_image_57 ?_
  refine x_bipush C dX11_image_60 (v := 10) (by decide) ?_
  refine i_RX11_323 (rest := []) C hn rfl rfl rfl rfl rfl rfl rfl rfl rfl rfl rfl (by decide) rfl dX11_image_62 h (fun μ62 h => ?_)
  refine x_aload_n C 0 dX11_image_65 rfl rfl ?_
  refine x_aload_n C 0 dX11_image_66 rfl rfl ?_
  refine g_RX11_22 C hn dX11_image_67 ?_
  refine p_RX11_327 C hn dX11_image_70 ?_
  refine x_aload_n C 0 dX11_image_73 rfl rfl ?_
  refine x_aload_n C 0 dX11_image_74 rfl rfl ?_
  refine g_RX11_201 C hn dX11_image_75 ?_
  refine p_RX11_330 C hn dX11_image_78 ?_
  refine x_aload_n C 0 dX11_image_81 rfl rfl ?_
  refine x_aload_n C 0 dX11_image_82 rfl rfl ?_
  refine g_RX11_26 C hn dX11_image_83 ?_
  refine p_RX11_333 C hn dX11_image_86 ?_
  refine x_aload_n C 0 dX11_image_89 rfl rfl ?_
  refine x_iconst C dX11_image_90 (v := 1) (by decide) ?_
  refine p_RX11_336 C hn dX11_image_91 h (fun h => ?_)
  refine x_iconst C dX11_image_94 (v := 1) (by decide) ?_
  exact x_iret C hQ dX11_image_95 h
theorem dX11_undo_0 : decode cX11_undo 0 = .ok (.aload_n 0, 1) := by decide +kernel
theorem dX11_undo_1 : decode cX11_undo 1 = .ok (.getfield 336, 3) := by decide +kernel
theorem dX11_undo_4 : decode cX11_undo 4 = .ok (.ifCond .ne 9, 3) := by decide +kernel
theorem dX11_undo_7 : decode cX11_undo 7 = .ok (.aload_n 0, 1) := by decide +kernel
theorem dX11_undo_8 : decode cX11_undo 8 = .ok (.iconst 3, 1) := by decide +kernel
theorem dX11_undo_9 : decode cX11_undo 9 = .ok (.invokevirtual 119, 3) := by decide +kernel
theorem dX11_undo_12 : decode cX11_undo 12 = .ok (.ireturn, 1) := by decide +kernel
theorem dX11_undo_13 : decode cX11_undo 13 = .ok (.aload_n 0, 1) := by decide +kernel
theorem dX11_undo_14 : decode cX11_undo 14 = .ok (.aload_n 0, 1) := by decide +kernel
theorem dX11_undo_15 : decode cX11_undo 15 = .ok (.getfield 320, 3) := by decide +kernel
theorem dX11_undo_18 : decode cX11_undo 18 = .ok (.putfield 76, 3) := by decide +kernel
theorem dX11_undo_21 : decode cX11_undo 21 = .ok (.aload_n 0, 1) := by decide +kernel
theorem dX11_undo_22 : decode cX11_undo 22 = .ok (.getfield 29, 3) := by decide +kernel
theorem dX11_undo_25 : decode cX11_undo 25 = .ok (.aload_n 0, 1) := by decide +kernel
theorem dX11_undo_26 : decode cX11_undo 26 = .ok (.getfield 9, 3) := by decide +kernel
theorem dX11_undo_29 : decode cX11_undo 29 = .ok (.aload_n 0, 1) := by decide +kernel
theorem dX11_undo_30 : decode cX11_undo 30 = .ok (.getfield 76, 3) := by decide +kernel
theorem dX11_undo_33 : decode cX11_undo 33 = .ok (.invokestatic 323, 3) := by decide +kernel
theorem dX11_undo_36 : decode cX11_undo 36 = .ok (.aload_n 0, 1) := by decide +kernel
theorem dX11_undo_37 : decode cX11_undo 37 = .ok (.getfield 32, 3) := by decide +kernel
theorem dX11_undo_40 : decode cX11_undo 40 = .ok (.aload_n 0, 1) := by decide +kernel
theorem dX11_undo_41 : decode cX11_undo 41 = .ok (.getfield 13, 3) := by decide +kernel
theorem dX11_undo_44 : decode cX11_undo 44 = .ok (.aload_n 0, 1) := by decide +kernel
theorem dX11_undo_45 : decode cX11_undo 45 = .ok (.getfield 76, 3) := by decide +kernel
theorem dX11_undo_48 : decode cX11_undo 48 = .ok (.invokestatic 323, 3) := by decide +kernel
theorem dX11_undo_51 : decode cX11_undo 51 = .ok (.aload_n 0, 1) := by decide +kernel
theorem dX11_undo_52 : decode cX11_undo 52 = .ok (.getfield 35, 3) := by decide +kernel
theorem dX11_undo_55 : decode cX11_undo 55 = .ok (.aload_n 0, 1) := by decide +kernel
theorem dX11_undo_56 : decode cX11_undo 56 = .ok (.getfield 16, 3) := by decide +kernel
theorem dX11_undo_59 : decode cX11_undo 59 = .ok (.sipush 144, 3) := by decide +kernel
theorem dX11_undo_62 : decode cX11_undo 62 = .ok (.invokestatic 323, 3) := by decide +kernel
theorem dX11_undo_65 : decode cX11_undo 65 = .ok (.aload_n 0, 1) := by decide +kernel
theorem dX11_undo_66 : decode cX11_undo 66 = .ok (.getfield 38, 3) := by decide +kernel
theorem dX11_undo_69 : decode cX11_undo 69 = .ok (.aload_n 0, 1) := by decide +kernel
theorem dX11_undo_70 : decode cX11_undo 70 = .ok (.getfield 19, 3) := by decide +kernel
theorem dX11_undo_73 : decode cX11_undo 73 = .ok (.bipush 10, 2) := by decide +kernel
theorem dX11_undo_75 : decode cX11_undo 75 = .ok (.invokestatic 323, 3) := by decide +kernel
theorem dX11_undo_78 : decode cX11_undo 78 = .ok (.aload_n 0, 1) := by decide +kernel
theorem dX11_undo_79 : decode cX11_undo 79 = .ok (.aload_n 0, 1) := by decide +kernel
theorem dX11_undo_80 : decode cX11_undo 80 = .ok (.getfield 327, 3) := by decide +kernel
theorem dX11_undo_83 : decode cX11_undo 83 = .ok (.putfield 22, 3) := by decide +kernel
theorem dX11_undo_86 : decode cX11_undo 86 = .ok (.aload_n 0, 1) := by decide +kernel
theorem dX11_undo_87 : decode cX11_undo 87 = .ok (.aload_n 0, 1) := by decide +kernel
theorem dX11_undo_88 : decode cX11_undo 88 = .ok (.getfield 330, 3) := by decide +kernel
theorem dX11_undo_91 : decode cX11_undo 91 = .ok (.putfield 201, 3) := by decide +kernel
theorem dX11_undo_94 : decode cX11_undo 94 = .ok (.aload_n 0, 1) := by decide +kernel
theorem dX11_undo_95 : decode cX11_undo 95 = .ok (.aload_n 0, 1) := by decide +kernel
theorem dX11_undo_96 : decode cX11_undo 96 = .ok (.getfield 333, 3) := by decide +kernel
theorem dX11_undo_99 : decode cX11_undo 99 = .ok (.putfield 26, 3) := by decide +kernel
theorem dX11_undo_102 : decode cX11_undo 102 = .ok (.aload_n 0, 1) := by decide +kernel
theorem dX11_undo_103 : decode cX11_undo 103 = .ok (.getfield 201, 3) := by decide +kernel
theorem dX11_undo_106 : decode cX11_undo 106 = .ok (.ireturn, 1) := by decide +kernel
theorem g_RX11_320 {Z : qZ} {G : qG} {cc : ByteArray} {nL k n : Nat} {rm : Room} {ret : Option FieldType} {μ : qM} {pc : Nat} {L : List (Nat × Value)} {st : List Value} (C : qX Z G RX11 cc nL rm ret) (hn : 66 ≤ gn G) (hd : decode cc pc = .ok (.getfield 320, 3)) (h : qV Z G nL k n μ (pc + 3) L (.int (μ 46 9) :: st)) : qV Z G nL k n μ pc L (.ref (ga G 46) :: st) := x_geti C 46 10 9 (C0 := RX11) (fn := "keptMany") (fd := "I") (Nat.lt_of_lt_of_le (by decide) hn) rfl (by decide) rfl (by decide) rfl inlX11 (qm_50 _ (List.mem_of_getElem? (i := 17) rfl)) rfl hd h
theorem g_RX11_327 {Z : qZ} {G : qG} {cc : ByteArray} {nL k n : Nat} {rm : Room} {ret : Option FieldType} {μ : qM} {pc : Nat} {L : List (Nat × Value)} {st : List Value} (C : qX Z G RX11 cc nL rm ret) (hn : 66 ≤ gn G) (hd : decode cc pc = .ok (.getfield 327, 3)) (h : qV Z G nL k n μ (pc + 3) L (.int (μ 46 14) :: st)) : qV Z G nL k n μ pc L (.ref (ga G 46) :: st) := x_geti C 46 10 14 (C0 := RX11) (fn := "keptCoin") (fd := "I") (Nat.lt_of_lt_of_le (by decide) hn) rfl (by decide) rfl (by decide) rfl inlX11 (qm_50 _ (List.mem_of_getElem? (i := 18) rfl)) rfl hd h
theorem g_RX11_330 {Z : qZ} {G : qG} {cc : ByteArray} {nL k n : Nat} {rm : Room} {ret : Option FieldType} {μ : qM} {pc : Nat} {L : List (Nat × Value)} {st : List Value} (C : qX Z G RX11 cc nL rm ret) (hn : 66 ≤ gn G) (hd : decode cc pc = .ok (.getfield 330, 3)) (h : qV Z G nL k n μ (pc + 3) L (.int (μ 46 15) :: st)) : qV Z G nL k n μ pc L (.ref (ga G 46) :: st) := x_geti C 46 10 15 (C0 := RX11) (fn := "keptYear") (fd := "I") (Nat.lt_of_lt_of_le (by decide) hn) rfl (by decide) rfl (by decide) rfl inlX11 (qm_50 _ (List.mem_of_getElem? (i := 19) rfl)) rfl hd h
theorem g_RX11_333 {Z : qZ} {G : qG} {cc : ByteArray} {nL k n : Nat} {rm : Room} {ret : Option FieldType} {μ : qM} {pc : Nat} {L : List (Nat × Value)} {st : List Value} (C : qX Z G RX11 cc nL rm ret) (hn : 66 ≤ gn G) (hd : decode cc pc = .ok (.getfield 333, 3)) (h : qV Z G nL k n μ (pc + 3) L (.int (μ 46 16) :: st)) : qV Z G nL k n μ pc L (.ref (ga G 46) :: st) := x_geti C 46 10 16 (C0 := RX11) (fn := "keptZ") (fd := "I") (Nat.lt_of_lt_of_le (by decide) hn) rfl (by decide) rfl (by decide) rfl inlX11 (qm_50 _ (List.mem_of_getElem? (i := 20) rfl)) rfl hd h
theorem g_RX11_336 {Z : qZ} {G : qG} {cc : ByteArray} {nL k n : Nat} {rm : Room} {ret : Option FieldType} {μ : qM} {pc : Nat} {L : List (Nat × Value)} {st : List Value} (C : qX Z G RX11 cc nL rm ret) (hn : 66 ≤ gn G) (hd : decode cc pc = .ok (.getfield 336, 3)) (h : qV Z G nL k n μ (pc + 3) L (.int (μ 46 8) :: st)) : qV Z G nL k n μ pc L (.ref (ga G 46) :: st) := x_geti C 46 10 8 (C0 := RX11) (fn := "isKept") (fd := "Z") (Nat.lt_of_lt_of_le (by decide) hn) rfl (by decide) rfl (by decide) rfl inlX11 (qm_50 _ (List.mem_of_getElem? (i := 21) rfl)) rfl hd h
theorem y_X11_undo : qY yX11_undo cX11_undo 1 (some .int) 0 ({ frames := 1, cells := 0, slots := 0, locals := 23 } : Room) 0 0 := ⟨(qm_51 _ (List.mem_of_getElem? (i := 8) rfl)), (qm_1 _ (List.mem_of_getElem? (i := 5) rfl)), by decide +kernel, by decide +kernel, rfl, rfl⟩
theorem c_X11_undo (l : Launch) (G : qG) {μ : qM} (hn : 66 ≤ gn G) : qCi l G yX11_undo cX11_undo 1 (some .int) ({ frames := 1, cells := 0, slots := 0, locals := 23 } : Room) 0 0 [.ref (ga G 46)] μ (fun post => w_X11_undo  post μ) := by
  refine qCi_of (L := [(0, .ref (ga G 46))]) (by decide) rfl rfl ?_
  intro Z post hl C hQ h
  have C : qX Z G RX11 cX11_undo 1 ({ frames := 1, cells := 0, slots := 0, locals := 23 } : Room) (some .int) := C
  have h : w_X11_undo  post μ := h
  unfold w_X11_undo at h
  refine x_aload_n C 0 dX11_undo_0 rfl rfl ?_
  refine g_RX11_336 C hn dX11_undo_1 ?_
  refine x_if_ne C dX11_undo_4 (tgt := 13) (by decide) h (fun h => ?_) (fun h => ?_)
  · refine x_aload_n C 0 dX11_undo_13 rfl rfl ?_
    refine x_aload_n C 0 dX11_undo_14 rfl rfl ?_
    refine g_RX11_320 C hn dX11_undo_15 ?_
    refine p_RX11_76 C hn dX11_undo_18 ?_
    refine x_aload_n C 0 dX11_undo_21 rfl rfl ?_
    refine g_RX11_29 C hn dX11_undo_22 ?_
    refine x_aload_n C 0 dX11_undo_25 rfl rfl ?_
    refine g_RX11_9 C hn dX11_undo_26 ?_
    refine x_aload_n C 0 dX11_undo_29 rfl rfl ?_
    refine g_RX11_76 C hn dX11_undo_30 ?_
    refine i_RX11_323 (rest := []) C hn rfl rfl rfl rfl rfl rfl rfl rfl rfl rfl rfl (by decide) rfl dX11_undo_33 h (fun μ33 h => ?_)
    refine x_aload_n C 0 dX11_undo_36 rfl rfl ?_
    refine g_RX11_32 C hn dX11_undo_37 ?_
    refine x_aload_n C 0 dX11_undo_40 rfl rfl ?_
    refine g_RX11_13 C hn dX11_undo_41 ?_
    refine x_aload_n C 0 dX11_undo_44 rfl rfl ?_
    refine g_RX11_76 C hn dX11_undo_45 ?_
    refine i_RX11_323 (rest := []) C hn rfl rfl rfl rfl rfl rfl rfl rfl rfl rfl rfl (by decide) rfl dX11_undo_48 h (fun μ48 h => ?_)
    refine x_aload_n C 0 dX11_undo_51 rfl rfl ?_
    refine g_RX11_35 C hn dX11_undo_52 ?_
    refine x_aload_n C 0 dX11_undo_55 rfl rfl ?_
    refine g_RX11_16 C hn dX11_undo_56 ?_
    refine x_sipush C dX11_undo_59 (v := 144) (by decide) ?_
    refine i_RX11_323 (rest := []) C hn rfl rfl rfl rfl rfl rfl rfl rfl rfl rfl rfl (by decide) rfl dX11_undo_62 h (fun μ62 h => ?_)
    refine x_aload_n C 0 dX11_undo_65 rfl rfl ?_
    refine g_RX11_38 C hn dX11_undo_66 ?_
    refine x_aload_n C 0 dX11_undo_69 rfl rfl ?_
    refine g_RX11_19 C hn dX11_undo_70 ?_
    refine x_bipush C dX11_undo_73 (v := 10) (by decide) ?_
    refine i_RX11_323 (rest := []) C hn rfl rfl rfl rfl rfl rfl rfl rfl rfl rfl rfl (by decide) rfl dX11_undo_75 h (fun μ75 h => ?_)
    refine x_aload_n C 0 dX11_undo_78 rfl rfl ?_
    refine x_aload_n C 0 dX11_undo_79 rfl rfl ?_
    refine g_RX11_327 C hn dX11_undo_80 ?_
    refine p_RX11_22 C hn dX11_undo_83 ?_
    refine x_aload_n C 0 dX11_undo_86 rfl rfl ?_
    refine x_aload_n C 0 dX11_undo_87 rfl rfl ?_
    refine g_RX11_330 C hn dX11_undo_88 ?_
    refine p_RX11_201 C hn dX11_undo_91 ?_
    refine x_aload_n C 0 dX11_undo_94 rfl rfl ?_
    refine x_aload_n C 0 dX11_undo_95 rfl rfl ?_
    refine g_RX11_333 C hn dX11_undo_96 ?_
    refine p_RX11_26 C hn dX11_undo_99 ?_
    refine x_aload_n C 0 dX11_undo_102 rfl rfl ?_
    refine g_RX11_201 C hn dX11_undo_103 ?_
    exact x_iret C hQ dX11_undo_106 h
  · refine x_aload_n C 0 dX11_undo_7 rfl rfl ?_
    refine x_iconst C dX11_undo_8 (v := 3) (by decide) ?_
    refine i_RX11_119 (rest := []) C hn  rfl (by decide) rfl dX11_undo_9 h (fun r9 μ9 h => ?_)
    exact x_iret C hQ dX11_undo_12 h
