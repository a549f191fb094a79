set_option maxRecDepth 20000 in
set_option maxHeartbeats 4000000 in
theorem lwc_17 {Z : qZ} {G : qG} {k n : Nat} {μ : qM} {b Ls i : Nat} {xs : Nat → Int32} (C : qX Z G RL cL_law 4 room_1 ret) (S : lwS Z G b Ls xs) (hn : gn G = 66) (hi : i + 6 ≤ Ls) (hk : k + 1 ≤ 600000 ∧ n + 6 ≤ 7302250) (hR : RI μ) (h1 : ∀ μ', RI μ' → qV Z G 4 (k + 1) (n + 6) μ' 1521 (lwL G b i) []) : qV Z G 4 k n μ 725 (lwL G b i) [] := by
  have h66 : 66 ≤ gn G := by omega
  have h := op_dear (xs (i + 1)) μ hR
  refine x_aload_n C 1 dL_law_725 rfl rfl ?_
  refine x_arg C S hi 1 (w := 1) (by decide) dL_law_726 dL_law_727 dL_law_728 (by decide) rfl dL_law_729 dL_law_730 ?_
  refine x_Vi [.int (xs (i + 1))] [] C 0 9 (wp := fun K => w_X10_dear (xs (i + 1)) K μ) y_X10_dear (qm_23 _ (List.mem_of_getElem? (i := 2) rfl)) (qm_23 _ (List.mem_of_getElem? (i := 3) rfl)) (qm_23 _ (List.mem_of_getElem? (i := 1) rfl)) (c_X10_dear Z.2.1 G h66) (Nat.lt_of_lt_of_le (by decide) h66) rfl (by decide) rfl rfl rfl ⟨by show k + 0 + 0 ≤ 600000; omega, by show n + 0 + 0 ≤ 7302250; omega⟩ rfl rfl rfl dL_law_731 h (fun r μ1 h => ?_)
  refine x_aload_n C 2 dL_law_734 rfl rfl ?_
  refine x_arg C S hi 1 (w := 1) (by decide) dL_law_735 dL_law_736 dL_law_737 (by decide) rfl dL_law_738 dL_law_739 ?_
  refine x_Vi [.int (xs (i + 1))] [.int r] C 46 10 (wp := fun K => w_X11_dear (xs (i + 1)) K μ1) y_X11_dear (qm_23 _ (List.mem_of_getElem? (i := 11) rfl)) (qm_23 _ (List.mem_of_getElem? (i := 12) rfl)) (qm_23 _ (List.mem_of_getElem? (i := 10) rfl)) (c_X11_dear Z.2.1 G h66) (Nat.lt_of_lt_of_le (by decide) h66) rfl (by decide) rfl rfl rfl ⟨by show k + 0 + 0 ≤ 600000; omega, by show n + 0 + 0 ≤ 7302250; omega⟩ rfl rfl rfl dL_law_740 h (fun r' μ2 h => ?_)
  refine x_icmp_eq C dL_law_743 (tgt := 1521) (A := True) (B := False) (by decide) ⟨fun _ => trivial, fun q => q h.1⟩ (fun _ => ?_) (fun q => q.elim)
  exact x_widen (Nat.le_add_right k 1) (Nat.le_add_right n 6) (h1 _ h.2)
set_option maxRecDepth 20000 in
set_option maxHeartbeats 4000000 in
theorem lwc_18 {Z : qZ} {G : qG} {k n : Nat} {μ : qM} {b Ls i : Nat} {xs : Nat → Int32} (C : qX Z G RL cL_law 4 room_1 ret) (S : lwS Z G b Ls xs) (hn : gn G = 66) (hi : i + 6 ≤ Ls) (hk : k + 1 ≤ 600000 ∧ n + 6 ≤ 7302250) (hR : RI μ) (h1 : ∀ μ', RI μ' → qV Z G 4 (k + 1) (n + 6) μ' 1521 (lwL G b i) []) : qV Z G 4 k n μ 748 (lwL G b i) [] := by
  have h66 : 66 ≤ gn G := by omega
  have h := op_dearest  μ hR
  refine x_aload_n C 1 dL_law_748 rfl rfl ?_
  refine x_Vi [] [] C 0 9 (wp := fun K => w_X10_dearest  K μ) y_X10_dearest (qm_23 _ (List.mem_of_getElem? (i := 15) rfl)) (qm_23 _ (List.mem_of_getElem? (i := 16) rfl)) (qm_23 _ (List.mem_of_getElem? (i := 14) rfl)) (c_X10_dearest Z.2.1 G h66) (Nat.lt_of_lt_of_le (by decide) h66) rfl (by decide) rfl rfl rfl ⟨by show k + 0 + 0 ≤ 600000; omega, by show n + 0 + 0 ≤ 7302250; omega⟩ rfl rfl rfl dL_law_749 h (fun r μ1 h => ?_)
  refine x_aload_n C 2 dL_law_752 rfl rfl ?_
  refine x_Vi [] [.int r] C 46 10 (wp := fun K => w_X11_dearest  K μ1) y_X11_dearest (qm_23 _ (List.mem_of_getElem? (i := 19) rfl)) (qm_23 _ (List.mem_of_getElem? (i := 20) rfl)) (qm_23 _ (List.mem_of_getElem? (i := 18) rfl)) (c_X11_dearest Z.2.1 G h66) (Nat.lt_of_lt_of_le (by decide) h66) rfl (by decide) rfl rfl rfl ⟨by show k + 0 + 0 ≤ 600000; omega, by show n + 0 + 0 ≤ 7302250; omega⟩ rfl rfl rfl dL_law_753 h (fun r' μ2 h => ?_)
  refine x_icmp_eq C dL_law_756 (tgt := 1521) (A := True) (B := False) (by decide) ⟨fun _ => trivial, fun q => q h.1⟩ (fun _ => ?_) (fun q => q.elim)
  exact x_widen (Nat.le_add_right k 1) (Nat.le_add_right n 6) (h1 _ h.2)
set_option maxRecDepth 20000 in
set_option maxHeartbeats 4000000 in
theorem lwc_19 {Z : qZ} {G : qG} {k n : Nat} {μ : qM} {b Ls i : Nat} {xs : Nat → Int32} (C : qX Z G RL cL_law 4 room_1 ret) (S : lwS Z G b Ls xs) (hn : gn G = 66) (hi : i + 6 ≤ Ls) (hk : k + 1 ≤ 600000 ∧ n + 6 ≤ 7302250) (hR : RI μ) (h1 : ∀ μ', RI μ' → qV Z G 4 (k + 1) (n + 6) μ' 1521 (lwL G b i) []) : qV Z G 4 k n μ 761 (lwL G b i) [] := by
  have h66 : 66 ≤ gn G := by omega
  have h := op_keepers (xs (i + 1)) (xs (i + 2)) μ hR
  refine x_aload_n C 1 dL_law_761 rfl rfl ?_
  refine x_arg C S hi 1 (w := 1) (by decide) dL_law_762 dL_law_763 dL_law_764 (by decide) rfl dL_law_765 dL_law_766 ?_
  refine x_arg C S hi 2 (w := 2) (by decide) dL_law_767 dL_law_768 dL_law_769 (by decide) rfl dL_law_770 dL_law_771 ?_
  refine x_Vi [.int (xs (i + 1)), .int (xs (i + 2))] [] C 0 9 (wp := fun K => w_X10_keepers (xs (i + 1)) (xs (i + 2)) K μ) y_X10_keepers (qm_23 _ (List.mem_of_getElem? (i := 23) rfl)) (qm_24 _ (List.mem_of_getElem? (i := 0) rfl)) (qm_23 _ (List.mem_of_getElem? (i := 22) rfl)) (c_X10_keepers Z.2.1 G h66) (Nat.lt_of_lt_of_le (by decide) h66) rfl (by decide) rfl rfl rfl ⟨by show k + 0 + 0 ≤ 600000; omega, by show n + 0 + 0 ≤ 7302250; omega⟩ rfl rfl rfl dL_law_772 h (fun r μ1 h => ?_)
  refine x_aload_n C 2 dL_law_775 rfl rfl ?_
  refine x_arg C S hi 1 (w := 1) (by decide) dL_law_776 dL_law_777 dL_law_778 (by decide) rfl dL_law_779 dL_law_780 ?_
  refine x_arg C S hi 2 (w := 2) (by decide) dL_law_781 dL_law_782 dL_law_783 (by decide) rfl dL_law_784 dL_law_785 ?_
  refine x_Vi [.int (xs (i + 1)), .int (xs (i + 2))] [.int r] C 46 10 (wp := fun K => w_X11_keepers (xs (i + 1)) (xs (i + 2)) K μ1) y_X11_keepers (qm_24 _ (List.mem_of_getElem? (i := 3) rfl)) (qm_24 _ (List.mem_of_getElem? (i := 4) rfl)) (qm_24 _ (List.mem_of_getElem? (i := 2) rfl)) (c_X11_keepers Z.2.1 G h66) (Nat.lt_of_lt_of_le (by decide) h66) rfl (by decide) rfl rfl rfl ⟨by show k + 0 + 0 ≤ 600000; omega, by show n + 0 + 0 ≤ 7302250; omega⟩ rfl rfl rfl dL_law_786 h (fun r' μ2 h => ?_)
  refine x_icmp_eq C dL_law_789 (tgt := 1521) (A := True) (B := False) (by decide) ⟨fun _ => trivial, fun q => q h.1⟩ (fun _ => ?_) (fun q => q.elim)
  exact x_widen (Nat.le_add_right k 1) (Nat.le_add_right n 6) (h1 _ h.2)
set_option maxRecDepth 20000 in
set_option maxHeartbeats 4000000 in
theorem lwc_20 {Z : qZ} {G : qG} {k n : Nat} {μ : qM} {b Ls i : Nat} {xs : Nat → Int32} (C : qX Z G RL cL_law 4 room_1 ret) (S : lwS Z G b Ls xs) (hn : gn G = 66) (hi : i + 6 ≤ Ls) (hk : k + 1 ≤ 600000 ∧ n + 6 ≤ 7302250) (hR : RI μ) (h1 : ∀ μ', RI μ' → qV Z G 4 (k + 1) (n + 6) μ' 1521 (lwL G b i) []) : qV Z G 4 k n μ 794 (lwL G b i) [] := by
  have h66 : 66 ≤ gn G := by omega
  have h := op_kindFor (xs (i + 1)) μ hR
  refine x_aload_n C 1 dL_law_794 rfl rfl ?_
  refine x_arg C S hi 1 (w := 1) (by decide) dL_law_795 dL_law_796 dL_law_797 (by decide) rfl dL_law_798 dL_law_799 ?_
  refine x_Vi [.int (xs (i + 1))] [] C 0 9 (wp := fun K => w_X10_kindFor (xs (i + 1)) K μ) y_X10_kindFor (qm_24 _ (List.mem_of_getElem? (i := 7) rfl)) (qm_24 _ (List.mem_of_getElem? (i := 8) rfl)) (qm_24 _ (List.mem_of_getElem? (i := 6) rfl)) (c_X10_kindFor Z.2.1 G h66) (Nat.lt_of_lt_of_le (by decide) h66) rfl (by decide) rfl rfl rfl ⟨by show k + 0 + 0 ≤ 600000; omega, by show n + 0 + 0 ≤ 7302250; omega⟩ rfl rfl rfl dL_law_800 h (fun r μ1 h => ?_)
  refine x_aload_n C 2 dL_law_803 rfl rfl ?_
  refine x_arg C S hi 1 (w := 1) (by decide) dL_law_804 dL_law_805 dL_law_806 (by decide) rfl dL_law_807 dL_law_808 ?_
  refine x_Vi [.int (xs (i + 1))] [.int r] C 46 10 (wp := fun K => w_X11_kindFor (xs (i + 1)) K μ1) y_X11_kindFor (qm_24 _ (List.mem_of_getElem? (i := 15) rfl)) (qm_24 _ (List.mem_of_getElem? (i := 16) rfl)) (qm_24 _ (List.mem_of_getElem? (i := 14) rfl)) (c_X11_kindFor Z.2.1 G h66) (Nat.lt_of_lt_of_le (by decide) h66) rfl (by decide) rfl rfl rfl ⟨by show k + 0 + 0 ≤ 600000; omega, by show n + 0 + 0 ≤ 7302250; omega⟩ rfl rfl rfl dL_law_809 h (fun r' μ2 h => ?_)
  refine x_icmp_eq C dL_law_812 (tgt := 1521) (A := True) (B := False) (by decide) ⟨fun _ => trivial, fun q => q h.1⟩ (fun _ => ?_) (fun q => q.elim)
  exact x_widen (Nat.le_add_right k 1) (Nat.le_add_right n 6) (h1 _ h.2)
set_option maxRecDepth 20000 in
set_option maxHeartbeats 4000000 in
theorem lwc_21 {Z : qZ} {G : qG} {k n : Nat} {μ : qM} {b Ls i : Nat} {xs : Nat → Int32} (C : qX Z G RL cL_law 4 room_1 ret) (S : lwS Z G b Ls xs) (hn : gn G = 66) (hi : i + 6 ≤ Ls) (hk : k + 1 ≤ 600000 ∧ n + 6 ≤ 7302250) (hR : RI μ) (h1 : ∀ μ', RI μ' → qV Z G 4 (k + 1) (n + 6) μ' 1521 (lwL G b i) []) : qV Z G 4 k n μ 817 (lwL G b i) [] := by
  have h66 : 66 ≤ gn G := by omega
  have h := op_law  μ hR
  refine x_aload_n C 1 dL_law_817 rfl rfl ?_
  refine x_Vi [] [] C 0 9 (wp := fun K => w_X10_law  K μ) y_X10_law (qm_24 _ (List.mem_of_getElem? (i := 23) rfl)) (qm_25 _ (List.mem_of_getElem? (i := 0) rfl)) (qm_24 _ (List.mem_of_getElem? (i := 22) rfl)) (c_X10_law Z.2.1 G h66) (Nat.lt_of_lt_of_le (by decide) h66) rfl (by decide) rfl rfl rfl ⟨by show k + 0 + 0 ≤ 600000; omega, by show n + 0 + 0 ≤ 7302250; omega⟩ rfl rfl rfl dL_law_818 h (fun r μ1 h => ?_)
  refine x_aload_n C 2 dL_law_821 rfl rfl ?_
  refine x_Vi [] [.int r] C 46 10 (wp := fun K => w_X11_law  K μ1) y_X11_law (qm_25 _ (List.mem_of_getElem? (i := 7) rfl)) (qm_25 _ (List.mem_of_getElem? (i := 8) rfl)) (qm_25 _ (List.mem_of_getElem? (i := 6) rfl)) (c_X11_law Z.2.1 G h66) (Nat.lt_of_lt_of_le (by decide) h66) rfl (by decide) rfl rfl rfl ⟨by show k + 0 + 0 ≤ 600000; omega, by show n + 0 + 0 ≤ 7302250; omega⟩ rfl rfl rfl dL_law_822 h (fun r' μ2 h => ?_)
  refine x_icmp_eq C dL_law_825 (tgt := 1521) (A := True) (B := False) (by decide) ⟨fun _ => trivial, fun q => q h.1⟩ (fun _ => ?_) (fun q => q.elim)
  exact x_widen (Nat.le_add_right k 1) (Nat.le_add_right n 6) (h1 _ h.2)
set_option maxRecDepth 20000 in
set_option maxHeartbeats 4000000 in
theorem lwc_22 {Z : qZ} {G : qG} {k n : Nat} {μ : qM} {b Ls i : Nat} {xs : Nat → Int32} (C : qX Z G RL cL_law 4 room_1 ret) (S : lwS Z G b Ls xs) (hn : gn G = 66) (hi : i + 6 ≤ Ls) (hk : k + 1 ≤ 600000 ∧ n + 6 ≤ 7302250) (hR : RI μ) (h1 : ∀ μ', RI μ' → qV Z G 4 (k + 1) (n + 6) μ' 1521 (lwL G b i) []) : qV Z G 4 k n μ 830 (lwL G b i) [] := by
  have h66 : 66 ≤ gn G := by omega
  have h := op_huts (xs (i + 1)) (xs (i + 2)) μ hR
  refine x_aload_n C 1 dL_law_830 rfl rfl ?_
  refine x_arg C S hi 1 (w := 1) (by decide) dL_law_831 dL_law_832 dL_law_833 (by decide) rfl dL_law_834 dL_law_835 ?_
  refine x_arg C S hi 2 (w := 2) (by decide) dL_law_836 dL_law_837 dL_law_838 (by decide) rfl dL_law_839 dL_law_840 ?_
  refine x_Vi [.int (xs (i + 1)), .int (xs (i + 2))] [] C 0 9 (wp := fun K => w_X10_huts (xs (i + 1)) (xs (i + 2)) K μ) y_X10_huts (qm_25 _ (List.mem_of_getElem? (i := 11) rfl)) (qm_25 _ (List.mem_of_getElem? (i := 12) rfl)) (qm_25 _ (List.mem_of_getElem? (i := 10) rfl)) (c_X10_huts Z.2.1 G h66) (Nat.lt_of_lt_of_le (by decide) h66) rfl (by decide) rfl rfl rfl ⟨by show k + 0 + 0 ≤ 600000; omega, by show n + 0 + 0 ≤ 7302250; omega⟩ rfl rfl rfl dL_law_841 h (fun r μ1 h => ?_)
  refine x_aload_n C 2 dL_law_844 rfl rfl ?_
  refine x_arg C S hi 1 (w := 1) (by decide) dL_law_845 dL_law_846 dL_law_847 (by decide) rfl dL_law_848 dL_law_849 ?_
  refine x_arg C S hi 2 (w := 2) (by decide) dL_law_850 dL_law_851 dL_law_852 (by decide) rfl dL_law_853 dL_law_854 ?_
  refine x_Vi [.int (xs (i + 1)), .int (xs (i + 2))] [.int r] C 46 10 (wp := fun K => w_X11_huts (xs (i + 1)) (xs (i + 2)) K μ1) y_X11_huts (qm_26 _ (List.mem_of_getElem? (i := 3) rfl)) (qm_26 _ (List.mem_of_getElem? (i := 4) rfl)) (qm_26 _ (List.mem_of_getElem? (i := 2) rfl)) (c_X11_huts Z.2.1 G h66) (Nat.lt_of_lt_of_le (by decide) h66) rfl (by decide) rfl rfl rfl ⟨by show k + 0 + 0 ≤ 600000; omega, by show n + 0 + 0 ≤ 7302250; omega⟩ rfl rfl rfl dL_law_855 h (fun r' μ2 h => ?_)
  refine x_icmp_eq C dL_law_858 (tgt := 1521) (A := True) (B := False) (by decide) ⟨fun _ => trivial, fun q => q h.1⟩ (fun _ => ?_) (fun q => q.elim)
  exact x_widen (Nat.le_add_right k 1) (Nat.le_add_right n 6) (h1 _ h.2)
set_option maxRecDepth 20000 in
set_option maxHeartbeats 4000000 in
theorem lwc_23 {Z : qZ} {G : qG} {k n : Nat} {μ : qM} {b Ls i : Nat} {xs : Nat → Int32} (C : qX Z G RL cL_law 4 room_1 ret) (S : lwS Z G b Ls xs) (hn : gn G = 66) (hi : i + 6 ≤ Ls) (hk : k + 1 ≤ 600000 ∧ n + 6 ≤ 7302250) (hR : RI μ) (h1 : ∀ μ', RI μ' → qV Z G 4 (k + 1) (n + 6) μ' 1521 (lwL G b i) []) : qV Z G 4 k n μ 863 (lwL G b i) [] := by
  have h66 : 66 ≤ gn G := by omega
  have h := op_hut (xs (i + 1)) (xs (i + 2)) (xs (i + 3)) μ hR
  refine x_aload_n C 1 dL_law_863 rfl rfl ?_
  refine x_arg C S hi 1 (w := 1) (by decide) dL_law_864 dL_law_865 dL_law_866 (by decide) rfl dL_law_867 dL_law_868 ?_
  refine x_arg C S hi 2 (w := 2) (by decide) dL_law_869 dL_law_870 dL_law_871 (by decide) rfl dL_law_872 dL_law_873 ?_
  refine x_arg C S hi 3 (w := 3) (by decide) dL_law_874 dL_law_875 dL_law_876 (by decide) rfl dL_law_877 dL_law_878 ?_
  refine x_Vi [.int (xs (i + 1)), .int (xs (i + 2)), .int (xs (i + 3))] [] C 0 9 (wp := fun K => w_X10_hut (xs (i + 1)) (xs (i + 2)) (xs (i + 3)) K μ) y_X10_hut (qm_26 _ (List.mem_of_getElem? (i := 17) rfl)) (qm_26 _ (List.mem_of_getElem? (i := 18) rfl)) (qm_26 _ (List.mem_of_getElem? (i := 16) rfl)) (c_X10_hut Z.2.1 G h66) (Nat.lt_of_lt_of_le (by decide) h66) rfl (by decide) rfl rfl rfl ⟨by show k + 0 + 0 ≤ 600000; omega, by show n + 0 + 0 ≤ 7302250; omega⟩ rfl rfl rfl dL_law_879 h (fun r μ1 h => ?_)
  refine x_aload_n C 2 dL_law_882 rfl rfl ?_
  refine x_arg C S hi 1 (w := 1) (by decide) dL_law_883 dL_law_884 dL_law_885 (by decide) rfl dL_law_886 dL_law_887 ?_
  refine x_arg C S hi 2 (w := 2) (by decide) dL_law_888 dL_law_889 dL_law_890 (by decide) rfl dL_law_891 dL_law_892 ?_
  refine x_arg C S hi 3 (w := 3) (by decide) dL_law_893 dL_law_894 dL_law_895 (by decide) rfl dL_law_896 dL_law_897 ?_
  refine x_Vi [.int (xs (i + 1)), .int (xs (i + 2)), .int (xs (i + 3))] [.int r] C 46 10 (wp := fun K => w_X11_hut (xs (i + 1)) (xs (i + 2)) (xs (i + 3)) K μ1) y_X11_hut (qm_27 _ (List.mem_of_getElem? (i := 5) rfl)) (qm_27 _ (List.mem_of_getElem? (i := 6) rfl)) (qm_27 _ (List.mem_of_getElem? (i := 4) rfl)) (c_X11_hut Z.2.1 G h66) (Nat.lt_of_lt_of_le (by decide) h66) rfl (by decide) rfl rfl rfl ⟨by show k + 0 + 0 ≤ 600000; omega, by show n + 0 + 0 ≤ 7302250; omega⟩ rfl rfl rfl dL_law_898 h (fun r' μ2 h => ?_)
  refine x_icmp_eq C dL_law_901 (tgt := 1521) (A := True) (B := False) (by decide) ⟨fun _ => trivial, fun q => q h.1⟩ (fun _ => ?_) (fun q => q.elim)
  exact x_widen (Nat.le_add_right k 1) (Nat.le_add_right n 6) (h1 _ h.2)
set_option maxRecDepth 20000 in
set_option maxHeartbeats 4000000 in
theorem lwc_24 {Z : qZ} {G : qG} {k n : Nat} {μ : qM} {b Ls i : Nat} {xs : Nat → Int32} (C : qX Z G RL cL_law 4 room_1 ret) (S : lwS Z G b Ls xs) (hn : gn G = 66) (hi : i + 6 ≤ Ls) (hk : k + 1 ≤ 600000 ∧ n + 6 ≤ 7302250) (hR : RI μ) (h1 : ∀ μ', RI μ' → qV Z G 4 (k + 1) (n + 6) μ' 1521 (lwL G b i) []) : qV Z G 4 k n μ 906 (lwL G b i) [] := by
  have h66 : 66 ≤ gn G := by omega
  have h := op_opens (xs (i + 1)) μ hR
  refine x_aload_n C 1 dL_law_906 rfl rfl ?_
  refine x_arg C S hi 1 (w := 1) (by decide) dL_law_907 dL_law_908 dL_law_909 (by decide) rfl dL_law_910 dL_law_911 ?_
  refine x_Vi [.int (xs (i + 1))] [] C 0 9 (wp := fun K => w_X10_opens (xs (i + 1)) K μ) y_X10_opens (qm_27 _ (List.mem_of_getElem? (i := 9) rfl)) (qm_27 _ (List.mem_of_getElem? (i := 10) rfl)) (qm_27 _ (List.mem_of_getElem? (i := 8) rfl)) (c_X10_opens Z.2.1 G h66) (Nat.lt_of_lt_of_le (by decide) h66) rfl (by decide) rfl rfl rfl ⟨by show k + 0 + 0 ≤ 600000; omega, by show n + 0 + 0 ≤ 7302250; omega⟩ rfl rfl rfl dL_law_912 h (fun r μ1 h => ?_)
  refine x_aload_n C 2 dL_law_915 rfl rfl ?_
  refine x_arg C S hi 1 (w := 1) (by decide) dL_law_916 dL_law_917 dL_law_918 (by decide) rfl dL_law_919 dL_law_920 ?_
  refine x_Vi [.int (xs (i + 1))] [.int r] C 46 10 (wp := fun K => w_X11_opens (xs (i + 1)) K μ1) y_X11_opens (qm_28 _ (List.mem_of_getElem? (i := 0) rfl)) (qm_28 _ (List.mem_of_getElem? (i := 1) rfl)) (qm_27 _ (List.mem_of_getElem? (i := 23) rfl)) (c_X11_opens Z.2.1 G h66) (Nat.lt_of_lt_of_le (by decide) h66) rfl (by decide) rfl rfl rfl ⟨by show k + 0 + 0 ≤ 600000; omega, by show n + 0 + 0 ≤ 7302250; omega⟩ rfl rfl rfl dL_law_921 h (fun r' μ2 h => ?_)
  refine x_icmp_eq C dL_law_924 (tgt := 1521) (A := True) (B := False) (by decide) ⟨fun _ => trivial, fun q => q h.1⟩ (fun _ => ?_) (fun q => q.elim)
  exact x_widen (Nat.le_add_right k 1) (Nat.le_add_right n 6) (h1 _ h.2)
set_option maxRecDepth 20000 in
set_option maxHeartbeats 4000000 in
theorem lwc_25 {Z : qZ} {G : qG} {k n : Nat} {μ : qM} {b Ls i : Nat} {xs : Nat → Int32} (C : qX Z G RL cL_law 4 room_1 ret) (S : lwS Z G b Ls xs) (hn : gn G = 66) (hi : i + 6 ≤ Ls) (hk : k + 1 ≤ 600000 ∧ n + 6 ≤ 7302250) (hR : RI μ) (h1 : ∀ μ', RI μ' → qV Z G 4 (k + 1) (n + 6) μ' 1521 (lwL G b i) []) : qV Z G 4 k n μ 929 (lwL G b i) [] := by
  have h66 : 66 ≤ gn G := by omega
  have h := op_opened (xs (i + 1)) μ hR
  refine x_aload_n C 1 dL_law_929 rfl rfl ?_
  refine x_arg C S hi 1 (w := 1) (by decide) dL_law_930 dL_law_931 dL_law_932 (by decide) rfl dL_law_933 dL_law_934 ?_
  refine x_Vi [.int (xs (i + 1))] [] C 0 9 (wp := fun K => w_X10_opened (xs (i + 1)) K μ) y_X10_opened (qm_28 _ (List.mem_of_getElem? (i := 13) rfl)) (qm_28 _ (List.mem_of_getElem? (i := 14) rfl)) (qm_28 _ (List.mem_of_getElem? (i := 12) rfl)) (c_X10_opened Z.2.1 G h66) (Nat.lt_of_lt_of_le (by decide) h66) rfl (by decide) rfl rfl rfl ⟨by show k + 0 + 0 ≤ 600000; omega, by show n + 0 + 0 ≤ 7302250; omega⟩ rfl rfl rfl dL_law_935 h (fun r μ1 h => ?_)
  refine x_aload_n C 2 dL_law_938 rfl rfl ?_
  refine x_arg C S hi 1 (w := 1) (by decide) dL_law_939 dL_law_940 dL_law_941 (by decide) rfl dL_law_942 dL_law_943 ?_
  refine x_Vi [.int (xs (i + 1))] [.int r] C 46 10 (wp := fun K => w_X11_opened (xs (i + 1)) K μ1) y_X11_opened (qm_28 _ (List.mem_of_getElem? (i := 21) rfl)) (qm_28 _ (List.mem_of_getElem? (i := 22) rfl)) (qm_28 _ (List.mem_of_getElem? (i := 20) rfl)) (c_X11_opened Z.2.1 G h66) (Nat.lt_of_lt_of_le (by decide) h66) rfl (by decide) rfl rfl rfl ⟨by show k + 0 + 0 ≤ 600000; omega, by show n + 0 + 0 ≤ 7302250; omega⟩ rfl rfl rfl dL_law_944 h (fun r' μ2 h => ?_)
  refine x_icmp_eq C dL_law_947 (tgt := 1521) (A := True) (B := False) (by decide) ⟨fun _ => trivial, fun q => q h.1⟩ (fun _ => ?_) (fun q => q.elim)
  exact x_widen (Nat.le_add_right k 1) (Nat.le_add_right n 6) (h1 _ h.2)
set_option maxRecDepth 20000 in
set_option maxHeartbeats 4000000 in
theorem lwc_26 {Z : qZ} {G : qG} {k n : Nat} {μ : qM} {b Ls i : Nat} {xs : Nat → Int32} (C : qX Z G RL cL_law 4 room_1 ret) (S : lwS Z G b Ls xs) (hn : gn G = 66) (hi : i + 6 ≤ Ls) (hk : k + 1 ≤ 600000 ∧ n + 6 ≤ 7302250) (hR : RI μ) (h1 : ∀ μ', RI μ' → qV Z G 4 (k + 1) (n + 6) μ' 1521 (lwL G b i) []) : qV Z G 4 k n μ 952 (lwL G b i) [] := by
  have h66 : 66 ≤ gn G := by omega
  have h := op_orders  μ hR
  refine x_aload_n C 1 dL_law_952 rfl rfl ?_
  refine x_Vi [] [] C 0 9 (wp := fun K => w_X10_orders  K μ) y_X10_orders (qm_29 _ (List.mem_of_getElem? (i := 1) rfl)) (qm_29 _ (List.mem_of_getElem? (i := 2) rfl)) (qm_29 _ (List.mem_of_getElem? (i := 0) rfl)) (c_X10_orders Z.2.1 G h66) (Nat.lt_of_lt_of_le (by decide) h66) rfl (by decide) rfl rfl rfl ⟨by show k + 0 + 0 ≤ 600000; omega, by show n + 0 + 0 ≤ 7302250; omega⟩ rfl rfl rfl dL_law_953 h (fun r μ1 h => ?_)
  refine x_aload_n C 2 dL_law_956 rfl rfl ?_
  refine x_Vi [] [.int r] C 46 10 (wp := fun K => w_X11_orders  K μ1) y_X11_orders (qm_30 _ (List.mem_of_getElem? (i := 11) rfl)) (qm_30 _ (List.mem_of_getElem? (i := 12) rfl)) (qm_30 _ (List.mem_of_getElem? (i := 10) rfl)) (c_X11_orders Z.2.1 G h66) (Nat.lt_of_lt_of_le (by decide) h66) rfl (by decide) rfl rfl rfl ⟨by show k + 0 + 0 ≤ 600000; omega, by show n + 0 + 0 ≤ 7302250; omega⟩ rfl rfl rfl dL_law_957 h (fun r' μ2 h => ?_)
  refine x_icmp_eq C dL_law_960 (tgt := 1521) (A := True) (B := False) (by decide) ⟨fun _ => trivial, fun q => q h.1⟩ (fun _ => ?_) (fun q => q.elim)
  exact x_widen (Nat.le_add_right k 1) (Nat.le_add_right n 6) (h1 _ h.2)
set_option maxRecDepth 20000 in
set_option maxHeartbeats 4000000 in
theorem lwc_27 {Z : qZ} {G : qG} {k n : Nat} {μ : qM} {b Ls i : Nat} {xs : Nat → Int32} (C : qX Z G RL cL_law 4 room_1 ret) (S : lwS Z G b Ls xs) (hn : gn G = 66) (hi : i + 6 ≤ Ls) (hk : k + 1 ≤ 600000 ∧ n + 6 ≤ 7302250) (hR : RI μ) (h1 : ∀ μ', RI μ' → qV Z G 4 (k + 1) (n + 6) μ' 1521 (lwL G b i) []) : qV Z G 4 k n μ 965 (lwL G b i) [] := by
  have h66 : 66 ≤ gn G := by omega
  have h := op_founders (xs (i + 1)) μ hR
  refine x_aload_n C 1 dL_law_965 rfl rfl ?_
  refine x_arg C S hi 1 (w := 1) (by decide) dL_law_966 dL_law_967 dL_law_968 (by decide) rfl dL_law_969 dL_law_970 ?_
  refine x_Vi [.int (xs (i + 1))] [] C 0 9 (wp := fun K => w_X10_founders (xs (i + 1)) K μ) y_X10_founders (qm_31 _ (List.mem_of_getElem? (i := 3) rfl)) (qm_31 _ (List.mem_of_getElem? (i := 4) rfl)) (qm_31 _ (List.mem_of_getElem? (i := 2) rfl)) (c_X10_founders Z.2.1 G h66) (Nat.lt_of_lt_of_le (by decide) h66) rfl (by decide) rfl rfl rfl ⟨by show k + 0 + 0 ≤ 600000; omega, by show n + 0 + 0 ≤ 7302250; omega⟩ rfl rfl rfl dL_law_971 h (fun r μ1 h => ?_)
  refine x_aload_n C 2 dL_law_974 rfl rfl ?_
  refine x_arg C S hi 1 (w := 1) (by decide) dL_law_975 dL_law_976 dL_law_977 (by decide) rfl dL_law_978 dL_law_979 ?_
  refine x_Vi [.int (xs (i + 1))] [.int r] C 46 10 (wp := fun K => w_X11_founders (xs (i + 1)) K μ1) y_X11_founders (qm_31 _ (List.mem_of_getElem? (i := 7) rfl)) (qm_31 _ (List.mem_of_getElem? (i := 8) rfl)) (qm_31 _ (List.mem_of_getElem? (i := 6) rfl)) (c_X11_founders Z.2.1 G h66) (Nat.lt_of_lt_of_le (by decide) h66) rfl (by decide) rfl rfl rfl ⟨by show k + 0 + 0 ≤ 600000; omega, by show n + 0 + 0 ≤ 7302250; omega⟩ rfl rfl rfl dL_law_980 h (fun r' μ2 h => ?_)
  refine x_icmp_eq C dL_law_983 (tgt := 1521) (A := True) (B := False) (by decide) ⟨fun _ => trivial, fun q => q h.1⟩ (fun _ => ?_) (fun q => q.elim)
  exact x_widen (Nat.le_add_right k 1) (Nat.le_add_right n 6) (h1 _ h.2)
set_option maxRecDepth 20000 in
set_option maxHeartbeats 4000000 in
theorem lwc_28 {Z : qZ} {G : qG} {k n : Nat} {μ : qM} {b Ls i : Nat} {xs : Nat → Int32} (C : qX Z G RL cL_law 4 room_1 ret) (S : lwS Z G b Ls xs) (hn : gn G = 66) (hi : i + 6 ≤ Ls) (hk : k + 1 ≤ 600000 ∧ n + 6 ≤ 7302250) (hR : RI μ) (h1 : ∀ μ', RI μ' → qV Z G 4 (k + 1) (n + 6) μ' 1521 (lwL G b i) []) : qV Z G 4 k n μ 988 (lwL G b i) [] := by
  have h66 : 66 ≤ gn G := by omega
  have h := op_latest  μ hR
  refine x_aload_n C 1 dL_law_988 rfl rfl ?_
  refine x_Vi [] [] C 0 9 (wp := fun K => w_X10_latest  K μ) y_X10_latest (qm_31 _ (List.mem_of_getElem? (i := 11) rfl)) (qm_31 _ (List.mem_of_getElem? (i := 12) rfl)) (qm_31 _ (List.mem_of_getElem? (i := 10) rfl)) (c_X10_latest Z.2.1 G h66) (Nat.lt_of_lt_of_le (by decide) h66) rfl (by decide) rfl rfl rfl ⟨by show k + 0 + 0 ≤ 600000; omega, by show n + 0 + 0 ≤ 7302250; omega⟩ rfl rfl rfl dL_law_989 h (fun r μ1 h => ?_)
  refine x_aload_n C 2 dL_law_992 rfl rfl ?_
  refine x_Vi [] [.int r] C 46 10 (wp := fun K => w_X11_latest  K μ1) y_X11_latest (qm_31 _ (List.mem_of_getElem? (i := 19) rfl)) (qm_31 _ (List.mem_of_getElem? (i := 20) rfl)) (qm_31 _ (List.mem_of_getElem? (i := 18) rfl)) (c_X11_latest Z.2.1 G h66) (Nat.lt_of_lt_of_le (by decide) h66) rfl (by decide) rfl rfl rfl ⟨by show k + 0 + 0 ≤ 600000; omega, by show n + 0 + 0 ≤ 7302250; omega⟩ rfl rfl rfl dL_law_993 h (fun r' μ2 h => ?_)
  refine x_icmp_eq C dL_law_996 (tgt := 1521) (A := True) (B := False) (by decide) ⟨fun _ => trivial, fun q => q h.1⟩ (fun _ => ?_) (fun q => q.elim)
  exact x_widen (Nat.le_add_right k 1) (Nat.le_add_right n 6) (h1 _ h.2)
set_option maxRecDepth 20000 in
set_option maxHeartbeats 4000000 in
theorem lwc_29 {Z : qZ} {G : qG} {k n : Nat} {μ : qM} {b Ls i : Nat} {xs : Nat → Int32} (C : qX Z G RL cL_law 4 room_1 ret) (S : lwS Z G b Ls xs) (hn : gn G = 66) (hi : i + 6 ≤ Ls) (hk : k + 1 ≤ 600000 ∧ n + 6 ≤ 7302250) (hR : RI μ) (h1 : ∀ μ', RI μ' → qV Z G 4 (k + 1) (n + 6) μ' 1521 (lwL G b i) []) : qV Z G 4 k n μ 1001 (lwL G b i) [] := by
  have h66 : 66 ≤ gn G := by omega
  have h := op_years (xs (i + 1)) μ hR
  refine x_aload_n C 1 dL_law_1001 rfl rfl ?_
  refine x_arg C S hi 1 (w := 1) (by decide) dL_law_1002 dL_law_1003 dL_law_1004 (by decide) rfl dL_law_1005 dL_law_1006 ?_
  refine x_Vi [.int (xs (i + 1))] [] C 0 9 (wp := fun K => w_X10_years (xs (i + 1)) K μ) y_X10_years (qm_31 _ (List.mem_of_getElem? (i := 23) rfl)) (qm_32 _ (List.mem_of_getElem? (i := 0) rfl)) (qm_31 _ (List.mem_of_getElem? (i := 22) rfl)) (c_X10_years Z.2.1 G h66) (Nat.lt_of_lt_of_le (by decide) h66) rfl (by decide) rfl rfl rfl ⟨by show k + 0 + 0 ≤ 600000; omega, by show n + 0 + 0 ≤ 7302250; omega⟩ rfl rfl rfl dL_law_1007 h (fun r μ1 h => ?_)
  refine x_aload_n C 2 dL_law_1010 rfl rfl ?_
  refine x_arg C S hi 1 (w := 1) (by decide) dL_law_1011 dL_law_1012 dL_law_1013 (by decide) rfl dL_law_1014 dL_law_1015 ?_
  refine x_Vi [.int (xs (i + 1))] [.int r] C 46 10 (wp := fun K => w_X11_years (xs (i + 1)) K μ1) y_X11_years (qm_32 _ (List.mem_of_getElem? (i := 18) rfl)) (qm_32 _ (List.mem_of_getElem? (i := 19) rfl)) (qm_32 _ (List.mem_of_getElem? (i := 17) rfl)) (c_X11_years Z.2.1 G h66) (Nat.lt_of_lt_of_le (by decide) h66) rfl (by decide) rfl rfl rfl ⟨by show k + 0 + 0 ≤ 600000; omega, by show n + 0 + 0 ≤ 7302250; omega⟩ rfl rfl rfl dL_law_1016 h (fun r' μ2 h => ?_)
  refine x_icmp_eq C dL_law_1019 (tgt := 1521) (A := True) (B := False) (by decide) ⟨fun _ => trivial, fun q => q h.1⟩ (fun _ => ?_) (fun q => q.elim)
  exact x_widen (Nat.le_add_right k 1) (Nat.le_add_right n 6) (h1 _ h.2)
set_option maxRecDepth 20000 in
set_option maxHeartbeats 4000000 in
theorem lwc_30 {Z : qZ} {G : qG} {k n : Nat} {μ : qM} {b Ls i : Nat} {xs : Nat → Int32} (C : qX Z G RL cL_law 4 room_1 ret) (S : lwS Z G b Ls xs) (hn : gn G = 66) (hi : i + 6 ≤ Ls) (hk : k + 1 ≤ 600000 ∧ n + 6 ≤ 7302250) (hR : RI μ) (h1 : ∀ μ', RI μ' → qV Z G 4 (k + 1) (n + 6) μ' 1521 (lwL G b i) []) : qV Z G 4 k n μ 1024 (lwL G b i) [] := by
  have h66 : 66 ≤ gn G := by omega
  have h := op_ahead (xs (i + 1)) (xs (i + 2)) μ hR
  refine x_aload_n C 1 dL_law_1024 rfl rfl ?_
  refine x_arg C S hi 1 (w := 1) (by decide) dL_law_1025 dL_law_1026 dL_law_1027 (by decide) rfl dL_law_1028 dL_law_1029 ?_
  refine x_arg C S hi 2 (w := 2) (by decide) dL_law_1030 dL_law_1031 dL_law_1032 (by decide) rfl dL_law_1033 dL_law_1034 ?_
  refine x_Vi [.int (xs (i + 1)), .int (xs (i + 2))] [] C 0 9 (wp := fun K => w_X10_ahead (xs (i + 1)) (xs (i + 2)) K μ) y_X10_ahead (qm_33 _ (List.mem_of_getElem? (i := 8) rfl)) (qm_33 _ (List.mem_of_getElem? (i := 9) rfl)) (qm_33 _ (List.mem_of_getElem? (i := 7) rfl)) (c_X10_ahead Z.2.1 G h66) (Nat.lt_of_lt_of_le (by decide) h66) rfl (by decide) rfl rfl rfl ⟨by show k + 0 + 0 ≤ 600000; omega, by show n + 0 + 0 ≤ 7302250; omega⟩ rfl rfl rfl dL_law_1035 h (fun r μ1 h => ?_)
  refine x_aload_n C 2 dL_law_1038 rfl rfl ?_
  refine x_arg C S hi 1 (w := 1) (by decide) dL_law_1039 dL_law_1040 dL_law_1041 (by decide) rfl dL_law_1042 dL_law_1043 ?_
  refine x_arg C S hi 2 (w := 2) (by decide) dL_law_1044 dL_law_1045 dL_law_1046 (by decide) rfl dL_law_1047 dL_law_1048 ?_
  refine x_Vi [.int (xs (i + 1)), .int (xs (i + 2))] [.int r] C 46 10 (wp := fun K => w_X11_ahead (xs (i + 1)) (xs (i + 2)) K μ1) y_X11_ahead (qm_33 _ (List.mem_of_getElem? (i := 21) rfl)) (qm_33 _ (List.mem_of_getElem? (i := 22) rfl)) (qm_33 _ (List.mem_of_getElem? (i := 20) rfl)) (c_X11_ahead Z.2.1 G h66) (Nat.lt_of_lt_of_le (by decide) h66) rfl (by decide) rfl rfl rfl ⟨by show k + 0 + 0 ≤ 600000; omega, by show n + 0 + 0 ≤ 7302250; omega⟩ rfl rfl rfl dL_law_1049 h (fun r' μ2 h => ?_)
  refine x_icmp_eq C dL_law_1052 (tgt := 1521) (A := True) (B := False) (by decide) ⟨fun _ => trivial, fun q => q h.1⟩ (fun _ => ?_) (fun q => q.elim)
  exact x_widen (Nat.le_add_right k 1) (Nat.le_add_right n 6) (h1 _ h.2)
set_option maxRecDepth 20000 in
set_option maxHeartbeats 4000000 in
theorem lwc_31 {Z : qZ} {G : qG} {k n : Nat} {μ : qM} {b Ls i : Nat} {xs : Nat → Int32} (C : qX Z G RL cL_law 4 room_1 ret) (S : lwS Z G b Ls xs) (hn : gn G = 66) (hi : i + 6 ≤ Ls) (hk : k + 1 ≤ 600000 ∧ n + 6 ≤ 7302250) (hR : RI μ) (h1 : ∀ μ', RI μ' → qV Z G 4 (k + 1) (n + 6) μ' 1521 (lwL G b i) []) : qV Z G 4 k n μ 1057 (lwL G b i) [] := by
  have h66 : 66 ≤ gn G := by omega
  have h := op_when  μ hR
  refine x_aload_n C 1 dL_law_1057 rfl rfl ?_
  refine x_Vi [] [] C 0 9 (wp := fun K => w_X10_when  K μ) y_X10_when (qm_34 _ (List.mem_of_getElem? (i := 13) rfl)) (qm_34 _ (List.mem_of_getElem? (i := 14) rfl)) (qm_34 _ (List.mem_of_getElem? (i := 12) rfl)) (c_X10_when Z.2.1 G h66) (Nat.lt_of_lt_of_le (by decide) h66) rfl (by decide) rfl rfl rfl ⟨by show k + 0 + 0 ≤ 600000; omega, by show n + 0 + 0 ≤ 7302250; omega⟩ rfl rfl rfl dL_law_1058 h (fun r μ1 h => ?_)
  refine x_aload_n C 2 dL_law_1061 rfl rfl ?_
  refine x_Vi [] [.int r] C 46 10 (wp := fun K => w_X11_when  K μ1) y_X11_when (qm_34 _ (List.mem_of_getElem? (i := 17) rfl)) (qm_34 _ (List.mem_of_getElem? (i := 18) rfl)) (qm_34 _ (List.mem_of_getElem? (i := 16) rfl)) (c_X11_when Z.2.1 G h66) (Nat.lt_of_lt_of_le (by decide) h66) rfl (by decide) rfl rfl rfl ⟨by show k + 0 + 0 ≤ 600000; omega, by show n + 0 + 0 ≤ 7302250; omega⟩ rfl rfl rfl dL_law_1062 h (fun r' μ2 h => ?_)
  refine x_icmp_eq C dL_law_1065 (tgt := 1521) (A := True) (B := False) (by decide) ⟨fun _ => trivial, fun q => q h.1⟩ (fun _ => ?_) (fun q => q.elim)
  exact x_widen (Nat.le_add_right k 1) (Nat.le_add_right n 6) (h1 _ h.2)
set_option maxRecDepth 20000 in
set_option maxHeartbeats 4000000 in
theorem lwc_32 {Z : qZ} {G : qG} {k n : Nat} {μ : qM} {b Ls i : Nat} {xs : Nat → Int32} (C : qX Z G RL cL_law 4 room_1 ret) (S : lwS Z G b Ls xs) (hn : gn G = 66) (hi : i + 6 ≤ Ls) (hk : k + 1 ≤ 600000 ∧ n + 6 ≤ 7302250) (hR : RI μ) (h1 : ∀ μ', RI μ' → qV Z G 4 (k + 1) (n + 6) μ' 1521 (lwL G b i) []) : qV Z G 4 k n μ 1070 (lwL G b i) [] := by
  have h66 : 66 ≤ gn G := by omega
  have h := op_strew (xs (i + 1)) μ hR
  refine x_aload_n C 1 dL_law_1070 rfl rfl ?_
  refine x_arg C S hi 1 (w := 1) (by decide) dL_law_1071 dL_law_1072 dL_law_1073 (by decide) rfl dL_law_1074 dL_law_1075 ?_
  refine x_Vi [.int (xs (i + 1))] [] C 0 9 (wp := fun K => w_X10_strew (xs (i + 1)) K μ) y_X10_strew (qm_34 _ (List.mem_of_getElem? (i := 21) rfl)) (qm_34 _ (List.mem_of_getElem? (i := 22) rfl)) (qm_34 _ (List.mem_of_getElem? (i := 20) rfl)) (c_X10_strew Z.2.1 G h66) (Nat.lt_of_lt_of_le (by decide) h66) rfl (by decide) rfl rfl rfl ⟨by show k + 0 + 0 ≤ 600000; omega, by show n + 0 + 0 ≤ 7302250; omega⟩ rfl rfl rfl dL_law_1076 h (fun r μ1 h => ?_)
  refine x_aload_n C 2 dL_law_1079 rfl rfl ?_
  refine x_arg C S hi 1 (w := 1) (by decide) dL_law_1080 dL_law_1081 dL_law_1082 (by decide) rfl dL_law_1083 dL_law_1084 ?_
  refine x_Vi [.int (xs (i + 1))] [.int r] C 46 10 (wp := fun K => w_X11_strew (xs (i + 1)) K μ1) y_X11_strew (qm_35 _ (List.mem_of_getElem? (i := 11) rfl)) (qm_35 _ (List.mem_of_getElem? (i := 12) rfl)) (qm_35 _ (List.mem_of_getElem? (i := 10) rfl)) (c_X11_strew Z.2.1 G h66) (Nat.lt_of_lt_of_le (by decide) h66) rfl (by decide) rfl rfl rfl ⟨by show k + 0 + 0 ≤ 600000; omega, by show n + 0 + 0 ≤ 7302250; omega⟩ rfl rfl rfl dL_law_1085 h (fun r' μ2 h => ?_)
  refine x_icmp_eq C dL_law_1088 (tgt := 1521) (A := True) (B := False) (by decide) ⟨fun _ => trivial, fun q => q h.1⟩ (fun _ => ?_) (fun q => q.elim)
  exact x_widen (Nat.le_add_right k 1) (Nat.le_add_right n 6) (h1 _ h.2)
set_option maxRecDepth 20000 in
set_option maxHeartbeats 4000000 in
theorem lwc_33 {Z : qZ} {G : qG} {k n : Nat} {μ : qM} {b Ls i : Nat} {xs : Nat → Int32} (C : qX Z G RL cL_law 4 room_1 ret) (S : lwS Z G b Ls xs) (hn : gn G = 66) (hi : i + 6 ≤ Ls) (hk : k + 1 ≤ 600000 ∧ n + 6 ≤ 7302250) (hR : RI μ) (h1 : ∀ μ', RI μ' → qV Z G 4 (k + 1) (n + 6) μ' 1521 (lwL G b i) []) : qV Z G 4 k n μ 1093 (lwL G b i) [] := by
  have h66 : 66 ≤ gn G := by omega
  have h := op_seed (xs (i + 1)) μ hR
  refine x_aload_n C 1 dL_law_1093 rfl rfl ?_
  refine x_arg C S hi 1 (w := 1) (by decide) dL_law_1094 dL_law_1095 dL_law_1096 (by decide) rfl dL_law_1097 dL_law_1098 ?_
  refine x_Vi [.int (xs (i + 1))] [] C 0 9 (wp := fun K => w_X10_seed (xs (i + 1)) K μ) y_X10_seed (qm_35 _ (List.mem_of_getElem? (i := 15) rfl)) (qm_35 _ (List.mem_of_getElem? (i := 16) rfl)) (qm_35 _ (List.mem_of_getElem? (i := 14) rfl)) (c_X10_seed Z.2.1 G h66) (Nat.lt_of_lt_of_le (by decide) h66) rfl (by decide) rfl rfl rfl ⟨by show k + 0 + 0 ≤ 600000; omega, by show n + 0 + 0 ≤ 7302250; omega⟩ rfl rfl rfl dL_law_1099 h (fun r μ1 h => ?_)
  refine x_aload_n C 2 dL_law_1102 rfl rfl ?_
  refine x_arg C S hi 1 (w := 1) (by decide) dL_law_1103 dL_law_1104 dL_law_1105 (by decide) rfl dL_law_1106 dL_law_1107 ?_
  refine x_Vi [.int (xs (i + 1))] [.int r] C 46 10 (wp := fun K => w_X11_seed (xs (i + 1)) K μ1) y_X11_seed (qm_36 _ (List.mem_of_getElem? (i := 3) rfl)) (qm_36 _ (List.mem_of_getElem? (i := 4) rfl)) (qm_36 _ (List.mem_of_getElem? (i := 2) rfl)) (c_X11_seed Z.2.1 G h66) (Nat.lt_of_lt_of_le (by decide) h66) rfl (by decide) rfl rfl rfl ⟨by show k + 0 + 0 ≤ 600000; omega, by show n + 0 + 0 ≤ 7302250; omega⟩ rfl rfl rfl dL_law_1108 h (fun r' μ2 h => ?_)
  refine x_icmp_eq C dL_law_1111 (tgt := 1521) (A := True) (B := False) (by decide) ⟨fun _ => trivial, fun q => q h.1⟩ (fun _ => ?_) (fun q => q.elim)
  exact x_widen (Nat.le_add_right k 1) (Nat.le_add_right n 6) (h1 _ h.2)
