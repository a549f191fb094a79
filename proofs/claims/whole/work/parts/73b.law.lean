def lwS (Z : qZ) (G : qG) (b Ls : Nat) (xs : Nat → Int32) : Prop := va_X b Ls xs (zs Z) (zs Z).heap ∧ b < (zs Z).heap.size ∧ ¬ qA G b ∧ Ls ≤ 3072
abbrev lwL (G : qG) (b i : Nat) : List (Nat × Value) := [(0, .ref b), (1, .ref (ga G 0)), (2, .ref (ga G 46)), (3, .int (nI i))]
section LAWROWS
variable {Z : qZ} {G : qG} {k n : Nat} {μ : qM} {pc : Nat} {st : List Value} {b Ls i : Nat} {xs : Nat → Int32}
theorem x_sld {L : List (Nat × Value)} {v : Int32} (C : qX Z G RL cL_law 4 room_1 ret) (S : lwS Z G b Ls xs) {j : Nat} (hv : v = nI j) (hj : j < Ls) (hd : decode cL_law pc = .ok (.iaload, 1)) (h : qV Z G 4 k n μ (pc + 1) L (.int (xs j) :: st)) : qV Z G 4 k n μ pc L (.int v :: .ref b :: st) := fun H locs ls hP hS hL => by
  subst hv
  have h3 := S.2.2.2
  have e : (nI j).toNatClampNeg = j := nI_clamp (by omega)
  refine va_sld C.1 C.2.1 S.1 S.2.1 S.2.2.1 hS (i := nI j) (vp_in_nI hj (by omega)) hd ?_
  rw [e]
  exact h H locs ls hP hS hL
theorem x_slen {L : List (Nat × Value)} (C : qX Z G RL cL_law 4 room_1 ret) (S : lwS Z G b Ls xs) (hd : decode cL_law pc = .ok (.arraylength, 1)) (h : qV Z G 4 k n μ (pc + 1) L (.int (nI Ls) :: st)) : qV Z G 4 k n μ pc L (.ref b :: st) := fun H locs ls hP hS hL => va_slen C.1 C.2.1 S.1 S.2.1 S.2.2.1 hS hd (h H locs ls hP hS hL)
theorem x_arg (C : qX Z G RL cL_law 4 room_1 ret) (S : lwS Z G b Ls xs) (hi : i + 6 ≤ Ls) (j : Nat) {jv : Int} {w : Int32} (hj : j < 6) (d0 : decode cL_law pc = .ok (.aload_n 0, 1)) (d1 : decode cL_law (pc + 1) = .ok (.iload_n 3, 1)) (d2 : decode cL_law (pc + 2) = .ok (.iconst jv, 1)) (hv : Int32.ofInt jv = w) (hw : w = nI j) (d3 : decode cL_law (pc + 3) = .ok (.iadd, 1)) (d4 : decode cL_law (pc + 4) = .ok (.iaload, 1)) (h : qV Z G 4 k n μ (pc + 5) (lwL G b i) (.int (xs (i + j)) :: st)) : qV Z G 4 k n μ pc (lwL G b i) st := by
  refine x_aload_n C 0 d0 rfl rfl ?_
  refine x_iload_n C 3 d1 rfl rfl ?_
  refine x_iconst C (v := w) d2 hv ?_
  refine x_iadd C d3 ?_
  have h3 := S.2.2.2
  exact x_sld C S (j := i + j) (by rw [hw, nI_add]) (by omega) d4 h
theorem x_widen {nL : Nat} {L : List (Nat × Value)} {k' n' : Nat} (hk : k ≤ k') (hn : n ≤ n') (h : qV Z G nL k' n' μ pc L st) : qV Z G nL k n μ pc L st := fun H locs ls hP hS hL => W.widen hk hn (h H locs ls hP hS hL)
end LAWROWS
