theorem op_text : OP w_X10_text w_X11_text := by
  intro μ h
  obtain ⟨⟨r1, r2, r3, r4, r5, r6, r7⟩, r8⟩ := id h
  obtain ⟨n, kd, lt, hX, hM, hW⟩ := r1
  have h10 := hX.2.1
  obtain ⟨T, hT, t1, t2, t3⟩ := r6
  obtain ⟨b, hbd⟩ : ∃ b : Nat → Nat, b = fun j => if j < T then (μ 55 j).toNatClampNeg else 0 := ⟨_, rfl⟩
  have hb1 : ∀ j, j < T → μ 55 j = nI (b j) ∧ b j < 256 := fun j hj => by
    obtain ⟨x, hx, e⟩ := (t3 j hj).2
    have : b j = x := by rw [hbd]; show (if j < T then (μ 55 j).toNatClampNeg else 0) = x; rw [if_pos hj, e, clp (by omega)]
    rw [this]; exact ⟨e, hx⟩
  have hb : ∀ j, b j < 256 := fun j => by
    by_cases q : j < T
    · exact (hb1 j q).2
    · rw [hbd]; show (if j < T then (μ 55 j).toNatClampNeg else 0) < 256; rw [if_neg q]; omega
  have hTX : TX μ T b := ⟨hT, t1, fun j hj => ⟨(t3 j hj).1.trans (hb1 j hj).1, hb j⟩⟩
  have hMT : MT μ T b := ⟨hT, t2, hb1⟩
  have hw0 : WT (n, kd, lt, μ 1 3, μ 6) := ⟨h10, hW, fun L hL => (r2 L hL).2⟩
  obtain ⟨y, hy, y1, y2⟩ := r4.2.1
  refine xtext_sp hX hTX hb _ (fun m st' μ1 hR hm a hX1 w6 s7 c3 c4 c5 e22 => ?_) (fun s st' μ1 hR hs g => ?_)
  · have a46 : μ1 46 = μ 46 := a 46 rfl (by decide) (by decide) (by decide) (by decide) (by decide) (by decide) (by decide)
    have a47 : μ1 47 = μ 47 := a 47 rfl (by decide) (by decide) (by decide) (by decide) (by decide) (by decide) (by decide)
    have a48 : μ1 48 = μ 48 := a 48 rfl (by decide) (by decide) (by decide) (by decide) (by decide) (by decide) (by decide)
    have a49 : μ1 49 = μ 49 := a 49 rfl (by decide) (by decide) (by decide) (by decide) (by decide) (by decide) (by decide)
    have a55 : μ1 55 = μ 55 := a 55 rfl (by decide) (by decide) (by decide) (by decide) (by decide) (by decide) (by decide)
    have hM1 : HM μ1 n kd lt := by unfold HM; rw [a46, a47, a48]; exact hM
    have hMT1 : MT μ1 T b := by unfold MT; rw [a46, a55]; exact hMT
    refine mtext_sp (w := μ 6) (c := μ 1 3) hM1 h10 hMT1 hb (by rw [a46]; exact r4.1.symm) (fun L hL => by rw [a49]; exact (r2 L hL).1.symm) _ (fun m' st2 μ2 hR2 A B S e18 => ?_) (fun s' st2 μ2 hR2 _ _ _ _ _ => ?_)
    · rw [hR] at hR2
      obtain ⟨em, es⟩ : m = m' ∧ st' = st2 := ⟨congrArg (fun z => z.2.1) hR2, congrArg (fun z => z.2.2) hR2⟩
      subst em; subst es
      have hw := txt_wt 200 1 _ _ hw0 m st' hR
      have C : ∀ i, (scrB i || (i == 1 || (i == 2 || (i == 3 || (i == 4 || (i == 6 || (i == 7 || (i == 22 || (i == 46 || (i == 47 || (i == 48 || i == 49))))))))))) = false → μ2 i = μ i := fun i hi => by
        simp only [Bool.or_eq_false_iff, beq_eq_false_iff_ne] at hi
        obtain ⟨i0, i1, i2, i3, i4, i6, i7, i22, i46, i47, i48, i49⟩ := hi
        rw [A i i0 i46 i47 i48 i49, a i i0 i1 i2 i3 i4 i6 i7 i22]
      have D : ∀ i, scrB i = false → i ≠ 46 → i ≠ 47 → i ≠ 48 → i ≠ 49 → μ2 i = μ1 i := A
      have b46 : ∀ k, k ≠ 0 → k ≠ 5 → k ≠ 18 → scrF k = false → μ2 46 k = μ 46 k := fun k k0 k5 k18 hk => by rw [B k k0 k5 k18 hk, a46]
      refine ⟨rfl, ⟨⟨⟨_, _, _, ⟨?_, hX1.2.1, fun j hj => ?_⟩, S.1, hw.2.1⟩, fun L hL => ?_, fun j hj => ?_, ⟨?_, ⟨y, hy, ?_, ?_⟩, ?_⟩, ?_, ⟨0, Nat.zero_le _, ?_, e18, fun j hj => absurd hj (Nat.not_lt_zero _)⟩, r7.keep (s8 ⟨C 25 rfl, C 26 rfl, C 27 rfl, C 28 rfl, C 29 rfl, C 30 rfl, C 31 rfl, C 32 rfl⟩) (C 62 rfl) (C 63 rfl) (C 64 rfl)⟩, r8.keep (C 33 rfl) (C 56 rfl)⟩⟩
      · rw [D 2 rfl (by decide) (by decide) (by decide) (by decide)]; exact hX1.1
      · rw [D (2 + 1) rfl (by decide) (by decide) (by decide) (by decide), D (2 + 2) rfl (by decide) (by decide) (by decide) (by decide)]; exact hX1.2.2 j hj
      · rw [D 6 rfl (by decide) (by decide) (by decide) (by decide), w6 L hL, S.2.2 L hL]
        exact ⟨rfl, hw.2.2 L hL⟩
      · rw [D 7 rfl (by decide) (by decide) (by decide) (by decide), s7 j hj, C 50 rfl]; exact r3 j hj
      · rw [D 1 rfl (by decide) (by decide) (by decide) (by decide), c3, S.2.1]
      · rw [D 1 rfl (by decide) (by decide) (by decide) (by decide), c4]; exact y1
      · rw [b46 6 (by decide) (by decide) (by decide) rfl]; exact y2
      · rw [D 1 rfl (by decide) (by decide) (by decide) (by decide), c5, b46 7 (by decide) (by decide) (by decide) rfl]; exact r4.2.2
      · exact r5.keep (C 0 rfl) (C 8 rfl) (C 9 rfl) (C 10 rfl) (C 11 rfl) (C 13 rfl) (C 14 rfl) (b46 8 (by decide) (by decide) (by decide) rfl) (b46 9 (by decide) (by decide) (by decide) rfl) (b46 14 (by decide) (by decide) (by decide) rfl) (b46 15 (by decide) (by decide) (by decide) rfl) (b46 16 (by decide) (by decide) (by decide) rfl) (C 51 rfl) (C 52 rfl) (C 53 rfl) (C 54 rfl)
      · rw [D 22 rfl (by decide) (by decide) (by decide) (by decide)]; exact e22
    · rw [hR] at hR2
      exact absurd (congrArg Prod.fst hR2) (by show ¬ _; intro q; exact Bool.noConfusion q)
  · have hM1 : HM μ1 n kd lt := SA.hm g (show HM (qu μ 22 1 0) n kd lt from hM)
    have g49 : μ1 49 = μ 49 := g.1 49 rfl (by decide) (by decide) (by decide)
    have g55 : μ1 55 = μ 55 := g.1 55 rfl (by decide) (by decide) (by decide)
    have g18 : μ1 46 18 = μ 46 18 := g.2.1 18 rfl
    have g5 : μ1 46 5 = μ 46 5 := g.2.1 5 rfl
    have hMT1 : MT μ1 T b := by unfold MT; rw [g18, g55]; exact hMT
    refine mtext_sp (w := μ 6) (c := μ 1 3) hM1 h10 hMT1 hb (by rw [g5]; exact r4.1.symm) (fun L hL => by rw [g49]; exact (r2 L hL).1.symm) _ (fun m' st2 μ2 hR2 _ _ _ _ => ?_) (fun s' st2 μ2 hR2 A B S w49 e18 => ?_)
    · rw [hR] at hR2
      exact absurd (congrArg Prod.fst hR2) (by show ¬ _; intro q; exact Bool.noConfusion q)
    · rw [hR] at hR2
      obtain ⟨em, es⟩ : s = s' ∧ st' = st2 := ⟨congrArg (fun z => z.2.1) hR2, congrArg (fun z => z.2.2) hR2⟩
      subst em
      have C : ∀ i, (scrB i || (i == 22 || (i == 46 || (i == 47 || (i == 48 || i == 49))))) = false → μ2 i = μ i := fun i hi => by
        simp only [Bool.or_eq_false_iff, beq_eq_false_iff_ne] at hi
        obtain ⟨i0, i22, i46, i47, i48, i49⟩ := hi
        rw [A i i0 i46 i47 i48 i49, g.1 i i0 i46 i47 i48, qu_n i22]
      have b46 : ∀ k, k ≠ 18 → scrF k = false → μ2 46 k = μ 46 k := fun k k18 hk => by rw [B k k18 hk]; exact g.2.1 k hk
      refine ⟨rfl, ⟨⟨⟨n, kd, lt, ⟨?_, h10, fun j hj => ?_⟩, S, hW⟩, fun L hL => ?_, r3.keep (C 7 rfl) (C 50 rfl), r4.keep (C 1 rfl) (b46 5 (by decide) rfl) (b46 6 (by decide) rfl) (b46 7 (by decide) rfl), ?_, ⟨0, Nat.zero_le _, ?_, e18, fun j hj => absurd hj (Nat.not_lt_zero _)⟩, r7.keep (s8 ⟨C 25 rfl, C 26 rfl, C 27 rfl, C 28 rfl, C 29 rfl, C 30 rfl, C 31 rfl, C 32 rfl⟩) (C 62 rfl) (C 63 rfl) (C 64 rfl)⟩, r8.keep (C 33 rfl) (C 56 rfl)⟩⟩
      · rw [C 2 rfl]; exact hX.1
      · rw [C (2 + 1) rfl, C (2 + 2) rfl]; exact hX.2.2 j hj
      · rw [C 6 rfl, w49 L hL]; exact ⟨rfl, (r2 L hL).2⟩
      · exact r5.keep (C 0 rfl) (C 8 rfl) (C 9 rfl) (C 10 rfl) (C 11 rfl) (C 13 rfl) (C 14 rfl) (b46 8 (by decide) rfl) (b46 9 (by decide) rfl) (b46 14 (by decide) rfl) (b46 15 (by decide) rfl) (b46 16 (by decide) rfl) (C 51 rfl) (C 52 rfl) (C 53 rfl) (C 54 rfl)
      · rw [A 22 rfl (by decide) (by decide) (by decide) (by decide), g.1 22 rfl (by decide) (by decide) (by decide)]
        exact qu_ss
