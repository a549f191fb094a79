/-! a year: what is drawn, and what is then built -/
def nz (z : Int32) : Int32 := z * 1103515245 + 12345
def dr (z : Int32) : Int32 := (z.toUInt32 >>> ((8 : Int32).toUInt32 &&& Int32.toUInt32 31)).toInt32
def md (x m : Int32) : Int32 := x - x / m * m
theorem dr_nI (z : Int32) : ∃ j, j < 2 ^ 24 ∧ dr z = nI j := by
  have h := pk_ushr z 8 8 (by decide)
  have hl : z.toBitVec.toNat < 2 ^ 32 := z.toBitVec.isLt
  refine ⟨z.toBitVec.toNat / 2 ^ 8, by omega, ?_⟩
  apply Int32.toBitVec_inj.mp
  apply BitVec.eq_of_toNat_eq
  unfold dr
  rw [h]
  show z.toBitVec.toNat / 2 ^ 8 = (BitVec.ofNat 32 (z.toBitVec.toNat / 2 ^ 8)).toNat
  rw [BitVec.toNat_ofNat, Nat.mod_eq_of_lt (by omega)]
theorem md_lt (z : Int32) {d : Nat} (h0 : 0 < d) (hd : d < 2 ^ 31) : ∃ j, j < d ∧ md (dr z) (nI d) = nI j := by
  obtain ⟨j, hj, e⟩ := dr_nI z
  refine ⟨j % d, Nat.mod_lt _ h0, ?_⟩
  rw [e]
  exact pk_rem (by omega) h0 hd
def yk (z : Int32) : Int32 := md (dr (nz (nz (nz z)))) 7
def yl (z : Int32) : Int32 := 12 * md (dr (nz (nz z))) 12 + md (dr (nz z)) 12
theorem yz (z : Int32) : ∃ a b k, a < 12 ∧ b < 12 ∧ k < 7 ∧ md (dr (nz z)) 12 = nI a ∧ md (dr (nz (nz z))) 12 = nI b ∧ md (dr (nz (nz (nz z)))) 7 = nI k ∧ yl z = nI (12 * b + a) ∧ yk z = nI k := by
  obtain ⟨a, ha, ea⟩ := md_lt (nz z) (d := 12) (by omega) (by omega)
  obtain ⟨b, hb, eb⟩ := md_lt (nz (nz z)) (d := 12) (by omega) (by omega)
  obtain ⟨k, hk, ek⟩ := md_lt (nz (nz (nz z))) (d := 7) (by omega) (by omega)
  refine ⟨a, b, k, ha, hb, hk, ea, eb, ek, ?_, ek⟩
  unfold yl
  rw [show (12 : Int32) * md (dr (nz (nz z))) 12 = 12 * nI b from congrArg _ eb, show md (dr (nz z)) 12 = nI a from ea]
  exact lot_nI
def yr (w : Nat → Int32) (s : (Nat × (Nat → Int32) × (Nat → Int32) × Int32 × Int32)) : Bool × (Nat × (Nat → Int32) × (Nat → Int32) × Int32 × Int32) :=
  if s.1 = 10 then (false, ⟨s.1, s.2.1, s.2.2.1, s.2.2.2.1, nz (nz (nz s.2.2.2.2))⟩)
  else if s.2.2.2.1 < cs (yk s.2.2.2.2) then (false, ⟨s.1, s.2.1, s.2.2.1, s.2.2.2.1, nz (nz (nz s.2.2.2.2))⟩)
  else if fb s.1 s.2.1 s.2.2.1 (yl s.2.2.2.2) = true then (true, ⟨s.1 + 1, upd s.2.1 s.1 (yk s.2.2.2.2), upd s.2.2.1 s.1 (yl s.2.2.2.2), s.2.2.2.1 + (w (yl s.2.2.2.2).toNatClampNeg - cs (yk s.2.2.2.2)), nz (nz (nz s.2.2.2.2))⟩)
  else (false, ⟨s.1, s.2.1, s.2.2.1, s.2.2.2.1, nz (nz (nz s.2.2.2.2))⟩)
def its (w : Nat → Int32) : Nat → (Nat × (Nat → Int32) × (Nat → Int32) × Int32 × Int32) → Nat × (Nat × (Nat → Int32) × (Nat → Int32) × Int32 × Int32)
  | 0, s => (0, s)
  | m + 1, s => ((its w m s).1 + (if (yr w (its w m s).2).1 then 1 else 0), (yr w (its w m s).2).2)
theorem its_step {w : Nat → Int32} {j : Nat} {s s1 s2 : (Nat × (Nat → Int32) × (Nat → Int32) × Int32 × Int32)} {b : Bool} (h1 : (its w j s).2 = s1) (h2 : yr w s1 = (b, s2)) : its w (j + 1) s = ((its w j s).1 + (if b then 1 else 0), s2) := by
  rw [its, h1, h2]
def SX (μ : qM) (t n : Nat) (kd lt : Nat → Int32) (c z : Int32) (w : Nat → Int32) : Prop := HX μ (t + 1) n kd lt ∧ μ t 3 = c ∧ μ t 5 = z ∧ ∀ L, L < 144 → μ (t + 5) L = w L
def SP (μ : qM) (t : Nat) (s : (Nat × (Nat → Int32) × (Nat → Int32) × Int32 × Int32)) (w : Nat → Int32) : Prop := SX μ t s.1 s.2.1 s.2.2.1 s.2.2.2.1 s.2.2.2.2 w
def KX (t : Nat) (μ μ' : qM) : Prop := (∀ i, i ≠ t → i ≠ t + 1 → i ≠ t + 2 → i ≠ t + 3 → i ≠ t + 4 → μ' i = μ i) ∧ ∀ k, k ≠ 3 → k ≠ 5 → μ' t k = μ t k
theorem KX.refl {t : Nat} (μ : qM) : KX t μ μ := ⟨fun _ _ _ _ _ _ => rfl, fun _ _ _ => rfl⟩
theorem KX.trans {t : Nat} {μ μ1 μ2 : qM} (h : KX t μ μ1) (g : KX t μ1 μ2) : KX t μ μ2 := ⟨fun i a b c d e => (g.1 i a b c d e).trans (h.1 i a b c d e), fun k a b => (g.2 k a b).trans (h.2 k a b)⟩
section
variable {μ : qM} {t n : Nat} {kd lt : Nat → Int32} {c z : Int32} {w : Nat → Int32}
theorem draw_sp (h : SX μ t n kd lt c z w) (post : Int32 → qM → Prop) (hp' : ∀ μ', KX t μ μ' → SX μ' t n kd lt c (nz z) w → post (dr (nz z)) μ') : w_X9_draw t post μ := by
  obtain ⟨hX, hc, hz, hw⟩ := h
  unfold w_X9_draw
  have e : (qu μ t 5 (μ t 5 * 1103515245 + 12345)) t 5 = nz z := by rw [qu_s, pk_us, hz]; rfl
  rw [e]
  refine hp' _ ⟨fun i a _ _ _ _ => qu_n a, fun k _ b => by rw [qu_s, pk_un b]⟩ ⟨⟨by rw [qu_n (by omega)]; exact hX.1, hX.2.1, fun j hj => ?_⟩, ?_, e, fun L hL => ?_⟩
  · rw [qu_n (by omega), qu_n (by omega)]; exact hX.2.2 j hj
  · rw [qu_s, pk_un (by omega)]; exact hc
  · rw [qu_n (by omega)]; exact hw L hL
theorem xfree_sp (h : SX μ t n kd lt c z w) (v : Int32) (post : Int32 → qM → Prop) (hp' : ∀ μ', KX t μ μ' → SX μ' t n kd lt c z w → post (tb (fb n kd lt v)) μ') : w_X1_isFree (t + 1) v post μ := by
  obtain ⟨hX, hc, hz, hw⟩ := h
  refine isFree_sp hX v _ (fun f => hp' _ ⟨fun i a _ _ _ e => qr_n e, fun k _ b => by rw [qr_n (by omega)]⟩ ⟨hX.fars f, ?_, ?_, fun L hL => ?_⟩)
  · rw [qr_n (by omega)]; exact hc
  · rw [qr_n (by omega)]; exact hz
  · rw [qr_n (by omega)]; exact hw L hL
theorem raise_sp (h : SX μ t n kd lt c z w) (hn : n < 10) (k : Int32) {L : Nat} (hL : L < 144) (post : qM → Prop) (hp' : ∀ μ', KX t μ μ' → SX μ' t (n + 1) (upd kd n k) (upd lt n (nI L)) (c + (w L - cs k)) z w → post μ') : w_X9_raise t k (nI L) post μ := by
  obtain ⟨hX, hc, hz, hw⟩ := h
  unfold w_X9_raise
  refine put_sp hX hn _ _ _ ?_
  refine worthOf_sp hL _ ?_
  rw [costs_eq]
  have hX' := hX.put hn k (nI L)
  generalize hP : (qu (qu (qu μ (t + 1 + 1) n k) (t + 1 + 2) n (nI L)) (t + 1) 0 (nI n + 1)) = P at hX' ⊢
  have k1 : ∀ i, i ≠ t + 1 → i ≠ t + 2 → i ≠ t + 3 → P i = μ i := fun i a b d => by
    rw [← hP, qu_n a, qu_n (by omega), qu_n (by omega)]
  have kt := k1 t (by omega) (by omega) (by omega)
  rw [kt, hc, k1 (t + 5) (by omega) (by omega) (by omega), hw L hL]
  refine hp' _ ⟨fun i a b d e _ => by rw [qu_n a]; exact k1 i b d e, fun k' a _ => by rw [qu_s, pk_un a, kt]⟩ ⟨⟨by rw [qu_n (by omega)]; exact hX'.1, hX'.2.1, fun j hj => ?_⟩, by rw [qu_s, pk_us], by rw [qu_s, pk_un (by omega), kt]; exact hz, fun L' hL' => ?_⟩
  · rw [qu_n (by omega), qu_n (by omega)]; exact hX'.2.2 j hj
  · rw [qu_n (by omega), k1 (t + 5) (by omega) (by omega) (by omega)]; exact hw L' hL'
end
theorem pass_sp {μ : qM} {t m : Nat} {s : (Nat × (Nat → Int32) × (Nat → Int32) × Int32 × Int32)} {w : Nat → Int32} (hm : m ≤ 60) (h : SP μ t s w) (post : Int32 → qM → Prop) (hp' : ∀ μ', KX t μ μ' → SP μ' t (its w m s).2 w → post (nI (its w m s).1) (qu μ' t 4 (μ' t 4 + nI m))) : w_X9_pass t (nI m) post μ := by
  unfold w_X9_pass q_X9_pass_4
  refine for2 m (fun j a μ' => KX t μ μ' ∧ SP μ' t (its w j s).2 w ∧ a = nI (its w j s).1) ?_ 0 (Nat.zero_le _) ⟨KX.refl _, h, rfl⟩
  rintro P j a μ' hj ⟨hK, hS, rfl⟩ hP
  refine ⟨fun hx => ?_, fun hx => ?_⟩
  · have : m ≤ j := pn_le (by omega) (by omega) hx
    have hjm : j = m := by omega
    subst hjm
    exact hp' μ' hK hS
  · have hlt : j < m := pn_nle (by omega) (by omega) hx
    generalize hs' : (its w j s).2 = s' at hS
    obtain ⟨n, kd, lt, c, z⟩ := s'
    have go : ∀ (b : Bool) (s2 : (Nat × (Nat → Int32) × (Nat → Int32) × Int32 × Int32)) (ν : qM), yr w ⟨n, kd, lt, c, z⟩ = (b, s2) → KX t μ' ν → SP ν t s2 w → P (nI (its w j s).1 + (if b then 1 else 0)) (nI j + 1) ν := fun b s2 ν h1 h2 h3 => by
      have e := its_step hs' h1
      refine hP _ _ hlt ⟨hK.trans h2, ?_, ?_⟩
      · rw [e]; exact h3
      · rw [e]
        cases b
        · exact Int32.add_zero _
        · exact nI_1 _
    have hS0 : SX μ' t n kd lt c z w := hS
    unfold q_X9_pass_86 w_X10_lotOf
    obtain ⟨a, b, k, ha, hb, hk, ea, eb, ek, el, ek'⟩ := yz z
    refine draw_sp hS0 _ (fun μ1 K1 S1 => ⟨n12, draw_sp S1 _ (fun μ2 K2 S2 => ⟨n12, draw_sp S2 _ (fun μ3 K3 S3 => ⟨by decide, ?_⟩)⟩)⟩)
    show w_X1_isFull (t + 1) _ _
    have ea' : dr (nz z) - dr (nz z) / 12 * 12 = nI a := ea
    have eb' : dr (nz (nz z)) - dr (nz (nz z)) / 12 * 12 = nI b := eb
    have ek2 : dr (nz (nz (nz z))) - dr (nz (nz (nz z))) / 7 * 7 = nI k := ek
    rw [ea', eb', ek2, lot_nI, isFull_eq S3.1, pt_if']
    have K := (K1.trans K2).trans K3
    have no : ∀ ν, yr w ⟨n, kd, lt, c, z⟩ = (false, ⟨n, kd, lt, c, nz (nz (nz z))⟩) → KX t μ' ν → SX ν t n kd lt c (nz (nz (nz z))) w → P (nI (its w j s).1) (nI j + 1) ν := fun ν h1 h2 h3 => by
      have := go false _ ν h1 h2 h3
      have e0 : nI (its w j s).1 + (if (false : Bool) = true then 1 else 0) = nI (its w j s).1 := Int32.add_zero _
      rw [e0] at this
      exact this
    by_cases h10 : n = 10
    · simp only [h10, decide_true, if_true]
      exact no _ (by rw [yr, if_pos h10]) K S3
    · simp only [h10, decide_false, Bool.false_eq_true, if_false]
      rw [costs_eq]
      refine ⟨fun hlt' => ?_, fun hge => ?_⟩
      · rw [S3.2.1] at hlt'
        exact no _ (by rw [yr, if_neg h10, if_pos (by rw [ek']; exact hlt')]) K S3
      · rw [S3.2.1] at hge
        refine xfree_sp S3 _ _ (fun μ4 K4 S4 => pb_if (fun hb => ?_) (fun hb => ?_))
        · exact no _ (by rw [yr, if_neg h10, if_neg (by rw [ek']; exact hge), if_neg (by rw [el, hb]; decide)]) (K.trans K4) S4
        · refine raise_sp S4 (by have := S4.1.2.1; omega) _ (show 12 * b + a < 144 by omega) _ (fun μ5 K5 S5 => ?_)
          have := go true _ μ5 (by rw [yr, if_neg h10, if_neg (by rw [ek']; exact hge), if_pos (by rw [el]; exact hb)]) ((K.trans K4).trans K5) (by rw [el, ek', clp (by omega)]; exact S5)
          exact this
/-! the reference's year -/
def SM (μ : qM) (n : Nat) (kd lt : Nat → Int32) (c z : Int32) (w : Nat → Int32) : Prop := HM μ n kd lt ∧ μ 46 5 = c ∧ μ 46 7 = z ∧ ∀ L, L < 144 → μ 49 L = w L
def SQ (μ : qM) (s : (Nat × (Nat → Int32) × (Nat → Int32) × Int32 × Int32)) (w : Nat → Int32) : Prop := SM μ s.1 s.2.1 s.2.2.1 s.2.2.2.1 s.2.2.2.2 w
def KM (μ μ' : qM) : Prop := (∀ i, i ≠ 46 → i ≠ 47 → i ≠ 48 → i ≠ 57 → μ' i = μ i) ∧ ∀ k, k ≠ 0 → k ≠ 5 → k ≠ 6 → k ≠ 7 → μ' 46 k = μ 46 k
theorem KM.refl (μ : qM) : KM μ μ := ⟨fun _ _ _ _ _ => rfl, fun _ _ _ _ _ => rfl⟩
theorem KM.trans {μ μ1 μ2 : qM} (h : KM μ μ1) (g : KM μ1 μ2) : KM μ μ2 := ⟨fun i a b c d => (g.1 i a b c d).trans (h.1 i a b c d), fun k a b c d => (g.2 k a b c d).trans (h.2 k a b c d)⟩
section
variable {μ : qM} {n : Nat} {kd lt : Nat → Int32} {c z : Int32} {w : Nat → Int32}
theorem mdraw_sp (h : SM μ n kd lt c z w) (post : Int32 → qM → Prop) (hp' : ∀ μ', KM μ μ' → μ' 46 6 = μ 46 6 → SM μ' n kd lt c (nz z) w → post (dr (nz z)) μ') : w_X11_draw post μ := by
  obtain ⟨hM, hc, hz, hw⟩ := h
  unfold w_X11_draw
  have e : (qu μ 46 7 (μ 46 7 * 1103515245 + 12345)) 46 7 = nz z := by rw [qu_s, pk_us, hz]; rfl
  rw [e]
  exact hp' _ ⟨fun i a _ _ _ => qu_n a, fun k _ _ _ b => by rw [qu_s, pk_un b]⟩ rfl ⟨hM, hc, e, hw⟩
theorem mfree_sp (h : SM μ n kd lt c z w) (v : Int32) (post : Int32 → qM → Prop) (hp' : ∀ μ', KM μ μ' → μ' 46 6 = μ 46 6 → SM μ' n kd lt c z w → post (tb (fb n kd lt v)) μ') : w_X11_isFree v post μ := by
  obtain ⟨hM, hc, hz, hw⟩ := h
  exact misFree_sp hM v _ (fun f => hp' _ ⟨fun i _ _ _ e => qr_n e, fun k _ _ _ _ => rfl⟩ rfl ⟨hM.away f, hc, hz, hw⟩)
theorem builds_sp (h : SM μ n kd lt c z w) (hn : n < 10) (k : Int32) {L : Nat} (hL : L < 144) (post : qM → Prop) (hp' : ∀ μ', KM μ μ' → μ' 46 6 = μ 46 6 → SM μ' (n + 1) (upd kd n k) (upd lt n (nI L)) (c + (w L - cs k)) z w → post μ') : w_X11_builds k (nI L) post μ := by
  obtain ⟨hM, hc, hz, hw⟩ := h
  unfold w_X11_builds
  rw [mcosts_eq, clp (by omega), hc, hw L hL]
  refine ⟨vp_in_nI hL (by omega), ?_⟩
  have hM0 : HM (qu μ 46 5 (c - cs k + w L)) n kd lt := hM
  refine mput_sp hM0 (by omega) _ _ _ ?_
  have hM1 := hM0.put (by omega) k (nI L)
  refine hp' _ ⟨fun i a b d _ => by rw [qu_n a, qu_n d, qu_n b, qu_n a], fun k' a b _ _ => ?_⟩ rfl ⟨hM1, ?_, hz, hw⟩
  · show upd (upd (μ 46) 5 _) 0 _ k' = μ 46 k'
    rw [pk_un a, pk_un b]
  · show c - cs k + w L = _
    grind
end
theorem aYear_sp {μ : qM} {s : (Nat × (Nat → Int32) × (Nat → Int32) × Int32 × Int32)} {w : Nat → Int32} (h : SQ μ s w) (h10 : s.1 ≤ 10) (post : Int32 → qM → Prop) (hp' : ∀ μ', KM μ μ' → μ' 46 6 = μ 46 6 + 1 → SQ μ' (yr w s).2 w → post (tb (yr w s).1) μ') : w_X11_aYear post μ := by
  obtain ⟨n, kd, lt, c, z⟩ := s
  have hS0 : SM μ n kd lt c z w := h
  have h10' : n ≤ 10 := h10
  unfold w_X11_aYear q_X11_aYear_71 q_X11_aYear_72 q_X11_aYear_90
  obtain ⟨a, b, k, ha, hb, hk, ea, eb, ek, el, ek'⟩ := yz z
  refine mdraw_sp hS0 _ (fun μ1 K1 Y1 S1 => ⟨n12, mdraw_sp S1 _ (fun μ2 K2 Y2 S2 => ⟨n12, mdraw_sp S2 _ (fun μ3 K3 Y3 S3 => ⟨by decide, ?_⟩)⟩)⟩)
  have ea' : dr (nz z) - dr (nz z) / 12 * 12 = nI a := ea
  have eb' : dr (nz (nz z)) - dr (nz (nz z)) / 12 * 12 = nI b := eb
  have ek2 : dr (nz (nz (nz z))) - dr (nz (nz (nz z))) / 7 * 7 = nI k := ek
  rw [ea', eb', ek2, lot_nI]
  have K := (K1.trans K2).trans K3
  have Y : μ3 46 6 = μ 46 6 := Y3.trans (Y2.trans Y1)
  have K' : KM μ (qu μ3 46 6 (μ3 46 6 + 1)) := K.trans ⟨fun i a _ _ _ => qu_n a, fun k' _ _ d _ => by rw [qu_s, pk_un d]⟩
  have Y' : (qu μ3 46 6 (μ3 46 6 + 1)) 46 6 = μ 46 6 + 1 := by rw [qu_s, pk_us, Y]
  have S' : SM (qu μ3 46 6 (μ3 46 6 + 1)) n kd lt c (nz (nz (nz z))) w := S3
  generalize (qu μ3 46 6 (μ3 46 6 + 1)) = ν at K' Y' S'
  have no : ∀ ν, yr w ⟨n, kd, lt, c, z⟩ = (false, ⟨n, kd, lt, c, nz (nz (nz z))⟩) → KM μ ν → ν 46 6 = μ 46 6 + 1 → SM ν n kd lt c (nz (nz (nz z))) w → ((0 : Int32) = 0 → ((0 : Int32) = 0 ∨ (0 : Int32) = 1) ∧ post 0 ν) ∧ (¬ (0 : Int32) = 0 → w_X11_builds (nI k) (nI (12 * b + a)) (fun μ87 => ((0 : Int32) = 0 ∨ (0 : Int32) = 1) ∧ post 0 μ87) ν) := fun ν h1 h2 h3 h4 => by
    have := hp' ν h2 h3 (by rw [h1]; exact h4)
    rw [h1] at this
    exact ⟨fun _ => ⟨Or.inl rfl, this⟩, fun q => absurd rfl q⟩
  rw [S'.1.1, S'.2.1, mcosts_eq]
  refine ⟨fun q => ?_, fun q => ?_⟩
  · have : 10 ≤ n := pn_le (a := 10) (by omega) (by omega) q
    exact no _ (by rw [yr, if_pos (show n = 10 by omega)]) K' Y' S'
  · have hn : n < 10 := pn_nle (a := 10) (by omega) (by omega) q
    have hn' : ¬ n = 10 := by omega
    refine ⟨fun hlt' => ?_, fun hge => ?_⟩
    · exact no _ (by rw [yr, if_neg hn', if_pos (by rw [ek']; exact hlt')]) K' Y' S'
    · refine mfree_sp S' _ _ (fun μ4 K4 Y4 S4 => pb_if (fun hb => ?_) (fun hb => ?_))
      · exact no _ (by rw [yr, if_neg hn', if_neg (by rw [ek']; exact hge), if_neg (by rw [el, hb]; decide)]) (K'.trans K4) (Y4.trans Y') S4
      · refine ⟨fun q => absurd q (by decide), fun _ => ?_⟩
        refine builds_sp S4 hn _ (show 12 * b + a < 144 by omega) _ (fun μ5 K5 Y5 S5 => ⟨Or.inr rfl, ?_⟩)
        have h1 : yr w ⟨n, kd, lt, c, z⟩ = (true, ⟨n + 1, upd kd n (nI k), upd lt n (nI (12 * b + a)), c + (w (12 * b + a) - cs (nI k)), nz (nz (nz z))⟩) := by
          rw [yr, if_neg hn', if_neg (by rw [ek']; exact hge), if_pos (by rw [el]; exact hb)]
          simp only [el, ek']
          rw [clp (by omega)]
        have := hp' μ5 ((K'.trans K4).trans K5) (Y5.trans (Y4.trans Y')) (by rw [h1]; exact S5)
        rw [h1] at this
        exact this
