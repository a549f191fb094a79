theorem dX5_isLetter_0 : decode cX5_isLetter 0 = .ok (.iload_n 0, 1) := by decide +kernel
theorem dX5_isLetter_1 : decode cX5_isLetter 1 = .ok (.bipush 97, 2) := by decide +kernel
theorem dX5_isLetter_3 : decode cX5_isLetter 3 = .ok (.if_icmp .lt 13, 3) := by decide +kernel
theorem dX5_isLetter_6 : decode cX5_isLetter 6 = .ok (.iload_n 0, 1) := by decide +kernel
theorem dX5_isLetter_7 : decode cX5_isLetter 7 = .ok (.bipush 122, 2) := by decide +kernel
theorem dX5_isLetter_9 : decode cX5_isLetter 9 = .ok (.if_icmp .gt 7, 3) := by decide +kernel
theorem dX5_isLetter_12 : decode cX5_isLetter 12 = .ok (.iconst 1, 1) := by decide +kernel
theorem dX5_isLetter_13 : decode cX5_isLetter 13 = .ok (.goto 4, 3) := by decide +kernel
theorem dX5_isLetter_16 : decode cX5_isLetter 16 = .ok (.iconst 0, 1) := by decide +kernel
theorem dX5_isLetter_17 : decode cX5_isLetter 17 = .ok (.ireturn, 1) := by decide +kernel
theorem b_X5_isLetter_16 {Z : qZ} {G : qG} {μ : qM} {post : Int32 → qM → Prop} (C : qX Z G RX5 cX5_isLetter 1 ({ frames := 0, cells := 0, slots := 0, locals := 0 } : Room) (some .boolean)) (hQ : qQi Z G 0 0 post) (hn : 66 ≤ gn G) (h : q_X5_isLetter_16 post μ) : qV Z G 1 0 0 μ 16 [] [] := by
  unfold q_X5_isLetter_16 at h
  refine x_iconst C dX5_isLetter_16 (v := 0) (by decide) ?_
  exact x_zret C hQ dX5_isLetter_17 h
theorem y_X5_isLetter : qY yX5_isLetter cX5_isLetter 1 (some .boolean) 1 ({ frames := 0, cells := 0, slots := 0, locals := 0 } : Room) 0 0 := ⟨(qm_38 _ (List.mem_of_getElem? (i := 20) rfl)), (qm_37 _ (List.mem_of_getElem? (i := 17) rfl)), by decide +kernel, by decide +kernel, rfl, rfl⟩
theorem c_X5_isLetter (l : Launch) (G : qG) {v0 : Int32} {μ : qM} (hn : 66 ≤ gn G) : qCi l G yX5_isLetter cX5_isLetter 1 (some .boolean) ({ frames := 0, cells := 0, slots := 0, locals := 0 } : Room) 0 0 [.int v0] μ (fun post => w_X5_isLetter v0 post μ) := by
  refine qCi_of (L := [(0, .int v0)]) (by decide) rfl rfl ?_
  intro Z post hl C hQ h
  have C : qX Z G RX5 cX5_isLetter 1 ({ frames := 0, cells := 0, slots := 0, locals := 0 } : Room) (some .boolean) := C
  have h : w_X5_isLetter v0 post μ := h
  unfold w_X5_isLetter at h
  refine x_iload_n C 0 dX5_isLetter_0 rfl rfl ?_
  refine x_bipush C dX5_isLetter_1 (v := 97) (by decide) ?_
  refine x_icmp_lt C dX5_isLetter_3 (tgt := 16) (by decide) h (fun h => ?_) (fun h => ?_)
  · exact qV_sub [] rfl (b_X5_isLetter_16 C hQ hn h)
  · refine x_iload_n C 0 dX5_isLetter_6 rfl rfl ?_
    refine x_bipush C dX5_isLetter_7 (v := 122) (by decide) ?_
    refine x_icmp_gt C dX5_isLetter_9 (tgt := 16) (by decide) h (fun h => ?_) (fun h => ?_)
    · exact qV_sub [] rfl (b_X5_isLetter_16 C hQ hn h)
    · refine x_iconst C dX5_isLetter_12 (v := 1) (by decide) ?_
      refine x_goto C dX5_isLetter_13 (tgt := 17) (by decide) ?_
      exact x_zret C hQ dX5_isLetter_17 h
theorem dX5_isDigit_0 : decode cX5_isDigit 0 = .ok (.iload_n 0, 1) := by decide +kernel
theorem dX5_isDigit_1 : decode cX5_isDigit 1 = .ok (.bipush 48, 2) := by decide +kernel
theorem dX5_isDigit_3 : decode cX5_isDigit 3 = .ok (.if_icmp .lt 13, 3) := by decide +kernel
theorem dX5_isDigit_6 : decode cX5_isDigit 6 = .ok (.iload_n 0, 1) := by decide +kernel
theorem dX5_isDigit_7 : decode cX5_isDigit 7 = .ok (.bipush 57, 2) := by decide +kernel
theorem dX5_isDigit_9 : decode cX5_isDigit 9 = .ok (.if_icmp .gt 7, 3) := by decide +kernel
theorem dX5_isDigit_12 : decode cX5_isDigit 12 = .ok (.iconst 1, 1) := by decide +kernel
theorem dX5_isDigit_13 : decode cX5_isDigit 13 = .ok (.goto 4, 3) := by decide +kernel
theorem dX5_isDigit_16 : decode cX5_isDigit 16 = .ok (.iconst 0, 1) := by decide +kernel
theorem dX5_isDigit_17 : decode cX5_isDigit 17 = .ok (.ireturn, 1) := by decide +kernel
theorem b_X5_isDigit_16 {Z : qZ} {G : qG} {μ : qM} {post : Int32 → qM → Prop} (C : qX Z G RX5 cX5_isDigit 1 ({ frames := 0, cells := 0, slots := 0, locals := 0 } : Room) (some .boolean)) (hQ : qQi Z G 0 0 post) (hn : 66 ≤ gn G) (h : q_X5_isDigit_16 post μ) : qV Z G 1 0 0 μ 16 [] [] := by
  unfold q_X5_isDigit_16 at h
  refine x_iconst C dX5_isDigit_16 (v := 0) (by decide) ?_
  exact x_zret C hQ dX5_isDigit_17 h
theorem y_X5_isDigit : qY yX5_isDigit cX5_isDigit 1 (some .boolean) 1 ({ frames := 0, cells := 0, slots := 0, locals := 0 } : Room) 0 0 := ⟨(qm_38 _ (List.mem_of_getElem? (i := 23) rfl)), (qm_37 _ (List.mem_of_getElem? (i := 17) rfl)), by decide +kernel, by decide +kernel, rfl, rfl⟩
theorem c_X5_isDigit (l : Launch) (G : qG) {v0 : Int32} {μ : qM} (hn : 66 ≤ gn G) : qCi l G yX5_isDigit cX5_isDigit 1 (some .boolean) ({ frames := 0, cells := 0, slots := 0, locals := 0 } : Room) 0 0 [.int v0] μ (fun post => w_X5_isDigit v0 post μ) := by
  refine qCi_of (L := [(0, .int v0)]) (by decide) rfl rfl ?_
  intro Z post hl C hQ h
  have C : qX Z G RX5 cX5_isDigit 1 ({ frames := 0, cells := 0, slots := 0, locals := 0 } : Room) (some .boolean) := C
  have h : w_X5_isDigit v0 post μ := h
  unfold w_X5_isDigit at h
  refine x_iload_n C 0 dX5_isDigit_0 rfl rfl ?_
  refine x_bipush C dX5_isDigit_1 (v := 48) (by decide) ?_
  refine x_icmp_lt C dX5_isDigit_3 (tgt := 16) (by decide) h (fun h => ?_) (fun h => ?_)
  · exact qV_sub [] rfl (b_X5_isDigit_16 C hQ hn h)
  · refine x_iload_n C 0 dX5_isDigit_6 rfl rfl ?_
    refine x_bipush C dX5_isDigit_7 (v := 57) (by decide) ?_
    refine x_icmp_gt C dX5_isDigit_9 (tgt := 16) (by decide) h (fun h => ?_) (fun h => ?_)
    · exact qV_sub [] rfl (b_X5_isDigit_16 C hQ hn h)
    · refine x_iconst C dX5_isDigit_12 (v := 1) (by decide) ?_
      refine x_goto C dX5_isDigit_13 (tgt := 17) (by decide) ?_
      exact x_zret C hQ dX5_isDigit_17 h
theorem dX5_advance_0 : decode cX5_advance 0 = .ok (.aload_n 0, 1) := by decide +kernel
theorem dX5_advance_1 : decode cX5_advance 1 = .ok (.getfield 15, 3) := by decide +kernel
theorem dX5_advance_4 : decode cX5_advance 4 = .ok (.aload_n 0, 1) := by decide +kernel
theorem dX5_advance_5 : decode cX5_advance 5 = .ok (.getfield 24, 3) := by decide +kernel
theorem dX5_advance_8 : decode cX5_advance 8 = .ok (.invokevirtual 118, 3) := by decide +kernel
theorem dX5_advance_11 : decode cX5_advance 11 = .ok (.if_icmp .ge 32, 3) := by decide +kernel
theorem dX5_advance_14 : decode cX5_advance 14 = .ok (.aload_n 0, 1) := by decide +kernel
theorem dX5_advance_15 : decode cX5_advance 15 = .ok (.getfield 24, 3) := by decide +kernel
theorem dX5_advance_18 : decode cX5_advance 18 = .ok (.aload_n 0, 1) := by decide +kernel
theorem dX5_advance_19 : decode cX5_advance 19 = .ok (.getfield 15, 3) := by decide +kernel
theorem dX5_advance_22 : decode cX5_advance 22 = .ok (.invokevirtual 109, 3) := by decide +kernel
theorem dX5_advance_25 : decode cX5_advance 25 = .ok (.bipush 32, 2) := by decide +kernel
theorem dX5_advance_27 : decode cX5_advance 27 = .ok (.if_icmp .ne 16, 3) := by decide +kernel
theorem dX5_advance_30 : decode cX5_advance 30 = .ok (.aload_n 0, 1) := by decide +kernel
theorem dX5_advance_31 : decode cX5_advance 31 = .ok (.dup, 1) := by decide +kernel
theorem dX5_advance_32 : decode cX5_advance 32 = .ok (.getfield 15, 3) := by decide +kernel
theorem dX5_advance_35 : decode cX5_advance 35 = .ok (.iconst 1, 1) := by decide +kernel
theorem dX5_advance_36 : decode cX5_advance 36 = .ok (.iadd, 1) := by decide +kernel
theorem dX5_advance_37 : decode cX5_advance 37 = .ok (.putfield 15, 3) := by decide +kernel
theorem dX5_advance_40 : decode cX5_advance 40 = .ok (.goto (-40), 3) := by decide +kernel
theorem dX5_advance_43 : decode cX5_advance 43 = .ok (.aload_n 0, 1) := by decide +kernel
theorem dX5_advance_44 : decode cX5_advance 44 = .ok (.aload_n 0, 1) := by decide +kernel
theorem dX5_advance_45 : decode cX5_advance 45 = .ok (.getfield 15, 3) := by decide +kernel
theorem dX5_advance_48 : decode cX5_advance 48 = .ok (.putfield 9, 3) := by decide +kernel
theorem dX5_advance_51 : decode cX5_advance 51 = .ok (.aload_n 0, 1) := by decide +kernel
theorem dX5_advance_52 : decode cX5_advance 52 = .ok (.getfield 24, 3) := by decide +kernel
theorem dX5_advance_55 : decode cX5_advance 55 = .ok (.aload_n 0, 1) := by decide +kernel
theorem dX5_advance_56 : decode cX5_advance 56 = .ok (.getfield 9, 3) := by decide +kernel
theorem dX5_advance_59 : decode cX5_advance 59 = .ok (.invokevirtual 109, 3) := by decide +kernel
theorem dX5_advance_62 : decode cX5_advance 62 = .ok (.istore_n 1, 1) := by decide +kernel
theorem dX5_advance_63 : decode cX5_advance 63 = .ok (.iload_n 1, 1) := by decide +kernel
theorem dX5_advance_64 : decode cX5_advance 64 = .ok (.invokestatic 121, 3) := by decide +kernel
theorem dX5_advance_67 : decode cX5_advance 67 = .ok (.ifCond .eq 52, 3) := by decide +kernel
theorem dX5_advance_70 : decode cX5_advance 70 = .ok (.aload_n 0, 1) := by decide +kernel
theorem dX5_advance_71 : decode cX5_advance 71 = .ok (.iconst 1, 1) := by decide +kernel
theorem dX5_advance_72 : decode cX5_advance 72 = .ok (.putfield 18, 3) := by decide +kernel
theorem dX5_advance_75 : decode cX5_advance 75 = .ok (.aload_n 0, 1) := by decide +kernel
theorem dX5_advance_76 : decode cX5_advance 76 = .ok (.getfield 15, 3) := by decide +kernel
theorem dX5_advance_79 : decode cX5_advance 79 = .ok (.aload_n 0, 1) := by decide +kernel
theorem dX5_advance_80 : decode cX5_advance 80 = .ok (.getfield 24, 3) := by decide +kernel
theorem dX5_advance_83 : decode cX5_advance 83 = .ok (.invokevirtual 118, 3) := by decide +kernel
theorem dX5_advance_86 : decode cX5_advance 86 = .ok (.if_icmp .ge 174, 3) := by decide +kernel
theorem dX5_advance_89 : decode cX5_advance 89 = .ok (.aload_n 0, 1) := by decide +kernel
theorem dX5_advance_90 : decode cX5_advance 90 = .ok (.getfield 24, 3) := by decide +kernel
theorem dX5_advance_93 : decode cX5_advance 93 = .ok (.aload_n 0, 1) := by decide +kernel
theorem dX5_advance_94 : decode cX5_advance 94 = .ok (.getfield 15, 3) := by decide +kernel
theorem dX5_advance_97 : decode cX5_advance 97 = .ok (.invokevirtual 109, 3) := by decide +kernel
theorem dX5_advance_100 : decode cX5_advance 100 = .ok (.invokestatic 121, 3) := by decide +kernel
theorem dX5_advance_103 : decode cX5_advance 103 = .ok (.ifCond .eq 157, 3) := by decide +kernel
theorem dX5_advance_106 : decode cX5_advance 106 = .ok (.aload_n 0, 1) := by decide +kernel
theorem dX5_advance_107 : decode cX5_advance 107 = .ok (.dup, 1) := by decide +kernel
theorem dX5_advance_108 : decode cX5_advance 108 = .ok (.getfield 15, 3) := by decide +kernel
theorem dX5_advance_111 : decode cX5_advance 111 = .ok (.iconst 1, 1) := by decide +kernel
theorem dX5_advance_112 : decode cX5_advance 112 = .ok (.iadd, 1) := by decide +kernel
theorem dX5_advance_113 : decode cX5_advance 113 = .ok (.putfield 15, 3) := by decide +kernel
theorem dX5_advance_116 : decode cX5_advance 116 = .ok (.goto (-41), 3) := by decide +kernel
theorem dX5_advance_119 : decode cX5_advance 119 = .ok (.iload_n 1, 1) := by decide +kernel
theorem dX5_advance_120 : decode cX5_advance 120 = .ok (.invokestatic 124, 3) := by decide +kernel
theorem dX5_advance_123 : decode cX5_advance 123 = .ok (.ifCond .eq 99, 3) := by decide +kernel
theorem dX5_advance_126 : decode cX5_advance 126 = .ok (.aload_n 0, 1) := by decide +kernel
theorem dX5_advance_127 : decode cX5_advance 127 = .ok (.iconst 2, 1) := by decide +kernel
theorem dX5_advance_128 : decode cX5_advance 128 = .ok (.putfield 18, 3) := by decide +kernel
theorem dX5_advance_131 : decode cX5_advance 131 = .ok (.aload_n 0, 1) := by decide +kernel
theorem dX5_advance_132 : decode cX5_advance 132 = .ok (.iconst 0, 1) := by decide +kernel
theorem dX5_advance_133 : decode cX5_advance 133 = .ok (.putfield 21, 3) := by decide +kernel
theorem dX5_advance_136 : decode cX5_advance 136 = .ok (.aload_n 0, 1) := by decide +kernel
theorem dX5_advance_137 : decode cX5_advance 137 = .ok (.getfield 15, 3) := by decide +kernel
theorem dX5_advance_140 : decode cX5_advance 140 = .ok (.aload_n 0, 1) := by decide +kernel
theorem dX5_advance_141 : decode cX5_advance 141 = .ok (.getfield 24, 3) := by decide +kernel
theorem dX5_advance_144 : decode cX5_advance 144 = .ok (.invokevirtual 118, 3) := by decide +kernel
theorem dX5_advance_147 : decode cX5_advance 147 = .ok (.if_icmp .ge 113, 3) := by decide +kernel
theorem dX5_advance_150 : decode cX5_advance 150 = .ok (.aload_n 0, 1) := by decide +kernel
theorem dX5_advance_151 : decode cX5_advance 151 = .ok (.getfield 24, 3) := by decide +kernel
theorem dX5_advance_154 : decode cX5_advance 154 = .ok (.aload_n 0, 1) := by decide +kernel
theorem dX5_advance_155 : decode cX5_advance 155 = .ok (.getfield 15, 3) := by decide +kernel
theorem dX5_advance_158 : decode cX5_advance 158 = .ok (.invokevirtual 109, 3) := by decide +kernel
theorem dX5_advance_161 : decode cX5_advance 161 = .ok (.invokestatic 124, 3) := by decide +kernel
theorem dX5_advance_164 : decode cX5_advance 164 = .ok (.ifCond .eq 96, 3) := by decide +kernel
theorem dX5_advance_167 : decode cX5_advance 167 = .ok (.aload_n 0, 1) := by decide +kernel
theorem dX5_advance_168 : decode cX5_advance 168 = .ok (.aload_n 0, 1) := by decide +kernel
theorem dX5_advance_169 : decode cX5_advance 169 = .ok (.getfield 21, 3) := by decide +kernel
theorem dX5_advance_172 : decode cX5_advance 172 = .ok (.ldc 98, 2) := by decide +kernel
theorem dX5_advance_174 : decode cX5_advance 174 = .ok (.if_icmp .le 10, 3) := by decide +kernel
theorem dX5_advance_177 : decode cX5_advance 177 = .ok (.aload_n 0, 1) := by decide +kernel
theorem dX5_advance_178 : decode cX5_advance 178 = .ok (.getfield 21, 3) := by decide +kernel
theorem dX5_advance_181 : decode cX5_advance 181 = .ok (.goto 25, 3) := by decide +kernel
theorem dX5_advance_184 : decode cX5_advance 184 = .ok (.bipush 10, 2) := by decide +kernel
theorem dX5_advance_186 : decode cX5_advance 186 = .ok (.aload_n 0, 1) := by decide +kernel
theorem dX5_advance_187 : decode cX5_advance 187 = .ok (.getfield 21, 3) := by decide +kernel
theorem dX5_advance_190 : decode cX5_advance 190 = .ok (.imul, 1) := by decide +kernel
theorem dX5_advance_191 : decode cX5_advance 191 = .ok (.aload_n 0, 1) := by decide +kernel
theorem dX5_advance_192 : decode cX5_advance 192 = .ok (.getfield 24, 3) := by decide +kernel
theorem dX5_advance_195 : decode cX5_advance 195 = .ok (.aload_n 0, 1) := by decide +kernel
theorem dX5_advance_196 : decode cX5_advance 196 = .ok (.getfield 15, 3) := by decide +kernel
theorem dX5_advance_199 : decode cX5_advance 199 = .ok (.invokevirtual 109, 3) := by decide +kernel
theorem dX5_advance_202 : decode cX5_advance 202 = .ok (.iadd, 1) := by decide +kernel
theorem dX5_advance_203 : decode cX5_advance 203 = .ok (.bipush 48, 2) := by decide +kernel
theorem dX5_advance_205 : decode cX5_advance 205 = .ok (.isub, 1) := by decide +kernel
theorem dX5_advance_206 : decode cX5_advance 206 = .ok (.putfield 21, 3) := by decide +kernel
theorem dX5_advance_209 : decode cX5_advance 209 = .ok (.aload_n 0, 1) := by decide +kernel
theorem dX5_advance_210 : decode cX5_advance 210 = .ok (.dup, 1) := by decide +kernel
theorem dX5_advance_211 : decode cX5_advance 211 = .ok (.getfield 15, 3) := by decide +kernel
theorem dX5_advance_214 : decode cX5_advance 214 = .ok (.iconst 1, 1) := by decide +kernel
theorem dX5_advance_215 : decode cX5_advance 215 = .ok (.iadd, 1) := by decide +kernel
theorem dX5_advance_216 : decode cX5_advance 216 = .ok (.putfield 15, 3) := by decide +kernel
theorem dX5_advance_219 : decode cX5_advance 219 = .ok (.goto (-83), 3) := by decide +kernel
theorem dX5_advance_222 : decode cX5_advance 222 = .ok (.iload_n 1, 1) := by decide +kernel
theorem dX5_advance_223 : decode cX5_advance 223 = .ok (.iconst (-1), 1) := by decide +kernel
theorem dX5_advance_224 : decode cX5_advance 224 = .ok (.if_icmp .ne 11, 3) := by decide +kernel
theorem dX5_advance_227 : decode cX5_advance 227 = .ok (.aload_n 0, 1) := by decide +kernel
theorem dX5_advance_228 : decode cX5_advance 228 = .ok (.iconst 0, 1) := by decide +kernel
theorem dX5_advance_229 : decode cX5_advance 229 = .ok (.putfield 18, 3) := by decide +kernel
theorem dX5_advance_232 : decode cX5_advance 232 = .ok (.goto 28, 3) := by decide +kernel
theorem dX5_advance_235 : decode cX5_advance 235 = .ok (.aload_n 0, 1) := by decide +kernel
theorem dX5_advance_236 : decode cX5_advance 236 = .ok (.iload_n 1, 1) := by decide +kernel
theorem dX5_advance_237 : decode cX5_advance 237 = .ok (.bipush 59, 2) := by decide +kernel
theorem dX5_advance_239 : decode cX5_advance 239 = .ok (.if_icmp .ne 7, 3) := by decide +kernel
theorem dX5_advance_242 : decode cX5_advance 242 = .ok (.iconst 3, 1) := by decide +kernel
theorem dX5_advance_243 : decode cX5_advance 243 = .ok (.goto 4, 3) := by decide +kernel
theorem dX5_advance_246 : decode cX5_advance 246 = .ok (.iconst 4, 1) := by decide +kernel
theorem dX5_advance_247 : decode cX5_advance 247 = .ok (.putfield 18, 3) := by decide +kernel
theorem dX5_advance_250 : decode cX5_advance 250 = .ok (.aload_n 0, 1) := by decide +kernel
theorem dX5_advance_251 : decode cX5_advance 251 = .ok (.dup, 1) := by decide +kernel
theorem dX5_advance_252 : decode cX5_advance 252 = .ok (.getfield 15, 3) := by decide +kernel
theorem dX5_advance_255 : decode cX5_advance 255 = .ok (.iconst 1, 1) := by decide +kernel
theorem dX5_advance_256 : decode cX5_advance 256 = .ok (.iadd, 1) := by decide +kernel
theorem dX5_advance_257 : decode cX5_advance 257 = .ok (.putfield 15, 3) := by decide +kernel
theorem dX5_advance_260 : decode cX5_advance 260 = .ok (.return_, 1) := by decide +kernel
theorem i_RX5_109 {Z : qZ} {G : qG} {cc : ByteArray} {nL k n : Nat} {rm : Room} {ret : Option FieldType} {μ : qM} {pc : Nat} {L : List (Nat × Value)} {rest : List Value} {K : Int32 → qM → Prop} {o : Nat} {v1 : Int32} (C : qX Z G RX5 cc nL rm ret) (hn : 66 ≤ gn G) (hk_o : qk o = 7) (hR : (Nat.ble (0 + 1) rm.frames && Nat.ble (8 + (2 + 11) + 0) rm.locals) = true) (hf : k + 0 ≤ rm.cells ∧ n + 0 ≤ rm.slots) (hsz : Nat.ble (rest.map fun v => v.category).sum 8 = true) (hd : decode cc pc = .ok (.invokevirtual 109, 3)) (h : w_X8_at o v1 K μ) (hk : ∀ (r : Int32) (μ1 : qM), K r μ1 → qV Z G nL k n μ1 (pc + 3) L (.int r :: rest)) : qV Z G nL k n μ pc L (.int v1 :: .ref (ga G o) :: rest) := x_Vi [.int v1] rest C o 7 (wp := fun K => w_X8_at o v1 K μ) (y_X8_at : qY yX8_at cX8_at 2 (some .int) 1 ({ frames := 0, cells := 0, slots := 0, locals := 0 } : Room) 0 0) (qm_38 _ (List.mem_of_getElem? (i := 15) rfl)) (qm_38 _ (List.mem_of_getElem? (i := 16) rfl)) (qm_38 _ (List.mem_of_getElem? (i := 14) rfl)) (c_X8_at Z.2.1 G hn hk_o) (q_lt hk_o rfl hn) hk_o (by decide) rfl rfl hR hf rfl rfl hsz hd h hk
theorem i_RX5_118 {Z : qZ} {G : qG} {cc : ByteArray} {nL k n : Nat} {rm : Room} {ret : Option FieldType} {μ : qM} {pc : Nat} {L : List (Nat × Value)} {rest : List Value} {K : Int32 → qM → Prop} {o : Nat} (C : qX Z G RX5 cc nL rm ret) (hn : 66 ≤ gn G) (hk_o : qk o = 7) (hR : (Nat.ble (0 + 1) rm.frames && Nat.ble (8 + (1 + 11) + 0) rm.locals) = true) (hf : k + 0 ≤ rm.cells ∧ n + 0 ≤ rm.slots) (hsz : Nat.ble (rest.map fun v => v.category).sum 8 = true) (hd : decode cc pc = .ok (.invokevirtual 118, 3)) (h : w_X8_size o K μ) (hk : ∀ (r : Int32) (μ1 : qM), K r μ1 → qV Z G nL k n μ1 (pc + 3) L (.int r :: rest)) : qV Z G nL k n μ pc L (.ref (ga G o) :: rest) := x_Vi [] rest C o 7 (wp := fun K => w_X8_size o K μ) (y_X8_size : qY yX8_size cX8_size 1 (some .int) 0 ({ frames := 0, cells := 0, slots := 0, locals := 0 } : Room) 0 0) (qm_36 _ (List.mem_of_getElem? (i := 11) rfl)) (qm_36 _ (List.mem_of_getElem? (i := 12) rfl)) (qm_38 _ (List.mem_of_getElem? (i := 13) rfl)) (c_X8_size Z.2.1 G hn hk_o) (q_lt hk_o rfl hn) hk_o (by decide) rfl rfl hR hf rfl rfl hsz hd h hk
theorem i_RX5_121 {Z : qZ} {G : qG} {cc : ByteArray} {nL k n : Nat} {rm : Room} {ret : Option FieldType} {μ : qM} {pc : Nat} {L : List (Nat × Value)} {rest : List Value} {K : Int32 → qM → Prop} {v0 : Int32} (C : qX Z G RX5 cc nL rm ret) (hn : 66 ≤ gn G) (hR : (Nat.ble (0 + 1) rm.frames && Nat.ble (8 + (1 + 11) + 0) rm.locals) = true) (hf : k + 0 ≤ rm.cells ∧ n + 0 ≤ rm.slots) (hsz : Nat.ble (rest.map fun v => v.category).sum 8 = true) (hd : decode cc pc = .ok (.invokestatic 121, 3)) (h : w_X5_isLetter v0 K μ) (hk : ∀ (r : Int32) (μ1 : qM), K r μ1 → qV Z G nL k n μ1 (pc + 3) L (.int r :: rest)) : qV Z G nL k n μ pc L (.int v0 :: rest) := x_Si [.int v0] rest C (wp := fun K => w_X5_isLetter v0 K μ) (y_X5_isLetter : qY yX5_isLetter cX5_isLetter 1 (some .boolean) 1 ({ frames := 0, cells := 0, slots := 0, locals := 0 } : Room) 0 0) (qm_38 _ (List.mem_of_getElem? (i := 19) rfl)) (qm_38 _ (List.mem_of_getElem? (i := 18) rfl)) (c_X5_isLetter Z.2.1 G hn ) hR hf rfl rfl hsz hd h hk
theorem i_RX5_124 {Z : qZ} {G : qG} {cc : ByteArray} {nL k n : Nat} {rm : Room} {ret : Option FieldType} {μ : qM} {pc : Nat} {L : List (Nat × Value)} {rest : List Value} {K : Int32 → qM → Prop} {v0 : Int32} (C : qX Z G RX5 cc nL rm ret) (hn : 66 ≤ gn G) (hR : (Nat.ble (0 + 1) rm.frames && Nat.ble (8 + (1 + 11) + 0) rm.locals) = true) (hf : k + 0 ≤ rm.cells ∧ n + 0 ≤ rm.slots) (hsz : Nat.ble (rest.map fun v => v.category).sum 8 = true) (hd : decode cc pc = .ok (.invokestatic 124, 3)) (h : w_X5_isDigit v0 K μ) (hk : ∀ (r : Int32) (μ1 : qM), K r μ1 → qV Z G nL k n μ1 (pc + 3) L (.int r :: rest)) : qV Z G nL k n μ pc L (.int v0 :: rest) := x_Si [.int v0] rest C (wp := fun K => w_X5_isDigit v0 K μ) (y_X5_isDigit : qY yX5_isDigit cX5_isDigit 1 (some .boolean) 1 ({ frames := 0, cells := 0, slots := 0, locals := 0 } : Room) 0 0) (qm_38 _ (List.mem_of_getElem? (i := 22) rfl)) (qm_38 _ (List.mem_of_getElem? (i := 21) rfl)) (c_X5_isDigit Z.2.1 G hn ) hR hf rfl rfl hsz hd h hk
theorem g_RX5_9 {Z : qZ} {G : qG} {cc : ByteArray} {nL k n : Nat} {rm : Room} {ret : Option FieldType} {μ : qM} {pc : Nat} {L : List (Nat × Value)} {st : List Value} (C : qX Z G RX5 cc nL rm ret) (hn : 67 ≤ gn G) (hd : decode cc pc = .ok (.getfield 9, 3)) (h : qV Z G nL k n μ (pc + 3) L (.int (μ 66 2) :: st)) : qV Z G nL k n μ pc L (.ref (ga G 66) :: st) := x_geti C 66 4 2 (C0 := RX5) (fn := "start") (fd := "I") hn rfl (by decide) rfl (by decide) rfl inlX5 (qm_37 _ (List.mem_of_getElem? (i := 22) rfl)) rfl hd h
theorem g_RX5_15 {Z : qZ} {G : qG} {cc : ByteArray} {nL k n : Nat} {rm : Room} {ret : Option FieldType} {μ : qM} {pc : Nat} {L : List (Nat × Value)} {st : List Value} (C : qX Z G RX5 cc nL rm ret) (hn : 67 ≤ gn G) (hd : decode cc pc = .ok (.getfield 15, 3)) (h : qV Z G nL k n μ (pc + 3) L (.int (μ 66 3) :: st)) : qV Z G nL k n μ pc L (.ref (ga G 66) :: st) := x_geti C 66 4 3 (C0 := RX5) (fn := "end") (fd := "I") hn rfl (by decide) rfl (by decide) rfl inlX5 (qm_37 _ (List.mem_of_getElem? (i := 23) rfl)) rfl hd h
theorem g_RX5_21 {Z : qZ} {G : qG} {cc : ByteArray} {nL k n : Nat} {rm : Room} {ret : Option FieldType} {μ : qM} {pc : Nat} {L : List (Nat × Value)} {st : List Value} (C : qX Z G RX5 cc nL rm ret) (hn : 67 ≤ gn G) (hd : decode cc pc = .ok (.getfield 21, 3)) (h : qV Z G nL k n μ (pc + 3) L (.int (μ 66 5) :: st)) : qV Z G nL k n μ pc L (.ref (ga G 66) :: st) := x_geti C 66 4 5 (C0 := RX5) (fn := "value") (fd := "I") hn rfl (by decide) rfl (by decide) rfl inlX5 (qm_38 _ (List.mem_of_getElem? (i := 1) rfl)) rfl hd h
theorem g_RX5_24 {Z : qZ} {G : qG} {cc : ByteArray} {nL k n : Nat} {rm : Room} {ret : Option FieldType} {μ : qM} {pc : Nat} {L : List (Nat × Value)} {st : List Value} (C : qX Z G RX5 cc nL rm ret) (hn : 67 ≤ gn G) (hd : decode cc pc = .ok (.getfield 24, 3)) (h : qV Z G nL k n μ (pc + 3) L (.ref (ga G 22) :: st)) : qV Z G nL k n μ pc L (.ref (ga G 66) :: st) := x_getr C 66 4 0 22 22 (C0 := RX5) (fn := "tape") (fd := "LEqualPlain$Tape;") hn rfl (by decide) rfl (by decide) rfl inlX5 (qm_38 _ (List.mem_of_getElem? (i := 2) rfl)) rfl rfl rfl hd h
theorem p_RX5_9 {Z : qZ} {G : qG} {cc : ByteArray} {nL k n : Nat} {rm : Room} {ret : Option FieldType} {μ : qM} {pc : Nat} {L : List (Nat × Value)} {st : List Value} {x : Int32} (C : qX Z G RX5 cc nL rm ret) (hn : 67 ≤ gn G) (hd : decode cc pc = .ok (.putfield 9, 3)) (h : qV Z G nL k n (qu μ 66 2 x) (pc + 3) L st) : qV Z G nL k n μ pc L (.int x :: .ref (ga G 66) :: st) := x_puti C 66 4 2 (C0 := RX5) (fn := "start") (fd := "I") (ty := .int) hn rfl (by decide) rfl (by decide) rfl inlX5 tyX5_ok nmX5 (qm_37 _ (List.mem_of_getElem? (i := 22) rfl)) rfl (by decide +kernel) rfl rfl hd h
theorem p_RX5_15 {Z : qZ} {G : qG} {cc : ByteArray} {nL k n : Nat} {rm : Room} {ret : Option FieldType} {μ : qM} {pc : Nat} {L : List (Nat × Value)} {st : List Value} {x : Int32} (C : qX Z G RX5 cc nL rm ret) (hn : 67 ≤ gn G) (hd : decode cc pc = .ok (.putfield 15, 3)) (h : qV Z G nL k n (qu μ 66 3 x) (pc + 3) L st) : qV Z G nL k n μ pc L (.int x :: .ref (ga G 66) :: st) := x_puti C 66 4 3 (C0 := RX5) (fn := "end") (fd := "I") (ty := .int) hn rfl (by decide) rfl (by decide) rfl inlX5 tyX5_ok nmX5 (qm_37 _ (List.mem_of_getElem? (i := 23) rfl)) rfl (by decide +kernel) rfl rfl hd h
theorem p_RX5_18 {Z : qZ} {G : qG} {cc : ByteArray} {nL k n : Nat} {rm : Room} {ret : Option FieldType} {μ : qM} {pc : Nat} {L : List (Nat × Value)} {st : List Value} {x : Int32} (C : qX Z G RX5 cc nL rm ret) (hn : 67 ≤ gn G) (hd : decode cc pc = .ok (.putfield 18, 3)) (h : qV Z G nL k n (qu μ 66 4 x) (pc + 3) L st) : qV Z G nL k n μ pc L (.int x :: .ref (ga G 66) :: st) := x_puti C 66 4 4 (C0 := RX5) (fn := "type") (fd := "I") (ty := .int) hn rfl (by decide) rfl (by decide) rfl inlX5 tyX5_ok nmX5 (qm_38 _ (List.mem_of_getElem? (i := 0) rfl)) rfl (by decide +kernel) rfl rfl hd h
theorem p_RX5_21 {Z : qZ} {G : qG} {cc : ByteArray} {nL k n : Nat} {rm : Room} {ret : Option FieldType} {μ : qM} {pc : Nat} {L : List (Nat × Value)} {st : List Value} {x : Int32} (C : qX Z G RX5 cc nL rm ret) (hn : 67 ≤ gn G) (hd : decode cc pc = .ok (.putfield 21, 3)) (h : qV Z G nL k n (qu μ 66 5 x) (pc + 3) L st) : qV Z G nL k n μ pc L (.int x :: .ref (ga G 66) :: st) := x_puti C 66 4 5 (C0 := RX5) (fn := "value") (fd := "I") (ty := .int) hn rfl (by decide) rfl (by decide) rfl inlX5 tyX5_ok nmX5 (qm_38 _ (List.mem_of_getElem? (i := 1) rfl)) rfl (by decide +kernel) rfl rfl hd h
theorem b_X5_advance_206 {Z : qZ} {G : qG} {s0 : Int32} {μ : qM} {P136 : qM → Prop} {post : qM → Prop} (C : qX Z G RX5 cX5_advance 2 ({ frames := 1, cells := 0, slots := 0, locals := 21 } : Room) none) (hQ : qQv Z G 0 0 post) (hn : 66 ≤ gn G) (hn7 : 67 ≤ gn G) (hP136 : ∀  (μ1 : qM), P136  μ1 → qV Z G 2 0 0 μ1 136 [(0, .ref (ga G 66))] []) (h : q_X5_advance_206 P136 post s0 μ) : qV Z G 2 0 0 μ 206 [(0, .ref (ga G 66))] [.int s0, .ref (ga G 66)] := by
  unfold q_X5_advance_206 at h
  refine p_RX5_21 C hn7 dX5_advance_206 ?_
  refine x_aload_n C 0 dX5_advance_209 rfl rfl ?_
  refine x_dup C dX5_advance_210 rfl ?_
  refine g_RX5_15 C hn7 dX5_advance_211 ?_
  refine x_iconst C dX5_advance_214 (v := 1) (by decide) ?_
  refine x_iadd C dX5_advance_215 ?_
  refine p_RX5_15 C hn7 dX5_advance_216 ?_
  refine x_goto C dX5_advance_219 (tgt := 136) (by decide) ?_
  exact (hP136 _ h)
theorem b_X5_advance_136 {Z : qZ} {G : qG} {μ : qM} {post : qM → Prop} (C : qX Z G RX5 cX5_advance 2 ({ frames := 1, cells := 0, slots := 0, locals := 21 } : Room) none) (hQ : qQv Z G 0 0 post) (hn : 66 ≤ gn G) (hn7 : 67 ≤ gn G) (h : q_X5_advance_136 post μ) : qV Z G 2 0 0 μ 136 [(0, .ref (ga G 66))] [] := by
  refine h (fun μ => qV Z G 2 0 0 μ 136 [(0, .ref (ga G 66))] []) (fun μ h => ?_)
  refine x_aload_n C 0 dX5_advance_136 rfl rfl ?_
  refine g_RX5_15 C hn7 dX5_advance_137 ?_
  refine x_aload_n C 0 dX5_advance_140 rfl rfl ?_
  refine g_RX5_24 C hn7 dX5_advance_141 ?_
  refine i_RX5_118 (rest := [.int ((μ 66 3))]) C hn rfl rfl (by decide) rfl dX5_advance_144 h (fun r144 μ144 h => ?_)
  refine x_icmp_ge C dX5_advance_147 (tgt := 260) (by decide) h (fun h => ?_) (fun h => ?_)
  · exact x_vret C hQ dX5_advance_260 h
  · refine x_aload_n C 0 dX5_advance_150 rfl rfl ?_
    refine g_RX5_24 C hn7 dX5_advance_151 ?_
    refine x_aload_n C 0 dX5_advance_154 rfl rfl ?_
    refine g_RX5_15 C hn7 dX5_advance_155 ?_
    refine i_RX5_109 (rest := []) C hn rfl rfl (by decide) rfl dX5_advance_158 h (fun r158 μ158 h => ?_)
    refine i_RX5_124 (rest := []) C hn  rfl (by decide) rfl dX5_advance_161 h (fun r161 μ161 h => ?_)
    refine x_if_eq C dX5_advance_164 (tgt := 260) (by decide) h (fun h => ?_) (fun h => ?_)
    · exact x_vret C hQ dX5_advance_260 h
    · refine x_aload_n C 0 dX5_advance_167 rfl rfl ?_
      refine x_aload_n C 0 dX5_advance_168 rfl rfl ?_
      refine g_RX5_21 C hn7 dX5_advance_169 ?_
      refine x_ldc C (v := 99999) (qm_38 _ (List.mem_of_getElem? (i := 12) rfl)) dX5_advance_172 ?_
      refine x_icmp_le C dX5_advance_174 (tgt := 184) (by decide) h (fun h => ?_) (fun h => ?_)
      · refine x_bipush C dX5_advance_184 (v := 10) (by decide) ?_
        refine x_aload_n C 0 dX5_advance_186 rfl rfl ?_
        refine g_RX5_21 C hn7 dX5_advance_187 ?_
        refine x_imul C dX5_advance_190 ?_
        refine x_aload_n C 0 dX5_advance_191 rfl rfl ?_
        refine g_RX5_24 C hn7 dX5_advance_192 ?_
        refine x_aload_n C 0 dX5_advance_195 rfl rfl ?_
        refine g_RX5_15 C hn7 dX5_advance_196 ?_
        refine i_RX5_109 (rest := [.int (((10 : Int32) * (μ161 66 5))), .ref (ga G 66)]) C hn rfl rfl (by decide) rfl dX5_advance_199 h (fun r199 μ199 h => ?_)
        refine x_iadd C dX5_advance_202 ?_
        refine x_bipush C dX5_advance_203 (v := 48) (by decide) ?_
        refine x_isub C dX5_advance_205 ?_
        exact b_X5_advance_206 C hQ hn hn7 (fun _ h => h) h
      · refine x_aload_n C 0 dX5_advance_177 rfl rfl ?_
        refine g_RX5_21 C hn7 dX5_advance_178 ?_
        refine x_goto C dX5_advance_181 (tgt := 206) (by decide) ?_
        exact b_X5_advance_206 C hQ hn hn7 (fun _ h => h) h
theorem b_X5_advance_75 {Z : qZ} {G : qG} {μ : qM} {post : qM → Prop} (C : qX Z G RX5 cX5_advance 2 ({ frames := 1, cells := 0, slots := 0, locals := 21 } : Room) none) (hQ : qQv Z G 0 0 post) (hn : 66 ≤ gn G) (hn7 : 67 ≤ gn G) (h : q_X5_advance_75 post μ) : qV Z G 2 0 0 μ 75 [(0, .ref (ga G 66))] [] := by
  refine h (fun μ => qV Z G 2 0 0 μ 75 [(0, .ref (ga G 66))] []) (fun μ h => ?_)
  refine x_aload_n C 0 dX5_advance_75 rfl rfl ?_
  refine g_RX5_15 C hn7 dX5_advance_76 ?_
  refine x_aload_n C 0 dX5_advance_79 rfl rfl ?_
  refine g_RX5_24 C hn7 dX5_advance_80 ?_
  refine i_RX5_118 (rest := [.int ((μ 66 3))]) C hn rfl rfl (by decide) rfl dX5_advance_83 h (fun r83 μ83 h => ?_)
  refine x_icmp_ge C dX5_advance_86 (tgt := 260) (by decide) h (fun h => ?_) (fun h => ?_)
  · exact x_vret C hQ dX5_advance_260 h
  · refine x_aload_n C 0 dX5_advance_89 rfl rfl ?_
    refine g_RX5_24 C hn7 dX5_advance_90 ?_
    refine x_aload_n C 0 dX5_advance_93 rfl rfl ?_
    refine g_RX5_15 C hn7 dX5_advance_94 ?_
    refine i_RX5_109 (rest := []) C hn rfl rfl (by decide) rfl dX5_advance_97 h (fun r97 μ97 h => ?_)
    refine i_RX5_121 (rest := []) C hn  rfl (by decide) rfl dX5_advance_100 h (fun r100 μ100 h => ?_)
    refine x_if_eq C dX5_advance_103 (tgt := 260) (by decide) h (fun h => ?_) (fun h => ?_)
    · exact x_vret C hQ dX5_advance_260 h
    · refine x_aload_n C 0 dX5_advance_106 rfl rfl ?_
      refine x_dup C dX5_advance_107 rfl ?_
      refine g_RX5_15 C hn7 dX5_advance_108 ?_
      refine x_iconst C dX5_advance_111 (v := 1) (by decide) ?_
      refine x_iadd C dX5_advance_112 ?_
      refine p_RX5_15 C hn7 dX5_advance_113 ?_
      refine x_goto C dX5_advance_116 (tgt := 75) (by decide) ?_
      exact h
theorem b_X5_advance_247 {Z : qZ} {G : qG} {s0 : Int32} {μ : qM} {post : qM → Prop} (C : qX Z G RX5 cX5_advance 2 ({ frames := 1, cells := 0, slots := 0, locals := 21 } : Room) none) (hQ : qQv Z G 0 0 post) (hn : 66 ≤ gn G) (hn7 : 67 ≤ gn G) (h : q_X5_advance_247 post s0 μ) : qV Z G 2 0 0 μ 247 [(0, .ref (ga G 66))] [.int s0, .ref (ga G 66)] := by
  unfold q_X5_advance_247 at h
  refine p_RX5_18 C hn7 dX5_advance_247 ?_
  refine x_aload_n C 0 dX5_advance_250 rfl rfl ?_
  refine x_dup C dX5_advance_251 rfl ?_
  refine g_RX5_15 C hn7 dX5_advance_252 ?_
  refine x_iconst C dX5_advance_255 (v := 1) (by decide) ?_
  refine x_iadd C dX5_advance_256 ?_
  refine p_RX5_15 C hn7 dX5_advance_257 ?_
  exact x_vret C hQ dX5_advance_260 h
theorem b_X5_advance_43 {Z : qZ} {G : qG} {μ : qM} {post : qM → Prop} (C : qX Z G RX5 cX5_advance 2 ({ frames := 1, cells := 0, slots := 0, locals := 21 } : Room) none) (hQ : qQv Z G 0 0 post) (hn : 66 ≤ gn G) (hn7 : 67 ≤ gn G) (h : q_X5_advance_43 post μ) : qV Z G 2 0 0 μ 43 [(0, .ref (ga G 66))] [] := by
  unfold q_X5_advance_43 at h
  refine x_aload_n C 0 dX5_advance_43 rfl rfl ?_
  refine x_aload_n C 0 dX5_advance_44 rfl rfl ?_
  refine g_RX5_15 C hn7 dX5_advance_45 ?_
  refine p_RX5_9 C hn7 dX5_advance_48 ?_
  refine x_aload_n C 0 dX5_advance_51 rfl rfl ?_
  refine g_RX5_24 C hn7 dX5_advance_52 ?_
  refine x_aload_n C 0 dX5_advance_55 rfl rfl ?_
  refine g_RX5_9 C hn7 dX5_advance_56 ?_
  refine i_RX5_109 (rest := []) C hn rfl rfl (by decide) rfl dX5_advance_59 h (fun r59 μ59 h => ?_)
  refine x_istore_n C (L' := [(1, .int r59), (0, .ref (ga G 66))]) dX5_advance_62 rfl (by decide) rfl ?_
  refine x_iload_n C 0 dX5_advance_63 rfl rfl ?_
  refine i_RX5_121 (rest := []) C hn  rfl (by decide) rfl dX5_advance_64 h (fun r64 μ64 h => ?_)
  refine x_if_eq C dX5_advance_67 (tgt := 119) (by decide) h (fun h => ?_) (fun h => ?_)
  · refine x_iload_n C 0 dX5_advance_119 rfl rfl ?_
    refine i_RX5_124 (rest := []) C hn  rfl (by decide) rfl dX5_advance_120 h (fun r120 μ120 h => ?_)
    refine x_if_eq C dX5_advance_123 (tgt := 222) (by decide) h (fun h => ?_) (fun h => ?_)
    · refine x_iload_n C 0 dX5_advance_222 rfl rfl ?_
      refine x_iconst C dX5_advance_223 (v := -1) (by decide) ?_
      refine x_icmp_ne C dX5_advance_224 (tgt := 235) (by decide) h (fun h => ?_) (fun h => ?_)
      · refine x_aload_n C 1 dX5_advance_235 rfl rfl ?_
        refine x_iload_n C 0 dX5_advance_236 rfl rfl ?_
        refine x_bipush C dX5_advance_237 (v := 59) (by decide) ?_
        refine x_icmp_ne C dX5_advance_239 (tgt := 246) (by decide) h (fun h => ?_) (fun h => ?_)
        · refine x_iconst C dX5_advance_246 (v := 4) (by decide) ?_
          exact qV_sub [1] rfl (b_X5_advance_247 C hQ hn hn7 h)
        · refine x_iconst C dX5_advance_242 (v := 3) (by decide) ?_
          refine x_goto C dX5_advance_243 (tgt := 247) (by decide) ?_
          exact qV_sub [1] rfl (b_X5_advance_247 C hQ hn hn7 h)
      · refine x_aload_n C 1 dX5_advance_227 rfl rfl ?_
        refine x_iconst C dX5_advance_228 (v := 0) (by decide) ?_
        refine p_RX5_18 C hn7 dX5_advance_229 ?_
        refine x_goto C dX5_advance_232 (tgt := 260) (by decide) ?_
        exact x_vret C hQ dX5_advance_260 h
    · refine x_aload_n C 1 dX5_advance_126 rfl rfl ?_
      refine x_iconst C dX5_advance_127 (v := 2) (by decide) ?_
      refine p_RX5_18 C hn7 dX5_advance_128 ?_
      refine x_aload_n C 1 dX5_advance_131 rfl rfl ?_
      refine x_iconst C dX5_advance_132 (v := 0) (by decide) ?_
      refine p_RX5_21 C hn7 dX5_advance_133 ?_
      exact qV_sub [1] rfl (b_X5_advance_136 C hQ hn hn7 h)
  · refine x_aload_n C 1 dX5_advance_70 rfl rfl ?_
    refine x_iconst C dX5_advance_71 (v := 1) (by decide) ?_
    refine p_RX5_18 C hn7 dX5_advance_72 ?_
    exact qV_sub [1] rfl (b_X5_advance_75 C hQ hn hn7 h)
theorem b_X5_advance_0 {Z : qZ} {G : qG} {μ : qM} {post : qM → Prop} (C : qX Z G RX5 cX5_advance 2 ({ frames := 1, cells := 0, slots := 0, locals := 21 } : Room) none) (hQ : qQv Z G 0 0 post) (hn : 66 ≤ gn G) (hn7 : 67 ≤ gn G) (h : q_X5_advance_0 post μ) : qV Z G 2 0 0 μ 0 [(0, .ref (ga G 66))] [] := by
  refine h (fun μ => qV Z G 2 0 0 μ 0 [(0, .ref (ga G 66))] []) (fun μ h => ?_)
  refine x_aload_n C 0 dX5_advance_0 rfl rfl ?_
  refine g_RX5_15 C hn7 dX5_advance_1 ?_
  refine x_aload_n C 0 dX5_advance_4 rfl rfl ?_
  refine g_RX5_24 C hn7 dX5_advance_5 ?_
  refine i_RX5_118 (rest := [.int ((μ 66 3))]) C hn rfl rfl (by decide) rfl dX5_advance_8 h (fun r8 μ8 h => ?_)
  refine x_icmp_ge C dX5_advance_11 (tgt := 43) (by decide) h (fun h => ?_) (fun h => ?_)
  · exact b_X5_advance_43 C hQ hn hn7 h
  · refine x_aload_n C 0 dX5_advance_14 rfl rfl ?_
    refine g_RX5_24 C hn7 dX5_advance_15 ?_
    refine x_aload_n C 0 dX5_advance_18 rfl rfl ?_
    refine g_RX5_15 C hn7 dX5_advance_19 ?_
    refine i_RX5_109 (rest := []) C hn rfl rfl (by decide) rfl dX5_advance_22 h (fun r22 μ22 h => ?_)
    refine x_bipush C dX5_advance_25 (v := 32) (by decide) ?_
    refine x_icmp_ne C dX5_advance_27 (tgt := 43) (by decide) h (fun h => ?_) (fun h => ?_)
    · exact b_X5_advance_43 C hQ hn hn7 h
    · refine x_aload_n C 0 dX5_advance_30 rfl rfl ?_
      refine x_dup C dX5_advance_31 rfl ?_
      refine g_RX5_15 C hn7 dX5_advance_32 ?_
      refine x_iconst C dX5_advance_35 (v := 1) (by decide) ?_
      refine x_iadd C dX5_advance_36 ?_
      refine p_RX5_15 C hn7 dX5_advance_37 ?_
      refine x_goto C dX5_advance_40 (tgt := 0) (by decide) ?_
      exact h
theorem y_X5_advance : qY yX5_advance cX5_advance 2 none 0 ({ frames := 1, cells := 0, slots := 0, locals := 21 } : Room) 0 0 := ⟨(qm_38 _ (List.mem_of_getElem? (i := 11) rfl)), (qm_37 _ (List.mem_of_getElem? (i := 17) rfl)), by decide +kernel, by decide +kernel, rfl, rfl⟩
theorem c_X5_advance (l : Launch) (G : qG) {μ : qM} (hn : 66 ≤ gn G) (hn7 : 67 ≤ gn G) : qCv l G yX5_advance cX5_advance 2 none ({ frames := 1, cells := 0, slots := 0, locals := 21 } : Room) 0 0 [.ref (ga G 66)] μ (fun post => w_X5_advance  post μ) := by
  refine qCv_of (L := [(0, .ref (ga G 66))]) (by decide) rfl rfl ?_
  intro Z post hl C hQ h
  have C : qX Z G RX5 cX5_advance 2 ({ frames := 1, cells := 0, slots := 0, locals := 21 } : Room) none := C
  have h : w_X5_advance  post μ := h
  unfold w_X5_advance at h
  refine x_aload_n C 0 dX5_advance_0 rfl rfl ?_
  refine g_RX5_15 C hn7 dX5_advance_1 ?_
  refine x_aload_n C 0 dX5_advance_4 rfl rfl ?_
  refine g_RX5_24 C hn7 dX5_advance_5 ?_
  refine i_RX5_118 (rest := [.int ((μ 66 3))]) C hn rfl rfl (by decide) rfl dX5_advance_8 h (fun r8 μ8 h => ?_)
  refine x_icmp_ge C dX5_advance_11 (tgt := 43) (by decide) h (fun h => ?_) (fun h => ?_)
  · exact b_X5_advance_43 C hQ hn hn7 h
  · refine x_aload_n C 0 dX5_advance_14 rfl rfl ?_
    refine g_RX5_24 C hn7 dX5_advance_15 ?_
    refine x_aload_n C 0 dX5_advance_18 rfl rfl ?_
    refine g_RX5_15 C hn7 dX5_advance_19 ?_
    refine i_RX5_109 (rest := []) C hn rfl rfl (by decide) rfl dX5_advance_22 h (fun r22 μ22 h => ?_)
    refine x_bipush C dX5_advance_25 (v := 32) (by decide) ?_
    refine x_icmp_ne C dX5_advance_27 (tgt := 43) (by decide) h (fun h => ?_) (fun h => ?_)
    · exact b_X5_advance_43 C hQ hn hn7 h
    · refine x_aload_n C 0 dX5_advance_30 rfl rfl ?_
      refine x_dup C dX5_advance_31 rfl ?_
      refine g_RX5_15 C hn7 dX5_advance_32 ?_
      refine x_iconst C dX5_advance_35 (v := 1) (by decide) ?_
      refine x_iadd C dX5_advance_36 ?_
      refine p_RX5_15 C hn7 dX5_advance_37 ?_
      refine x_goto C dX5_advance_40 (tgt := 0) (by decide) ?_
      exact b_X5_advance_0 C hQ hn hn7 h
theorem dX5_isWord_0 : decode cX5_isWord 0 = .ok (.aload_n 0, 1) := by decide +kernel
theorem dX5_isWord_1 : decode cX5_isWord 1 = .ok (.getfield 18, 3) := by decide +kernel
theorem dX5_isWord_4 : decode cX5_isWord 4 = .ok (.iconst 1, 1) := by decide +kernel
theorem dX5_isWord_5 : decode cX5_isWord 5 = .ok (.if_icmp .ne 19, 3) := by decide +kernel
theorem dX5_isWord_8 : decode cX5_isWord 8 = .ok (.aload_n 0, 1) := by decide +kernel
theorem dX5_isWord_9 : decode cX5_isWord 9 = .ok (.getfield 15, 3) := by decide +kernel
theorem dX5_isWord_12 : decode cX5_isWord 12 = .ok (.aload_n 0, 1) := by decide +kernel
theorem dX5_isWord_13 : decode cX5_isWord 13 = .ok (.getfield 9, 3) := by decide +kernel
theorem dX5_isWord_16 : decode cX5_isWord 16 = .ok (.isub, 1) := by decide +kernel
theorem dX5_isWord_17 : decode cX5_isWord 17 = .ok (.aload_n 1, 1) := by decide +kernel
theorem dX5_isWord_18 : decode cX5_isWord 18 = .ok (.invokevirtual 103, 3) := by decide +kernel
theorem dX5_isWord_21 : decode cX5_isWord 21 = .ok (.if_icmp .eq 5, 3) := by decide +kernel
theorem dX5_isWord_24 : decode cX5_isWord 24 = .ok (.iconst 0, 1) := by decide +kernel
theorem dX5_isWord_25 : decode cX5_isWord 25 = .ok (.ireturn, 1) := by decide +kernel
theorem dX5_isWord_26 : decode cX5_isWord 26 = .ok (.iconst 0, 1) := by decide +kernel
theorem dX5_isWord_27 : decode cX5_isWord 27 = .ok (.istore_n 2, 1) := by decide +kernel
theorem dX5_isWord_28 : decode cX5_isWord 28 = .ok (.iload_n 2, 1) := by decide +kernel
theorem dX5_isWord_29 : decode cX5_isWord 29 = .ok (.aload_n 1, 1) := by decide +kernel
theorem dX5_isWord_30 : decode cX5_isWord 30 = .ok (.invokevirtual 103, 3) := by decide +kernel
theorem dX5_isWord_33 : decode cX5_isWord 33 = .ok (.if_icmp .ge 32, 3) := by decide +kernel
theorem dX5_isWord_36 : decode cX5_isWord 36 = .ok (.aload_n 0, 1) := by decide +kernel
theorem dX5_isWord_37 : decode cX5_isWord 37 = .ok (.getfield 24, 3) := by decide +kernel
theorem dX5_isWord_40 : decode cX5_isWord 40 = .ok (.aload_n 0, 1) := by decide +kernel
theorem dX5_isWord_41 : decode cX5_isWord 41 = .ok (.getfield 9, 3) := by decide +kernel
theorem dX5_isWord_44 : decode cX5_isWord 44 = .ok (.iload_n 2, 1) := by decide +kernel
theorem dX5_isWord_45 : decode cX5_isWord 45 = .ok (.iadd, 1) := by decide +kernel
theorem dX5_isWord_46 : decode cX5_isWord 46 = .ok (.invokevirtual 109, 3) := by decide +kernel
theorem dX5_isWord_49 : decode cX5_isWord 49 = .ok (.aload_n 1, 1) := by decide +kernel
theorem dX5_isWord_50 : decode cX5_isWord 50 = .ok (.iload_n 2, 1) := by decide +kernel
theorem dX5_isWord_51 : decode cX5_isWord 51 = .ok (.invokevirtual 114, 3) := by decide +kernel
theorem dX5_isWord_54 : decode cX5_isWord 54 = .ok (.if_icmp .eq 5, 3) := by decide +kernel
theorem dX5_isWord_57 : decode cX5_isWord 57 = .ok (.iconst 0, 1) := by decide +kernel
theorem dX5_isWord_58 : decode cX5_isWord 58 = .ok (.ireturn, 1) := by decide +kernel
theorem dX5_isWord_59 : decode cX5_isWord 59 = .ok (.iinc 2 1, 3) := by decide +kernel
theorem dX5_isWord_62 : decode cX5_isWord 62 = .ok (.goto (-34), 3) := by decide +kernel
theorem dX5_isWord_65 : decode cX5_isWord 65 = .ok (.iconst 1, 1) := by decide +kernel
theorem dX5_isWord_66 : decode cX5_isWord 66 = .ok (.ireturn, 1) := by decide +kernel
theorem g_RX5_18 {Z : qZ} {G : qG} {cc : ByteArray} {nL k n : Nat} {rm : Room} {ret : Option FieldType} {μ : qM} {pc : Nat} {L : List (Nat × Value)} {st : List Value} (C : qX Z G RX5 cc nL rm ret) (hn : 67 ≤ gn G) (hd : decode cc pc = .ok (.getfield 18, 3)) (h : qV Z G nL k n μ (pc + 3) L (.int (μ 66 4) :: st)) : qV Z G nL k n μ pc L (.ref (ga G 66) :: st) := x_geti C 66 4 4 (C0 := RX5) (fn := "type") (fd := "I") hn rfl (by decide) rfl (by decide) rfl inlX5 (qm_38 _ (List.mem_of_getElem? (i := 0) rfl)) rfl hd h
theorem b_X5_isWord_24 {Z : qZ} {G : qG} {t1 : Nat} {μ : qM} {post : Int32 → qM → Prop} (C : qX Z G RX5 cX5_isWord 3 ({ frames := 6, cells := 0, slots := 0, locals := 161 } : Room) (some .boolean)) (hQ : qQi Z G 0 0 post) (hn : 66 ≤ gn G) (hn7 : 67 ≤ gn G) (ht_t1 : t1 < 12) (h : q_X5_isWord_24 t1 post μ) : qV Z G 3 0 0 μ 24 [] [] := by
  unfold q_X5_isWord_24 at h
  refine x_iconst C dX5_isWord_24 (v := 0) (by decide) ?_
  exact x_zret C hQ dX5_isWord_25 h
theorem b_X5_isWord_28 {Z : qZ} {G : qG} {t1 : Nat} {v2 : Int32} {μ : qM} {post : Int32 → qM → Prop} (C : qX Z G RX5 cX5_isWord 3 ({ frames := 6, cells := 0, slots := 0, locals := 161 } : Room) (some .boolean)) (hQ : qQi Z G 0 0 post) (hn : 66 ≤ gn G) (hn7 : 67 ≤ gn G) (ht_t1 : t1 < 12) (h : q_X5_isWord_28 t1 post v2 μ) : qV Z G 3 0 0 μ 28 [(0, .ref (ga G 66)), (1, .ref (gK G t1)), (2, .int v2)] [] := by
  refine h (fun v2 μ => qV Z G 3 0 0 μ 28 [(0, .ref (ga G 66)), (1, .ref (gK G t1)), (2, .int v2)] []) (fun v2 μ h => ?_)
  refine x_iload_n C 2 dX5_isWord_28 rfl rfl ?_
  refine x_aload_n C 1 dX5_isWord_29 rfl rfl ?_
  refine i_RX5_103 (rest := [.int v2]) C hn ht_t1 rfl (by decide) rfl dX5_isWord_30 h (fun r30 μ30 h => ?_)
  refine x_icmp_ge C dX5_isWord_33 (tgt := 65) (by decide) h (fun h => ?_) (fun h => ?_)
  · refine x_iconst C dX5_isWord_65 (v := 1) (by decide) ?_
    exact x_zret C hQ dX5_isWord_66 h
  · refine x_aload_n C 0 dX5_isWord_36 rfl rfl ?_
    refine g_RX5_24 C hn7 dX5_isWord_37 ?_
    refine x_aload_n C 0 dX5_isWord_40 rfl rfl ?_
    refine g_RX5_9 C hn7 dX5_isWord_41 ?_
    refine x_iload_n C 2 dX5_isWord_44 rfl rfl ?_
    refine x_iadd C dX5_isWord_45 ?_
    refine i_RX5_109 (rest := []) C hn rfl rfl (by decide) rfl dX5_isWord_46 h (fun r46 μ46 h => ?_)
    refine x_aload_n C 1 dX5_isWord_49 rfl rfl ?_
    refine x_iload_n C 2 dX5_isWord_50 rfl rfl ?_
    refine i_RX5_114 (rest := [.int r46]) C hn ht_t1 rfl (by decide) rfl dX5_isWord_51 h (fun r51 μ51 h => ?_)
    refine x_icmp_eq C dX5_isWord_54 (tgt := 59) (by decide) h (fun h => ?_) (fun h => ?_)
    · refine x_iinc C 2 (v := 1) (L' := [(2, .int ((v2 + 1))), (0, .ref (ga G 66)), (1, .ref (gK G t1))]) dX5_isWord_59 rfl (by decide) (by decide) rfl ?_
      refine x_goto C dX5_isWord_62 (tgt := 28) (by decide) ?_
      exact qV_sub [1, 2, 0] rfl (h)
    · refine x_iconst C dX5_isWord_57 (v := 0) (by decide) ?_
      exact x_zret C hQ dX5_isWord_58 h
theorem y_X5_isWord : qY yX5_isWord cX5_isWord 3 (some .boolean) 1 ({ frames := 6, cells := 0, slots := 0, locals := 161 } : Room) 0 0 := ⟨(qm_39 _ (List.mem_of_getElem? (i := 10) rfl)), (qm_37 _ (List.mem_of_getElem? (i := 17) rfl)), by decide +kernel, by decide +kernel, rfl, rfl⟩
theorem c_X5_isWord (l : Launch) (G : qG) {t1 : Nat} {μ : qM} (hn : 66 ≤ gn G) (hn7 : 67 ≤ gn G) (ht_t1 : t1 < 12) : qCi l G yX5_isWord cX5_isWord 3 (some .boolean) ({ frames := 6, cells := 0, slots := 0, locals := 161 } : Room) 0 0 [.ref (ga G 66), .ref (gK G t1)] μ (fun post => w_X5_isWord t1 post μ) := by
  refine qCi_of (L := [(0, .ref (ga G 66)), (1, .ref (gK G t1))]) (by decide) rfl rfl ?_
  intro Z post hl C hQ h
  have C : qX Z G RX5 cX5_isWord 3 ({ frames := 6, cells := 0, slots := 0, locals := 161 } : Room) (some .boolean) := C
  have h : w_X5_isWord t1 post μ := h
  unfold w_X5_isWord at h
  refine x_aload_n C 0 dX5_isWord_0 rfl rfl ?_
  refine g_RX5_18 C hn7 dX5_isWord_1 ?_
  refine x_iconst C dX5_isWord_4 (v := 1) (by decide) ?_
  refine x_icmp_ne C dX5_isWord_5 (tgt := 24) (by decide) h (fun h => ?_) (fun h => ?_)
  · exact qV_sub [] rfl (b_X5_isWord_24 C hQ hn hn7 ht_t1 h)
  · refine x_aload_n C 0 dX5_isWord_8 rfl rfl ?_
    refine g_RX5_15 C hn7 dX5_isWord_9 ?_
    refine x_aload_n C 0 dX5_isWord_12 rfl rfl ?_
    refine g_RX5_9 C hn7 dX5_isWord_13 ?_
    refine x_isub C dX5_isWord_16 ?_
    refine x_aload_n C 1 dX5_isWord_17 rfl rfl ?_
    refine i_RX5_103 (rest := [.int (((μ 66 3) - (μ 66 2)))]) C hn ht_t1 rfl (by decide) rfl dX5_isWord_18 h (fun r18 μ18 h => ?_)
    refine x_icmp_eq C dX5_isWord_21 (tgt := 26) (by decide) h (fun h => ?_) (fun h => ?_)
    · refine x_iconst C dX5_isWord_26 (v := 0) (by decide) ?_
      refine x_istore_n C (L' := [(2, .int ((0 : Int32))), (0, .ref (ga G 66)), (1, .ref (gK G t1))]) dX5_isWord_27 rfl (by decide) rfl ?_
      exact qV_sub [1, 2, 0] rfl (b_X5_isWord_28 C hQ hn hn7 ht_t1 h)
    · exact qV_sub [] rfl (b_X5_isWord_24 C hQ hn hn7 ht_t1 h)
theorem dX5_isNextWord_0 : decode cX5_isNextWord 0 = .ok (.aload_n 0, 1) := by decide +kernel
theorem dX5_isNextWord_1 : decode cX5_isNextWord 1 = .ok (.invokevirtual 32, 3) := by decide +kernel
theorem dX5_isNextWord_4 : decode cX5_isNextWord 4 = .ok (.aload_n 0, 1) := by decide +kernel
theorem dX5_isNextWord_5 : decode cX5_isNextWord 5 = .ok (.aload_n 1, 1) := by decide +kernel
theorem dX5_isNextWord_6 : decode cX5_isNextWord 6 = .ok (.invokevirtual 45, 3) := by decide +kernel
theorem dX5_isNextWord_9 : decode cX5_isNextWord 9 = .ok (.ireturn, 1) := by decide +kernel
theorem i_RX5_32 {Z : qZ} {G : qG} {cc : ByteArray} {nL k n : Nat} {rm : Room} {ret : Option FieldType} {μ : qM} {pc : Nat} {L : List (Nat × Value)} {rest : List Value} {K : qM → Prop} (C : qX Z G RX5 cc nL rm ret) (hn : 66 ≤ gn G) (hn7 : 67 ≤ gn G) (hR : (Nat.ble (1 + 1) rm.frames && Nat.ble (8 + (2 + 11) + 21) rm.locals) = true) (hf : k + 0 ≤ rm.cells ∧ n + 0 ≤ rm.slots) (hsz : Nat.ble (rest.map fun v => v.category).sum 8 = true) (hd : decode cc pc = .ok (.invokevirtual 32, 3)) (h : w_X5_advance  K μ) (hk : ∀ (μ1 : qM), K μ1 → qV Z G nL k n μ1 (pc + 3) L rest) : qV Z G nL k n μ pc L (.ref (ga G 66) :: rest) := x_Vv [] rest C 66 4 (wp := fun K => w_X5_advance  K μ) (y_X5_advance : qY yX5_advance cX5_advance 2 none 0 ({ frames := 1, cells := 0, slots := 0, locals := 21 } : Room) 0 0) (qm_38 _ (List.mem_of_getElem? (i := 9) rfl)) (qm_38 _ (List.mem_of_getElem? (i := 10) rfl)) (qm_38 _ (List.mem_of_getElem? (i := 8) rfl)) (c_X5_advance Z.2.1 G hn hn7) hn7 rfl (by decide) rfl rfl hR hf rfl rfl hsz hd h hk
theorem i_RX5_45 {Z : qZ} {G : qG} {cc : ByteArray} {nL k n : Nat} {rm : Room} {ret : Option FieldType} {μ : qM} {pc : Nat} {L : List (Nat × Value)} {rest : List Value} {K : Int32 → qM → Prop} {t1 : Nat} (C : qX Z G RX5 cc nL rm ret) (hn : 66 ≤ gn G) (hn7 : 67 ≤ gn G) (ht_t1 : t1 < 12) (hR : (Nat.ble (6 + 1) rm.frames && Nat.ble (8 + (3 + 11) + 161) rm.locals) = true) (hf : k + 0 ≤ rm.cells ∧ n + 0 ≤ rm.slots) (hsz : Nat.ble (rest.map fun v => v.category).sum 8 = true) (hd : decode cc pc = .ok (.invokevirtual 45, 3)) (h : w_X5_isWord t1 K μ) (hk : ∀ (r : Int32) (μ1 : qM), K r μ1 → qV Z G nL k n μ1 (pc + 3) L (.int r :: rest)) : qV Z G nL k n μ pc L (.ref (gK G t1) :: .ref (ga G 66) :: rest) := x_Vi [.ref (gK G t1)] rest C 66 4 (wp := fun K => w_X5_isWord t1 K μ) (y_X5_isWord : qY yX5_isWord cX5_isWord 3 (some .boolean) 1 ({ frames := 6, cells := 0, slots := 0, locals := 161 } : Room) 0 0) (qm_39 _ (List.mem_of_getElem? (i := 8) rfl)) (qm_39 _ (List.mem_of_getElem? (i := 9) rfl)) (qm_39 _ (List.mem_of_getElem? (i := 7) rfl)) (c_X5_isWord Z.2.1 G hn hn7 ht_t1) hn7 rfl (by decide) rfl rfl hR hf rfl rfl hsz hd h hk
theorem y_X5_isNextWord : qY yX5_isNextWord cX5_isNextWord 2 (some .boolean) 1 ({ frames := 7, cells := 0, slots := 0, locals := 183 } : Room) 0 0 := ⟨(qm_41 _ (List.mem_of_getElem? (i := 21) rfl)), (qm_37 _ (List.mem_of_getElem? (i := 17) rfl)), by decide +kernel, by decide +kernel, rfl, rfl⟩
theorem c_X5_isNextWord (l : Launch) (G : qG) {t1 : Nat} {μ : qM} (hn : 66 ≤ gn G) (hn7 : 67 ≤ gn G) (ht_t1 : t1 < 12) : qCi l G yX5_isNextWord cX5_isNextWord 2 (some .boolean) ({ frames := 7, cells := 0, slots := 0, locals := 183 } : Room) 0 0 [.ref (ga G 66), .ref (gK G t1)] μ (fun post => w_X5_isNextWord t1 post μ) := by
  refine qCi_of (L := [(0, .ref (ga G 66)), (1, .ref (gK G t1))]) (by decide) rfl rfl ?_
  intro Z post hl C hQ h
  have C : qX Z G RX5 cX5_isNextWord 2 ({ frames := 7, cells := 0, slots := 0, locals := 183 } : Room) (some .boolean) := C
  have h : w_X5_isNextWord t1 post μ := h
  unfold w_X5_isNextWord at h
  refine x_aload_n C 0 dX5_isNextWord_0 rfl rfl ?_
  refine i_RX5_32 (rest := []) C hn hn7 rfl (by decide) rfl dX5_isNextWord_1 h (fun μ1 h => ?_)
  refine x_aload_n C 0 dX5_isNextWord_4 rfl rfl ?_
  refine x_aload_n C 1 dX5_isNextWord_5 rfl rfl ?_
  refine i_RX5_45 (rest := []) C hn hn7 ht_t1 rfl (by decide) rfl dX5_isNextWord_6 h (fun r6 μ6 h => ?_)
  exact x_zret C hQ dX5_isNextWord_9 h
theorem dX5_isNextNumber_0 : decode cX5_isNextNumber 0 = .ok (.aload_n 0, 1) := by decide +kernel
theorem dX5_isNextNumber_1 : decode cX5_isNextNumber 1 = .ok (.invokevirtual 32, 3) := by decide +kernel
theorem dX5_isNextNumber_4 : decode cX5_isNextNumber 4 = .ok (.aload_n 0, 1) := by decide +kernel
theorem dX5_isNextNumber_5 : decode cX5_isNextNumber 5 = .ok (.getfield 18, 3) := by decide +kernel
theorem dX5_isNextNumber_8 : decode cX5_isNextNumber 8 = .ok (.iconst 2, 1) := by decide +kernel
theorem dX5_isNextNumber_9 : decode cX5_isNextNumber 9 = .ok (.if_icmp .ne 15, 3) := by decide +kernel
theorem dX5_isNextNumber_12 : decode cX5_isNextNumber 12 = .ok (.aload_n 0, 1) := by decide +kernel
theorem dX5_isNextNumber_13 : decode cX5_isNextNumber 13 = .ok (.getfield 21, 3) := by decide +kernel
theorem dX5_isNextNumber_16 : decode cX5_isNextNumber 16 = .ok (.iload_n 1, 1) := by decide +kernel
theorem dX5_isNextNumber_17 : decode cX5_isNextNumber 17 = .ok (.if_icmp .gt 7, 3) := by decide +kernel
theorem dX5_isNextNumber_20 : decode cX5_isNextNumber 20 = .ok (.iconst 1, 1) := by decide +kernel
theorem dX5_isNextNumber_21 : decode cX5_isNextNumber 21 = .ok (.goto 4, 3) := by decide +kernel
theorem dX5_isNextNumber_24 : decode cX5_isNextNumber 24 = .ok (.iconst 0, 1) := by decide +kernel
theorem dX5_isNextNumber_25 : decode cX5_isNextNumber 25 = .ok (.ireturn, 1) := by decide +kernel
theorem b_X5_isNextNumber_24 {Z : qZ} {G : qG} {μ : qM} {post : Int32 → qM → Prop} (C : qX Z G RX5 cX5_isNextNumber 2 ({ frames := 2, cells := 0, slots := 0, locals := 42 } : Room) (some .boolean)) (hQ : qQi Z G 0 0 post) (hn : 66 ≤ gn G) (hn7 : 67 ≤ gn G) (h : q_X5_isNextNumber_24 post μ) : qV Z G 2 0 0 μ 24 [] [] := by
  unfold q_X5_isNextNumber_24 at h
  refine x_iconst C dX5_isNextNumber_24 (v := 0) (by decide) ?_
  exact x_zret C hQ dX5_isNextNumber_25 h
theorem y_X5_isNextNumber : qY yX5_isNextNumber cX5_isNextNumber 2 (some .boolean) 1 ({ frames := 2, cells := 0, slots := 0, locals := 42 } : Room) 0 0 := ⟨(qm_42 _ (List.mem_of_getElem? (i := 1) rfl)), (qm_37 _ (List.mem_of_getElem? (i := 17) rfl)), by decide +kernel, by decide +kernel, rfl, rfl⟩
theorem c_X5_isNextNumber (l : Launch) (G : qG) {v1 : Int32} {μ : qM} (hn : 66 ≤ gn G) (hn7 : 67 ≤ gn G) : qCi l G yX5_isNextNumber cX5_isNextNumber 2 (some .boolean) ({ frames := 2, cells := 0, slots := 0, locals := 42 } : Room) 0 0 [.ref (ga G 66), .int v1] μ (fun post => w_X5_isNextNumber v1 post μ) := by
  refine qCi_of (L := [(0, .ref (ga G 66)), (1, .int v1)]) (by decide) rfl rfl ?_
  intro Z post hl C hQ h
  have C : qX Z G RX5 cX5_isNextNumber 2 ({ frames := 2, cells := 0, slots := 0, locals := 42 } : Room) (some .boolean) := C
  have h : w_X5_isNextNumber v1 post μ := h
  unfold w_X5_isNextNumber at h
  refine x_aload_n C 0 dX5_isNextNumber_0 rfl rfl ?_
  refine i_RX5_32 (rest := []) C hn hn7 rfl (by decide) rfl dX5_isNextNumber_1 h (fun μ1 h => ?_)
  refine x_aload_n C 0 dX5_isNextNumber_4 rfl rfl ?_
  refine g_RX5_18 C hn7 dX5_isNextNumber_5 ?_
  refine x_iconst C dX5_isNextNumber_8 (v := 2) (by decide) ?_
  refine x_icmp_ne C dX5_isNextNumber_9 (tgt := 24) (by decide) h (fun h => ?_) (fun h => ?_)
  · exact qV_sub [] rfl (b_X5_isNextNumber_24 C hQ hn hn7 h)
  · refine x_aload_n C 0 dX5_isNextNumber_12 rfl rfl ?_
    refine g_RX5_21 C hn7 dX5_isNextNumber_13 ?_
    refine x_iload_n C 1 dX5_isNextNumber_16 rfl rfl ?_
    refine x_icmp_gt C dX5_isNextNumber_17 (tgt := 24) (by decide) h (fun h => ?_) (fun h => ?_)
    · exact qV_sub [] rfl (b_X5_isNextNumber_24 C hQ hn hn7 h)
    · refine x_iconst C dX5_isNextNumber_20 (v := 1) (by decide) ?_
      refine x_goto C dX5_isNextNumber_21 (tgt := 25) (by decide) ?_
      exact x_zret C hQ dX5_isNextNumber_25 h
theorem dX5_isHouseItem_0 : decode cX5_isHouseItem 0 = .ok (.aload_n 0, 1) := by decide +kernel
theorem dX5_isHouseItem_1 : decode cX5_isHouseItem 1 = .ok (.ldc 74, 2) := by decide +kernel
theorem dX5_isHouseItem_3 : decode cX5_isHouseItem 3 = .ok (.invokevirtual 76, 3) := by decide +kernel
theorem dX5_isHouseItem_6 : decode cX5_isHouseItem 6 = .ok (.ifCond .eq 12, 3) := by decide +kernel
theorem dX5_isHouseItem_9 : decode cX5_isHouseItem 9 = .ok (.aload_n 0, 1) := by decide +kernel
theorem dX5_isHouseItem_10 : decode cX5_isHouseItem 10 = .ok (.bipush 11, 2) := by decide +kernel
theorem dX5_isHouseItem_12 : decode cX5_isHouseItem 12 = .ok (.invokevirtual 79, 3) := by decide +kernel
theorem dX5_isHouseItem_15 : decode cX5_isHouseItem 15 = .ok (.ifCond .ne 5, 3) := by decide +kernel
theorem dX5_isHouseItem_18 : decode cX5_isHouseItem 18 = .ok (.iconst 0, 1) := by decide +kernel
theorem dX5_isHouseItem_19 : decode cX5_isHouseItem 19 = .ok (.ireturn, 1) := by decide +kernel
theorem dX5_isHouseItem_20 : decode cX5_isHouseItem 20 = .ok (.aload_n 0, 1) := by decide +kernel
theorem dX5_isHouseItem_21 : decode cX5_isHouseItem 21 = .ok (.getfield 21, 3) := by decide +kernel
theorem dX5_isHouseItem_24 : decode cX5_isHouseItem 24 = .ok (.istore_n 2, 1) := by decide +kernel
theorem dX5_isHouseItem_25 : decode cX5_isHouseItem 25 = .ok (.aload_n 0, 1) := by decide +kernel
theorem dX5_isHouseItem_26 : decode cX5_isHouseItem 26 = .ok (.bipush 11, 2) := by decide +kernel
theorem dX5_isHouseItem_28 : decode cX5_isHouseItem 28 = .ok (.invokevirtual 79, 3) := by decide +kernel
theorem dX5_isHouseItem_31 : decode cX5_isHouseItem 31 = .ok (.ifCond .eq 24, 3) := by decide +kernel
theorem dX5_isHouseItem_34 : decode cX5_isHouseItem 34 = .ok (.aload_n 0, 1) := by decide +kernel
theorem dX5_isHouseItem_35 : decode cX5_isHouseItem 35 = .ok (.getfield 28, 3) := by decide +kernel
theorem dX5_isHouseItem_38 : decode cX5_isHouseItem 38 = .ok (.invokevirtual 49, 3) := by decide +kernel
theorem dX5_isHouseItem_41 : decode cX5_isHouseItem 41 = .ok (.iload_n 2, 1) := by decide +kernel
theorem dX5_isHouseItem_42 : decode cX5_isHouseItem 42 = .ok (.aload_n 0, 1) := by decide +kernel
theorem dX5_isHouseItem_43 : decode cX5_isHouseItem 43 = .ok (.getfield 21, 3) := by decide +kernel
theorem dX5_isHouseItem_46 : decode cX5_isHouseItem 46 = .ok (.invokestatic 82, 3) := by decide +kernel
theorem dX5_isHouseItem_49 : decode cX5_isHouseItem 49 = .ok (.invokevirtual 86, 3) := by decide +kernel
theorem dX5_isHouseItem_52 : decode cX5_isHouseItem 52 = .ok (.ifCond .eq 5, 3) := by decide +kernel
theorem dX5_isHouseItem_55 : decode cX5_isHouseItem 55 = .ok (.iconst 0, 1) := by decide +kernel
theorem dX5_isHouseItem_56 : decode cX5_isHouseItem 56 = .ok (.ireturn, 1) := by decide +kernel
theorem dX5_isHouseItem_57 : decode cX5_isHouseItem 57 = .ok (.aload_n 0, 1) := by decide +kernel
theorem dX5_isHouseItem_58 : decode cX5_isHouseItem 58 = .ok (.getfield 28, 3) := by decide +kernel
theorem dX5_isHouseItem_61 : decode cX5_isHouseItem 61 = .ok (.invokevirtual 49, 3) := by decide +kernel
theorem dX5_isHouseItem_64 : decode cX5_isHouseItem 64 = .ok (.iload_n 1, 1) := by decide +kernel
theorem dX5_isHouseItem_65 : decode cX5_isHouseItem 65 = .ok (.iload_n 2, 1) := by decide +kernel
theorem dX5_isHouseItem_66 : decode cX5_isHouseItem 66 = .ok (.aload_n 0, 1) := by decide +kernel
theorem dX5_isHouseItem_67 : decode cX5_isHouseItem 67 = .ok (.getfield 21, 3) := by decide +kernel
theorem dX5_isHouseItem_70 : decode cX5_isHouseItem 70 = .ok (.invokestatic 82, 3) := by decide +kernel
theorem dX5_isHouseItem_73 : decode cX5_isHouseItem 73 = .ok (.invokevirtual 89, 3) := by decide +kernel
theorem dX5_isHouseItem_76 : decode cX5_isHouseItem 76 = .ok (.iconst 1, 1) := by decide +kernel
theorem dX5_isHouseItem_77 : decode cX5_isHouseItem 77 = .ok (.ireturn, 1) := by decide +kernel
theorem i_RX5_49 {Z : qZ} {G : qG} {cc : ByteArray} {nL k n : Nat} {rm : Room} {ret : Option FieldType} {μ : qM} {pc : Nat} {L : List (Nat × Value)} {rest : List Value} {K : Nat → qM → Prop} {o : Nat} (C : qX Z G RX5 cc nL rm ret) (hn : 66 ≤ gn G) (hk_o : qk o = 8) (hR : (Nat.ble (0 + 1) rm.frames && Nat.ble (8 + (1 + 11) + 0) rm.locals) = true) (hf : k + 0 ≤ rm.cells ∧ n + 0 ≤ rm.slots) (hsz : Nat.ble (rest.map fun v => v.category).sum 8 = true) (hd : decode cc pc = .ok (.invokevirtual 49, 3)) (h : w_X9_houses o K μ) (hk : ∀ (r : Nat) (μ1 : qM), K r μ1 → qV Z G nL k n μ1 (pc + 3) L (.ref (ga G r) :: rest)) : qV Z G nL k n μ pc L (.ref (ga G o) :: rest) := x_Vr [] rest C o 8 (wp := fun K => w_X9_houses o K μ) (y_X9_houses : qY yX9_houses cX9_houses 1 (some (.object "EqualPlain$Houses")) 0 ({ frames := 0, cells := 0, slots := 0, locals := 0 } : Room) 0 0) (qm_7 _ (List.mem_of_getElem? (i := 9) rfl)) (qm_7 _ (List.mem_of_getElem? (i := 10) rfl)) (qm_41 _ (List.mem_of_getElem? (i := 12) rfl)) (c_X9_houses Z.2.1 G hn hk_o) (q_lt hk_o rfl hn) hk_o (by decide) rfl rfl hR hf rfl rfl hsz hd h hk
theorem i_RX5_76 {Z : qZ} {G : qG} {cc : ByteArray} {nL k n : Nat} {rm : Room} {ret : Option FieldType} {μ : qM} {pc : Nat} {L : List (Nat × Value)} {rest : List Value} {K : Int32 → qM → Prop} {t1 : Nat} (C : qX Z G RX5 cc nL rm ret) (hn : 66 ≤ gn G) (hn7 : 67 ≤ gn G) (ht_t1 : t1 < 12) (hR : (Nat.ble (7 + 1) rm.frames && Nat.ble (8 + (2 + 11) + 183) rm.locals) = true) (hf : k + 0 ≤ rm.cells ∧ n + 0 ≤ rm.slots) (hsz : Nat.ble (rest.map fun v => v.category).sum 8 = true) (hd : decode cc pc = .ok (.invokevirtual 76, 3)) (h : w_X5_isNextWord t1 K μ) (hk : ∀ (r : Int32) (μ1 : qM), K r μ1 → qV Z G nL k n μ1 (pc + 3) L (.int r :: rest)) : qV Z G nL k n μ pc L (.ref (gK G t1) :: .ref (ga G 66) :: rest) := x_Vi [.ref (gK G t1)] rest C 66 4 (wp := fun K => w_X5_isNextWord t1 K μ) (y_X5_isNextWord : qY yX5_isNextWord cX5_isNextWord 2 (some .boolean) 1 ({ frames := 7, cells := 0, slots := 0, locals := 183 } : Room) 0 0) (qm_41 _ (List.mem_of_getElem? (i := 19) rfl)) (qm_41 _ (List.mem_of_getElem? (i := 20) rfl)) (qm_41 _ (List.mem_of_getElem? (i := 18) rfl)) (c_X5_isNextWord Z.2.1 G hn hn7 ht_t1) hn7 rfl (by decide) rfl rfl hR hf rfl rfl hsz hd h hk
theorem i_RX5_79 {Z : qZ} {G : qG} {cc : ByteArray} {nL k n : Nat} {rm : Room} {ret : Option FieldType} {μ : qM} {pc : Nat} {L : List (Nat × Value)} {rest : List Value} {K : Int32 → qM → Prop} {v1 : Int32} (C : qX Z G RX5 cc nL rm ret) (hn : 66 ≤ gn G) (hn7 : 67 ≤ gn G) (hR : (Nat.ble (2 + 1) rm.frames && Nat.ble (8 + (2 + 11) + 42) rm.locals) = true) (hf : k + 0 ≤ rm.cells ∧ n + 0 ≤ rm.slots) (hsz : Nat.ble (rest.map fun v => v.category).sum 8 = true) (hd : decode cc pc = .ok (.invokevirtual 79, 3)) (h : w_X5_isNextNumber v1 K μ) (hk : ∀ (r : Int32) (μ1 : qM), K r μ1 → qV Z G nL k n μ1 (pc + 3) L (.int r :: rest)) : qV Z G nL k n μ pc L (.int v1 :: .ref (ga G 66) :: rest) := x_Vi [.int v1] rest C 66 4 (wp := fun K => w_X5_isNextNumber v1 K μ) (y_X5_isNextNumber : qY yX5_isNextNumber cX5_isNextNumber 2 (some .boolean) 1 ({ frames := 2, cells := 0, slots := 0, locals := 42 } : Room) 0 0) (qm_41 _ (List.mem_of_getElem? (i := 23) rfl)) (qm_42 _ (List.mem_of_getElem? (i := 0) rfl)) (qm_41 _ (List.mem_of_getElem? (i := 22) rfl)) (c_X5_isNextNumber Z.2.1 G hn hn7) hn7 rfl (by decide) rfl rfl hR hf rfl rfl hsz hd h hk
theorem i_RX5_82 {Z : qZ} {G : qG} {cc : ByteArray} {nL k n : Nat} {rm : Room} {ret : Option FieldType} {μ : qM} {pc : Nat} {L : List (Nat × Value)} {rest : List Value} {K : Int32 → qM → Prop} {v0 : Int32} {v1 : Int32} (C : qX Z G RX5 cc nL rm ret) (hn : 66 ≤ gn G) (hR : (Nat.ble (0 + 1) rm.frames && Nat.ble (8 + (2 + 11) + 0) rm.locals) = true) (hf : k + 0 ≤ rm.cells ∧ n + 0 ≤ rm.slots) (hsz : Nat.ble (rest.map fun v => v.category).sum 8 = true) (hd : decode cc pc = .ok (.invokestatic 82, 3)) (h : w_X10_lotOf v0 v1 K μ) (hk : ∀ (r : Int32) (μ1 : qM), K r μ1 → qV Z G nL k n μ1 (pc + 3) L (.int r :: rest)) : qV Z G nL k n μ pc L (.int v1 :: .int v0 :: rest) := x_Ni [.int v0, .int v1] rest C (wp := fun K => w_X10_lotOf v0 v1 K μ) (y_X10_lotOf : qY yX10_lotOf cX10_lotOf 2 (some .int) 2 ({ frames := 0, cells := 0, slots := 0, locals := 0 } : Room) 0 0) (qm_7 _ (List.mem_of_getElem? (i := 13) rfl)) (host := RX10) (by decide +kernel) (c_X10_lotOf Z.2.1 G hn ) hR hf rfl rfl hsz hd h hk
theorem i_RX5_86 {Z : qZ} {G : qG} {cc : ByteArray} {nL k n : Nat} {rm : Room} {ret : Option FieldType} {μ : qM} {pc : Nat} {L : List (Nat × Value)} {rest : List Value} {K : Int32 → qM → Prop} {o : Nat} {v1 : Int32} (C : qX Z G RX5 cc nL rm ret) (hn : 66 ≤ gn G) (hk_o : qk o = 1) (hR : (Nat.ble (0 + 1) rm.frames && Nat.ble (8 + (3 + 11) + 0) rm.locals) = true) (hf : k + 0 ≤ rm.cells ∧ n + 0 ≤ rm.slots) (hsz : Nat.ble (rest.map fun v => v.category).sum 8 = true) (hd : decode cc pc = .ok (.invokevirtual 86, 3)) (h : w_X1_stands o v1 K μ) (hk : ∀ (r : Int32) (μ1 : qM), K r μ1 → qV Z G nL k n μ1 (pc + 3) L (.int r :: rest)) : qV Z G nL k n μ pc L (.int v1 :: .ref (ga G o) :: rest) := x_Vi [.int v1] rest C o 1 (wp := fun K => w_X1_stands o v1 K μ) (y_X1_stands : qY yX1_stands cX1_stands 3 (some .boolean) 1 ({ frames := 0, cells := 0, slots := 0, locals := 0 } : Room) 0 0) (qm_7 _ (List.mem_of_getElem? (i := 16) rfl)) (qm_7 _ (List.mem_of_getElem? (i := 17) rfl)) (qm_42 _ (List.mem_of_getElem? (i := 2) rfl)) (c_X1_stands Z.2.1 G hn hk_o) (q_lt hk_o rfl hn) hk_o (by decide) rfl rfl hR hf rfl rfl hsz hd h hk
theorem i_RX5_89 {Z : qZ} {G : qG} {cc : ByteArray} {nL k n : Nat} {rm : Room} {ret : Option FieldType} {μ : qM} {pc : Nat} {L : List (Nat × Value)} {rest : List Value} {K : qM → Prop} {o : Nat} {v1 : Int32} {v2 : Int32} (C : qX Z G RX5 cc nL rm ret) (hn : 66 ≤ gn G) (hk_o : qk o = 1) (hR : (Nat.ble (1 + 1) rm.frames && Nat.ble (8 + (3 + 11) + 20) rm.locals) = true) (hf : k + 0 ≤ rm.cells ∧ n + 0 ≤ rm.slots) (hsz : Nat.ble (rest.map fun v => v.category).sum 8 = true) (hd : decode cc pc = .ok (.invokevirtual 89, 3)) (h : w_X1_put o v1 v2 K μ) (hk : ∀ (μ1 : qM), K μ1 → qV Z G nL k n μ1 (pc + 3) L rest) : qV Z G nL k n μ pc L (.int v2 :: .int v1 :: .ref (ga G o) :: rest) := x_Vv [.int v1, .int v2] rest C o 1 (wp := fun K => w_X1_put o v1 v2 K μ) (y_X1_put : qY yX1_put cX1_put 3 none 2 ({ frames := 1, cells := 0, slots := 0, locals := 20 } : Room) 0 0) (qm_8 _ (List.mem_of_getElem? (i := 0) rfl)) (qm_8 _ (List.mem_of_getElem? (i := 1) rfl)) (qm_42 _ (List.mem_of_getElem? (i := 3) rfl)) (c_X1_put Z.2.1 G hn hk_o) (q_lt hk_o rfl hn) hk_o (by decide) rfl rfl hR hf rfl rfl hsz hd h hk
theorem g_RX5_28 {Z : qZ} {G : qG} {cc : ByteArray} {nL k n : Nat} {rm : Room} {ret : Option FieldType} {μ : qM} {pc : Nat} {L : List (Nat × Value)} {st : List Value} (C : qX Z G RX5 cc nL rm ret) (hn : 67 ≤ gn G) (hd : decode cc pc = .ok (.getfield 28, 3)) (h : qV Z G nL k n μ (pc + 3) L (.ref (ga G 15) :: st)) : qV Z G nL k n μ pc L (.ref (ga G 66) :: st) := x_getr C 66 4 1 15 15 (C0 := RX5) (fn := "into") (fd := "LEqualPlain$Town;") hn rfl (by decide) rfl (by decide) rfl inlX5 (qm_38 _ (List.mem_of_getElem? (i := 3) rfl)) rfl rfl rfl hd h
theorem b_X5_isHouseItem_18 {Z : qZ} {G : qG} {μ : qM} {post : Int32 → qM → Prop} (C : qX Z G RX5 cX5_isHouseItem 3 ({ frames := 8, cells := 0, slots := 0, locals := 204 } : Room) (some .boolean)) (hQ : qQi Z G 0 0 post) (hn : 66 ≤ gn G) (hn7 : 67 ≤ gn G) (h : q_X5_isHouseItem_18 post μ) : qV Z G 3 0 0 μ 18 [] [] := by
  unfold q_X5_isHouseItem_18 at h
  refine x_iconst C dX5_isHouseItem_18 (v := 0) (by decide) ?_
  exact x_zret C hQ dX5_isHouseItem_19 h
theorem b_X5_isHouseItem_55 {Z : qZ} {G : qG} {μ : qM} {post : Int32 → qM → Prop} (C : qX Z G RX5 cX5_isHouseItem 3 ({ frames := 8, cells := 0, slots := 0, locals := 204 } : Room) (some .boolean)) (hQ : qQi Z G 0 0 post) (hn : 66 ≤ gn G) (hn7 : 67 ≤ gn G) (h : q_X5_isHouseItem_55 post μ) : qV Z G 3 0 0 μ 55 [] [] := by
  unfold q_X5_isHouseItem_55 at h
  refine x_iconst C dX5_isHouseItem_55 (v := 0) (by decide) ?_
  exact x_zret C hQ dX5_isHouseItem_56 h
theorem y_X5_isHouseItem : qY yX5_isHouseItem cX5_isHouseItem 3 (some .boolean) 1 ({ frames := 8, cells := 0, slots := 0, locals := 204 } : Room) 0 0 := ⟨(qm_41 _ (List.mem_of_getElem? (i := 17) rfl)), (qm_37 _ (List.mem_of_getElem? (i := 17) rfl)), by decide +kernel, by decide +kernel, rfl, rfl⟩
theorem c_X5_isHouseItem (l : Launch) (G : qG) {v1 : Int32} {μ : qM} (hn : 66 ≤ gn G) (hn7 : 67 ≤ gn G) : qCi l G yX5_isHouseItem cX5_isHouseItem 3 (some .boolean) ({ frames := 8, cells := 0, slots := 0, locals := 204 } : Room) 0 0 [.ref (ga G 66), .int v1] μ (fun post => w_X5_isHouseItem v1 post μ) := by
  refine qCi_of (L := [(0, .ref (ga G 66)), (1, .int v1)]) (by decide) rfl rfl ?_
  intro Z post hl C hQ h
  have C : qX Z G RX5 cX5_isHouseItem 3 ({ frames := 8, cells := 0, slots := 0, locals := 204 } : Room) (some .boolean) := C
  have h : w_X5_isHouseItem v1 post μ := h
  unfold w_X5_isHouseItem at h
  refine x_aload_n C 0 dX5_isHouseItem_0 rfl rfl ?_
  refine x_ldcs C (i := 74) (q := 9) (tx := "at") (by decide) dX5_isHouseItem_1 ?_
  refine i_RX5_76 (rest := []) C hn hn7 (by decide) rfl (by decide) rfl dX5_isHouseItem_3 h (fun r3 μ3 h => ?_)
  refine x_if_eq C dX5_isHouseItem_6 (tgt := 18) (by decide) h (fun h => ?_) (fun h => ?_)
  · exact qV_sub [] rfl (b_X5_isHouseItem_18 C hQ hn hn7 h)
  · refine x_aload_n C 0 dX5_isHouseItem_9 rfl rfl ?_
    refine x_bipush C dX5_isHouseItem_10 (v := 11) (by decide) ?_
    refine i_RX5_79 (rest := []) C hn hn7 rfl (by decide) rfl dX5_isHouseItem_12 h (fun r12 μ12 h => ?_)
    refine x_if_ne C dX5_isHouseItem_15 (tgt := 20) (by decide) h (fun h => ?_) (fun h => ?_)
    · refine x_aload_n C 0 dX5_isHouseItem_20 rfl rfl ?_
      refine g_RX5_21 C hn7 dX5_isHouseItem_21 ?_
      refine x_istore_n C (L' := [(2, .int ((μ12 66 5))), (0, .ref (ga G 66)), (1, .int v1)]) dX5_isHouseItem_24 rfl (by decide) rfl ?_
      refine x_aload_n C 1 dX5_isHouseItem_25 rfl rfl ?_
      refine x_bipush C dX5_isHouseItem_26 (v := 11) (by decide) ?_
      refine i_RX5_79 (rest := []) C hn hn7 rfl (by decide) rfl dX5_isHouseItem_28 h (fun r28 μ28 h => ?_)
      refine x_if_eq C dX5_isHouseItem_31 (tgt := 55) (by decide) h (fun h => ?_) (fun h => ?_)
      · exact qV_sub [] rfl (b_X5_isHouseItem_55 C hQ hn hn7 h)
      · refine x_aload_n C 1 dX5_isHouseItem_34 rfl rfl ?_
        refine g_RX5_28 C hn7 dX5_isHouseItem_35 ?_
        refine i_RX5_49 (rest := []) C hn rfl rfl (by decide) rfl dX5_isHouseItem_38 h (fun r38 μ38 h => ?_)
        obtain ⟨rfl, h⟩ := h
        refine x_iload_n C 0 dX5_isHouseItem_41 rfl rfl ?_
        refine x_aload_n C 1 dX5_isHouseItem_42 rfl rfl ?_
        refine g_RX5_21 C hn7 dX5_isHouseItem_43 ?_
        refine i_RX5_82 (rest := [.ref (ga G 16)]) C hn  rfl (by decide) rfl dX5_isHouseItem_46 h (fun r46 μ46 h => ?_)
        refine i_RX5_86 (rest := []) C hn rfl rfl (by decide) rfl dX5_isHouseItem_49 h (fun r49 μ49 h => ?_)
        refine x_if_eq C dX5_isHouseItem_52 (tgt := 57) (by decide) h (fun h => ?_) (fun h => ?_)
        · refine x_aload_n C 1 dX5_isHouseItem_57 rfl rfl ?_
          refine g_RX5_28 C hn7 dX5_isHouseItem_58 ?_
          refine i_RX5_49 (rest := []) C hn rfl rfl (by decide) rfl dX5_isHouseItem_61 h (fun r61 μ61 h => ?_)
          obtain ⟨rfl, h⟩ := h
          refine x_iload_n C 2 dX5_isHouseItem_64 rfl rfl ?_
          refine x_iload_n C 0 dX5_isHouseItem_65 rfl rfl ?_
          refine x_aload_n C 1 dX5_isHouseItem_66 rfl rfl ?_
          refine g_RX5_21 C hn7 dX5_isHouseItem_67 ?_
          refine i_RX5_82 (rest := [.int v1, .ref (ga G 16)]) C hn  rfl (by decide) rfl dX5_isHouseItem_70 h (fun r70 μ70 h => ?_)
          refine i_RX5_89 (rest := []) C hn rfl rfl (by decide) rfl dX5_isHouseItem_73 h (fun μ73 h => ?_)
          refine x_iconst C dX5_isHouseItem_76 (v := 1) (by decide) ?_
          exact x_zret C hQ dX5_isHouseItem_77 h
        · exact qV_sub [] rfl (b_X5_isHouseItem_55 C hQ hn hn7 h)
    · exact qV_sub [] rfl (b_X5_isHouseItem_18 C hQ hn hn7 h)
theorem dX5_isWorthItem_0 : decode cX5_isWorthItem 0 = .ok (.aload_n 0, 1) := by decide +kernel
theorem dX5_isWorthItem_1 : decode cX5_isWorthItem 1 = .ok (.bipush 99, 2) := by decide +kernel
theorem dX5_isWorthItem_3 : decode cX5_isWorthItem 3 = .ok (.invokevirtual 79, 3) := by decide +kernel
theorem dX5_isWorthItem_6 : decode cX5_isWorthItem 6 = .ok (.ifCond .ne 5, 3) := by decide +kernel
theorem dX5_isWorthItem_9 : decode cX5_isWorthItem 9 = .ok (.iconst 0, 1) := by decide +kernel
theorem dX5_isWorthItem_10 : decode cX5_isWorthItem 10 = .ok (.ireturn, 1) := by decide +kernel
theorem dX5_isWorthItem_11 : decode cX5_isWorthItem 11 = .ok (.aload_n 0, 1) := by decide +kernel
theorem dX5_isWorthItem_12 : decode cX5_isWorthItem 12 = .ok (.getfield 21, 3) := by decide +kernel
theorem dX5_isWorthItem_15 : decode cX5_isWorthItem 15 = .ok (.istore_n 1, 1) := by decide +kernel
theorem dX5_isWorthItem_16 : decode cX5_isWorthItem 16 = .ok (.aload_n 0, 1) := by decide +kernel
theorem dX5_isWorthItem_17 : decode cX5_isWorthItem 17 = .ok (.ldc 93, 2) := by decide +kernel
theorem dX5_isWorthItem_19 : decode cX5_isWorthItem 19 = .ok (.invokevirtual 76, 3) := by decide +kernel
theorem dX5_isWorthItem_22 : decode cX5_isWorthItem 22 = .ok (.ifCond .eq 12, 3) := by decide +kernel
theorem dX5_isWorthItem_25 : decode cX5_isWorthItem 25 = .ok (.aload_n 0, 1) := by decide +kernel
theorem dX5_isWorthItem_26 : decode cX5_isWorthItem 26 = .ok (.bipush 11, 2) := by decide +kernel
theorem dX5_isWorthItem_28 : decode cX5_isWorthItem 28 = .ok (.invokevirtual 79, 3) := by decide +kernel
theorem dX5_isWorthItem_31 : decode cX5_isWorthItem 31 = .ok (.ifCond .ne 5, 3) := by decide +kernel
theorem dX5_isWorthItem_34 : decode cX5_isWorthItem 34 = .ok (.iconst 0, 1) := by decide +kernel
theorem dX5_isWorthItem_35 : decode cX5_isWorthItem 35 = .ok (.ireturn, 1) := by decide +kernel
theorem dX5_isWorthItem_36 : decode cX5_isWorthItem 36 = .ok (.aload_n 0, 1) := by decide +kernel
theorem dX5_isWorthItem_37 : decode cX5_isWorthItem 37 = .ok (.getfield 21, 3) := by decide +kernel
theorem dX5_isWorthItem_40 : decode cX5_isWorthItem 40 = .ok (.istore_n 2, 1) := by decide +kernel
theorem dX5_isWorthItem_41 : decode cX5_isWorthItem 41 = .ok (.aload_n 0, 1) := by decide +kernel
theorem dX5_isWorthItem_42 : decode cX5_isWorthItem 42 = .ok (.bipush 11, 2) := by decide +kernel
theorem dX5_isWorthItem_44 : decode cX5_isWorthItem 44 = .ok (.invokevirtual 79, 3) := by decide +kernel
theorem dX5_isWorthItem_47 : decode cX5_isWorthItem 47 = .ok (.ifCond .ne 5, 3) := by decide +kernel
theorem dX5_isWorthItem_50 : decode cX5_isWorthItem 50 = .ok (.iconst 0, 1) := by decide +kernel
theorem dX5_isWorthItem_51 : decode cX5_isWorthItem 51 = .ok (.ireturn, 1) := by decide +kernel
theorem dX5_isWorthItem_52 : decode cX5_isWorthItem 52 = .ok (.aload_n 0, 1) := by decide +kernel
theorem dX5_isWorthItem_53 : decode cX5_isWorthItem 53 = .ok (.getfield 28, 3) := by decide +kernel
theorem dX5_isWorthItem_56 : decode cX5_isWorthItem 56 = .ok (.iload_n 2, 1) := by decide +kernel
theorem dX5_isWorthItem_57 : decode cX5_isWorthItem 57 = .ok (.aload_n 0, 1) := by decide +kernel
theorem dX5_isWorthItem_58 : decode cX5_isWorthItem 58 = .ok (.getfield 21, 3) := by decide +kernel
theorem dX5_isWorthItem_61 : decode cX5_isWorthItem 61 = .ok (.invokestatic 82, 3) := by decide +kernel
theorem dX5_isWorthItem_64 : decode cX5_isWorthItem 64 = .ok (.iload_n 1, 1) := by decide +kernel
theorem dX5_isWorthItem_65 : decode cX5_isWorthItem 65 = .ok (.invokevirtual 95, 3) := by decide +kernel
theorem dX5_isWorthItem_68 : decode cX5_isWorthItem 68 = .ok (.iconst 1, 1) := by decide +kernel
theorem dX5_isWorthItem_69 : decode cX5_isWorthItem 69 = .ok (.ireturn, 1) := by decide +kernel
theorem i_RX5_95 {Z : qZ} {G : qG} {cc : ByteArray} {nL k n : Nat} {rm : Room} {ret : Option FieldType} {μ : qM} {pc : Nat} {L : List (Nat × Value)} {rest : List Value} {K : qM → Prop} {o : Nat} {v1 : Int32} {v2 : Int32} (C : qX Z G RX5 cc nL rm ret) (hn : 66 ≤ gn G) (hk_o : qk o = 8) (hR : (Nat.ble (0 + 1) rm.frames && Nat.ble (8 + (3 + 11) + 0) rm.locals) = true) (hf : k + 0 ≤ rm.cells ∧ n + 0 ≤ rm.slots) (hsz : Nat.ble (rest.map fun v => v.category).sum 8 = true) (hd : decode cc pc = .ok (.invokevirtual 95, 3)) (h : w_X9_setWorth o v1 v2 K μ) (hk : ∀ (μ1 : qM), K μ1 → qV Z G nL k n μ1 (pc + 3) L rest) : qV Z G nL k n μ pc L (.int v2 :: .int v1 :: .ref (ga G o) :: rest) := x_Vv [.int v1, .int v2] rest C o 8 (wp := fun K => w_X9_setWorth o v1 v2 K μ) (y_X9_setWorth : qY yX9_setWorth cX9_setWorth 3 none 2 ({ frames := 0, cells := 0, slots := 0, locals := 0 } : Room) 0 0) (qm_15 _ (List.mem_of_getElem? (i := 18) rfl)) (qm_15 _ (List.mem_of_getElem? (i := 19) rfl)) (qm_42 _ (List.mem_of_getElem? (i := 8) rfl)) (c_X9_setWorth Z.2.1 G hn hk_o) (q_lt hk_o rfl hn) hk_o (by decide) rfl rfl hR hf rfl rfl hsz hd h hk
theorem b_X5_isWorthItem_34 {Z : qZ} {G : qG} {μ : qM} {post : Int32 → qM → Prop} (C : qX Z G RX5 cX5_isWorthItem 3 ({ frames := 8, cells := 0, slots := 0, locals := 204 } : Room) (some .boolean)) (hQ : qQi Z G 0 0 post) (hn : 66 ≤ gn G) (hn7 : 67 ≤ gn G) (h : q_X5_isWorthItem_34 post μ) : qV Z G 3 0 0 μ 34 [] [] := by
  unfold q_X5_isWorthItem_34 at h
  refine x_iconst C dX5_isWorthItem_34 (v := 0) (by decide) ?_
  exact x_zret C hQ dX5_isWorthItem_35 h
theorem y_X5_isWorthItem : qY yX5_isWorthItem cX5_isWorthItem 3 (some .boolean) 0 ({ frames := 8, cells := 0, slots := 0, locals := 204 } : Room) 0 0 := ⟨(qm_42 _ (List.mem_of_getElem? (i := 7) rfl)), (qm_37 _ (List.mem_of_getElem? (i := 17) rfl)), by decide +kernel, by decide +kernel, rfl, rfl⟩
theorem c_X5_isWorthItem (l : Launch) (G : qG) {μ : qM} (hn : 66 ≤ gn G) (hn7 : 67 ≤ gn G) : qCi l G yX5_isWorthItem cX5_isWorthItem 3 (some .boolean) ({ frames := 8, cells := 0, slots := 0, locals := 204 } : Room) 0 0 [.ref (ga G 66)] μ (fun post => w_X5_isWorthItem  post μ) := by
  refine qCi_of (L := [(0, .ref (ga G 66))]) (by decide) rfl rfl ?_
  intro Z post hl C hQ h
  have C : qX Z G RX5 cX5_isWorthItem 3 ({ frames := 8, cells := 0, slots := 0, locals := 204 } : Room) (some .boolean) := C
  have h : w_X5_isWorthItem  post μ := h
  unfold w_X5_isWorthItem at h
  refine x_aload_n C 0 dX5_isWorthItem_0 rfl rfl ?_
  refine x_bipush C dX5_isWorthItem_1 (v := 99) (by decide) ?_
  refine i_RX5_79 (rest := []) C hn hn7 rfl (by decide) rfl dX5_isWorthItem_3 h (fun r3 μ3 h => ?_)
  refine x_if_ne C dX5_isWorthItem_6 (tgt := 11) (by decide) h (fun h => ?_) (fun h => ?_)
  · refine x_aload_n C 0 dX5_isWorthItem_11 rfl rfl ?_
    refine g_RX5_21 C hn7 dX5_isWorthItem_12 ?_
    refine x_istore_n C (L' := [(1, .int ((μ3 66 5))), (0, .ref (ga G 66))]) dX5_isWorthItem_15 rfl (by decide) rfl ?_
    refine x_aload_n C 1 dX5_isWorthItem_16 rfl rfl ?_
    refine x_ldcs C (i := 93) (q := 10) (tx := "on") (by decide) dX5_isWorthItem_17 ?_
    refine i_RX5_76 (rest := []) C hn hn7 (by decide) rfl (by decide) rfl dX5_isWorthItem_19 h (fun r19 μ19 h => ?_)
    refine x_if_eq C dX5_isWorthItem_22 (tgt := 34) (by decide) h (fun h => ?_) (fun h => ?_)
    · exact qV_sub [] rfl (b_X5_isWorthItem_34 C hQ hn hn7 h)
    · refine x_aload_n C 1 dX5_isWorthItem_25 rfl rfl ?_
      refine x_bipush C dX5_isWorthItem_26 (v := 11) (by decide) ?_
      refine i_RX5_79 (rest := []) C hn hn7 rfl (by decide) rfl dX5_isWorthItem_28 h (fun r28 μ28 h => ?_)
      refine x_if_ne C dX5_isWorthItem_31 (tgt := 36) (by decide) h (fun h => ?_) (fun h => ?_)
      · refine x_aload_n C 1 dX5_isWorthItem_36 rfl rfl ?_
        refine g_RX5_21 C hn7 dX5_isWorthItem_37 ?_
        refine x_istore_n C (L' := [(2, .int ((μ28 66 5))), (1, .int ((μ3 66 5))), (0, .ref (ga G 66))]) dX5_isWorthItem_40 rfl (by decide) rfl ?_
        refine x_aload_n C 2 dX5_isWorthItem_41 rfl rfl ?_
        refine x_bipush C dX5_isWorthItem_42 (v := 11) (by decide) ?_
        refine i_RX5_79 (rest := []) C hn hn7 rfl (by decide) rfl dX5_isWorthItem_44 h (fun r44 μ44 h => ?_)
        refine x_if_ne C dX5_isWorthItem_47 (tgt := 52) (by decide) h (fun h => ?_) (fun h => ?_)
        · refine x_aload_n C 2 dX5_isWorthItem_52 rfl rfl ?_
          refine g_RX5_28 C hn7 dX5_isWorthItem_53 ?_
          refine x_iload_n C 0 dX5_isWorthItem_56 rfl rfl ?_
          refine x_aload_n C 2 dX5_isWorthItem_57 rfl rfl ?_
          refine g_RX5_21 C hn7 dX5_isWorthItem_58 ?_
          refine i_RX5_82 (rest := [.ref (ga G 15)]) C hn  rfl (by decide) rfl dX5_isWorthItem_61 h (fun r61 μ61 h => ?_)
          refine x_iload_n C 1 dX5_isWorthItem_64 rfl rfl ?_
          refine i_RX5_95 (rest := []) C hn rfl rfl (by decide) rfl dX5_isWorthItem_65 h (fun μ65 h => ?_)
          refine x_iconst C dX5_isWorthItem_68 (v := 1) (by decide) ?_
          exact x_zret C hQ dX5_isWorthItem_69 h
        · refine x_iconst C dX5_isWorthItem_50 (v := 0) (by decide) ?_
          exact x_zret C hQ dX5_isWorthItem_51 h
      · exact qV_sub [] rfl (b_X5_isWorthItem_34 C hQ hn hn7 h)
  · refine x_iconst C dX5_isWorthItem_9 (v := 0) (by decide) ?_
    exact x_zret C hQ dX5_isWorthItem_10 h
theorem dX5_isCoinItem_0 : decode cX5_isCoinItem 0 = .ok (.aload_n 0, 1) := by decide +kernel
theorem dX5_isCoinItem_1 : decode cX5_isCoinItem 1 = .ok (.ldc 98, 2) := by decide +kernel
theorem dX5_isCoinItem_3 : decode cX5_isCoinItem 3 = .ok (.invokevirtual 79, 3) := by decide +kernel
theorem dX5_isCoinItem_6 : decode cX5_isCoinItem 6 = .ok (.ifCond .ne 5, 3) := by decide +kernel
theorem dX5_isCoinItem_9 : decode cX5_isCoinItem 9 = .ok (.iconst 0, 1) := by decide +kernel
theorem dX5_isCoinItem_10 : decode cX5_isCoinItem 10 = .ok (.ireturn, 1) := by decide +kernel
theorem dX5_isCoinItem_11 : decode cX5_isCoinItem 11 = .ok (.aload_n 0, 1) := by decide +kernel
theorem dX5_isCoinItem_12 : decode cX5_isCoinItem 12 = .ok (.getfield 28, 3) := by decide +kernel
theorem dX5_isCoinItem_15 : decode cX5_isCoinItem 15 = .ok (.aload_n 0, 1) := by decide +kernel
theorem dX5_isCoinItem_16 : decode cX5_isCoinItem 16 = .ok (.getfield 21, 3) := by decide +kernel
theorem dX5_isCoinItem_19 : decode cX5_isCoinItem 19 = .ok (.invokevirtual 99, 3) := by decide +kernel
theorem dX5_isCoinItem_22 : decode cX5_isCoinItem 22 = .ok (.iconst 1, 1) := by decide +kernel
theorem dX5_isCoinItem_23 : decode cX5_isCoinItem 23 = .ok (.ireturn, 1) := by decide +kernel
theorem i_RX5_99 {Z : qZ} {G : qG} {cc : ByteArray} {nL k n : Nat} {rm : Room} {ret : Option FieldType} {μ : qM} {pc : Nat} {L : List (Nat × Value)} {rest : List Value} {K : qM → Prop} {o : Nat} {v1 : Int32} (C : qX Z G RX5 cc nL rm ret) (hn : 66 ≤ gn G) (hk_o : qk o = 8) (hR : (Nat.ble (0 + 1) rm.frames && Nat.ble (8 + (2 + 11) + 0) rm.locals) = true) (hf : k + 0 ≤ rm.cells ∧ n + 0 ≤ rm.slots) (hsz : Nat.ble (rest.map fun v => v.category).sum 8 = true) (hd : decode cc pc = .ok (.invokevirtual 99, 3)) (h : w_X9_setPurse o v1 K μ) (hk : ∀ (μ1 : qM), K μ1 → qV Z G nL k n μ1 (pc + 3) L rest) : qV Z G nL k n μ pc L (.int v1 :: .ref (ga G o) :: rest) := x_Vv [.int v1] rest C o 8 (wp := fun K => w_X9_setPurse o v1 K μ) (y_X9_setPurse : qY yX9_setPurse cX9_setPurse 2 none 1 ({ frames := 0, cells := 0, slots := 0, locals := 0 } : Room) 0 0) (qm_16 _ (List.mem_of_getElem? (i := 7) rfl)) (qm_16 _ (List.mem_of_getElem? (i := 8) rfl)) (qm_42 _ (List.mem_of_getElem? (i := 13) rfl)) (c_X9_setPurse Z.2.1 G hn hk_o) (q_lt hk_o rfl hn) hk_o (by decide) rfl rfl hR hf rfl rfl hsz hd h hk
theorem y_X5_isCoinItem : qY yX5_isCoinItem cX5_isCoinItem 1 (some .boolean) 0 ({ frames := 3, cells := 0, slots := 0, locals := 63 } : Room) 0 0 := ⟨(qm_42 _ (List.mem_of_getElem? (i := 12) rfl)), (qm_37 _ (List.mem_of_getElem? (i := 17) rfl)), by decide +kernel, by decide +kernel, rfl, rfl⟩
theorem c_X5_isCoinItem (l : Launch) (G : qG) {μ : qM} (hn : 66 ≤ gn G) (hn7 : 67 ≤ gn G) : qCi l G yX5_isCoinItem cX5_isCoinItem 1 (some .boolean) ({ frames := 3, cells := 0, slots := 0, locals := 63 } : Room) 0 0 [.ref (ga G 66)] μ (fun post => w_X5_isCoinItem  post μ) := by
  refine qCi_of (L := [(0, .ref (ga G 66))]) (by decide) rfl rfl ?_
  intro Z post hl C hQ h
  have C : qX Z G RX5 cX5_isCoinItem 1 ({ frames := 3, cells := 0, slots := 0, locals := 63 } : Room) (some .boolean) := C
  have h : w_X5_isCoinItem  post μ := h
  unfold w_X5_isCoinItem at h
  refine x_aload_n C 0 dX5_isCoinItem_0 rfl rfl ?_
  refine x_ldc C (v := 99999) (qm_38 _ (List.mem_of_getElem? (i := 12) rfl)) dX5_isCoinItem_1 ?_
  refine i_RX5_79 (rest := []) C hn hn7 rfl (by decide) rfl dX5_isCoinItem_3 h (fun r3 μ3 h => ?_)
  refine x_if_ne C dX5_isCoinItem_6 (tgt := 11) (by decide) h (fun h => ?_) (fun h => ?_)
  · refine x_aload_n C 0 dX5_isCoinItem_11 rfl rfl ?_
    refine g_RX5_28 C hn7 dX5_isCoinItem_12 ?_
    refine x_aload_n C 0 dX5_isCoinItem_15 rfl rfl ?_
    refine g_RX5_21 C hn7 dX5_isCoinItem_16 ?_
    refine i_RX5_99 (rest := []) C hn rfl rfl (by decide) rfl dX5_isCoinItem_19 h (fun μ19 h => ?_)
    refine x_iconst C dX5_isCoinItem_22 (v := 1) (by decide) ?_
    exact x_zret C hQ dX5_isCoinItem_23 h
  · refine x_iconst C dX5_isCoinItem_9 (v := 0) (by decide) ?_
    exact x_zret C hQ dX5_isCoinItem_10 h
theorem dX5_isItem_0 : decode cX5_isItem 0 = .ok (.iconst 0, 1) := by decide +kernel
theorem dX5_isItem_1 : decode cX5_isItem 1 = .ok (.istore_n 1, 1) := by decide +kernel
theorem dX5_isItem_2 : decode cX5_isItem 2 = .ok (.iload_n 1, 1) := by decide +kernel
theorem dX5_isItem_3 : decode cX5_isItem 3 = .ok (.bipush 7, 2) := by decide +kernel
theorem dX5_isItem_5 : decode cX5_isItem 5 = .ok (.if_icmp .ge 47, 3) := by decide +kernel
theorem dX5_isItem_8 : decode cX5_isItem 8 = .ok (.aload_n 0, 1) := by decide +kernel
theorem dX5_isItem_9 : decode cX5_isItem 9 = .ok (.iload_n 1, 1) := by decide +kernel
theorem dX5_isItem_10 : decode cX5_isItem 10 = .ok (.invokestatic 39, 3) := by decide +kernel
theorem dX5_isItem_13 : decode cX5_isItem 13 = .ok (.invokevirtual 45, 3) := by decide +kernel
theorem dX5_isItem_16 : decode cX5_isItem 16 = .ok (.ifCond .eq 30, 3) := by decide +kernel
theorem dX5_isItem_19 : decode cX5_isItem 19 = .ok (.aload_n 0, 1) := by decide +kernel
theorem dX5_isItem_20 : decode cX5_isItem 20 = .ok (.getfield 28, 3) := by decide +kernel
theorem dX5_isItem_23 : decode cX5_isItem 23 = .ok (.invokevirtual 49, 3) := by decide +kernel
theorem dX5_isItem_26 : decode cX5_isItem 26 = .ok (.invokevirtual 55, 3) := by decide +kernel
theorem dX5_isItem_29 : decode cX5_isItem 29 = .ok (.ifCond .ne 15, 3) := by decide +kernel
theorem dX5_isItem_32 : decode cX5_isItem 32 = .ok (.aload_n 0, 1) := by decide +kernel
theorem dX5_isItem_33 : decode cX5_isItem 33 = .ok (.iload_n 1, 1) := by decide +kernel
theorem dX5_isItem_34 : decode cX5_isItem 34 = .ok (.invokevirtual 60, 3) := by decide +kernel
theorem dX5_isItem_37 : decode cX5_isItem 37 = .ok (.ifCond .eq 7, 3) := by decide +kernel
theorem dX5_isItem_40 : decode cX5_isItem 40 = .ok (.iconst 1, 1) := by decide +kernel
theorem dX5_isItem_41 : decode cX5_isItem 41 = .ok (.goto 4, 3) := by decide +kernel
theorem dX5_isItem_44 : decode cX5_isItem 44 = .ok (.iconst 0, 1) := by decide +kernel
theorem dX5_isItem_45 : decode cX5_isItem 45 = .ok (.ireturn, 1) := by decide +kernel
theorem dX5_isItem_46 : decode cX5_isItem 46 = .ok (.iinc 1 1, 3) := by decide +kernel
theorem dX5_isItem_49 : decode cX5_isItem 49 = .ok (.goto (-47), 3) := by decide +kernel
theorem dX5_isItem_52 : decode cX5_isItem 52 = .ok (.aload_n 0, 1) := by decide +kernel
theorem dX5_isItem_53 : decode cX5_isItem 53 = .ok (.ldc 64, 2) := by decide +kernel
theorem dX5_isItem_55 : decode cX5_isItem 55 = .ok (.invokevirtual 45, 3) := by decide +kernel
theorem dX5_isItem_58 : decode cX5_isItem 58 = .ok (.ifCond .eq 8, 3) := by decide +kernel
theorem dX5_isItem_61 : decode cX5_isItem 61 = .ok (.aload_n 0, 1) := by decide +kernel
theorem dX5_isItem_62 : decode cX5_isItem 62 = .ok (.invokevirtual 66, 3) := by decide +kernel
theorem dX5_isItem_65 : decode cX5_isItem 65 = .ok (.ireturn, 1) := by decide +kernel
theorem dX5_isItem_66 : decode cX5_isItem 66 = .ok (.aload_n 0, 1) := by decide +kernel
theorem dX5_isItem_67 : decode cX5_isItem 67 = .ok (.ldc 69, 2) := by decide +kernel
theorem dX5_isItem_69 : decode cX5_isItem 69 = .ok (.invokevirtual 45, 3) := by decide +kernel
theorem dX5_isItem_72 : decode cX5_isItem 72 = .ok (.ifCond .eq 14, 3) := by decide +kernel
theorem dX5_isItem_75 : decode cX5_isItem 75 = .ok (.aload_n 0, 1) := by decide +kernel
theorem dX5_isItem_76 : decode cX5_isItem 76 = .ok (.invokevirtual 71, 3) := by decide +kernel
theorem dX5_isItem_79 : decode cX5_isItem 79 = .ok (.ifCond .eq 7, 3) := by decide +kernel
theorem dX5_isItem_82 : decode cX5_isItem 82 = .ok (.iconst 1, 1) := by decide +kernel
theorem dX5_isItem_83 : decode cX5_isItem 83 = .ok (.goto 4, 3) := by decide +kernel
theorem dX5_isItem_86 : decode cX5_isItem 86 = .ok (.iconst 0, 1) := by decide +kernel
theorem dX5_isItem_87 : decode cX5_isItem 87 = .ok (.ireturn, 1) := by decide +kernel
theorem i_RX5_39 {Z : qZ} {G : qG} {cc : ByteArray} {nL k n : Nat} {rm : Room} {ret : Option FieldType} {μ : qM} {pc : Nat} {L : List (Nat × Value)} {rest : List Value} {K : Nat → qM → Prop} {v0 : Int32} (C : qX Z G RX5 cc nL rm ret) (hn : 66 ≤ gn G) (hR : (Nat.ble (0 + 1) rm.frames && Nat.ble (8 + (1 + 11) + 0) rm.locals) = true) (hf : k + 0 ≤ rm.cells ∧ n + 0 ≤ rm.slots) (hsz : Nat.ble (rest.map fun v => v.category).sum 8 = true) (hd : decode cc pc = .ok (.invokestatic 39, 3)) (h : w_X2_word v0 K μ) (hk : ∀ (r : Nat) (μ1 : qM), K r μ1 → qV Z G nL k n μ1 (pc + 3) L (.ref (gK G r) :: rest)) : qV Z G nL k n μ pc L (.int v0 :: rest) := x_Ss [.int v0] rest C (wp := fun K => w_X2_word v0 K μ) (y_X2_word : qY yX2_word cX2_word 1 (some (.object "java/lang/String")) 1 ({ frames := 0, cells := 0, slots := 0, locals := 0 } : Room) 0 0) (qm_39 _ (List.mem_of_getElem? (i := 5) rfl)) (qm_39 _ (List.mem_of_getElem? (i := 4) rfl)) (c_X2_word Z.2.1 G hn ) hR hf rfl rfl hsz hd h hk
theorem i_RX5_55 {Z : qZ} {G : qG} {cc : ByteArray} {nL k n : Nat} {rm : Room} {ret : Option FieldType} {μ : qM} {pc : Nat} {L : List (Nat × Value)} {rest : List Value} {K : Int32 → qM → Prop} {o : Nat} (C : qX Z G RX5 cc nL rm ret) (hn : 66 ≤ gn G) (hk_o : qk o = 1) (hR : (Nat.ble (0 + 1) rm.frames && Nat.ble (8 + (1 + 11) + 0) rm.locals) = true) (hf : k + 0 ≤ rm.cells ∧ n + 0 ≤ rm.slots) (hsz : Nat.ble (rest.map fun v => v.category).sum 8 = true) (hd : decode cc pc = .ok (.invokevirtual 55, 3)) (h : w_X1_isFull o K μ) (hk : ∀ (r : Int32) (μ1 : qM), K r μ1 → qV Z G nL k n μ1 (pc + 3) L (.int r :: rest)) : qV Z G nL k n μ pc L (.ref (ga G o) :: rest) := x_Vi [] rest C o 1 (wp := fun K => w_X1_isFull o K μ) (y_X1_isFull : qY yX1_isFull cX1_isFull 1 (some .boolean) 0 ({ frames := 0, cells := 0, slots := 0, locals := 0 } : Room) 0 0) (qm_7 _ (List.mem_of_getElem? (i := 20) rfl)) (qm_7 _ (List.mem_of_getElem? (i := 21) rfl)) (qm_41 _ (List.mem_of_getElem? (i := 13) rfl)) (c_X1_isFull Z.2.1 G hn hk_o) (q_lt hk_o rfl hn) hk_o (by decide) rfl rfl hR hf rfl rfl hsz hd h hk
theorem i_RX5_60 {Z : qZ} {G : qG} {cc : ByteArray} {nL k n : Nat} {rm : Room} {ret : Option FieldType} {μ : qM} {pc : Nat} {L : List (Nat × Value)} {rest : List Value} {K : Int32 → qM → Prop} {v1 : Int32} (C : qX Z G RX5 cc nL rm ret) (hn : 66 ≤ gn G) (hn7 : 67 ≤ gn G) (hR : (Nat.ble (8 + 1) rm.frames && Nat.ble (8 + (3 + 11) + 204) rm.locals) = true) (hf : k + 0 ≤ rm.cells ∧ n + 0 ≤ rm.slots) (hsz : Nat.ble (rest.map fun v => v.category).sum 8 = true) (hd : decode cc pc = .ok (.invokevirtual 60, 3)) (h : w_X5_isHouseItem v1 K μ) (hk : ∀ (r : Int32) (μ1 : qM), K r μ1 → qV Z G nL k n μ1 (pc + 3) L (.int r :: rest)) : qV Z G nL k n μ pc L (.int v1 :: .ref (ga G 66) :: rest) := x_Vi [.int v1] rest C 66 4 (wp := fun K => w_X5_isHouseItem v1 K μ) (y_X5_isHouseItem : qY yX5_isHouseItem cX5_isHouseItem 3 (some .boolean) 1 ({ frames := 8, cells := 0, slots := 0, locals := 204 } : Room) 0 0) (qm_41 _ (List.mem_of_getElem? (i := 15) rfl)) (qm_41 _ (List.mem_of_getElem? (i := 16) rfl)) (qm_41 _ (List.mem_of_getElem? (i := 14) rfl)) (c_X5_isHouseItem Z.2.1 G hn hn7) hn7 rfl (by decide) rfl rfl hR hf rfl rfl hsz hd h hk
theorem i_RX5_66 {Z : qZ} {G : qG} {cc : ByteArray} {nL k n : Nat} {rm : Room} {ret : Option FieldType} {μ : qM} {pc : Nat} {L : List (Nat × Value)} {rest : List Value} {K : Int32 → qM → Prop} (C : qX Z G RX5 cc nL rm ret) (hn : 66 ≤ gn G) (hn7 : 67 ≤ gn G) (hR : (Nat.ble (8 + 1) rm.frames && Nat.ble (8 + (3 + 11) + 204) rm.locals) = true) (hf : k + 0 ≤ rm.cells ∧ n + 0 ≤ rm.slots) (hsz : Nat.ble (rest.map fun v => v.category).sum 8 = true) (hd : decode cc pc = .ok (.invokevirtual 66, 3)) (h : w_X5_isWorthItem  K μ) (hk : ∀ (r : Int32) (μ1 : qM), K r μ1 → qV Z G nL k n μ1 (pc + 3) L (.int r :: rest)) : qV Z G nL k n μ pc L (.ref (ga G 66) :: rest) := x_Vi [] rest C 66 4 (wp := fun K => w_X5_isWorthItem  K μ) (y_X5_isWorthItem : qY yX5_isWorthItem cX5_isWorthItem 3 (some .boolean) 0 ({ frames := 8, cells := 0, slots := 0, locals := 204 } : Room) 0 0) (qm_42 _ (List.mem_of_getElem? (i := 5) rfl)) (qm_42 _ (List.mem_of_getElem? (i := 6) rfl)) (qm_42 _ (List.mem_of_getElem? (i := 4) rfl)) (c_X5_isWorthItem Z.2.1 G hn hn7) hn7 rfl (by decide) rfl rfl hR hf rfl rfl hsz hd h hk
theorem i_RX5_71 {Z : qZ} {G : qG} {cc : ByteArray} {nL k n : Nat} {rm : Room} {ret : Option FieldType} {μ : qM} {pc : Nat} {L : List (Nat × Value)} {rest : List Value} {K : Int32 → qM → Prop} (C : qX Z G RX5 cc nL rm ret) (hn : 66 ≤ gn G) (hn7 : 67 ≤ gn G) (hR : (Nat.ble (3 + 1) rm.frames && Nat.ble (8 + (1 + 11) + 63) rm.locals) = true) (hf : k + 0 ≤ rm.cells ∧ n + 0 ≤ rm.slots) (hsz : Nat.ble (rest.map fun v => v.category).sum 8 = true) (hd : decode cc pc = .ok (.invokevirtual 71, 3)) (h : w_X5_isCoinItem  K μ) (hk : ∀ (r : Int32) (μ1 : qM), K r μ1 → qV Z G nL k n μ1 (pc + 3) L (.int r :: rest)) : qV Z G nL k n μ pc L (.ref (ga G 66) :: rest) := x_Vi [] rest C 66 4 (wp := fun K => w_X5_isCoinItem  K μ) (y_X5_isCoinItem : qY yX5_isCoinItem cX5_isCoinItem 1 (some .boolean) 0 ({ frames := 3, cells := 0, slots := 0, locals := 63 } : Room) 0 0) (qm_42 _ (List.mem_of_getElem? (i := 10) rfl)) (qm_42 _ (List.mem_of_getElem? (i := 11) rfl)) (qm_42 _ (List.mem_of_getElem? (i := 9) rfl)) (c_X5_isCoinItem Z.2.1 G hn hn7) hn7 rfl (by decide) rfl rfl hR hf rfl rfl hsz hd h hk
theorem b_X5_isItem_86 {Z : qZ} {G : qG} {μ : qM} {post : Int32 → qM → Prop} (C : qX Z G RX5 cX5_isItem 2 ({ frames := 9, cells := 0, slots := 0, locals := 226 } : Room) (some .boolean)) (hQ : qQi Z G 0 0 post) (hn : 66 ≤ gn G) (hn7 : 67 ≤ gn G) (h : q_X5_isItem_86 post μ) : qV Z G 2 0 0 μ 86 [] [] := by
  unfold q_X5_isItem_86 at h
  refine x_iconst C dX5_isItem_86 (v := 0) (by decide) ?_
  exact x_zret C hQ dX5_isItem_87 h
theorem b_X5_isItem_44 {Z : qZ} {G : qG} {μ : qM} {post : Int32 → qM → Prop} (C : qX Z G RX5 cX5_isItem 2 ({ frames := 9, cells := 0, slots := 0, locals := 226 } : Room) (some .boolean)) (hQ : qQi Z G 0 0 post) (hn : 66 ≤ gn G) (hn7 : 67 ≤ gn G) (h : q_X5_isItem_44 post μ) : qV Z G 2 0 0 μ 44 [] [] := by
  unfold q_X5_isItem_44 at h
  refine x_iconst C dX5_isItem_44 (v := 0) (by decide) ?_
  exact x_zret C hQ dX5_isItem_45 h
theorem b_X5_isItem_2 {Z : qZ} {G : qG} {v1 : Int32} {μ : qM} {post : Int32 → qM → Prop} (C : qX Z G RX5 cX5_isItem 2 ({ frames := 9, cells := 0, slots := 0, locals := 226 } : Room) (some .boolean)) (hQ : qQi Z G 0 0 post) (hn : 66 ≤ gn G) (hn7 : 67 ≤ gn G) (h : q_X5_isItem_2 post v1 μ) : qV Z G 2 0 0 μ 2 [(0, .ref (ga G 66)), (1, .int v1)] [] := by
  refine h (fun v1 μ => qV Z G 2 0 0 μ 2 [(0, .ref (ga G 66)), (1, .int v1)] []) (fun v1 μ h => ?_)
  refine x_iload_n C 1 dX5_isItem_2 rfl rfl ?_
  refine x_bipush C dX5_isItem_3 (v := 7) (by decide) ?_
  refine x_icmp_ge C dX5_isItem_5 (tgt := 52) (by decide) h (fun h => ?_) (fun h => ?_)
  · refine x_aload_n C 0 dX5_isItem_52 rfl rfl ?_
    refine x_ldcs C (i := 64) (q := 7) (tx := "worth") (by decide) dX5_isItem_53 ?_
    refine i_RX5_45 (rest := []) C hn hn7 (by decide) rfl (by decide) rfl dX5_isItem_55 h (fun r55 μ55 h => ?_)
    refine x_if_eq C dX5_isItem_58 (tgt := 66) (by decide) h (fun h => ?_) (fun h => ?_)
    · refine x_aload_n C 0 dX5_isItem_66 rfl rfl ?_
      refine x_ldcs C (i := 69) (q := 8) (tx := "coin") (by decide) dX5_isItem_67 ?_
      refine i_RX5_45 (rest := []) C hn hn7 (by decide) rfl (by decide) rfl dX5_isItem_69 h (fun r69 μ69 h => ?_)
      refine x_if_eq C dX5_isItem_72 (tgt := 86) (by decide) h (fun h => ?_) (fun h => ?_)
      · exact qV_sub [] rfl (b_X5_isItem_86 C hQ hn hn7 h)
      · refine x_aload_n C 0 dX5_isItem_75 rfl rfl ?_
        refine i_RX5_71 (rest := []) C hn hn7 rfl (by decide) rfl dX5_isItem_76 h (fun r76 μ76 h => ?_)
        refine x_if_eq C dX5_isItem_79 (tgt := 86) (by decide) h (fun h => ?_) (fun h => ?_)
        · exact qV_sub [] rfl (b_X5_isItem_86 C hQ hn hn7 h)
        · refine x_iconst C dX5_isItem_82 (v := 1) (by decide) ?_
          refine x_goto C dX5_isItem_83 (tgt := 87) (by decide) ?_
          exact x_zret C hQ dX5_isItem_87 h
    · refine x_aload_n C 0 dX5_isItem_61 rfl rfl ?_
      refine i_RX5_66 (rest := []) C hn hn7 rfl (by decide) rfl dX5_isItem_62 h (fun r62 μ62 h => ?_)
      exact x_zret C hQ dX5_isItem_65 h
  · refine x_aload_n C 0 dX5_isItem_8 rfl rfl ?_
    refine x_iload_n C 1 dX5_isItem_9 rfl rfl ?_
    refine i_RX5_39 (rest := [.ref (ga G 66)]) C hn  rfl (by decide) rfl dX5_isItem_10 h (fun r10 μ10 h => ?_)
    obtain ⟨ht_r10, h⟩ := h
    refine i_RX5_45 (rest := []) C hn hn7 ht_r10 rfl (by decide) rfl dX5_isItem_13 h (fun r13 μ13 h => ?_)
    refine x_if_eq C dX5_isItem_16 (tgt := 46) (by decide) h (fun h => ?_) (fun h => ?_)
    · refine x_iinc C 1 (v := 1) (L' := [(1, .int ((v1 + 1))), (0, .ref (ga G 66))]) dX5_isItem_46 rfl (by decide) (by decide) rfl ?_
      refine x_goto C dX5_isItem_49 (tgt := 2) (by decide) ?_
      exact qV_sub [1, 0] rfl (h)
    · refine x_aload_n C 0 dX5_isItem_19 rfl rfl ?_
      refine g_RX5_28 C hn7 dX5_isItem_20 ?_
      refine i_RX5_49 (rest := []) C hn rfl rfl (by decide) rfl dX5_isItem_23 h (fun r23 μ23 h => ?_)
      obtain ⟨rfl, h⟩ := h
      refine i_RX5_55 (rest := []) C hn rfl rfl (by decide) rfl dX5_isItem_26 h (fun r26 μ26 h => ?_)
      refine x_if_ne C dX5_isItem_29 (tgt := 44) (by decide) h (fun h => ?_) (fun h => ?_)
      · exact qV_sub [] rfl (b_X5_isItem_44 C hQ hn hn7 h)
      · refine x_aload_n C 0 dX5_isItem_32 rfl rfl ?_
        refine x_iload_n C 1 dX5_isItem_33 rfl rfl ?_
        refine i_RX5_60 (rest := []) C hn hn7 rfl (by decide) rfl dX5_isItem_34 h (fun r34 μ34 h => ?_)
        refine x_if_eq C dX5_isItem_37 (tgt := 44) (by decide) h (fun h => ?_) (fun h => ?_)
        · exact qV_sub [] rfl (b_X5_isItem_44 C hQ hn hn7 h)
        · refine x_iconst C dX5_isItem_40 (v := 1) (by decide) ?_
          refine x_goto C dX5_isItem_41 (tgt := 45) (by decide) ?_
          exact x_zret C hQ dX5_isItem_45 h
theorem y_X5_isItem : qY yX5_isItem cX5_isItem 2 (some .boolean) 0 ({ frames := 9, cells := 0, slots := 0, locals := 226 } : Room) 0 0 := ⟨(qm_39 _ (List.mem_of_getElem? (i := 3) rfl)), (qm_37 _ (List.mem_of_getElem? (i := 17) rfl)), by decide +kernel, by decide +kernel, rfl, rfl⟩
theorem c_X5_isItem (l : Launch) (G : qG) {μ : qM} (hn : 66 ≤ gn G) (hn7 : 67 ≤ gn G) : qCi l G yX5_isItem cX5_isItem 2 (some .boolean) ({ frames := 9, cells := 0, slots := 0, locals := 226 } : Room) 0 0 [.ref (ga G 66)] μ (fun post => w_X5_isItem  post μ) := by
  refine qCi_of (L := [(0, .ref (ga G 66))]) (by decide) rfl rfl ?_
  intro Z post hl C hQ h
  have C : qX Z G RX5 cX5_isItem 2 ({ frames := 9, cells := 0, slots := 0, locals := 226 } : Room) (some .boolean) := C
  have h : w_X5_isItem  post μ := h
  unfold w_X5_isItem at h
  refine x_iconst C dX5_isItem_0 (v := 0) (by decide) ?_
  refine x_istore_n C (L' := [(1, .int ((0 : Int32))), (0, .ref (ga G 66))]) dX5_isItem_1 rfl (by decide) rfl ?_
  exact qV_sub [1, 0] rfl (b_X5_isItem_2 C hQ hn hn7 h)
theorem dX5_read_0 : decode cX5_read 0 = .ok (.iconst 1, 1) := by decide +kernel
theorem dX5_read_1 : decode cX5_read 1 = .ok (.istore_n 1, 1) := by decide +kernel
theorem dX5_read_2 : decode cX5_read 2 = .ok (.iload_n 1, 1) := by decide +kernel
theorem dX5_read_3 : decode cX5_read 3 = .ok (.bipush 120, 2) := by decide +kernel
theorem dX5_read_5 : decode cX5_read 5 = .ok (.if_icmp .gt 55, 3) := by decide +kernel
theorem dX5_read_8 : decode cX5_read 8 = .ok (.aload_n 0, 1) := by decide +kernel
theorem dX5_read_9 : decode cX5_read 9 = .ok (.invokevirtual 32, 3) := by decide +kernel
theorem dX5_read_12 : decode cX5_read 12 = .ok (.aload_n 0, 1) := by decide +kernel
theorem dX5_read_13 : decode cX5_read 13 = .ok (.invokevirtual 35, 3) := by decide +kernel
theorem dX5_read_16 : decode cX5_read 16 = .ok (.ifCond .ne 10, 3) := by decide +kernel
theorem dX5_read_19 : decode cX5_read 19 = .ok (.iconst (-1), 1) := by decide +kernel
theorem dX5_read_20 : decode cX5_read 20 = .ok (.aload_n 0, 1) := by decide +kernel
theorem dX5_read_21 : decode cX5_read 21 = .ok (.getfield 9, 3) := by decide +kernel
theorem dX5_read_24 : decode cX5_read 24 = .ok (.isub, 1) := by decide +kernel
theorem dX5_read_25 : decode cX5_read 25 = .ok (.ireturn, 1) := by decide +kernel
theorem dX5_read_26 : decode cX5_read 26 = .ok (.aload_n 0, 1) := by decide +kernel
theorem dX5_read_27 : decode cX5_read 27 = .ok (.invokevirtual 32, 3) := by decide +kernel
theorem dX5_read_30 : decode cX5_read 30 = .ok (.aload_n 0, 1) := by decide +kernel
theorem dX5_read_31 : decode cX5_read 31 = .ok (.getfield 18, 3) := by decide +kernel
theorem dX5_read_34 : decode cX5_read 34 = .ok (.ifCond .ne 5, 3) := by decide +kernel
theorem dX5_read_37 : decode cX5_read 37 = .ok (.iload_n 1, 1) := by decide +kernel
theorem dX5_read_38 : decode cX5_read 38 = .ok (.ireturn, 1) := by decide +kernel
theorem dX5_read_39 : decode cX5_read 39 = .ok (.aload_n 0, 1) := by decide +kernel
theorem dX5_read_40 : decode cX5_read 40 = .ok (.getfield 18, 3) := by decide +kernel
theorem dX5_read_43 : decode cX5_read 43 = .ok (.iconst 3, 1) := by decide +kernel
theorem dX5_read_44 : decode cX5_read 44 = .ok (.if_icmp .eq 10, 3) := by decide +kernel
theorem dX5_read_47 : decode cX5_read 47 = .ok (.iconst (-1), 1) := by decide +kernel
theorem dX5_read_48 : decode cX5_read 48 = .ok (.aload_n 0, 1) := by decide +kernel
theorem dX5_read_49 : decode cX5_read 49 = .ok (.getfield 9, 3) := by decide +kernel
theorem dX5_read_52 : decode cX5_read 52 = .ok (.isub, 1) := by decide +kernel
theorem dX5_read_53 : decode cX5_read 53 = .ok (.ireturn, 1) := by decide +kernel
theorem dX5_read_54 : decode cX5_read 54 = .ok (.iinc 1 1, 3) := by decide +kernel
theorem dX5_read_57 : decode cX5_read 57 = .ok (.goto (-55), 3) := by decide +kernel
theorem dX5_read_60 : decode cX5_read 60 = .ok (.iconst (-1), 1) := by decide +kernel
theorem dX5_read_61 : decode cX5_read 61 = .ok (.aload_n 0, 1) := by decide +kernel
theorem dX5_read_62 : decode cX5_read 62 = .ok (.getfield 9, 3) := by decide +kernel
theorem dX5_read_65 : decode cX5_read 65 = .ok (.isub, 1) := by decide +kernel
theorem dX5_read_66 : decode cX5_read 66 = .ok (.ireturn, 1) := by decide +kernel
theorem i_RX5_35 {Z : qZ} {G : qG} {cc : ByteArray} {nL k n : Nat} {rm : Room} {ret : Option FieldType} {μ : qM} {pc : Nat} {L : List (Nat × Value)} {rest : List Value} {K : Int32 → qM → Prop} (C : qX Z G RX5 cc nL rm ret) (hn : 66 ≤ gn G) (hn7 : 67 ≤ gn G) (hR : (Nat.ble (9 + 1) rm.frames && Nat.ble (8 + (2 + 11) + 226) rm.locals) = true) (hf : k + 0 ≤ rm.cells ∧ n + 0 ≤ rm.slots) (hsz : Nat.ble (rest.map fun v => v.category).sum 8 = true) (hd : decode cc pc = .ok (.invokevirtual 35, 3)) (h : w_X5_isItem  K μ) (hk : ∀ (r : Int32) (μ1 : qM), K r μ1 → qV Z G nL k n μ1 (pc + 3) L (.int r :: rest)) : qV Z G nL k n μ pc L (.ref (ga G 66) :: rest) := x_Vi [] rest C 66 4 (wp := fun K => w_X5_isItem  K μ) (y_X5_isItem : qY yX5_isItem cX5_isItem 2 (some .boolean) 0 ({ frames := 9, cells := 0, slots := 0, locals := 226 } : Room) 0 0) (qm_39 _ (List.mem_of_getElem? (i := 1) rfl)) (qm_39 _ (List.mem_of_getElem? (i := 2) rfl)) (qm_39 _ (List.mem_of_getElem? (i := 0) rfl)) (c_X5_isItem Z.2.1 G hn hn7) hn7 rfl (by decide) rfl rfl hR hf rfl rfl hsz hd h hk
theorem b_X5_read_2 {Z : qZ} {G : qG} {v1 : Int32} {μ : qM} {post : Int32 → qM → Prop} (C : qX Z G RX5 cX5_read 2 ({ frames := 10, cells := 0, slots := 0, locals := 247 } : Room) (some .int)) (hQ : qQi Z G 0 0 post) (hn : 66 ≤ gn G) (hn7 : 67 ≤ gn G) (h : q_X5_read_2 post v1 μ) : qV Z G 2 0 0 μ 2 [(0, .ref (ga G 66)), (1, .int v1)] [] := by
  refine h (fun v1 μ => qV Z G 2 0 0 μ 2 [(0, .ref (ga G 66)), (1, .int v1)] []) (fun v1 μ h => ?_)
  refine x_iload_n C 1 dX5_read_2 rfl rfl ?_
  refine x_bipush C dX5_read_3 (v := 120) (by decide) ?_
  refine x_icmp_gt C dX5_read_5 (tgt := 60) (by decide) h (fun h => ?_) (fun h => ?_)
  · refine x_iconst C dX5_read_60 (v := -1) (by decide) ?_
    refine x_aload_n C 0 dX5_read_61 rfl rfl ?_
    refine g_RX5_9 C hn7 dX5_read_62 ?_
    refine x_isub C dX5_read_65 ?_
    exact x_iret C hQ dX5_read_66 h
  · refine x_aload_n C 0 dX5_read_8 rfl rfl ?_
    refine i_RX5_32 (rest := []) C hn hn7 rfl (by decide) rfl dX5_read_9 h (fun μ9 h => ?_)
    refine x_aload_n C 0 dX5_read_12 rfl rfl ?_
    refine i_RX5_35 (rest := []) C hn hn7 rfl (by decide) rfl dX5_read_13 h (fun r13 μ13 h => ?_)
    refine x_if_ne C dX5_read_16 (tgt := 26) (by decide) h (fun h => ?_) (fun h => ?_)
    · refine x_aload_n C 0 dX5_read_26 rfl rfl ?_
      refine i_RX5_32 (rest := []) C hn hn7 rfl (by decide) rfl dX5_read_27 h (fun μ27 h => ?_)
      refine x_aload_n C 0 dX5_read_30 rfl rfl ?_
      refine g_RX5_18 C hn7 dX5_read_31 ?_
      refine x_if_ne C dX5_read_34 (tgt := 39) (by decide) h (fun h => ?_) (fun h => ?_)
      · refine x_aload_n C 0 dX5_read_39 rfl rfl ?_
        refine g_RX5_18 C hn7 dX5_read_40 ?_
        refine x_iconst C dX5_read_43 (v := 3) (by decide) ?_
        refine x_icmp_eq C dX5_read_44 (tgt := 54) (by decide) h (fun h => ?_) (fun h => ?_)
        · refine x_iinc C 1 (v := 1) (L' := [(1, .int ((v1 + 1))), (0, .ref (ga G 66))]) dX5_read_54 rfl (by decide) (by decide) rfl ?_
          refine x_goto C dX5_read_57 (tgt := 2) (by decide) ?_
          exact qV_sub [1, 0] rfl (h)
        · refine x_iconst C dX5_read_47 (v := -1) (by decide) ?_
          refine x_aload_n C 0 dX5_read_48 rfl rfl ?_
          refine g_RX5_9 C hn7 dX5_read_49 ?_
          refine x_isub C dX5_read_52 ?_
          exact x_iret C hQ dX5_read_53 h
      · refine x_iload_n C 1 dX5_read_37 rfl rfl ?_
        exact x_iret C hQ dX5_read_38 h
    · refine x_iconst C dX5_read_19 (v := -1) (by decide) ?_
      refine x_aload_n C 0 dX5_read_20 rfl rfl ?_
      refine g_RX5_9 C hn7 dX5_read_21 ?_
      refine x_isub C dX5_read_24 ?_
      exact x_iret C hQ dX5_read_25 h
theorem y_X5_read : qY yX5_read cX5_read 2 (some .int) 0 ({ frames := 10, cells := 0, slots := 0, locals := 247 } : Room) 0 0 := ⟨(qm_38 _ (List.mem_of_getElem? (i := 7) rfl)), (qm_37 _ (List.mem_of_getElem? (i := 17) rfl)), by decide +kernel, by decide +kernel, rfl, rfl⟩
theorem c_X5_read (l : Launch) (G : qG) {μ : qM} (hn : 66 ≤ gn G) (hn7 : 67 ≤ gn G) : qCi l G yX5_read cX5_read 2 (some .int) ({ frames := 10, cells := 0, slots := 0, locals := 247 } : Room) 0 0 [.ref (ga G 66)] μ (fun post => w_X5_read  post μ) := by
  refine qCi_of (L := [(0, .ref (ga G 66))]) (by decide) rfl rfl ?_
  intro Z post hl C hQ h
  have C : qX Z G RX5 cX5_read 2 ({ frames := 10, cells := 0, slots := 0, locals := 247 } : Room) (some .int) := C
  have h : w_X5_read  post μ := h
  unfold w_X5_read at h
  refine x_iconst C dX5_read_0 (v := 1) (by decide) ?_
  refine x_istore_n C (L' := [(1, .int ((1 : Int32))), (0, .ref (ga G 66))]) dX5_read_1 rfl (by decide) rfl ?_
  exact qV_sub [1, 0] rfl (b_X5_read_2 C hQ hn hn7 h)
