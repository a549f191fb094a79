set_option maxRecDepth 20000 in
set_option maxHeartbeats 4000000 in
theorem lwc_34 {Z : qZ} {G : qG} {k n : Nat} {μ : qM} {b Ls i : Nat} {xs : Nat → Int32} (C : qX Z G RL cL_law 4 room_1 ret) (S : lwS Z G b Ls xs) (hn : gn G = 66) (hi : i + 6 ≤ Ls) (hk : k + 1 ≤ 600000 ∧ n + 6 ≤ 7302250) (hR : RI μ) (h1 : ∀ μ', RI μ' → qV Z G 4 (k + 1) (n + 6) μ' 1521 (lwL G b i) []) : qV Z G 4 k n μ 1116 (lwL G b i) [] := by
  have h66 : 66 ≤ gn G := by omega
  have h := op_feed (xs (i + 1)) (xs (i + 2)) μ hR
  refine x_aload_n C 1 dL_law_1116 rfl rfl ?_
  refine x_arg C S hi 1 (w := 1) (by decide) dL_law_1117 dL_law_1118 dL_law_1119 (by decide) rfl dL_law_1120 dL_law_1121 ?_
  refine x_arg C S hi 2 (w := 2) (by decide) dL_law_1122 dL_law_1123 dL_law_1124 (by decide) rfl dL_law_1125 dL_law_1126 ?_
  refine x_Vi [.int (xs (i + 1)), .int (xs (i + 2))] [] C 0 9 (wp := fun K => w_X10_feed (xs (i + 1)) (xs (i + 2)) K μ) y_X10_feed (qm_36 _ (List.mem_of_getElem? (i := 7) rfl)) (qm_36 _ (List.mem_of_getElem? (i := 8) rfl)) (qm_36 _ (List.mem_of_getElem? (i := 6) rfl)) (c_X10_feed Z.2.1 G h66) (Nat.lt_of_lt_of_le (by decide) h66) rfl (by decide) rfl rfl rfl ⟨by show k + 0 + 0 ≤ 600000; omega, by show n + 0 + 0 ≤ 7302250; omega⟩ rfl rfl rfl dL_law_1127 h (fun r μ1 h => ?_)
  refine x_aload_n C 2 dL_law_1130 rfl rfl ?_
  refine x_arg C S hi 1 (w := 1) (by decide) dL_law_1131 dL_law_1132 dL_law_1133 (by decide) rfl dL_law_1134 dL_law_1135 ?_
  refine x_arg C S hi 2 (w := 2) (by decide) dL_law_1136 dL_law_1137 dL_law_1138 (by decide) rfl dL_law_1139 dL_law_1140 ?_
  refine x_Vi [.int (xs (i + 1)), .int (xs (i + 2))] [.int r] C 46 10 (wp := fun K => w_X11_feed (xs (i + 1)) (xs (i + 2)) K μ1) y_X11_feed (qm_36 _ (List.mem_of_getElem? (i := 19) rfl)) (qm_36 _ (List.mem_of_getElem? (i := 20) rfl)) (qm_36 _ (List.mem_of_getElem? (i := 18) rfl)) (c_X11_feed Z.2.1 G h66) (Nat.lt_of_lt_of_le (by decide) h66) rfl (by decide) rfl rfl rfl ⟨by show k + 0 + 0 ≤ 600000; omega, by show n + 0 + 0 ≤ 7302250; omega⟩ rfl rfl rfl dL_law_1141 h (fun r' μ2 h => ?_)
  refine x_icmp_eq C dL_law_1144 (tgt := 1521) (A := True) (B := False) (by decide) ⟨fun _ => trivial, fun q => q h.1⟩ (fun _ => ?_) (fun q => q.elim)
  exact x_widen (Nat.le_add_right k 1) (Nat.le_add_right n 6) (h1 _ h.2)
set_option maxRecDepth 20000 in
set_option maxHeartbeats 4000000 in
theorem lwc_35 {Z : qZ} {G : qG} {k n : Nat} {μ : qM} {b Ls i : Nat} {xs : Nat → Int32} (C : qX Z G RL cL_law 4 room_1 ret) (S : lwS Z G b Ls xs) (hn : gn G = 66) (hi : i + 6 ≤ Ls) (hk : k + 1 ≤ 600000 ∧ n + 6 ≤ 7302250) (hR : RI μ) (h1 : ∀ μ', RI μ' → qV Z G 4 (k + 1) (n + 6) μ' 1521 (lwL G b i) []) : qV Z G 4 k n μ 1149 (lwL G b i) [] := by
  have h66 : 66 ≤ gn G := by omega
  have h := op_wipe  μ hR
  refine x_aload_n C 1 dL_law_1149 rfl rfl ?_
  refine x_Vi [] [] C 0 9 (wp := fun K => w_X10_wipe  K μ) y_X10_wipe (qm_37 _ (List.mem_of_getElem? (i := 0) rfl)) (qm_37 _ (List.mem_of_getElem? (i := 1) rfl)) (qm_36 _ (List.mem_of_getElem? (i := 23) rfl)) (c_X10_wipe Z.2.1 G h66) (Nat.lt_of_lt_of_le (by decide) h66) rfl (by decide) rfl rfl rfl ⟨by show k + 0 + 0 ≤ 600000; omega, by show n + 0 + 0 ≤ 7302250; omega⟩ rfl rfl rfl dL_law_1150 h (fun r μ1 h => ?_)
  refine x_aload_n C 2 dL_law_1153 rfl rfl ?_
  refine x_Vi [] [.int r] C 46 10 (wp := fun K => w_X11_wipe  K μ1) y_X11_wipe (qm_37 _ (List.mem_of_getElem? (i := 8) rfl)) (qm_37 _ (List.mem_of_getElem? (i := 9) rfl)) (qm_37 _ (List.mem_of_getElem? (i := 7) rfl)) (c_X11_wipe Z.2.1 G h66) (Nat.lt_of_lt_of_le (by decide) h66) rfl (by decide) rfl rfl rfl ⟨by show k + 0 + 0 ≤ 600000; omega, by show n + 0 + 0 ≤ 7302250; omega⟩ rfl rfl rfl dL_law_1154 h (fun r' μ2 h => ?_)
  refine x_icmp_eq C dL_law_1157 (tgt := 1521) (A := True) (B := False) (by decide) ⟨fun _ => trivial, fun q => q h.1⟩ (fun _ => ?_) (fun q => q.elim)
  exact x_widen (Nat.le_add_right k 1) (Nat.le_add_right n 6) (h1 _ h.2)
set_option maxRecDepth 20000 in
set_option maxHeartbeats 4000000 in
theorem lwc_36 {Z : qZ} {G : qG} {k n : Nat} {μ : qM} {b Ls i : Nat} {xs : Nat → Int32} (C : qX Z G RL cL_law 4 room_1 ret) (S : lwS Z G b Ls xs) (hn : gn G = 66) (hi : i + 6 ≤ Ls) (hk : k + 1 ≤ 600000 ∧ n + 6 ≤ 7302250) (hR : RI μ) (h1 : ∀ μ', RI μ' → qV Z G 4 (k + 1) (n + 6) μ' 1521 (lwL G b i) []) : qV Z G 4 k n μ 1162 (lwL G b i) [] := by
  have h66 : 66 ≤ gn G := by omega
  have h := op_text  μ hR
  refine x_aload_n C 1 dL_law_1162 rfl rfl ?_
  refine x_Vi [] [] C 0 9 (wp := fun K => w_X10_text  K μ) y_X10_text (qm_37 _ (List.mem_of_getElem? (i := 12) rfl)) (qm_37 _ (List.mem_of_getElem? (i := 13) rfl)) (qm_37 _ (List.mem_of_getElem? (i := 11) rfl)) (c_X10_text Z.2.1 G hn) (Nat.lt_of_lt_of_le (by decide) h66) rfl (by decide) rfl rfl rfl ⟨by show k + 1 ≤ 600000; omega, by show n + 6 ≤ 7302250; omega⟩ rfl rfl rfl dL_law_1163 h (fun r μ1 h => ?_)
  refine x_aload_n C 2 dL_law_1166 rfl rfl ?_
  refine x_Vi [] [.int r] C 46 10 (wp := fun K => w_X11_text  K μ1) y_X11_text (qm_42 _ (List.mem_of_getElem? (i := 15) rfl)) (qm_42 _ (List.mem_of_getElem? (i := 16) rfl)) (qm_42 _ (List.mem_of_getElem? (i := 14) rfl)) (c_X11_text Z.2.1 G h66) (Nat.lt_of_lt_of_le (by decide) h66) rfl (by decide) rfl rfl rfl ⟨by show k + 1 + 0 ≤ 600000; omega, by show n + 6 + 0 ≤ 7302250; omega⟩ rfl rfl rfl dL_law_1167 h (fun r' μ2 h => ?_)
  refine x_icmp_eq C dL_law_1170 (tgt := 1521) (A := True) (B := False) (by decide) ⟨fun _ => trivial, fun q => q h.1⟩ (fun _ => ?_) (fun q => q.elim)
  exact h1 _ h.2
set_option maxRecDepth 20000 in
set_option maxHeartbeats 4000000 in
theorem lwc_37 {Z : qZ} {G : qG} {k n : Nat} {μ : qM} {b Ls i : Nat} {xs : Nat → Int32} (C : qX Z G RL cL_law 4 room_1 ret) (S : lwS Z G b Ls xs) (hn : gn G = 66) (hi : i + 6 ≤ Ls) (hk : k + 1 ≤ 600000 ∧ n + 6 ≤ 7302250) (hR : RI μ) (h1 : ∀ μ', RI μ' → qV Z G 4 (k + 1) (n + 6) μ' 1521 (lwL G b i) []) : qV Z G 4 k n μ 1175 (lwL G b i) [] := by
  have h66 : 66 ≤ gn G := by omega
  have h := op_hold (xs (i + 1)) (xs (i + 2)) μ hR
  refine x_aload_n C 1 dL_law_1175 rfl rfl ?_
  refine x_arg C S hi 1 (w := 1) (by decide) dL_law_1176 dL_law_1177 dL_law_1178 (by decide) rfl dL_law_1179 dL_law_1180 ?_
  refine x_arg C S hi 2 (w := 2) (by decide) dL_law_1181 dL_law_1182 dL_law_1183 (by decide) rfl dL_law_1184 dL_law_1185 ?_
  refine x_Vi [.int (xs (i + 1)), .int (xs (i + 2))] [] C 0 9 (wp := fun K => w_X10_hold (xs (i + 1)) (xs (i + 2)) K μ) y_X10_hold (qm_44 _ (List.mem_of_getElem? (i := 23) rfl)) (qm_45 _ (List.mem_of_getElem? (i := 0) rfl)) (qm_44 _ (List.mem_of_getElem? (i := 22) rfl)) (c_X10_hold Z.2.1 G h66) (Nat.lt_of_lt_of_le (by decide) h66) rfl (by decide) rfl rfl rfl ⟨by show k + 0 + 0 ≤ 600000; omega, by show n + 0 + 0 ≤ 7302250; omega⟩ rfl rfl rfl dL_law_1186 h (fun r μ1 h => ?_)
  refine x_aload_n C 2 dL_law_1189 rfl rfl ?_
  refine x_arg C S hi 1 (w := 1) (by decide) dL_law_1190 dL_law_1191 dL_law_1192 (by decide) rfl dL_law_1193 dL_law_1194 ?_
  refine x_arg C S hi 2 (w := 2) (by decide) dL_law_1195 dL_law_1196 dL_law_1197 (by decide) rfl dL_law_1198 dL_law_1199 ?_
  refine x_Vi [.int (xs (i + 1)), .int (xs (i + 2))] [.int r] C 46 10 (wp := fun K => w_X11_hold (xs (i + 1)) (xs (i + 2)) K μ1) y_X11_hold (qm_45 _ (List.mem_of_getElem? (i := 10) rfl)) (qm_45 _ (List.mem_of_getElem? (i := 11) rfl)) (qm_45 _ (List.mem_of_getElem? (i := 9) rfl)) (c_X11_hold Z.2.1 G h66) (Nat.lt_of_lt_of_le (by decide) h66) rfl (by decide) rfl rfl rfl ⟨by show k + 0 + 0 ≤ 600000; omega, by show n + 0 + 0 ≤ 7302250; omega⟩ rfl rfl rfl dL_law_1200 h (fun r' μ2 h => ?_)
  refine x_icmp_eq C dL_law_1203 (tgt := 1521) (A := True) (B := False) (by decide) ⟨fun _ => trivial, fun q => q h.1⟩ (fun _ => ?_) (fun q => q.elim)
  exact x_widen (Nat.le_add_right k 1) (Nat.le_add_right n 6) (h1 _ h.2)
set_option maxRecDepth 20000 in
set_option maxHeartbeats 4000000 in
theorem lwc_38 {Z : qZ} {G : qG} {k n : Nat} {μ : qM} {b Ls i : Nat} {xs : Nat → Int32} (C : qX Z G RL cL_law 4 room_1 ret) (S : lwS Z G b Ls xs) (hn : gn G = 66) (hi : i + 6 ≤ Ls) (hk : k + 1 ≤ 600000 ∧ n + 6 ≤ 7302250) (hR : RI μ) (h1 : ∀ μ', RI μ' → qV Z G 4 (k + 1) (n + 6) μ' 1521 (lwL G b i) []) : qV Z G 4 k n μ 1208 (lwL G b i) [] := by
  have h66 : 66 ≤ gn G := by omega
  have h := op_as (xs (i + 1)) (xs (i + 2)) μ hR
  refine x_aload_n C 1 dL_law_1208 rfl rfl ?_
  refine x_arg C S hi 1 (w := 1) (by decide) dL_law_1209 dL_law_1210 dL_law_1211 (by decide) rfl dL_law_1212 dL_law_1213 ?_
  refine x_arg C S hi 2 (w := 2) (by decide) dL_law_1214 dL_law_1215 dL_law_1216 (by decide) rfl dL_law_1217 dL_law_1218 ?_
  refine x_Vi [.int (xs (i + 1)), .int (xs (i + 2))] [] C 0 9 (wp := fun K => w_X10_as (xs (i + 1)) (xs (i + 2)) K μ) y_X10_as (qm_45 _ (List.mem_of_getElem? (i := 14) rfl)) (qm_45 _ (List.mem_of_getElem? (i := 15) rfl)) (qm_45 _ (List.mem_of_getElem? (i := 13) rfl)) (c_X10_as Z.2.1 G h66) (Nat.lt_of_lt_of_le (by decide) h66) rfl (by decide) rfl rfl rfl ⟨by show k + 0 + 0 ≤ 600000; omega, by show n + 0 + 0 ≤ 7302250; omega⟩ rfl rfl rfl dL_law_1219 h (fun r μ1 h => ?_)
  refine x_aload_n C 2 dL_law_1222 rfl rfl ?_
  refine x_arg C S hi 1 (w := 1) (by decide) dL_law_1223 dL_law_1224 dL_law_1225 (by decide) rfl dL_law_1226 dL_law_1227 ?_
  refine x_arg C S hi 2 (w := 2) (by decide) dL_law_1228 dL_law_1229 dL_law_1230 (by decide) rfl dL_law_1231 dL_law_1232 ?_
  refine x_Vi [.int (xs (i + 1)), .int (xs (i + 2))] [.int r] C 46 10 (wp := fun K => w_X11_as (xs (i + 1)) (xs (i + 2)) K μ1) y_X11_as (qm_46 _ (List.mem_of_getElem? (i := 6) rfl)) (qm_46 _ (List.mem_of_getElem? (i := 7) rfl)) (qm_46 _ (List.mem_of_getElem? (i := 5) rfl)) (c_X11_as Z.2.1 G h66) (Nat.lt_of_lt_of_le (by decide) h66) rfl (by decide) rfl rfl rfl ⟨by show k + 0 + 0 ≤ 600000; omega, by show n + 0 + 0 ≤ 7302250; omega⟩ rfl rfl rfl dL_law_1233 h (fun r' μ2 h => ?_)
  refine x_icmp_eq C dL_law_1236 (tgt := 1521) (A := True) (B := False) (by decide) ⟨fun _ => trivial, fun q => q h.1⟩ (fun _ => ?_) (fun q => q.elim)
  exact x_widen (Nat.le_add_right k 1) (Nat.le_add_right n 6) (h1 _ h.2)
set_option maxRecDepth 20000 in
set_option maxHeartbeats 4000000 in
theorem lwc_39 {Z : qZ} {G : qG} {k n : Nat} {μ : qM} {b Ls i : Nat} {xs : Nat → Int32} (C : qX Z G RL cL_law 4 room_1 ret) (S : lwS Z G b Ls xs) (hn : gn G = 66) (hi : i + 6 ≤ Ls) (hk : k + 1 ≤ 600000 ∧ n + 6 ≤ 7302250) (hR : RI μ) (h1 : ∀ μ', RI μ' → qV Z G 4 (k + 1) (n + 6) μ' 1521 (lwL G b i) []) : qV Z G 4 k n μ 1241 (lwL G b i) [] := by
  have h66 : 66 ≤ gn G := by omega
  have h := op_sheet (xs (i + 1)) (xs (i + 2)) (xs (i + 3)) μ hR
  refine x_aload_n C 1 dL_law_1241 rfl rfl ?_
  refine x_arg C S hi 1 (w := 1) (by decide) dL_law_1242 dL_law_1243 dL_law_1244 (by decide) rfl dL_law_1245 dL_law_1246 ?_
  refine x_arg C S hi 2 (w := 2) (by decide) dL_law_1247 dL_law_1248 dL_law_1249 (by decide) rfl dL_law_1250 dL_law_1251 ?_
  refine x_arg C S hi 3 (w := 3) (by decide) dL_law_1252 dL_law_1253 dL_law_1254 (by decide) rfl dL_law_1255 dL_law_1256 ?_
  refine x_Vi [.int (xs (i + 1)), .int (xs (i + 2)), .int (xs (i + 3))] [] C 0 9 (wp := fun K => w_X10_sheet (xs (i + 1)) (xs (i + 2)) (xs (i + 3)) K μ) y_X10_sheet (qm_46 _ (List.mem_of_getElem? (i := 16) rfl)) (qm_46 _ (List.mem_of_getElem? (i := 17) rfl)) (qm_46 _ (List.mem_of_getElem? (i := 15) rfl)) (c_X10_sheet Z.2.1 G h66) (Nat.lt_of_lt_of_le (by decide) h66) rfl (by decide) rfl rfl rfl ⟨by show k + 0 + 0 ≤ 600000; omega, by show n + 0 + 0 ≤ 7302250; omega⟩ rfl rfl rfl dL_law_1257 h (fun r μ1 h => ?_)
  refine x_aload_n C 2 dL_law_1260 rfl rfl ?_
  refine x_arg C S hi 1 (w := 1) (by decide) dL_law_1261 dL_law_1262 dL_law_1263 (by decide) rfl dL_law_1264 dL_law_1265 ?_
  refine x_arg C S hi 2 (w := 2) (by decide) dL_law_1266 dL_law_1267 dL_law_1268 (by decide) rfl dL_law_1269 dL_law_1270 ?_
  refine x_arg C S hi 3 (w := 3) (by decide) dL_law_1271 dL_law_1272 dL_law_1273 (by decide) rfl dL_law_1274 dL_law_1275 ?_
  refine x_Vi [.int (xs (i + 1)), .int (xs (i + 2)), .int (xs (i + 3))] [.int r] C 46 10 (wp := fun K => w_X11_sheet (xs (i + 1)) (xs (i + 2)) (xs (i + 3)) K μ1) y_X11_sheet (qm_47 _ (List.mem_of_getElem? (i := 10) rfl)) (qm_47 _ (List.mem_of_getElem? (i := 11) rfl)) (qm_47 _ (List.mem_of_getElem? (i := 9) rfl)) (c_X11_sheet Z.2.1 G h66) (Nat.lt_of_lt_of_le (by decide) h66) rfl (by decide) rfl rfl rfl ⟨by show k + 0 + 0 ≤ 600000; omega, by show n + 0 + 0 ≤ 7302250; omega⟩ rfl rfl rfl dL_law_1276 h (fun r' μ2 h => ?_)
  refine x_icmp_eq C dL_law_1279 (tgt := 1521) (A := True) (B := False) (by decide) ⟨fun _ => trivial, fun q => q h.1⟩ (fun _ => ?_) (fun q => q.elim)
  exact x_widen (Nat.le_add_right k 1) (Nat.le_add_right n 6) (h1 _ h.2)
set_option maxRecDepth 20000 in
set_option maxHeartbeats 4000000 in
theorem lwc_40 {Z : qZ} {G : qG} {k n : Nat} {μ : qM} {b Ls i : Nat} {xs : Nat → Int32} (C : qX Z G RL cL_law 4 room_1 ret) (S : lwS Z G b Ls xs) (hn : gn G = 66) (hi : i + 6 ≤ Ls) (hk : k + 1 ≤ 600000 ∧ n + 6 ≤ 7302250) (hR : RI μ) (h1 : ∀ μ', RI μ' → qV Z G 4 (k + 1) (n + 6) μ' 1521 (lwL G b i) []) : qV Z G 4 k n μ 1284 (lwL G b i) [] := by
  have h66 : 66 ≤ gn G := by omega
  have h := op_write (xs (i + 1)) (xs (i + 2)) (xs (i + 3)) μ hR
  refine x_aload_n C 1 dL_law_1284 rfl rfl ?_
  refine x_arg C S hi 1 (w := 1) (by decide) dL_law_1285 dL_law_1286 dL_law_1287 (by decide) rfl dL_law_1288 dL_law_1289 ?_
  refine x_arg C S hi 2 (w := 2) (by decide) dL_law_1290 dL_law_1291 dL_law_1292 (by decide) rfl dL_law_1293 dL_law_1294 ?_
  refine x_arg C S hi 3 (w := 3) (by decide) dL_law_1295 dL_law_1296 dL_law_1297 (by decide) rfl dL_law_1298 dL_law_1299 ?_
  refine x_Vi [.int (xs (i + 1)), .int (xs (i + 2)), .int (xs (i + 3))] [] C 0 9 (wp := fun K => w_X10_write (xs (i + 1)) (xs (i + 2)) (xs (i + 3)) K μ) y_X10_write (qm_47 _ (List.mem_of_getElem? (i := 17) rfl)) (qm_47 _ (List.mem_of_getElem? (i := 18) rfl)) (qm_47 _ (List.mem_of_getElem? (i := 16) rfl)) (c_X10_write Z.2.1 G h66) (Nat.lt_of_lt_of_le (by decide) h66) rfl (by decide) rfl rfl rfl ⟨by show k + 0 + 0 ≤ 600000; omega, by show n + 0 + 0 ≤ 7302250; omega⟩ rfl rfl rfl dL_law_1300 h (fun r μ1 h => ?_)
  refine x_aload_n C 2 dL_law_1303 rfl rfl ?_
  refine x_arg C S hi 1 (w := 1) (by decide) dL_law_1304 dL_law_1305 dL_law_1306 (by decide) rfl dL_law_1307 dL_law_1308 ?_
  refine x_arg C S hi 2 (w := 2) (by decide) dL_law_1309 dL_law_1310 dL_law_1311 (by decide) rfl dL_law_1312 dL_law_1313 ?_
  refine x_arg C S hi 3 (w := 3) (by decide) dL_law_1314 dL_law_1315 dL_law_1316 (by decide) rfl dL_law_1317 dL_law_1318 ?_
  refine x_Vi [.int (xs (i + 1)), .int (xs (i + 2)), .int (xs (i + 3))] [.int r] C 46 10 (wp := fun K => w_X11_write (xs (i + 1)) (xs (i + 2)) (xs (i + 3)) K μ1) y_X11_write (qm_48 _ (List.mem_of_getElem? (i := 5) rfl)) (qm_48 _ (List.mem_of_getElem? (i := 6) rfl)) (qm_48 _ (List.mem_of_getElem? (i := 4) rfl)) (c_X11_write Z.2.1 G h66) (Nat.lt_of_lt_of_le (by decide) h66) rfl (by decide) rfl rfl rfl ⟨by show k + 0 + 0 ≤ 600000; omega, by show n + 0 + 0 ≤ 7302250; omega⟩ rfl rfl rfl dL_law_1319 h (fun r' μ2 h => ?_)
  refine x_icmp_eq C dL_law_1322 (tgt := 1521) (A := True) (B := False) (by decide) ⟨fun _ => trivial, fun q => q h.1⟩ (fun _ => ?_) (fun q => q.elim)
  exact x_widen (Nat.le_add_right k 1) (Nat.le_add_right n 6) (h1 _ h.2)
set_option maxRecDepth 20000 in
set_option maxHeartbeats 4000000 in
theorem lwc_41 {Z : qZ} {G : qG} {k n : Nat} {μ : qM} {b Ls i : Nat} {xs : Nat → Int32} (C : qX Z G RL cL_law 4 room_1 ret) (S : lwS Z G b Ls xs) (hn : gn G = 66) (hi : i + 6 ≤ Ls) (hk : k + 1 ≤ 600000 ∧ n + 6 ≤ 7302250) (hR : RI μ) (h1 : ∀ μ', RI μ' → qV Z G 4 (k + 1) (n + 6) μ' 1521 (lwL G b i) []) : qV Z G 4 k n μ 1327 (lwL G b i) [] := by
  have h66 : 66 ≤ gn G := by omega
  have h := op_copy (xs (i + 1)) (xs (i + 2)) (xs (i + 3)) (xs (i + 4)) (xs (i + 5)) μ hR
  refine x_aload_n C 1 dL_law_1327 rfl rfl ?_
  refine x_arg C S hi 1 (w := 1) (by decide) dL_law_1328 dL_law_1329 dL_law_1330 (by decide) rfl dL_law_1331 dL_law_1332 ?_
  refine x_arg C S hi 2 (w := 2) (by decide) dL_law_1333 dL_law_1334 dL_law_1335 (by decide) rfl dL_law_1336 dL_law_1337 ?_
  refine x_arg C S hi 3 (w := 3) (by decide) dL_law_1338 dL_law_1339 dL_law_1340 (by decide) rfl dL_law_1341 dL_law_1342 ?_
  refine x_arg C S hi 4 (w := 4) (by decide) dL_law_1343 dL_law_1344 dL_law_1345 (by decide) rfl dL_law_1346 dL_law_1347 ?_
  refine x_arg C S hi 5 (w := 5) (by decide) dL_law_1348 dL_law_1349 dL_law_1350 (by decide) rfl dL_law_1351 dL_law_1352 ?_
  refine x_Vi [.int (xs (i + 1)), .int (xs (i + 2)), .int (xs (i + 3)), .int (xs (i + 4)), .int (xs (i + 5))] [] C 0 9 (wp := fun K => w_X10_copy (xs (i + 1)) (xs (i + 2)) (xs (i + 3)) (xs (i + 4)) (xs (i + 5)) K μ) y_X10_copy (qm_48 _ (List.mem_of_getElem? (i := 16) rfl)) (qm_48 _ (List.mem_of_getElem? (i := 17) rfl)) (qm_48 _ (List.mem_of_getElem? (i := 15) rfl)) (c_X10_copy Z.2.1 G h66) (Nat.lt_of_lt_of_le (by decide) h66) rfl (by decide) rfl rfl rfl ⟨by show k + 0 + 0 ≤ 600000; omega, by show n + 0 + 0 ≤ 7302250; omega⟩ rfl rfl rfl dL_law_1353 h (fun r μ1 h => ?_)
  refine x_aload_n C 2 dL_law_1356 rfl rfl ?_
  refine x_arg C S hi 1 (w := 1) (by decide) dL_law_1357 dL_law_1358 dL_law_1359 (by decide) rfl dL_law_1360 dL_law_1361 ?_
  refine x_arg C S hi 2 (w := 2) (by decide) dL_law_1362 dL_law_1363 dL_law_1364 (by decide) rfl dL_law_1365 dL_law_1366 ?_
  refine x_arg C S hi 3 (w := 3) (by decide) dL_law_1367 dL_law_1368 dL_law_1369 (by decide) rfl dL_law_1370 dL_law_1371 ?_
  refine x_arg C S hi 4 (w := 4) (by decide) dL_law_1372 dL_law_1373 dL_law_1374 (by decide) rfl dL_law_1375 dL_law_1376 ?_
  refine x_arg C S hi 5 (w := 5) (by decide) dL_law_1377 dL_law_1378 dL_law_1379 (by decide) rfl dL_law_1380 dL_law_1381 ?_
  refine x_Vi [.int (xs (i + 1)), .int (xs (i + 2)), .int (xs (i + 3)), .int (xs (i + 4)), .int (xs (i + 5))] [.int r] C 46 10 (wp := fun K => w_X11_copy (xs (i + 1)) (xs (i + 2)) (xs (i + 3)) (xs (i + 4)) (xs (i + 5)) K μ1) y_X11_copy (qm_49 _ (List.mem_of_getElem? (i := 10) rfl)) (qm_49 _ (List.mem_of_getElem? (i := 11) rfl)) (qm_49 _ (List.mem_of_getElem? (i := 9) rfl)) (c_X11_copy Z.2.1 G h66) (Nat.lt_of_lt_of_le (by decide) h66) rfl (by decide) rfl rfl rfl ⟨by show k + 0 + 0 ≤ 600000; omega, by show n + 0 + 0 ≤ 7302250; omega⟩ rfl rfl rfl dL_law_1382 h (fun r' μ2 h => ?_)
  refine x_icmp_eq C dL_law_1385 (tgt := 1521) (A := True) (B := False) (by decide) ⟨fun _ => trivial, fun q => q h.1⟩ (fun _ => ?_) (fun q => q.elim)
  exact x_widen (Nat.le_add_right k 1) (Nat.le_add_right n 6) (h1 _ h.2)
set_option maxRecDepth 20000 in
set_option maxHeartbeats 4000000 in
theorem lwc_42 {Z : qZ} {G : qG} {k n : Nat} {μ : qM} {b Ls i : Nat} {xs : Nat → Int32} (C : qX Z G RL cL_law 4 room_1 ret) (S : lwS Z G b Ls xs) (hn : gn G = 66) (hi : i + 6 ≤ Ls) (hk : k + 1 ≤ 600000 ∧ n + 6 ≤ 7302250) (hR : RI μ) (h1 : ∀ μ', RI μ' → qV Z G 4 (k + 1) (n + 6) μ' 1521 (lwL G b i) []) : qV Z G 4 k n μ 1390 (lwL G b i) [] := by
  have h66 : 66 ≤ gn G := by omega
  have h := op_load (xs (i + 1)) μ hR
  refine x_aload_n C 1 dL_law_1390 rfl rfl ?_
  refine x_arg C S hi 1 (w := 1) (by decide) dL_law_1391 dL_law_1392 dL_law_1393 (by decide) rfl dL_law_1394 dL_law_1395 ?_
  refine x_Vi [.int (xs (i + 1))] [] C 0 9 (wp := fun K => w_X10_load (xs (i + 1)) K μ) y_X10_load (qm_49 _ (List.mem_of_getElem? (i := 14) rfl)) (qm_49 _ (List.mem_of_getElem? (i := 15) rfl)) (qm_49 _ (List.mem_of_getElem? (i := 13) rfl)) (c_X10_load Z.2.1 G h66) (Nat.lt_of_lt_of_le (by decide) h66) rfl (by decide) rfl rfl rfl ⟨by show k + 0 + 0 ≤ 600000; omega, by show n + 0 + 0 ≤ 7302250; omega⟩ rfl rfl rfl dL_law_1396 h (fun r μ1 h => ?_)
  refine x_aload_n C 2 dL_law_1399 rfl rfl ?_
  refine x_arg C S hi 1 (w := 1) (by decide) dL_law_1400 dL_law_1401 dL_law_1402 (by decide) rfl dL_law_1403 dL_law_1404 ?_
  refine x_Vi [.int (xs (i + 1))] [.int r] C 46 10 (wp := fun K => w_X11_load (xs (i + 1)) K μ1) y_X11_load (qm_49 _ (List.mem_of_getElem? (i := 22) rfl)) (qm_49 _ (List.mem_of_getElem? (i := 23) rfl)) (qm_49 _ (List.mem_of_getElem? (i := 21) rfl)) (c_X11_load Z.2.1 G h66) (Nat.lt_of_lt_of_le (by decide) h66) rfl (by decide) rfl rfl rfl ⟨by show k + 0 + 0 ≤ 600000; omega, by show n + 0 + 0 ≤ 7302250; omega⟩ rfl rfl rfl dL_law_1405 h (fun r' μ2 h => ?_)
  refine x_icmp_eq C dL_law_1408 (tgt := 1521) (A := True) (B := False) (by decide) ⟨fun _ => trivial, fun q => q h.1⟩ (fun _ => ?_) (fun q => q.elim)
  exact x_widen (Nat.le_add_right k 1) (Nat.le_add_right n 6) (h1 _ h.2)
set_option maxRecDepth 20000 in
set_option maxHeartbeats 4000000 in
theorem lwc_43 {Z : qZ} {G : qG} {k n : Nat} {μ : qM} {b Ls i : Nat} {xs : Nat → Int32} (C : qX Z G RL cL_law 4 room_1 ret) (S : lwS Z G b Ls xs) (hn : gn G = 66) (hi : i + 6 ≤ Ls) (hk : k + 1 ≤ 600000 ∧ n + 6 ≤ 7302250) (hR : RI μ) (h1 : ∀ μ', RI μ' → qV Z G 4 (k + 1) (n + 6) μ' 1521 (lwL G b i) []) : qV Z G 4 k n μ 1413 (lwL G b i) [] := by
  have h66 : 66 ≤ gn G := by omega
  have h := op_judge (xs (i + 1)) μ hR
  refine x_aload_n C 1 dL_law_1413 rfl rfl ?_
  refine x_arg C S hi 1 (w := 1) (by decide) dL_law_1414 dL_law_1415 dL_law_1416 (by decide) rfl dL_law_1417 dL_law_1418 ?_
  refine x_Vi [.int (xs (i + 1))] [] C 0 9 (wp := fun K => w_X10_judge (xs (i + 1)) K μ) y_X10_judge (qm_50 _ (List.mem_of_getElem? (i := 2) rfl)) (qm_50 _ (List.mem_of_getElem? (i := 3) rfl)) (qm_50 _ (List.mem_of_getElem? (i := 1) rfl)) (c_X10_judge Z.2.1 G h66) (Nat.lt_of_lt_of_le (by decide) h66) rfl (by decide) rfl rfl rfl ⟨by show k + 0 + 0 ≤ 600000; omega, by show n + 0 + 0 ≤ 7302250; omega⟩ rfl rfl rfl dL_law_1419 h (fun r μ1 h => ?_)
  refine x_aload_n C 2 dL_law_1422 rfl rfl ?_
  refine x_arg C S hi 1 (w := 1) (by decide) dL_law_1423 dL_law_1424 dL_law_1425 (by decide) rfl dL_law_1426 dL_law_1427 ?_
  refine x_Vi [.int (xs (i + 1))] [.int r] C 46 10 (wp := fun K => w_X11_judge (xs (i + 1)) K μ1) y_X11_judge (qm_50 _ (List.mem_of_getElem? (i := 6) rfl)) (qm_50 _ (List.mem_of_getElem? (i := 7) rfl)) (qm_50 _ (List.mem_of_getElem? (i := 5) rfl)) (c_X11_judge Z.2.1 G h66) (Nat.lt_of_lt_of_le (by decide) h66) rfl (by decide) rfl rfl rfl ⟨by show k + 0 + 0 ≤ 600000; omega, by show n + 0 + 0 ≤ 7302250; omega⟩ rfl rfl rfl dL_law_1428 h (fun r' μ2 h => ?_)
  refine x_icmp_eq C dL_law_1431 (tgt := 1521) (A := True) (B := False) (by decide) ⟨fun _ => trivial, fun q => q h.1⟩ (fun _ => ?_) (fun q => q.elim)
  exact x_widen (Nat.le_add_right k 1) (Nat.le_add_right n 6) (h1 _ h.2)
set_option maxRecDepth 20000 in
set_option maxHeartbeats 4000000 in
theorem lwc_44 {Z : qZ} {G : qG} {k n : Nat} {μ : qM} {b Ls i : Nat} {xs : Nat → Int32} (C : qX Z G RL cL_law 4 room_1 ret) (S : lwS Z G b Ls xs) (hn : gn G = 66) (hi : i + 6 ≤ Ls) (hk : k + 1 ≤ 600000 ∧ n + 6 ≤ 7302250) (hR : RI μ) (h1 : ∀ μ', RI μ' → qV Z G 4 (k + 1) (n + 6) μ' 1521 (lwL G b i) []) : qV Z G 4 k n μ 1436 (lwL G b i) [] := by
  have h66 : 66 ≤ gn G := by omega
  have h := op_image  μ hR
  refine x_aload_n C 1 dL_law_1436 rfl rfl ?_
  refine x_Vi [] [] C 0 9 (wp := fun K => w_X10_image  K μ) y_X10_image (qm_50 _ (List.mem_of_getElem? (i := 10) rfl)) (qm_50 _ (List.mem_of_getElem? (i := 11) rfl)) (qm_50 _ (List.mem_of_getElem? (i := 9) rfl)) (c_X10_image Z.2.1 G h66) (Nat.lt_of_lt_of_le (by decide) h66) rfl (by decide) rfl rfl rfl ⟨by show k + 0 + 0 ≤ 600000; omega, by show n + 0 + 0 ≤ 7302250; omega⟩ rfl rfl rfl dL_law_1437 h (fun r μ1 h => ?_)
  refine x_aload_n C 2 dL_law_1440 rfl rfl ?_
  refine x_Vi [] [.int r] C 46 10 (wp := fun K => w_X11_image  K μ1) y_X11_image (qm_50 _ (List.mem_of_getElem? (i := 14) rfl)) (qm_50 _ (List.mem_of_getElem? (i := 15) rfl)) (qm_50 _ (List.mem_of_getElem? (i := 13) rfl)) (c_X11_image Z.2.1 G h66) (Nat.lt_of_lt_of_le (by decide) h66) rfl (by decide) rfl rfl rfl ⟨by show k + 0 + 0 ≤ 600000; omega, by show n + 0 + 0 ≤ 7302250; omega⟩ rfl rfl rfl dL_law_1441 h (fun r' μ2 h => ?_)
  refine x_icmp_eq C dL_law_1444 (tgt := 1521) (A := True) (B := False) (by decide) ⟨fun _ => trivial, fun q => q h.1⟩ (fun _ => ?_) (fun q => q.elim)
  exact x_widen (Nat.le_add_right k 1) (Nat.le_add_right n 6) (h1 _ h.2)
set_option maxRecDepth 20000 in
set_option maxHeartbeats 4000000 in
theorem lwc_45 {Z : qZ} {G : qG} {k n : Nat} {μ : qM} {b Ls i : Nat} {xs : Nat → Int32} (C : qX Z G RL cL_law 4 room_1 ret) (S : lwS Z G b Ls xs) (hn : gn G = 66) (hi : i + 6 ≤ Ls) (hk : k + 1 ≤ 600000 ∧ n + 6 ≤ 7302250) (hR : RI μ) (h1 : ∀ μ', RI μ' → qV Z G 4 (k + 1) (n + 6) μ' 1521 (lwL G b i) []) : qV Z G 4 k n μ 1449 (lwL G b i) [] := by
  have h66 : 66 ≤ gn G := by omega
  have h := op_undo  μ hR
  refine x_aload_n C 1 dL_law_1449 rfl rfl ?_
  refine x_Vi [] [] C 0 9 (wp := fun K => w_X10_undo  K μ) y_X10_undo (qm_51 _ (List.mem_of_getElem? (i := 2) rfl)) (qm_51 _ (List.mem_of_getElem? (i := 3) rfl)) (qm_51 _ (List.mem_of_getElem? (i := 1) rfl)) (c_X10_undo Z.2.1 G h66) (Nat.lt_of_lt_of_le (by decide) h66) rfl (by decide) rfl rfl rfl ⟨by show k + 0 + 0 ≤ 600000; omega, by show n + 0 + 0 ≤ 7302250; omega⟩ rfl rfl rfl dL_law_1450 h (fun r μ1 h => ?_)
  refine x_aload_n C 2 dL_law_1453 rfl rfl ?_
  refine x_Vi [] [.int r] C 46 10 (wp := fun K => w_X11_undo  K μ1) y_X11_undo (qm_51 _ (List.mem_of_getElem? (i := 6) rfl)) (qm_51 _ (List.mem_of_getElem? (i := 7) rfl)) (qm_51 _ (List.mem_of_getElem? (i := 5) rfl)) (c_X11_undo Z.2.1 G h66) (Nat.lt_of_lt_of_le (by decide) h66) rfl (by decide) rfl rfl rfl ⟨by show k + 0 + 0 ≤ 600000; omega, by show n + 0 + 0 ≤ 7302250; omega⟩ rfl rfl rfl dL_law_1454 h (fun r' μ2 h => ?_)
  refine x_icmp_eq C dL_law_1457 (tgt := 1521) (A := True) (B := False) (by decide) ⟨fun _ => trivial, fun q => q h.1⟩ (fun _ => ?_) (fun q => q.elim)
  exact x_widen (Nat.le_add_right k 1) (Nat.le_add_right n 6) (h1 _ h.2)
set_option maxRecDepth 20000 in
set_option maxHeartbeats 4000000 in
theorem lwc_46 {Z : qZ} {G : qG} {k n : Nat} {μ : qM} {b Ls i : Nat} {xs : Nat → Int32} (C : qX Z G RL cL_law 4 room_1 ret) (S : lwS Z G b Ls xs) (hn : gn G = 66) (hi : i + 6 ≤ Ls) (hk : k + 1 ≤ 600000 ∧ n + 6 ≤ 7302250) (hR : RI μ) (h1 : ∀ μ', RI μ' → qV Z G 4 (k + 1) (n + 6) μ' 1521 (lwL G b i) []) : qV Z G 4 k n μ 1462 (lwL G b i) [] := by
  have h66 : 66 ≤ gn G := by omega
  have h := op_tear  μ hR
  refine x_aload_n C 1 dL_law_1462 rfl rfl ?_
  refine x_Vi [] [] C 0 9 (wp := fun K => w_X10_tear  K μ) y_X10_tear (qm_51 _ (List.mem_of_getElem? (i := 10) rfl)) (qm_51 _ (List.mem_of_getElem? (i := 11) rfl)) (qm_51 _ (List.mem_of_getElem? (i := 9) rfl)) (c_X10_tear Z.2.1 G h66) (Nat.lt_of_lt_of_le (by decide) h66) rfl (by decide) rfl rfl rfl ⟨by show k + 0 + 0 ≤ 600000; omega, by show n + 0 + 0 ≤ 7302250; omega⟩ rfl rfl rfl dL_law_1463 h (fun r μ1 h => ?_)
  refine x_aload_n C 2 dL_law_1466 rfl rfl ?_
  refine x_Vi [] [.int r] C 46 10 (wp := fun K => w_X11_tear  K μ1) y_X11_tear (qm_51 _ (List.mem_of_getElem? (i := 14) rfl)) (qm_51 _ (List.mem_of_getElem? (i := 15) rfl)) (qm_51 _ (List.mem_of_getElem? (i := 13) rfl)) (c_X11_tear Z.2.1 G h66) (Nat.lt_of_lt_of_le (by decide) h66) rfl (by decide) rfl rfl rfl ⟨by show k + 0 + 0 ≤ 600000; omega, by show n + 0 + 0 ≤ 7302250; omega⟩ rfl rfl rfl dL_law_1467 h (fun r' μ2 h => ?_)
  refine x_icmp_eq C dL_law_1470 (tgt := 1521) (A := True) (B := False) (by decide) ⟨fun _ => trivial, fun q => q h.1⟩ (fun _ => ?_) (fun q => q.elim)
  exact x_widen (Nat.le_add_right k 1) (Nat.le_add_right n 6) (h1 _ h.2)
set_option maxRecDepth 20000 in
set_option maxHeartbeats 4000000 in
theorem lwc_47 {Z : qZ} {G : qG} {k n : Nat} {μ : qM} {b Ls i : Nat} {xs : Nat → Int32} (C : qX Z G RL cL_law 4 room_1 ret) (S : lwS Z G b Ls xs) (hn : gn G = 66) (hi : i + 6 ≤ Ls) (hk : k + 1 ≤ 600000 ∧ n + 6 ≤ 7302250) (hR : RI μ) (h1 : ∀ μ', RI μ' → qV Z G 4 (k + 1) (n + 6) μ' 1521 (lwL G b i) []) : qV Z G 4 k n μ 1475 (lwL G b i) [] := by
  have h66 : 66 ≤ gn G := by omega
  have h := op_count (xs (i + 1)) μ hR
  refine x_aload_n C 1 dL_law_1475 rfl rfl ?_
  refine x_arg C S hi 1 (w := 1) (by decide) dL_law_1476 dL_law_1477 dL_law_1478 (by decide) rfl dL_law_1479 dL_law_1480 ?_
  refine x_Vi [.int (xs (i + 1))] [] C 0 9 (wp := fun K => w_X10_count (xs (i + 1)) K μ) y_X10_count (qm_51 _ (List.mem_of_getElem? (i := 18) rfl)) (qm_51 _ (List.mem_of_getElem? (i := 19) rfl)) (qm_51 _ (List.mem_of_getElem? (i := 17) rfl)) (c_X10_count Z.2.1 G h66) (Nat.lt_of_lt_of_le (by decide) h66) rfl (by decide) rfl rfl rfl ⟨by show k + 0 + 0 ≤ 600000; omega, by show n + 0 + 0 ≤ 7302250; omega⟩ rfl rfl rfl dL_law_1481 h (fun r μ1 h => ?_)
  refine x_aload_n C 2 dL_law_1484 rfl rfl ?_
  refine x_arg C S hi 1 (w := 1) (by decide) dL_law_1485 dL_law_1486 dL_law_1487 (by decide) rfl dL_law_1488 dL_law_1489 ?_
  refine x_Vi [.int (xs (i + 1))] [.int r] C 46 10 (wp := fun K => w_X11_count (xs (i + 1)) K μ1) y_X11_count (qm_52 _ (List.mem_of_getElem? (i := 12) rfl)) (qm_52 _ (List.mem_of_getElem? (i := 13) rfl)) (qm_52 _ (List.mem_of_getElem? (i := 11) rfl)) (c_X11_count Z.2.1 G h66) (Nat.lt_of_lt_of_le (by decide) h66) rfl (by decide) rfl rfl rfl ⟨by show k + 0 + 0 ≤ 600000; omega, by show n + 0 + 0 ≤ 7302250; omega⟩ rfl rfl rfl dL_law_1490 h (fun r' μ2 h => ?_)
  refine x_icmp_eq C dL_law_1493 (tgt := 1521) (A := True) (B := False) (by decide) ⟨fun _ => trivial, fun q => q h.1⟩ (fun _ => ?_) (fun q => q.elim)
  exact x_widen (Nat.le_add_right k 1) (Nat.le_add_right n 6) (h1 _ h.2)
set_option maxRecDepth 20000 in
set_option maxHeartbeats 4000000 in
theorem lwc_48 {Z : qZ} {G : qG} {k n : Nat} {μ : qM} {b Ls i : Nat} {xs : Nat → Int32} (C : qX Z G RL cL_law 4 room_1 ret) (S : lwS Z G b Ls xs) (hn : gn G = 66) (hi : i + 6 ≤ Ls) (hk : k + 1 ≤ 600000 ∧ n + 6 ≤ 7302250) (hR : RI μ) (h1 : ∀ μ', RI μ' → qV Z G 4 (k + 1) (n + 6) μ' 1521 (lwL G b i) []) : qV Z G 4 k n μ 1498 (lwL G b i) [] := by
  have h66 : 66 ≤ gn G := by omega
  have h := op_status (xs (i + 1)) μ hR
  refine x_aload_n C 1 dL_law_1498 rfl rfl ?_
  refine x_arg C S hi 1 (w := 1) (by decide) dL_law_1499 dL_law_1500 dL_law_1501 (by decide) rfl dL_law_1502 dL_law_1503 ?_
  refine x_Vi [.int (xs (i + 1))] [] C 0 9 (wp := fun K => w_X10_status (xs (i + 1)) K μ) y_X10_status (qm_53 _ (List.mem_of_getElem? (i := 4) rfl)) (qm_53 _ (List.mem_of_getElem? (i := 5) rfl)) (qm_53 _ (List.mem_of_getElem? (i := 3) rfl)) (c_X10_status Z.2.1 G h66) (Nat.lt_of_lt_of_le (by decide) h66) rfl (by decide) rfl rfl rfl ⟨by show k + 0 + 0 ≤ 600000; omega, by show n + 0 + 0 ≤ 7302250; omega⟩ rfl rfl rfl dL_law_1504 h (fun r μ1 h => ?_)
  refine x_aload_n C 2 dL_law_1507 rfl rfl ?_
  refine x_arg C S hi 1 (w := 1) (by decide) dL_law_1508 dL_law_1509 dL_law_1510 (by decide) rfl dL_law_1511 dL_law_1512 ?_
  refine x_Vi [.int (xs (i + 1))] [.int r] C 46 10 (wp := fun K => w_X11_status (xs (i + 1)) K μ1) y_X11_status (qm_53 _ (List.mem_of_getElem? (i := 8) rfl)) (qm_53 _ (List.mem_of_getElem? (i := 9) rfl)) (qm_53 _ (List.mem_of_getElem? (i := 7) rfl)) (c_X11_status Z.2.1 G h66) (Nat.lt_of_lt_of_le (by decide) h66) rfl (by decide) rfl rfl rfl ⟨by show k + 0 + 0 ≤ 600000; omega, by show n + 0 + 0 ≤ 7302250; omega⟩ rfl rfl rfl dL_law_1513 h (fun r' μ2 h => ?_)
  refine x_icmp_eq C dL_law_1516 (tgt := 1521) (A := True) (B := False) (by decide) ⟨fun _ => trivial, fun q => q h.1⟩ (fun _ => ?_) (fun q => q.elim)
  exact x_widen (Nat.le_add_right k 1) (Nat.le_add_right n 6) (h1 _ h.2)
