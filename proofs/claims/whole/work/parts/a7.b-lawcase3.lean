/-! BY HAND 27: the law's turns, 3 -/
section Glc2
variable {p : Program} {l : Launch} {e : Env} {s : State} {m : MethodId} {below : List Frame} {meth : Method} {c : Code} {cells slots : Nat} {Q : State → Prop}
variable {D : va_G} {ca : Ca} {ad : Int → Nat} {A : Nat → Prop} {σ : Mem} {b L : Nat} {xs : Nat → Int32} {u : Int}
theorem law_c24 (C : Cx p s m [Value.ref b].toArray c cL_law 8 RL wsLw D ca A) (hX : va_X b L xs s s.heap) (hbl : b < s.heap.size) (hbA : ¬ A b) (hR : Rel σ) (hu : 0 ≤ u ∧ u + 5 < (L : Int)) (hL : L ≤ 384) (hcs : cells ≤ 600000 ∧ slots ≤ 7300000) (kk : ∀ (σ' : Mem) (cells' slots' : Nat), Rel σ' → cells' ≤ cells + 1 → slots' ≤ slots + 6 → G p l e room_1 s m [Value.ref b].toArray below meth c 8 D ca ad A cells' slots' Q σ' 1842 (lvB b ad u) []) : G p l e room_1 s m [Value.ref b].toArray below meth c 8 D ca ad A cells slots Q σ 1072 (lvB b ad u) [] := by
  have hj1 : s32 (u + 1) = (((u + 1).toNat : Nat) : Int) := by rw [s32_of (by omega) (by omega)]; omega
  have hj2 : s32 (u + 2) = (((u + 2).toNat : Nat) : Int) := by rw [s32_of (by omega) (by omega)]; omega
  have hj3 : s32 (u + 3) = (((u + 3).toNat : Nat) : Int) := by rw [s32_of (by omega) (by omega)]; omega
  obtain ⟨r, σ1, σ2, h1, h2, hR2⟩ := op_edge hR (s32_ti (xs (u + 1).toNat)) (s32_ti (xs (u + 2).toNat)) (s32_ti (xs (u + 3).toNat))
  refine g_aload_n (i := 1) C dL_law_1072 rfl rfl ?_
  refine g_arg C hX hbl hbA rfl rfl hj1 (by clear hj1 hj2 hj3; omega) dL_law_1073 dL_law_1074 dL_law_1076 dL_law_1077 dL_law_1078 ?_
  refine g_arg C hX hbl hbA rfl rfl hj2 (by clear hj1 hj2 hj3; omega) dL_law_1079 dL_law_1080 dL_law_1082 dL_law_1083 dL_law_1084 ?_
  refine g_arg C hX hbl hbA rfl rfl hj3 (by clear hj1 hj2 hj3; omega) dL_law_1085 dL_law_1086 dL_law_1088 dL_law_1089 dL_law_1090 ?_
  refine g_callVi C (c_X11_edge h1) (cwV 3 C.2.2.2.2.1 (gLift gL_law_X11_edge) rfl rfl rfl (by decide +kernel) ⟨Nat.le_of_ble_eq_true rfl, Nat.le_of_ble_eq_true rfl⟩) ob_X11 rfl rfl rfl rfl (Nat.le_of_ble_eq_true rfl) dL_law_1091 ⟨Nat.le_trans hcs.1 (Nat.le_of_ble_eq_true rfl), Nat.le_trans hcs.2 (Nat.le_of_ble_eq_true rfl)⟩ ?_
  refine g_aload_n (i := 2) C dL_law_1094 rfl rfl ?_
  refine g_arg C hX hbl hbA rfl rfl hj1 (by clear hj1 hj2 hj3; omega) dL_law_1095 dL_law_1096 dL_law_1098 dL_law_1099 dL_law_1100 ?_
  refine g_arg C hX hbl hbA rfl rfl hj2 (by clear hj1 hj2 hj3; omega) dL_law_1101 dL_law_1102 dL_law_1104 dL_law_1105 dL_law_1106 ?_
  refine g_arg C hX hbl hbA rfl rfl hj3 (by clear hj1 hj2 hj3; omega) dL_law_1107 dL_law_1108 dL_law_1110 dL_law_1111 dL_law_1112 ?_
  refine g_callVi C (c_X12_edge h2) (cwV 3 C.2.2.2.2.1 (gLift gL_law_X12_edge) rfl rfl rfl (by decide +kernel) ⟨Nat.le_of_ble_eq_true rfl, Nat.le_of_ble_eq_true rfl⟩) ob_X12 rfl rfl rfl rfl (Nat.le_of_ble_eq_true rfl) dL_law_1113 ⟨Nat.le_trans hcs.1 (Nat.le_of_ble_eq_true rfl), Nat.le_trans hcs.2 (Nat.le_of_ble_eq_true rfl)⟩ ?_
  exact g_icmp_eq (tgt := 1842) C dL_law_1116 (by decide) rfl rfl (fun _ => kk _ _ _ hR2 (Nat.le_succ _) (Nat.le_add_right _ _)) (fun z => absurd rfl z)
theorem law_c25 (C : Cx p s m [Value.ref b].toArray c cL_law 8 RL wsLw D ca A) (hX : va_X b L xs s s.heap) (hbl : b < s.heap.size) (hbA : ¬ A b) (hR : Rel σ) (hu : 0 ≤ u ∧ u + 5 < (L : Int)) (hL : L ≤ 384) (hcs : cells ≤ 600000 ∧ slots ≤ 7300000) (kk : ∀ (σ' : Mem) (cells' slots' : Nat), Rel σ' → cells' ≤ cells + 1 → slots' ≤ slots + 6 → G p l e room_1 s m [Value.ref b].toArray below meth c 8 D ca ad A cells' slots' Q σ' 1842 (lvB b ad u) []) : G p l e room_1 s m [Value.ref b].toArray below meth c 8 D ca ad A cells slots Q σ 1121 (lvB b ad u) [] := by
  have hj1 : s32 (u + 1) = (((u + 1).toNat : Nat) : Int) := by rw [s32_of (by omega) (by omega)]; omega
  have hj2 : s32 (u + 2) = (((u + 2).toNat : Nat) : Int) := by rw [s32_of (by omega) (by omega)]; omega
  have hj3 : s32 (u + 3) = (((u + 3).toNat : Nat) : Int) := by rw [s32_of (by omega) (by omega)]; omega
  have hj4 : s32 (u + 4) = (((u + 4).toNat : Nat) : Int) := by rw [s32_of (by omega) (by omega)]; omega
  obtain ⟨r, σ1, σ2, h1, h2, hR2⟩ := op_run hR (s32_ti (xs (u + 1).toNat)) (s32_ti (xs (u + 2).toNat)) (s32_ti (xs (u + 3).toNat)) (s32_ti (xs (u + 4).toNat))
  refine g_aload_n (i := 1) C dL_law_1121 rfl rfl ?_
  refine g_arg C hX hbl hbA rfl rfl hj1 (by clear hj1 hj2 hj3 hj4; omega) dL_law_1122 dL_law_1123 dL_law_1125 dL_law_1126 dL_law_1127 ?_
  refine g_arg C hX hbl hbA rfl rfl hj2 (by clear hj1 hj2 hj3 hj4; omega) dL_law_1128 dL_law_1129 dL_law_1131 dL_law_1132 dL_law_1133 ?_
  refine g_arg C hX hbl hbA rfl rfl hj3 (by clear hj1 hj2 hj3 hj4; omega) dL_law_1134 dL_law_1135 dL_law_1137 dL_law_1138 dL_law_1139 ?_
  refine g_arg C hX hbl hbA rfl rfl hj4 (by clear hj1 hj2 hj3 hj4; omega) dL_law_1140 dL_law_1141 dL_law_1143 dL_law_1144 dL_law_1145 ?_
  refine g_callVi C (c_X11_run h1) (cwV 4 C.2.2.2.2.1 (gLift gL_law_X11_run) rfl rfl rfl (by decide +kernel) ⟨Nat.le_of_ble_eq_true rfl, Nat.le_of_ble_eq_true rfl⟩) ob_X11 rfl rfl rfl rfl (Nat.le_of_ble_eq_true rfl) dL_law_1146 ⟨Nat.le_trans hcs.1 (Nat.le_of_ble_eq_true rfl), Nat.le_trans hcs.2 (Nat.le_of_ble_eq_true rfl)⟩ ?_
  refine g_aload_n (i := 2) C dL_law_1149 rfl rfl ?_
  refine g_arg C hX hbl hbA rfl rfl hj1 (by clear hj1 hj2 hj3 hj4; omega) dL_law_1150 dL_law_1151 dL_law_1153 dL_law_1154 dL_law_1155 ?_
  refine g_arg C hX hbl hbA rfl rfl hj2 (by clear hj1 hj2 hj3 hj4; omega) dL_law_1156 dL_law_1157 dL_law_1159 dL_law_1160 dL_law_1161 ?_
  refine g_arg C hX hbl hbA rfl rfl hj3 (by clear hj1 hj2 hj3 hj4; omega) dL_law_1162 dL_law_1163 dL_law_1165 dL_law_1166 dL_law_1167 ?_
  refine g_arg C hX hbl hbA rfl rfl hj4 (by clear hj1 hj2 hj3 hj4; omega) dL_law_1168 dL_law_1169 dL_law_1171 dL_law_1172 dL_law_1173 ?_
  refine g_callVi C (c_X12_run h2) (cwV 4 C.2.2.2.2.1 (gLift gL_law_X12_run) rfl rfl rfl (by decide +kernel) ⟨Nat.le_of_ble_eq_true rfl, Nat.le_of_ble_eq_true rfl⟩) ob_X12 rfl rfl rfl rfl (Nat.le_of_ble_eq_true rfl) dL_law_1174 ⟨Nat.le_trans hcs.1 (Nat.le_of_ble_eq_true rfl), Nat.le_trans hcs.2 (Nat.le_of_ble_eq_true rfl)⟩ ?_
  exact g_icmp_eq (tgt := 1842) C dL_law_1177 (by decide) rfl rfl (fun _ => kk _ _ _ hR2 (Nat.le_succ _) (Nat.le_add_right _ _)) (fun z => absurd rfl z)
theorem law_c26 (C : Cx p s m [Value.ref b].toArray c cL_law 8 RL wsLw D ca A) (hX : va_X b L xs s s.heap) (hbl : b < s.heap.size) (hbA : ¬ A b) (hR : Rel σ) (hu : 0 ≤ u ∧ u + 5 < (L : Int)) (hL : L ≤ 384) (hcs : cells ≤ 600000 ∧ slots ≤ 7300000) (kk : ∀ (σ' : Mem) (cells' slots' : Nat), Rel σ' → cells' ≤ cells + 1 → slots' ≤ slots + 6 → G p l e room_1 s m [Value.ref b].toArray below meth c 8 D ca ad A cells' slots' Q σ' 1842 (lvB b ad u) []) : G p l e room_1 s m [Value.ref b].toArray below meth c 8 D ca ad A cells slots Q σ 1182 (lvB b ad u) [] := by
  have hj1 : s32 (u + 1) = (((u + 1).toNat : Nat) : Int) := by rw [s32_of (by omega) (by omega)]; omega
  obtain ⟨r, σ1, σ2, h1, h2, hR2⟩ := op_rate hR (s32_ti (xs (u + 1).toNat))
  refine g_aload_n (i := 1) C dL_law_1182 rfl rfl ?_
  refine g_arg C hX hbl hbA rfl rfl hj1 (by clear hj1; omega) dL_law_1183 dL_law_1184 dL_law_1186 dL_law_1187 dL_law_1188 ?_
  refine g_callVi C (c_X11_rate h1) (cwV 1 C.2.2.2.2.1 (gLift gL_law_X11_rate) rfl rfl rfl (by decide +kernel) ⟨Nat.le_of_ble_eq_true rfl, Nat.le_of_ble_eq_true rfl⟩) ob_X11 rfl rfl rfl rfl (Nat.le_of_ble_eq_true rfl) dL_law_1189 ⟨Nat.le_trans hcs.1 (Nat.le_of_ble_eq_true rfl), Nat.le_trans hcs.2 (Nat.le_of_ble_eq_true rfl)⟩ ?_
  refine g_aload_n (i := 2) C dL_law_1192 rfl rfl ?_
  refine g_arg C hX hbl hbA rfl rfl hj1 (by clear hj1; omega) dL_law_1193 dL_law_1194 dL_law_1196 dL_law_1197 dL_law_1198 ?_
  refine g_callVi C (c_X12_rate h2) (cwV 1 C.2.2.2.2.1 (gLift gL_law_X12_rate) rfl rfl rfl (by decide +kernel) ⟨Nat.le_of_ble_eq_true rfl, Nat.le_of_ble_eq_true rfl⟩) ob_X12 rfl rfl rfl rfl (Nat.le_of_ble_eq_true rfl) dL_law_1199 ⟨Nat.le_trans hcs.1 (Nat.le_of_ble_eq_true rfl), Nat.le_trans hcs.2 (Nat.le_of_ble_eq_true rfl)⟩ ?_
  exact g_icmp_eq (tgt := 1842) C dL_law_1202 (by decide) rfl rfl (fun _ => kk _ _ _ hR2 (Nat.le_succ _) (Nat.le_add_right _ _)) (fun z => absurd rfl z)
theorem law_c27 (C : Cx p s m [Value.ref b].toArray c cL_law 8 RL wsLw D ca A) (hX : va_X b L xs s s.heap) (hbl : b < s.heap.size) (hbA : ¬ A b) (hR : Rel σ) (hu : 0 ≤ u ∧ u + 5 < (L : Int)) (hL : L ≤ 384) (hcs : cells ≤ 600000 ∧ slots ≤ 7300000) (kk : ∀ (σ' : Mem) (cells' slots' : Nat), Rel σ' → cells' ≤ cells + 1 → slots' ≤ slots + 6 → G p l e room_1 s m [Value.ref b].toArray below meth c 8 D ca ad A cells' slots' Q σ' 1842 (lvB b ad u) []) : G p l e room_1 s m [Value.ref b].toArray below meth c 8 D ca ad A cells slots Q σ 1207 (lvB b ad u) [] := by
  have hj1 : s32 (u + 1) = (((u + 1).toNat : Nat) : Int) := by rw [s32_of (by omega) (by omega)]; omega
  have hj2 : s32 (u + 2) = (((u + 2).toNat : Nat) : Int) := by rw [s32_of (by omega) (by omega)]; omega
  have hj3 : s32 (u + 3) = (((u + 3).toNat : Nat) : Int) := by rw [s32_of (by omega) (by omega)]; omega
  have hj4 : s32 (u + 4) = (((u + 4).toNat : Nat) : Int) := by rw [s32_of (by omega) (by omega)]; omega
  obtain ⟨r, σ1, σ2, h1, h2, hR2⟩ := op_years hR (s32_ti (xs (u + 1).toNat)) (s32_ti (xs (u + 2).toNat)) (s32_ti (xs (u + 3).toNat)) (s32_ti (xs (u + 4).toNat))
  refine g_aload_n (i := 1) C dL_law_1207 rfl rfl ?_
  refine g_arg C hX hbl hbA rfl rfl hj1 (by clear hj1 hj2 hj3 hj4; omega) dL_law_1208 dL_law_1209 dL_law_1211 dL_law_1212 dL_law_1213 ?_
  refine g_arg C hX hbl hbA rfl rfl hj2 (by clear hj1 hj2 hj3 hj4; omega) dL_law_1214 dL_law_1215 dL_law_1217 dL_law_1218 dL_law_1219 ?_
  refine g_arg C hX hbl hbA rfl rfl hj3 (by clear hj1 hj2 hj3 hj4; omega) dL_law_1220 dL_law_1221 dL_law_1223 dL_law_1224 dL_law_1225 ?_
  refine g_arg C hX hbl hbA rfl rfl hj4 (by clear hj1 hj2 hj3 hj4; omega) dL_law_1226 dL_law_1227 dL_law_1229 dL_law_1230 dL_law_1231 ?_
  refine g_callVl C (c_X11_years h1) (cwV 4 C.2.2.2.2.1 (gLift gL_law_X11_years) rfl rfl rfl (by decide +kernel) ⟨Nat.le_of_ble_eq_true rfl, Nat.le_of_ble_eq_true rfl⟩) ob_X11 rfl rfl rfl rfl (Nat.le_of_ble_eq_true rfl) dL_law_1232 ⟨Nat.le_trans hcs.1 (Nat.le_of_ble_eq_true rfl), Nat.le_trans hcs.2 (Nat.le_of_ble_eq_true rfl)⟩ ?_
  refine g_aload_n (i := 2) C dL_law_1235 rfl rfl ?_
  refine g_arg C hX hbl hbA rfl rfl hj1 (by clear hj1 hj2 hj3 hj4; omega) dL_law_1236 dL_law_1237 dL_law_1239 dL_law_1240 dL_law_1241 ?_
  refine g_arg C hX hbl hbA rfl rfl hj2 (by clear hj1 hj2 hj3 hj4; omega) dL_law_1242 dL_law_1243 dL_law_1245 dL_law_1246 dL_law_1247 ?_
  refine g_arg C hX hbl hbA rfl rfl hj3 (by clear hj1 hj2 hj3 hj4; omega) dL_law_1248 dL_law_1249 dL_law_1251 dL_law_1252 dL_law_1253 ?_
  refine g_arg C hX hbl hbA rfl rfl hj4 (by clear hj1 hj2 hj3 hj4; omega) dL_law_1254 dL_law_1255 dL_law_1257 dL_law_1258 dL_law_1259 ?_
  refine g_callVl C (c_X12_years h2) (cwV 4 C.2.2.2.2.1 (gLift gL_law_X12_years) rfl rfl rfl (by decide +kernel) ⟨Nat.le_of_ble_eq_true rfl, Nat.le_of_ble_eq_true rfl⟩) ob_X12 rfl rfl rfl rfl (Nat.le_of_ble_eq_true rfl) dL_law_1260 ⟨Nat.le_trans hcs.1 (Nat.le_of_ble_eq_true rfl), Nat.le_trans hcs.2 (Nat.le_of_ble_eq_true rfl)⟩ ?_
  exact g_lcmp_eq (tgt := 1842) C dL_law_1263 dL_law_1264 (by decide) rfl rfl (fun _ => kk _ _ _ hR2 (Nat.le_succ _) (Nat.le_add_right _ _)) (fun z => absurd rfl z)
theorem law_c28 (C : Cx p s m [Value.ref b].toArray c cL_law 8 RL wsLw D ca A) (hX : va_X b L xs s s.heap) (hbl : b < s.heap.size) (hbA : ¬ A b) (hR : Rel σ) (hu : 0 ≤ u ∧ u + 5 < (L : Int)) (hL : L ≤ 384) (hcs : cells ≤ 600000 ∧ slots ≤ 7300000) (kk : ∀ (σ' : Mem) (cells' slots' : Nat), Rel σ' → cells' ≤ cells + 1 → slots' ≤ slots + 6 → G p l e room_1 s m [Value.ref b].toArray below meth c 8 D ca ad A cells' slots' Q σ' 1842 (lvB b ad u) []) : G p l e room_1 s m [Value.ref b].toArray below meth c 8 D ca ad A cells slots Q σ 1269 (lvB b ad u) [] := by
  have hj1 : s32 (u + 1) = (((u + 1).toNat : Nat) : Int) := by rw [s32_of (by omega) (by omega)]; omega
  have hj2 : s32 (u + 2) = (((u + 2).toNat : Nat) : Int) := by rw [s32_of (by omega) (by omega)]; omega
  obtain ⟨r, σ1, σ2, h1, h2, hR2⟩ := op_ratherOver hR (s32_ti (xs (u + 1).toNat)) (s32_ti (xs (u + 2).toNat))
  refine g_aload_n (i := 1) C dL_law_1269 rfl rfl ?_
  refine g_arg C hX hbl hbA rfl rfl hj1 (by clear hj1 hj2; omega) dL_law_1270 dL_law_1271 dL_law_1273 dL_law_1274 dL_law_1275 ?_
  refine g_arg C hX hbl hbA rfl rfl hj2 (by clear hj1 hj2; omega) dL_law_1276 dL_law_1277 dL_law_1279 dL_law_1280 dL_law_1281 ?_
  refine g_callVi C (c_X11_ratherOver h1) (cwV 2 C.2.2.2.2.1 (gLift gL_law_X11_ratherOver) rfl rfl rfl (by decide +kernel) ⟨Nat.le_of_ble_eq_true rfl, Nat.le_of_ble_eq_true rfl⟩) ob_X11 rfl rfl rfl rfl (Nat.le_of_ble_eq_true rfl) dL_law_1282 ⟨Nat.le_trans hcs.1 (Nat.le_of_ble_eq_true rfl), Nat.le_trans hcs.2 (Nat.le_of_ble_eq_true rfl)⟩ ?_
  refine g_aload_n (i := 2) C dL_law_1285 rfl rfl ?_
  refine g_arg C hX hbl hbA rfl rfl hj1 (by clear hj1 hj2; omega) dL_law_1286 dL_law_1287 dL_law_1289 dL_law_1290 dL_law_1291 ?_
  refine g_arg C hX hbl hbA rfl rfl hj2 (by clear hj1 hj2; omega) dL_law_1292 dL_law_1293 dL_law_1295 dL_law_1296 dL_law_1297 ?_
  refine g_callVi C (c_X12_ratherOver h2) (cwV 2 C.2.2.2.2.1 (gLift gL_law_X12_ratherOver) rfl rfl rfl (by decide +kernel) ⟨Nat.le_of_ble_eq_true rfl, Nat.le_of_ble_eq_true rfl⟩) ob_X12 rfl rfl rfl rfl (Nat.le_of_ble_eq_true rfl) dL_law_1298 ⟨Nat.le_trans hcs.1 (Nat.le_of_ble_eq_true rfl), Nat.le_trans hcs.2 (Nat.le_of_ble_eq_true rfl)⟩ ?_
  exact g_icmp_eq (tgt := 1842) C dL_law_1301 (by decide) rfl rfl (fun _ => kk _ _ _ hR2 (Nat.le_succ _) (Nat.le_add_right _ _)) (fun z => absurd rfl z)
theorem law_c29 (C : Cx p s m [Value.ref b].toArray c cL_law 8 RL wsLw D ca A) (hX : va_X b L xs s s.heap) (hbl : b < s.heap.size) (hbA : ¬ A b) (hR : Rel σ) (hu : 0 ≤ u ∧ u + 5 < (L : Int)) (hL : L ≤ 384) (hcs : cells ≤ 600000 ∧ slots ≤ 7300000) (kk : ∀ (σ' : Mem) (cells' slots' : Nat), Rel σ' → cells' ≤ cells + 1 → slots' ≤ slots + 6 → G p l e room_1 s m [Value.ref b].toArray below meth c 8 D ca ad A cells' slots' Q σ' 1842 (lvB b ad u) []) : G p l e room_1 s m [Value.ref b].toArray below meth c 8 D ca ad A cells slots Q σ 1306 (lvB b ad u) [] := by
  have hj1 : s32 (u + 1) = (((u + 1).toNat : Nat) : Int) := by rw [s32_of (by omega) (by omega)]; omega
  have hj2 : s32 (u + 2) = (((u + 2).toNat : Nat) : Int) := by rw [s32_of (by omega) (by omega)]; omega
  obtain ⟨r, σ1, σ2, h1, h2, hR2⟩ := op_bestTax hR (s32_ti (xs (u + 1).toNat)) (s32_ti (xs (u + 2).toNat))
  refine g_aload_n (i := 1) C dL_law_1306 rfl rfl ?_
  refine g_arg C hX hbl hbA rfl rfl hj1 (by clear hj1 hj2; omega) dL_law_1307 dL_law_1308 dL_law_1310 dL_law_1311 dL_law_1312 ?_
  refine g_arg C hX hbl hbA rfl rfl hj2 (by clear hj1 hj2; omega) dL_law_1313 dL_law_1314 dL_law_1316 dL_law_1317 dL_law_1318 ?_
  refine g_callVi C (c_X11_bestTax h1) (cwV 2 C.2.2.2.2.1 (gLift gL_law_X11_bestTax) rfl rfl rfl (by decide +kernel) ⟨Nat.le_of_ble_eq_true rfl, Nat.le_of_ble_eq_true rfl⟩) ob_X11 rfl rfl rfl rfl (Nat.le_of_ble_eq_true rfl) dL_law_1319 ⟨Nat.le_trans hcs.1 (Nat.le_of_ble_eq_true rfl), Nat.le_trans hcs.2 (Nat.le_of_ble_eq_true rfl)⟩ ?_
  refine g_aload_n (i := 2) C dL_law_1322 rfl rfl ?_
  refine g_arg C hX hbl hbA rfl rfl hj1 (by clear hj1 hj2; omega) dL_law_1323 dL_law_1324 dL_law_1326 dL_law_1327 dL_law_1328 ?_
  refine g_arg C hX hbl hbA rfl rfl hj2 (by clear hj1 hj2; omega) dL_law_1329 dL_law_1330 dL_law_1332 dL_law_1333 dL_law_1334 ?_
  refine g_callVi C (c_X12_bestTax h2) (cwV 2 C.2.2.2.2.1 (gLift gL_law_X12_bestTax) rfl rfl rfl (by decide +kernel) ⟨Nat.le_of_ble_eq_true rfl, Nat.le_of_ble_eq_true rfl⟩) ob_X12 rfl rfl rfl rfl (Nat.le_of_ble_eq_true rfl) dL_law_1335 ⟨Nat.le_trans hcs.1 (Nat.le_of_ble_eq_true rfl), Nat.le_trans hcs.2 (Nat.le_of_ble_eq_true rfl)⟩ ?_
  exact g_icmp_eq (tgt := 1842) C dL_law_1338 (by decide) rfl rfl (fun _ => kk _ _ _ hR2 (Nat.le_succ _) (Nat.le_add_right _ _)) (fun z => absurd rfl z)
theorem law_c30 (C : Cx p s m [Value.ref b].toArray c cL_law 8 RL wsLw D ca A) (hX : va_X b L xs s s.heap) (hbl : b < s.heap.size) (hbA : ¬ A b) (hR : Rel σ) (hu : 0 ≤ u ∧ u + 5 < (L : Int)) (hL : L ≤ 384) (hcs : cells ≤ 600000 ∧ slots ≤ 7300000) (kk : ∀ (σ' : Mem) (cells' slots' : Nat), Rel σ' → cells' ≤ cells + 1 → slots' ≤ slots + 6 → G p l e room_1 s m [Value.ref b].toArray below meth c 8 D ca ad A cells' slots' Q σ' 1842 (lvB b ad u) []) : G p l e room_1 s m [Value.ref b].toArray below meth c 8 D ca ad A cells slots Q σ 1343 (lvB b ad u) [] := by
  have hj1 : s32 (u + 1) = (((u + 1).toNat : Nat) : Int) := by rw [s32_of (by omega) (by omega)]; omega
  have hj2 : s32 (u + 2) = (((u + 2).toNat : Nat) : Int) := by rw [s32_of (by omega) (by omega)]; omega
  have hj3 : s32 (u + 3) = (((u + 3).toNat : Nat) : Int) := by rw [s32_of (by omega) (by omega)]; omega
  obtain ⟨r, σ1, σ2, h1, h2, hR2⟩ := op_moved hR (s32_ti (xs (u + 1).toNat)) (s32_ti (xs (u + 2).toNat)) (s32_ti (xs (u + 3).toNat))
  refine g_aload_n (i := 1) C dL_law_1343 rfl rfl ?_
  refine g_arg C hX hbl hbA rfl rfl hj1 (by clear hj1 hj2 hj3; omega) dL_law_1344 dL_law_1345 dL_law_1347 dL_law_1348 dL_law_1349 ?_
  refine g_arg C hX hbl hbA rfl rfl hj2 (by clear hj1 hj2 hj3; omega) dL_law_1350 dL_law_1351 dL_law_1353 dL_law_1354 dL_law_1355 ?_
  refine g_arg C hX hbl hbA rfl rfl hj3 (by clear hj1 hj2 hj3; omega) dL_law_1356 dL_law_1357 dL_law_1359 dL_law_1360 dL_law_1361 ?_
  refine g_callVi C (c_X11_moved h1) (cwV 3 C.2.2.2.2.1 (gLift gL_law_X11_moved) rfl rfl rfl (by decide +kernel) ⟨Nat.le_of_ble_eq_true rfl, Nat.le_of_ble_eq_true rfl⟩) ob_X11 rfl rfl rfl rfl (Nat.le_of_ble_eq_true rfl) dL_law_1362 ⟨Nat.le_trans hcs.1 (Nat.le_of_ble_eq_true rfl), Nat.le_trans hcs.2 (Nat.le_of_ble_eq_true rfl)⟩ ?_
  refine g_aload_n (i := 2) C dL_law_1365 rfl rfl ?_
  refine g_arg C hX hbl hbA rfl rfl hj1 (by clear hj1 hj2 hj3; omega) dL_law_1366 dL_law_1367 dL_law_1369 dL_law_1370 dL_law_1371 ?_
  refine g_arg C hX hbl hbA rfl rfl hj2 (by clear hj1 hj2 hj3; omega) dL_law_1372 dL_law_1373 dL_law_1375 dL_law_1376 dL_law_1377 ?_
  refine g_arg C hX hbl hbA rfl rfl hj3 (by clear hj1 hj2 hj3; omega) dL_law_1378 dL_law_1379 dL_law_1381 dL_law_1382 dL_law_1383 ?_
  refine g_callVi C (c_X12_moved h2) (cwV 3 C.2.2.2.2.1 (gLift gL_law_X12_moved) rfl rfl rfl (by decide +kernel) ⟨Nat.le_of_ble_eq_true rfl, Nat.le_of_ble_eq_true rfl⟩) ob_X12 rfl rfl rfl rfl (Nat.le_of_ble_eq_true rfl) dL_law_1384 ⟨Nat.le_trans hcs.1 (Nat.le_of_ble_eq_true rfl), Nat.le_trans hcs.2 (Nat.le_of_ble_eq_true rfl)⟩ ?_
  exact g_icmp_eq (tgt := 1842) C dL_law_1387 (by decide) rfl rfl (fun _ => kk _ _ _ hR2 (Nat.le_succ _) (Nat.le_add_right _ _)) (fun z => absurd rfl z)
theorem law_c31 (C : Cx p s m [Value.ref b].toArray c cL_law 8 RL wsLw D ca A) (hX : va_X b L xs s s.heap) (hbl : b < s.heap.size) (hbA : ¬ A b) (hR : Rel σ) (hu : 0 ≤ u ∧ u + 5 < (L : Int)) (hL : L ≤ 384) (hcs : cells ≤ 600000 ∧ slots ≤ 7300000) (kk : ∀ (σ' : Mem) (cells' slots' : Nat), Rel σ' → cells' ≤ cells + 1 → slots' ≤ slots + 6 → G p l e room_1 s m [Value.ref b].toArray below meth c 8 D ca ad A cells' slots' Q σ' 1842 (lvB b ad u) []) : G p l e room_1 s m [Value.ref b].toArray below meth c 8 D ca ad A cells slots Q σ 1392 (lvB b ad u) [] := by
  have hj1 : s32 (u + 1) = (((u + 1).toNat : Nat) : Int) := by rw [s32_of (by omega) (by omega)]; omega
  have hj2 : s32 (u + 2) = (((u + 2).toNat : Nat) : Int) := by rw [s32_of (by omega) (by omega)]; omega
  obtain ⟨r, σ1, σ2, h1, h2, hR2⟩ := op_losers hR (s32_ti (xs (u + 1).toNat)) (s32_ti (xs (u + 2).toNat))
  refine g_aload_n (i := 1) C dL_law_1392 rfl rfl ?_
  refine g_arg C hX hbl hbA rfl rfl hj1 (by clear hj1 hj2; omega) dL_law_1393 dL_law_1394 dL_law_1396 dL_law_1397 dL_law_1398 ?_
  refine g_arg C hX hbl hbA rfl rfl hj2 (by clear hj1 hj2; omega) dL_law_1399 dL_law_1400 dL_law_1402 dL_law_1403 dL_law_1404 ?_
  refine g_callVi C (c_X11_losers h1) (cwV 2 C.2.2.2.2.1 (gLift gL_law_X11_losers) rfl rfl rfl (by decide +kernel) ⟨Nat.le_of_ble_eq_true rfl, Nat.le_of_ble_eq_true rfl⟩) ob_X11 rfl rfl rfl rfl (Nat.le_of_ble_eq_true rfl) dL_law_1405 ⟨Nat.le_trans hcs.1 (Nat.le_of_ble_eq_true rfl), Nat.le_trans hcs.2 (Nat.le_of_ble_eq_true rfl)⟩ ?_
  refine g_aload_n (i := 2) C dL_law_1408 rfl rfl ?_
  refine g_arg C hX hbl hbA rfl rfl hj1 (by clear hj1 hj2; omega) dL_law_1409 dL_law_1410 dL_law_1412 dL_law_1413 dL_law_1414 ?_
  refine g_arg C hX hbl hbA rfl rfl hj2 (by clear hj1 hj2; omega) dL_law_1415 dL_law_1416 dL_law_1418 dL_law_1419 dL_law_1420 ?_
  refine g_callVi C (c_X12_losers h2) (cwV 2 C.2.2.2.2.1 (gLift gL_law_X12_losers) rfl rfl rfl (by decide +kernel) ⟨Nat.le_of_ble_eq_true rfl, Nat.le_of_ble_eq_true rfl⟩) ob_X12 rfl rfl rfl rfl (Nat.le_of_ble_eq_true rfl) dL_law_1421 ⟨Nat.le_trans hcs.1 (Nat.le_of_ble_eq_true rfl), Nat.le_trans hcs.2 (Nat.le_of_ble_eq_true rfl)⟩ ?_
  exact g_icmp_eq (tgt := 1842) C dL_law_1424 (by decide) rfl rfl (fun _ => kk _ _ _ hR2 (Nat.le_succ _) (Nat.le_add_right _ _)) (fun z => absurd rfl z)
theorem law_c32 (C : Cx p s m [Value.ref b].toArray c cL_law 8 RL wsLw D ca A) (hX : va_X b L xs s s.heap) (hbl : b < s.heap.size) (hbA : ¬ A b) (hR : Rel σ) (hu : 0 ≤ u ∧ u + 5 < (L : Int)) (hL : L ≤ 384) (hcs : cells ≤ 600000 ∧ slots ≤ 7300000) (kk : ∀ (σ' : Mem) (cells' slots' : Nat), Rel σ' → cells' ≤ cells + 1 → slots' ≤ slots + 6 → G p l e room_1 s m [Value.ref b].toArray below meth c 8 D ca ad A cells' slots' Q σ' 1842 (lvB b ad u) []) : G p l e room_1 s m [Value.ref b].toArray below meth c 8 D ca ad A cells slots Q σ 1429 (lvB b ad u) [] := by
  obtain ⟨r, σ1, σ2, h1, h2, hR2⟩ := op_standing hR
  refine g_aload_n (i := 1) C dL_law_1429 rfl rfl ?_
  refine g_callVi C (c_X11_standing h1) (cwV 0 C.2.2.2.2.1 (gLift gL_law_X11_standing) rfl rfl rfl (by decide +kernel) ⟨Nat.le_of_ble_eq_true rfl, Nat.le_of_ble_eq_true rfl⟩) ob_X11 rfl rfl rfl rfl (Nat.le_of_ble_eq_true rfl) dL_law_1430 ⟨Nat.le_trans hcs.1 (Nat.le_of_ble_eq_true rfl), Nat.le_trans hcs.2 (Nat.le_of_ble_eq_true rfl)⟩ ?_
  refine g_aload_n (i := 2) C dL_law_1433 rfl rfl ?_
  refine g_callVi C (c_X12_standing h2) (cwV 0 C.2.2.2.2.1 (gLift gL_law_X12_standing) rfl rfl rfl (by decide +kernel) ⟨Nat.le_of_ble_eq_true rfl, Nat.le_of_ble_eq_true rfl⟩) ob_X12 rfl rfl rfl rfl (Nat.le_of_ble_eq_true rfl) dL_law_1434 ⟨Nat.le_trans hcs.1 (Nat.le_of_ble_eq_true rfl), Nat.le_trans hcs.2 (Nat.le_of_ble_eq_true rfl)⟩ ?_
  exact g_icmp_eq (tgt := 1842) C dL_law_1437 (by decide) rfl rfl (fun _ => kk _ _ _ hR2 (Nat.le_succ _) (Nat.le_add_right _ _)) (fun z => absurd rfl z)
theorem law_c33 (C : Cx p s m [Value.ref b].toArray c cL_law 8 RL wsLw D ca A) (hX : va_X b L xs s s.heap) (hbl : b < s.heap.size) (hbA : ¬ A b) (hR : Rel σ) (hu : 0 ≤ u ∧ u + 5 < (L : Int)) (hL : L ≤ 384) (hcs : cells ≤ 600000 ∧ slots ≤ 7300000) (kk : ∀ (σ' : Mem) (cells' slots' : Nat), Rel σ' → cells' ≤ cells + 1 → slots' ≤ slots + 6 → G p l e room_1 s m [Value.ref b].toArray below meth c 8 D ca ad A cells' slots' Q σ' 1842 (lvB b ad u) []) : G p l e room_1 s m [Value.ref b].toArray below meth c 8 D ca ad A cells slots Q σ 1442 (lvB b ad u) [] := by
  obtain ⟨r, σ1, σ2, h1, h2, hR2⟩ := op_image hR
  refine g_aload_n (i := 1) C dL_law_1442 rfl rfl ?_
  refine g_callVi C (c_X11_image h1) (cwV 0 C.2.2.2.2.1 (gLift gL_law_X11_image) rfl rfl rfl (by decide +kernel) ⟨Nat.le_of_ble_eq_true rfl, Nat.le_of_ble_eq_true rfl⟩) ob_X11 rfl rfl rfl rfl (Nat.le_of_ble_eq_true rfl) dL_law_1443 ⟨Nat.le_trans hcs.1 (Nat.le_of_ble_eq_true rfl), Nat.le_trans hcs.2 (Nat.le_of_ble_eq_true rfl)⟩ ?_
  refine g_aload_n (i := 2) C dL_law_1446 rfl rfl ?_
  refine g_callVi C (c_X12_image h2) (cwV 0 C.2.2.2.2.1 (gLift gL_law_X12_image) rfl rfl rfl (by decide +kernel) ⟨Nat.le_of_ble_eq_true rfl, Nat.le_of_ble_eq_true rfl⟩) ob_X12 rfl rfl rfl rfl (Nat.le_of_ble_eq_true rfl) dL_law_1447 ⟨Nat.le_trans hcs.1 (Nat.le_of_ble_eq_true rfl), Nat.le_trans hcs.2 (Nat.le_of_ble_eq_true rfl)⟩ ?_
  exact g_icmp_eq (tgt := 1842) C dL_law_1450 (by decide) rfl rfl (fun _ => kk _ _ _ hR2 (Nat.le_succ _) (Nat.le_add_right _ _)) (fun z => absurd rfl z)
theorem law_c34 (C : Cx p s m [Value.ref b].toArray c cL_law 8 RL wsLw D ca A) (hX : va_X b L xs s s.heap) (hbl : b < s.heap.size) (hbA : ¬ A b) (hR : Rel σ) (hu : 0 ≤ u ∧ u + 5 < (L : Int)) (hL : L ≤ 384) (hcs : cells ≤ 600000 ∧ slots ≤ 7300000) (kk : ∀ (σ' : Mem) (cells' slots' : Nat), Rel σ' → cells' ≤ cells + 1 → slots' ≤ slots + 6 → G p l e room_1 s m [Value.ref b].toArray below meth c 8 D ca ad A cells' slots' Q σ' 1842 (lvB b ad u) []) : G p l e room_1 s m [Value.ref b].toArray below meth c 8 D ca ad A cells slots Q σ 1455 (lvB b ad u) [] := by
  obtain ⟨r, σ1, σ2, h1, h2, hR2⟩ := op_restore hR
  refine g_aload_n (i := 1) C dL_law_1455 rfl rfl ?_
  refine g_callVi C (c_X11_restore h1) (cwV 0 C.2.2.2.2.1 (gLift gL_law_X11_restore) rfl rfl rfl (by decide +kernel) ⟨Nat.le_of_ble_eq_true rfl, Nat.le_of_ble_eq_true rfl⟩) ob_X11 rfl rfl rfl rfl (Nat.le_of_ble_eq_true rfl) dL_law_1456 ⟨Nat.le_trans hcs.1 (Nat.le_of_ble_eq_true rfl), Nat.le_trans hcs.2 (Nat.le_of_ble_eq_true rfl)⟩ ?_
  refine g_aload_n (i := 2) C dL_law_1459 rfl rfl ?_
  refine g_callVi C (c_X12_restore h2) (cwV 0 C.2.2.2.2.1 (gLift gL_law_X12_restore) rfl rfl rfl (by decide +kernel) ⟨Nat.le_of_ble_eq_true rfl, Nat.le_of_ble_eq_true rfl⟩) ob_X12 rfl rfl rfl rfl (Nat.le_of_ble_eq_true rfl) dL_law_1460 ⟨Nat.le_trans hcs.1 (Nat.le_of_ble_eq_true rfl), Nat.le_trans hcs.2 (Nat.le_of_ble_eq_true rfl)⟩ ?_
  exact g_icmp_eq (tgt := 1842) C dL_law_1463 (by decide) rfl rfl (fun _ => kk _ _ _ hR2 (Nat.le_succ _) (Nat.le_add_right _ _)) (fun z => absurd rfl z)
theorem law_c35 (C : Cx p s m [Value.ref b].toArray c cL_law 8 RL wsLw D ca A) (hX : va_X b L xs s s.heap) (hbl : b < s.heap.size) (hbA : ¬ A b) (hR : Rel σ) (hu : 0 ≤ u ∧ u + 5 < (L : Int)) (hL : L ≤ 384) (hcs : cells ≤ 600000 ∧ slots ≤ 7300000) (kk : ∀ (σ' : Mem) (cells' slots' : Nat), Rel σ' → cells' ≤ cells + 1 → slots' ≤ slots + 6 → G p l e room_1 s m [Value.ref b].toArray below meth c 8 D ca ad A cells' slots' Q σ' 1842 (lvB b ad u) []) : G p l e room_1 s m [Value.ref b].toArray below meth c 8 D ca ad A cells slots Q σ 1468 (lvB b ad u) [] := by
  have hj1 : s32 (u + 1) = (((u + 1).toNat : Nat) : Int) := by rw [s32_of (by omega) (by omega)]; omega
  obtain ⟨r, σ1, σ2, h1, h2, hR2⟩ := op_count hR (s32_ti (xs (u + 1).toNat))
  refine g_aload_n (i := 1) C dL_law_1468 rfl rfl ?_
  refine g_arg C hX hbl hbA rfl rfl hj1 (by clear hj1; omega) dL_law_1469 dL_law_1470 dL_law_1472 dL_law_1473 dL_law_1474 ?_
  refine g_callVi C (c_X11_count h1) (cwV 1 C.2.2.2.2.1 (gLift gL_law_X11_count) rfl rfl rfl (by decide +kernel) ⟨Nat.le_of_ble_eq_true rfl, Nat.le_of_ble_eq_true rfl⟩) ob_X11 rfl rfl rfl rfl (Nat.le_of_ble_eq_true rfl) dL_law_1475 ⟨Nat.le_trans hcs.1 (Nat.le_of_ble_eq_true rfl), Nat.le_trans hcs.2 (Nat.le_of_ble_eq_true rfl)⟩ ?_
  refine g_aload_n (i := 2) C dL_law_1478 rfl rfl ?_
  refine g_arg C hX hbl hbA rfl rfl hj1 (by clear hj1; omega) dL_law_1479 dL_law_1480 dL_law_1482 dL_law_1483 dL_law_1484 ?_
  refine g_callVi C (c_X12_count h2) (cwV 1 C.2.2.2.2.1 (gLift gL_law_X12_count) rfl rfl rfl (by decide +kernel) ⟨Nat.le_of_ble_eq_true rfl, Nat.le_of_ble_eq_true rfl⟩) ob_X12 rfl rfl rfl rfl (Nat.le_of_ble_eq_true rfl) dL_law_1485 ⟨Nat.le_trans hcs.1 (Nat.le_of_ble_eq_true rfl), Nat.le_trans hcs.2 (Nat.le_of_ble_eq_true rfl)⟩ ?_
  exact g_icmp_eq (tgt := 1842) C dL_law_1488 (by decide) rfl rfl (fun _ => kk _ _ _ hR2 (Nat.le_succ _) (Nat.le_add_right _ _)) (fun z => absurd rfl z)
end Glc2
