/-! THE LAW'S CASES 14 to 27 -/
set_option maxRecDepth 20000 in
set_option maxHeartbeats 4000000 in
theorem case_14 {p : Program} {l : Launch} {e : Env} {s : State} {m : MethodId} {args : Array Value} {below : List Frame} {meth : Method} {c : Code} {H : Heap} {locs : List Loc} {cells slots B k b L : Nat} {Q : State → Prop} {ls : Array Slot} {g : GP} {M : Mem} {xs : Nat → Int32} (hst0 : l.stackTraces = false) (X : CX g l p s m args meth c RL cL_law 9) (hX : va_X b L xs s (gH g)) (hbl : b < gN g) (hk : 5 * k + 5 ≤ L) (hL2 : L ≤ 2560) (hH : HR g M H) (hL : LK g s H locs) (hG : GI B M) (hB : B + 600 ≤ 2 ^ 20) (hf : cells + 1 ≤ 603072 ∧ slots + 6 ≤ 7198826) (hl : lv_has ls 9 (LVl g b k))
    (kk : ∀ H1 locs1 M1 ls1, HR g M1 H1 → LK g s H1 locs1 → GI (B + 600) M1 → lv_has ls1 9 (LVl g b k) → W p l e room_1 s m args below meth c H1 locs1 (cells + 1) (slots + 6) Q (F0 m 2994 ls1 [])) : W p l e room_1 s m args below meth c H locs cells slots Q (F0 m 1013 ls []) := by
  have hx := X.1
  have hb := X.2.1
  obtain ⟨v, M2, e1, e2, hG2⟩ := call_limit hG
  refine w_askI (tg := 2994) X hH hL hl 2 rfl 3 rfl (co_X8_limit g l hst0 1 M (by decide) v e1) ok_X8_limit rfl U522 (co_X9_limit g l hst0 204 M (by decide) v M2 e2) ok_X9_limit rfl U1548 ⟨(Nat.le_of_ble_eq_true rfl), (Nat.le_of_ble_eq_true rfl)⟩ ⟨(Nat.le_of_ble_eq_true rfl), (Nat.le_of_ble_eq_true rfl)⟩ ⟨by show cells ≤ 603072; omega, by show slots ≤ 7198826; omega⟩ dL_law_1013 dL_law_1014 dL_law_1017 dL_law_1018 dL_law_1021 (by decide) (fun H locs hH hL => ?_)
  exact W.widen (k := cells + 1) (n := slots + 6) (by omega) (by omega) (kk H locs M2 ls hH hL (hG2.up (by omega)) hl)
set_option maxRecDepth 20000 in
set_option maxHeartbeats 4000000 in
theorem case_15 {p : Program} {l : Launch} {e : Env} {s : State} {m : MethodId} {args : Array Value} {below : List Frame} {meth : Method} {c : Code} {H : Heap} {locs : List Loc} {cells slots B k b L : Nat} {Q : State → Prop} {ls : Array Slot} {g : GP} {M : Mem} {xs : Nat → Int32} (hst0 : l.stackTraces = false) (X : CX g l p s m args meth c RL cL_law 9) (hX : va_X b L xs s (gH g)) (hbl : b < gN g) (hk : 5 * k + 5 ≤ L) (hL2 : L ≤ 2560) (hH : HR g M H) (hL : LK g s H locs) (hG : GI B M) (hB : B + 600 ≤ 2 ^ 20) (hf : cells + 1 ≤ 603072 ∧ slots + 6 ≤ 7198826) (hl : lv_has ls 9 (LVl g b k))
    (kk : ∀ H1 locs1 M1 ls1, HR g M1 H1 → LK g s H1 locs1 → GI (B + 600) M1 → lv_has ls1 9 (LVl g b k) → W p l e room_1 s m args below meth c H1 locs1 (cells + 1) (slots + 6) Q (F0 m 2994 ls1 [])) : W p l e room_1 s m args below meth c H locs cells slots Q (F0 m 1026 ls []) := by
  have hx := X.1
  have hb := X.2.1
  obtain ⟨k9, M1, b9, M2, e1, e2, e3, e4, hG2⟩ := call_kind hG (xs (5 * k + 1))
  refine lv_aload_n hx hb dL_law_1026 rfl (lv_at hl 2 rfl) ?_
  refine w_ar (jn := 1) X hH hX hbl hk hL2 hl 1 rfl 0 rfl (by decide) rfl dL_law_1027 dL_law_1028 dL_law_1030 dL_law_1031 dL_law_1032 ?_
  refine lv_aload_n hx hb dL_law_1033 rfl (lv_at hl 4 rfl) ?_
  refine w_call X hH hL hl.1 (co_L_kind g l hst0 1 (xs (5 * k + 1)) 213 M (by decide) (by decide) k9 M1 e1) ok_L_kind U818 rfl rfl ⟨(Nat.le_of_ble_eq_true rfl), (Nat.le_of_ble_eq_true rfl)⟩ hf (Nat.zero_le _) dL_law_1034 (fun H locs hH hL => ?_)
  refine lv_istore (lv' := (6, .int k9) :: LVl g b k) hx hb dL_law_1037 hl (by decide) rfl (fun ls hl => ?_)
  refine lv_aload_n hx hb dL_law_1039 rfl (lv_at hl 4 rfl) ?_
  refine w_ar (jn := 1) X hH hX hbl hk hL2 hl 2 rfl 1 rfl (by decide) rfl dL_law_1040 dL_law_1041 dL_law_1043 dL_law_1044 dL_law_1045 ?_
  refine my_done hL (my_runV X hH hl.1 (co_X9_kind g l hst0 204 (xs (5 * k + 1)) M1 (by decide) b9 M2 e2) ok_X9_kind U1552 (show tyT 204 = 9 by decide) rfl (by decide) rfl rfl rfl ⟨(Nat.le_of_ble_eq_true rfl), (Nat.le_of_ble_eq_true rfl)⟩ hf (Nat.zero_le _) dL_law_1046) (fun H locs hH hL => ?_)
  refine lv_istore (lv' := (7, .int b9) :: (6, .int k9) :: LVl g b k) hx hb dL_law_1049 hl (by decide) rfl (fun ls hl => ?_)
  refine w_thr (v := k9) hst0 X hH hL hl ⟨(Nat.le_of_ble_eq_true rfl), (Nat.le_of_ble_eq_true rfl)⟩ hf 5 rfl 1 rfl e3 U1274 dL_law_1051 dL_law_1052 dL_law_1055 dL_law_1057 (fun H locs hH hL => ?_) (Nat.zero_le _)
  refine w_cmpI (tg := 2994) (o2 := 1915) X hH hl 6 rfl 1 rfl 0 rfl e4 dL_law_1062 dL_law_1064 dL_law_1067 dL_law_1068 dL_law_1069 dL_law_1070 dL_law_1072 dL_law_1073 dL_law_1074 dL_law_1079 (by decide) ?_
  exact kk H locs M2 ls hH hL (hG2.up (by omega)) (lv_sub hl [2, 3, 4, 5, 6, 7] rfl)
set_option maxRecDepth 20000 in
set_option maxHeartbeats 4000000 in
theorem case_16 {p : Program} {l : Launch} {e : Env} {s : State} {m : MethodId} {args : Array Value} {below : List Frame} {meth : Method} {c : Code} {H : Heap} {locs : List Loc} {cells slots B k b L : Nat} {Q : State → Prop} {ls : Array Slot} {g : GP} {M : Mem} {xs : Nat → Int32} (hst0 : l.stackTraces = false) (X : CX g l p s m args meth c RL cL_law 9) (hX : va_X b L xs s (gH g)) (hbl : b < gN g) (hk : 5 * k + 5 ≤ L) (hL2 : L ≤ 2560) (hH : HR g M H) (hL : LK g s H locs) (hG : GI B M) (hB : B + 600 ≤ 2 ^ 20) (hf : cells + 1 ≤ 603072 ∧ slots + 6 ≤ 7198826) (hl : lv_has ls 9 (LVl g b k))
    (kk : ∀ H1 locs1 M1 ls1, HR g M1 H1 → LK g s H1 locs1 → GI (B + 600) M1 → lv_has ls1 9 (LVl g b k) → W p l e room_1 s m args below meth c H1 locs1 (cells + 1) (slots + 6) Q (F0 m 2994 ls1 [])) : W p l e room_1 s m args below meth c H locs cells slots Q (F0 m 1082 ls []) := by
  have hx := X.1
  have hb := X.2.1
  obtain ⟨k9, M1, b9, M2, e1, e2, e3, e4, hG2⟩ := call_rows hG (xs (5 * k + 1))
  refine lv_aload_n hx hb dL_law_1082 rfl (lv_at hl 2 rfl) ?_
  refine w_ar (jn := 1) X hH hX hbl hk hL2 hl 1 rfl 0 rfl (by decide) rfl dL_law_1083 dL_law_1084 dL_law_1086 dL_law_1087 dL_law_1088 ?_
  refine lv_aload_n hx hb dL_law_1089 rfl (lv_at hl 4 rfl) ?_
  refine w_call X hH hL hl.1 (co_L_rows g l hst0 1 (xs (5 * k + 1)) 213 M (by decide) (by decide) k9 M1 e1) ok_L_rows U825 rfl rfl ⟨(Nat.le_of_ble_eq_true rfl), (Nat.le_of_ble_eq_true rfl)⟩ hf (Nat.zero_le _) dL_law_1090 (fun H locs hH hL => ?_)
  refine lv_istore (lv' := (6, .int k9) :: LVl g b k) hx hb dL_law_1093 hl (by decide) rfl (fun ls hl => ?_)
  refine lv_aload_n hx hb dL_law_1095 rfl (lv_at hl 4 rfl) ?_
  refine w_ar (jn := 1) X hH hX hbl hk hL2 hl 2 rfl 1 rfl (by decide) rfl dL_law_1096 dL_law_1097 dL_law_1099 dL_law_1100 dL_law_1101 ?_
  refine my_done hL (my_runV X hH hl.1 (co_X9_rows g l hst0 204 (xs (5 * k + 1)) M1 (by decide) b9 M2 e2) ok_X9_rows U1563 (show tyT 204 = 9 by decide) rfl (by decide) rfl rfl rfl ⟨(Nat.le_of_ble_eq_true rfl), (Nat.le_of_ble_eq_true rfl)⟩ hf (Nat.zero_le _) dL_law_1102) (fun H locs hH hL => ?_)
  refine lv_istore (lv' := (7, .int b9) :: (6, .int k9) :: LVl g b k) hx hb dL_law_1105 hl (by decide) rfl (fun ls hl => ?_)
  refine w_thr (v := k9) hst0 X hH hL hl ⟨(Nat.le_of_ble_eq_true rfl), (Nat.le_of_ble_eq_true rfl)⟩ hf 5 rfl 1 rfl e3 U1274 dL_law_1107 dL_law_1108 dL_law_1111 dL_law_1113 (fun H locs hH hL => ?_) (Nat.zero_le _)
  refine w_cmpI (tg := 2994) (o2 := 1859) X hH hl 6 rfl 1 rfl 0 rfl e4 dL_law_1118 dL_law_1120 dL_law_1123 dL_law_1124 dL_law_1125 dL_law_1126 dL_law_1128 dL_law_1129 dL_law_1130 dL_law_1135 (by decide) ?_
  exact kk H locs M2 ls hH hL (hG2.up (by omega)) (lv_sub hl [2, 3, 4, 5, 6, 7] rfl)
set_option maxRecDepth 20000 in
set_option maxHeartbeats 4000000 in
theorem case_17 {p : Program} {l : Launch} {e : Env} {s : State} {m : MethodId} {args : Array Value} {below : List Frame} {meth : Method} {c : Code} {H : Heap} {locs : List Loc} {cells slots B k b L : Nat} {Q : State → Prop} {ls : Array Slot} {g : GP} {M : Mem} {xs : Nat → Int32} (hst0 : l.stackTraces = false) (X : CX g l p s m args meth c RL cL_law 9) (hX : va_X b L xs s (gH g)) (hbl : b < gN g) (hk : 5 * k + 5 ≤ L) (hL2 : L ≤ 2560) (hH : HR g M H) (hL : LK g s H locs) (hG : GI B M) (hB : B + 600 ≤ 2 ^ 20) (hf : cells + 1 ≤ 603072 ∧ slots + 6 ≤ 7198826) (hl : lv_has ls 9 (LVl g b k))
    (kk : ∀ H1 locs1 M1 ls1, HR g M1 H1 → LK g s H1 locs1 → GI (B + 600) M1 → lv_has ls1 9 (LVl g b k) → W p l e room_1 s m args below meth c H1 locs1 (cells + 1) (slots + 6) Q (F0 m 2994 ls1 [])) : W p l e room_1 s m args below meth c H locs cells slots Q (F0 m 1138 ls []) := by
  have hx := X.1
  have hb := X.2.1
  obtain ⟨k9, M1, b9, M2, e1, e2, e3, e4, hG2⟩ := call_columns hG (xs (5 * k + 1))
  refine lv_aload_n hx hb dL_law_1138 rfl (lv_at hl 2 rfl) ?_
  refine w_ar (jn := 1) X hH hX hbl hk hL2 hl 1 rfl 0 rfl (by decide) rfl dL_law_1139 dL_law_1140 dL_law_1142 dL_law_1143 dL_law_1144 ?_
  refine lv_aload_n hx hb dL_law_1145 rfl (lv_at hl 4 rfl) ?_
  refine w_call X hH hL hl.1 (co_L_columns g l hst0 1 (xs (5 * k + 1)) 213 M (by decide) (by decide) k9 M1 e1) ok_L_columns U832 rfl rfl ⟨(Nat.le_of_ble_eq_true rfl), (Nat.le_of_ble_eq_true rfl)⟩ hf (Nat.zero_le _) dL_law_1146 (fun H locs hH hL => ?_)
  refine lv_istore (lv' := (6, .int k9) :: LVl g b k) hx hb dL_law_1149 hl (by decide) rfl (fun ls hl => ?_)
  refine lv_aload_n hx hb dL_law_1151 rfl (lv_at hl 4 rfl) ?_
  refine w_ar (jn := 1) X hH hX hbl hk hL2 hl 2 rfl 1 rfl (by decide) rfl dL_law_1152 dL_law_1153 dL_law_1155 dL_law_1156 dL_law_1157 ?_
  refine my_done hL (my_runV X hH hl.1 (co_X9_columns g l hst0 204 (xs (5 * k + 1)) M1 (by decide) b9 M2 e2) ok_X9_columns U1567 (show tyT 204 = 9 by decide) rfl (by decide) rfl rfl rfl ⟨(Nat.le_of_ble_eq_true rfl), (Nat.le_of_ble_eq_true rfl)⟩ hf (Nat.zero_le _) dL_law_1158) (fun H locs hH hL => ?_)
  refine lv_istore (lv' := (7, .int b9) :: (6, .int k9) :: LVl g b k) hx hb dL_law_1161 hl (by decide) rfl (fun ls hl => ?_)
  refine w_thr (v := k9) hst0 X hH hL hl ⟨(Nat.le_of_ble_eq_true rfl), (Nat.le_of_ble_eq_true rfl)⟩ hf 5 rfl 1 rfl e3 U1274 dL_law_1163 dL_law_1164 dL_law_1167 dL_law_1169 (fun H locs hH hL => ?_) (Nat.zero_le _)
  refine w_cmpI (tg := 2994) (o2 := 1803) X hH hl 6 rfl 1 rfl 0 rfl e4 dL_law_1174 dL_law_1176 dL_law_1179 dL_law_1180 dL_law_1181 dL_law_1182 dL_law_1184 dL_law_1185 dL_law_1186 dL_law_1191 (by decide) ?_
  exact kk H locs M2 ls hH hL (hG2.up (by omega)) (lv_sub hl [2, 3, 4, 5, 6, 7] rfl)
set_option maxRecDepth 20000 in
set_option maxHeartbeats 4000000 in
theorem case_18 {p : Program} {l : Launch} {e : Env} {s : State} {m : MethodId} {args : Array Value} {below : List Frame} {meth : Method} {c : Code} {H : Heap} {locs : List Loc} {cells slots B k b L : Nat} {Q : State → Prop} {ls : Array Slot} {g : GP} {M : Mem} {xs : Nat → Int32} (hst0 : l.stackTraces = false) (X : CX g l p s m args meth c RL cL_law 9) (hX : va_X b L xs s (gH g)) (hbl : b < gN g) (hk : 5 * k + 5 ≤ L) (hL2 : L ≤ 2560) (hH : HR g M H) (hL : LK g s H locs) (hG : GI B M) (hB : B + 600 ≤ 2 ^ 20) (hf : cells + 1 ≤ 603072 ∧ slots + 6 ≤ 7198826) (hl : lv_has ls 9 (LVl g b k))
    (kk : ∀ H1 locs1 M1 ls1, HR g M1 H1 → LK g s H1 locs1 → GI (B + 600) M1 → lv_has ls1 9 (LVl g b k) → W p l e room_1 s m args below meth c H1 locs1 (cells + 1) (slots + 6) Q (F0 m 2994 ls1 [])) : W p l e room_1 s m args below meth c H locs cells slots Q (F0 m 1194 ls []) := by
  have hx := X.1
  have hb := X.2.1
  obtain ⟨k9, M1, b9, M2, e1, e2, e3, e4, hG2⟩ := call_note hG (xs (5 * k + 1)) (xs (5 * k + 2)) (xs (5 * k + 3))
  refine lv_aload_n hx hb dL_law_1194 rfl (lv_at hl 2 rfl) ?_
  refine w_ar (jn := 1) X hH hX hbl hk hL2 hl 1 rfl 0 rfl (by decide) rfl dL_law_1195 dL_law_1196 dL_law_1198 dL_law_1199 dL_law_1200 ?_
  refine w_ar (jn := 2) X hH hX hbl hk hL2 hl 1 rfl 0 rfl (by decide) rfl dL_law_1201 dL_law_1202 dL_law_1204 dL_law_1205 dL_law_1206 ?_
  refine w_ar (jn := 3) X hH hX hbl hk hL2 hl 1 rfl 0 rfl (by decide) rfl dL_law_1207 dL_law_1208 dL_law_1210 dL_law_1211 dL_law_1212 ?_
  refine lv_aload_n hx hb dL_law_1213 rfl (lv_at hl 4 rfl) ?_
  refine w_call X hH hL hl.1 (co_L_note g l hst0 1 (xs (5 * k + 1)) (xs (5 * k + 2)) (xs (5 * k + 3)) 213 M (by decide) (by decide) k9 M1 e1) ok_L_note U836 rfl rfl ⟨(Nat.le_of_ble_eq_true rfl), (Nat.le_of_ble_eq_true rfl)⟩ hf (Nat.zero_le _) dL_law_1214 (fun H locs hH hL => ?_)
  refine lv_istore (lv' := (6, .int k9) :: LVl g b k) hx hb dL_law_1217 hl (by decide) rfl (fun ls hl => ?_)
  refine lv_aload_n hx hb dL_law_1219 rfl (lv_at hl 4 rfl) ?_
  refine w_ar (jn := 1) X hH hX hbl hk hL2 hl 2 rfl 1 rfl (by decide) rfl dL_law_1220 dL_law_1221 dL_law_1223 dL_law_1224 dL_law_1225 ?_
  refine w_ar (jn := 2) X hH hX hbl hk hL2 hl 2 rfl 1 rfl (by decide) rfl dL_law_1226 dL_law_1227 dL_law_1229 dL_law_1230 dL_law_1231 ?_
  refine w_ar (jn := 3) X hH hX hbl hk hL2 hl 2 rfl 1 rfl (by decide) rfl dL_law_1232 dL_law_1233 dL_law_1235 dL_law_1236 dL_law_1237 ?_
  refine my_done hL (my_runV X hH hl.1 (co_X9_note g l hst0 204 (xs (5 * k + 1)) (xs (5 * k + 2)) (xs (5 * k + 3)) M1 (by decide) b9 M2 e2) ok_X9_note U1571 (show tyT 204 = 9 by decide) rfl (by decide) rfl rfl rfl ⟨(Nat.le_of_ble_eq_true rfl), (Nat.le_of_ble_eq_true rfl)⟩ hf (Nat.zero_le _) dL_law_1238) (fun H locs hH hL => ?_)
  refine lv_istore (lv' := (7, .int b9) :: (6, .int k9) :: LVl g b k) hx hb dL_law_1241 hl (by decide) rfl (fun ls hl => ?_)
  refine w_thr (v := k9) hst0 X hH hL hl ⟨(Nat.le_of_ble_eq_true rfl), (Nat.le_of_ble_eq_true rfl)⟩ hf 5 rfl 1 rfl e3 U1274 dL_law_1243 dL_law_1244 dL_law_1247 dL_law_1249 (fun H locs hH hL => ?_) (Nat.zero_le _)
  refine w_cmpI (tg := 2994) (o2 := 1723) X hH hl 6 rfl 1 rfl 0 rfl e4 dL_law_1254 dL_law_1256 dL_law_1259 dL_law_1260 dL_law_1261 dL_law_1262 dL_law_1264 dL_law_1265 dL_law_1266 dL_law_1271 (by decide) ?_
  exact kk H locs M2 ls hH hL (hG2.up (by omega)) (lv_sub hl [2, 3, 4, 5, 6, 7] rfl)
set_option maxRecDepth 20000 in
set_option maxHeartbeats 4000000 in
theorem case_19 {p : Program} {l : Launch} {e : Env} {s : State} {m : MethodId} {args : Array Value} {below : List Frame} {meth : Method} {c : Code} {H : Heap} {locs : List Loc} {cells slots B k b L : Nat} {Q : State → Prop} {ls : Array Slot} {g : GP} {M : Mem} {xs : Nat → Int32} (hst0 : l.stackTraces = false) (X : CX g l p s m args meth c RL cL_law 9) (hX : va_X b L xs s (gH g)) (hbl : b < gN g) (hk : 5 * k + 5 ≤ L) (hL2 : L ≤ 2560) (hH : HR g M H) (hL : LK g s H locs) (hG : GI B M) (hB : B + 600 ≤ 2 ^ 20) (hf : cells + 1 ≤ 603072 ∧ slots + 6 ≤ 7198826) (hl : lv_has ls 9 (LVl g b k))
    (kk : ∀ H1 locs1 M1 ls1, HR g M1 H1 → LK g s H1 locs1 → GI (B + 600) M1 → lv_has ls1 9 (LVl g b k) → W p l e room_1 s m args below meth c H1 locs1 (cells + 1) (slots + 6) Q (F0 m 2994 ls1 [])) : W p l e room_1 s m args below meth c H locs cells slots Q (F0 m 1274 ls []) := by
  have hx := X.1
  have hb := X.2.1
  obtain ⟨k9, M1, b9, M2, e1, e2, e3, e4, hG2⟩ := call_isMasked hG (xs (5 * k + 1)) (xs (5 * k + 2))
  refine lv_aload_n hx hb dL_law_1274 rfl (lv_at hl 2 rfl) ?_
  refine w_ar (jn := 1) X hH hX hbl hk hL2 hl 1 rfl 0 rfl (by decide) rfl dL_law_1275 dL_law_1276 dL_law_1278 dL_law_1279 dL_law_1280 ?_
  refine w_ar (jn := 2) X hH hX hbl hk hL2 hl 1 rfl 0 rfl (by decide) rfl dL_law_1281 dL_law_1282 dL_law_1284 dL_law_1285 dL_law_1286 ?_
  refine lv_aload_n hx hb dL_law_1287 rfl (lv_at hl 4 rfl) ?_
  refine w_call X hH hL hl.1 (co_L_isMasked g l hst0 1 (xs (5 * k + 1)) (xs (5 * k + 2)) 213 M (by decide) (by decide) k9 M1 e1) ok_L_isMasked U846 rfl rfl ⟨(Nat.le_of_ble_eq_true rfl), (Nat.le_of_ble_eq_true rfl)⟩ hf (Nat.zero_le _) dL_law_1288 (fun H locs hH hL => ?_)
  refine lv_istore (lv' := (6, .int k9) :: LVl g b k) hx hb dL_law_1291 hl (by decide) rfl (fun ls hl => ?_)
  refine lv_aload_n hx hb dL_law_1293 rfl (lv_at hl 4 rfl) ?_
  refine w_ar (jn := 1) X hH hX hbl hk hL2 hl 2 rfl 1 rfl (by decide) rfl dL_law_1294 dL_law_1295 dL_law_1297 dL_law_1298 dL_law_1299 ?_
  refine w_ar (jn := 2) X hH hX hbl hk hL2 hl 2 rfl 1 rfl (by decide) rfl dL_law_1300 dL_law_1301 dL_law_1303 dL_law_1304 dL_law_1305 ?_
  refine my_done hL (my_runV X hH hl.1 (co_X9_isMasked g l hst0 204 (xs (5 * k + 1)) (xs (5 * k + 2)) M1 (by decide) b9 M2 e2) ok_X9_isMasked U1575 (show tyT 204 = 9 by decide) rfl (by decide) rfl rfl rfl ⟨(Nat.le_of_ble_eq_true rfl), (Nat.le_of_ble_eq_true rfl)⟩ hf (Nat.zero_le _) dL_law_1306) (fun H locs hH hL => ?_)
  refine lv_istore (lv' := (7, .int b9) :: (6, .int k9) :: LVl g b k) hx hb dL_law_1309 hl (by decide) rfl (fun ls hl => ?_)
  refine w_thr (v := k9) hst0 X hH hL hl ⟨(Nat.le_of_ble_eq_true rfl), (Nat.le_of_ble_eq_true rfl)⟩ hf 5 rfl 1 rfl e3 U1274 dL_law_1311 dL_law_1312 dL_law_1315 dL_law_1317 (fun H locs hH hL => ?_) (Nat.zero_le _)
  refine w_cmpZ (tg := 2994) (o2 := 1648) X hH hl 6 rfl 1 rfl 0 rfl e4 (oa_isMasked _ _ _ _ _ _ e2) dL_law_1322 dL_law_1324 dL_law_1327 dL_law_1328 dL_law_1329 dL_law_1330 dL_law_1332 dL_law_1335 dL_law_1336 dL_law_1339 dL_law_1340 dL_law_1341 dL_law_1346 (by decide) ?_
  exact kk H locs M2 ls hH hL (hG2.up (by omega)) (lv_sub hl [2, 3, 4, 5, 6, 7] rfl)
set_option maxRecDepth 20000 in
set_option maxHeartbeats 4000000 in
theorem case_20 {p : Program} {l : Launch} {e : Env} {s : State} {m : MethodId} {args : Array Value} {below : List Frame} {meth : Method} {c : Code} {H : Heap} {locs : List Loc} {cells slots B k b L : Nat} {Q : State → Prop} {ls : Array Slot} {g : GP} {M : Mem} {xs : Nat → Int32} (hst0 : l.stackTraces = false) (X : CX g l p s m args meth c RL cL_law 9) (hX : va_X b L xs s (gH g)) (hbl : b < gN g) (hk : 5 * k + 5 ≤ L) (hL2 : L ≤ 2560) (hH : HR g M H) (hL : LK g s H locs) (hG : GI B M) (hB : B + 600 ≤ 2 ^ 20) (hf : cells + 1 ≤ 603072 ∧ slots + 6 ≤ 7198826) (hl : lv_has ls 9 (LVl g b k))
    (kk : ∀ H1 locs1 M1 ls1, HR g M1 H1 → LK g s H1 locs1 → GI (B + 600) M1 → lv_has ls1 9 (LVl g b k) → W p l e room_1 s m args below meth c H1 locs1 (cells + 1) (slots + 6) Q (F0 m 2994 ls1 [])) : W p l e room_1 s m args below meth c H locs cells slots Q (F0 m 1349 ls []) := by
  have hx := X.1
  have hb := X.2.1
  obtain ⟨k9, M1, b9, M2, e1, e2, e3, e4, hG2⟩ := call_fatigue hG (xs (5 * k + 1))
  refine lv_aload_n hx hb dL_law_1349 rfl (lv_at hl 2 rfl) ?_
  refine w_ar (jn := 1) X hH hX hbl hk hL2 hl 1 rfl 0 rfl (by decide) rfl dL_law_1350 dL_law_1351 dL_law_1353 dL_law_1354 dL_law_1355 ?_
  refine lv_aload_n hx hb dL_law_1356 rfl (lv_at hl 4 rfl) ?_
  refine w_call X hH hL hl.1 (co_L_fatigue g l hst0 1 (xs (5 * k + 1)) 213 M (by decide) (by decide) k9 M1 e1) ok_L_fatigue U856 rfl rfl ⟨(Nat.le_of_ble_eq_true rfl), (Nat.le_of_ble_eq_true rfl)⟩ hf (Nat.zero_le _) dL_law_1357 (fun H locs hH hL => ?_)
  refine lv_istore (lv' := (6, .int k9) :: LVl g b k) hx hb dL_law_1360 hl (by decide) rfl (fun ls hl => ?_)
  refine lv_aload_n hx hb dL_law_1362 rfl (lv_at hl 4 rfl) ?_
  refine w_ar (jn := 1) X hH hX hbl hk hL2 hl 2 rfl 1 rfl (by decide) rfl dL_law_1363 dL_law_1364 dL_law_1366 dL_law_1367 dL_law_1368 ?_
  refine my_done hL (my_runV X hH hl.1 (co_X9_fatigue g l hst0 204 (xs (5 * k + 1)) M1 (by decide) b9 M2 e2) ok_X9_fatigue U1579 (show tyT 204 = 9 by decide) rfl (by decide) rfl rfl rfl ⟨(Nat.le_of_ble_eq_true rfl), (Nat.le_of_ble_eq_true rfl)⟩ hf (Nat.zero_le _) dL_law_1369) (fun H locs hH hL => ?_)
  refine lv_istore (lv' := (7, .int b9) :: (6, .int k9) :: LVl g b k) hx hb dL_law_1372 hl (by decide) rfl (fun ls hl => ?_)
  refine w_thr (v := k9) hst0 X hH hL hl ⟨(Nat.le_of_ble_eq_true rfl), (Nat.le_of_ble_eq_true rfl)⟩ hf 5 rfl 1 rfl e3 U1274 dL_law_1374 dL_law_1375 dL_law_1378 dL_law_1380 (fun H locs hH hL => ?_) (Nat.zero_le _)
  refine w_cmpI (tg := 2994) (o2 := 1592) X hH hl 6 rfl 1 rfl 0 rfl e4 dL_law_1385 dL_law_1387 dL_law_1390 dL_law_1391 dL_law_1392 dL_law_1393 dL_law_1395 dL_law_1396 dL_law_1397 dL_law_1402 (by decide) ?_
  exact kk H locs M2 ls hH hL (hG2.up (by omega)) (lv_sub hl [2, 3, 4, 5, 6, 7] rfl)
set_option maxRecDepth 20000 in
set_option maxHeartbeats 4000000 in
theorem case_21 {p : Program} {l : Launch} {e : Env} {s : State} {m : MethodId} {args : Array Value} {below : List Frame} {meth : Method} {c : Code} {H : Heap} {locs : List Loc} {cells slots B k b L : Nat} {Q : State → Prop} {ls : Array Slot} {g : GP} {M : Mem} {xs : Nat → Int32} (hst0 : l.stackTraces = false) (X : CX g l p s m args meth c RL cL_law 9) (hX : va_X b L xs s (gH g)) (hbl : b < gN g) (hk : 5 * k + 5 ≤ L) (hL2 : L ≤ 2560) (hH : HR g M H) (hL : LK g s H locs) (hG : GI B M) (hB : B + 600 ≤ 2 ^ 20) (hf : cells + 1 ≤ 603072 ∧ slots + 6 ≤ 7198826) (hl : lv_has ls 9 (LVl g b k))
    (kk : ∀ H1 locs1 M1 ls1, HR g M1 H1 → LK g s H1 locs1 → GI (B + 600) M1 → lv_has ls1 9 (LVl g b k) → W p l e room_1 s m args below meth c H1 locs1 (cells + 1) (slots + 6) Q (F0 m 2994 ls1 [])) : W p l e room_1 s m args below meth c H locs cells slots Q (F0 m 1405 ls []) := by
  have hx := X.1
  have hb := X.2.1
  obtain ⟨k9, M1, b9, M2, e1, e2, e3, e4, hG2⟩ := call_restingBeats hG (xs (5 * k + 1))
  refine lv_aload_n hx hb dL_law_1405 rfl (lv_at hl 2 rfl) ?_
  refine w_ar (jn := 1) X hH hX hbl hk hL2 hl 1 rfl 0 rfl (by decide) rfl dL_law_1406 dL_law_1407 dL_law_1409 dL_law_1410 dL_law_1411 ?_
  refine lv_aload_n hx hb dL_law_1412 rfl (lv_at hl 4 rfl) ?_
  refine w_call X hH hL hl.1 (co_L_restingBeats g l hst0 1 (xs (5 * k + 1)) 213 M (by decide) (by decide) k9 M1 e1) ok_L_restingBeats U863 rfl rfl ⟨(Nat.le_of_ble_eq_true rfl), (Nat.le_of_ble_eq_true rfl)⟩ hf (Nat.zero_le _) dL_law_1413 (fun H locs hH hL => ?_)
  refine lv_istore (lv' := (6, .int k9) :: LVl g b k) hx hb dL_law_1416 hl (by decide) rfl (fun ls hl => ?_)
  refine lv_aload_n hx hb dL_law_1418 rfl (lv_at hl 4 rfl) ?_
  refine w_ar (jn := 1) X hH hX hbl hk hL2 hl 2 rfl 1 rfl (by decide) rfl dL_law_1419 dL_law_1420 dL_law_1422 dL_law_1423 dL_law_1424 ?_
  refine my_done hL (my_runV X hH hl.1 (co_X9_restingBeats g l hst0 204 (xs (5 * k + 1)) M1 (by decide) b9 M2 e2) ok_X9_restingBeats U1583 (show tyT 204 = 9 by decide) rfl (by decide) rfl rfl rfl ⟨(Nat.le_of_ble_eq_true rfl), (Nat.le_of_ble_eq_true rfl)⟩ hf (Nat.zero_le _) dL_law_1425) (fun H locs hH hL => ?_)
  refine lv_istore (lv' := (7, .int b9) :: (6, .int k9) :: LVl g b k) hx hb dL_law_1428 hl (by decide) rfl (fun ls hl => ?_)
  refine w_thr (v := k9) hst0 X hH hL hl ⟨(Nat.le_of_ble_eq_true rfl), (Nat.le_of_ble_eq_true rfl)⟩ hf 5 rfl 1 rfl e3 U1274 dL_law_1430 dL_law_1431 dL_law_1434 dL_law_1436 (fun H locs hH hL => ?_) (Nat.zero_le _)
  refine w_cmpI (tg := 2994) (o2 := 1536) X hH hl 6 rfl 1 rfl 0 rfl e4 dL_law_1441 dL_law_1443 dL_law_1446 dL_law_1447 dL_law_1448 dL_law_1449 dL_law_1451 dL_law_1452 dL_law_1453 dL_law_1458 (by decide) ?_
  exact kk H locs M2 ls hH hL (hG2.up (by omega)) (lv_sub hl [2, 3, 4, 5, 6, 7] rfl)
set_option maxRecDepth 20000 in
set_option maxHeartbeats 4000000 in
theorem case_22 {p : Program} {l : Launch} {e : Env} {s : State} {m : MethodId} {args : Array Value} {below : List Frame} {meth : Method} {c : Code} {H : Heap} {locs : List Loc} {cells slots B k b L : Nat} {Q : State → Prop} {ls : Array Slot} {g : GP} {M : Mem} {xs : Nat → Int32} (hst0 : l.stackTraces = false) (X : CX g l p s m args meth c RL cL_law 9) (hX : va_X b L xs s (gH g)) (hbl : b < gN g) (hk : 5 * k + 5 ≤ L) (hL2 : L ≤ 2560) (hH : HR g M H) (hL : LK g s H locs) (hG : GI B M) (hB : B + 600 ≤ 2 ^ 20) (hf : cells + 1 ≤ 603072 ∧ slots + 6 ≤ 7198826) (hl : lv_has ls 9 (LVl g b k))
    (kk : ∀ H1 locs1 M1 ls1, HR g M1 H1 → LK g s H1 locs1 → GI (B + 600) M1 → lv_has ls1 9 (LVl g b k) → W p l e room_1 s m args below meth c H1 locs1 (cells + 1) (slots + 6) Q (F0 m 2994 ls1 [])) : W p l e room_1 s m args below meth c H locs cells slots Q (F0 m 1461 ls []) := by
  have hx := X.1
  have hb := X.2.1
  obtain ⟨k9, M1, b9, M2, e1, e2, e3, e4, hG2⟩ := call_isSymmetric hG (xs (5 * k + 1))
  refine lv_aload_n hx hb dL_law_1461 rfl (lv_at hl 2 rfl) ?_
  refine w_ar (jn := 1) X hH hX hbl hk hL2 hl 1 rfl 0 rfl (by decide) rfl dL_law_1462 dL_law_1463 dL_law_1465 dL_law_1466 dL_law_1467 ?_
  refine lv_aload_n hx hb dL_law_1468 rfl (lv_at hl 4 rfl) ?_
  refine w_call X hH hL hl.1 (co_L_isSymmetric g l hst0 1 (xs (5 * k + 1)) 213 M (by decide) (by decide) k9 M1 e1) ok_L_isSymmetric U870 rfl rfl ⟨(Nat.le_of_ble_eq_true rfl), (Nat.le_of_ble_eq_true rfl)⟩ hf (Nat.zero_le _) dL_law_1469 (fun H locs hH hL => ?_)
  refine lv_istore (lv' := (6, .int k9) :: LVl g b k) hx hb dL_law_1472 hl (by decide) rfl (fun ls hl => ?_)
  refine lv_aload_n hx hb dL_law_1474 rfl (lv_at hl 4 rfl) ?_
  refine w_ar (jn := 1) X hH hX hbl hk hL2 hl 2 rfl 1 rfl (by decide) rfl dL_law_1475 dL_law_1476 dL_law_1478 dL_law_1479 dL_law_1480 ?_
  refine my_done hL (my_runV X hH hl.1 (co_X9_isSymmetric g l hst0 204 (xs (5 * k + 1)) M1 (by decide) b9 M2 e2) ok_X9_isSymmetric U1587 (show tyT 204 = 9 by decide) rfl (by decide) rfl rfl rfl ⟨(Nat.le_of_ble_eq_true rfl), (Nat.le_of_ble_eq_true rfl)⟩ hf (Nat.zero_le _) dL_law_1481) (fun H locs hH hL => ?_)
  refine lv_istore (lv' := (7, .int b9) :: (6, .int k9) :: LVl g b k) hx hb dL_law_1484 hl (by decide) rfl (fun ls hl => ?_)
  refine w_thr (v := k9) hst0 X hH hL hl ⟨(Nat.le_of_ble_eq_true rfl), (Nat.le_of_ble_eq_true rfl)⟩ hf 5 rfl 1 rfl e3 U1274 dL_law_1486 dL_law_1487 dL_law_1490 dL_law_1492 (fun H locs hH hL => ?_) (Nat.zero_le _)
  refine w_cmpZ (tg := 2994) (o2 := 1473) X hH hl 6 rfl 1 rfl 0 rfl e4 (oa_isSymmetric _ _ _ _ _ e2) dL_law_1497 dL_law_1499 dL_law_1502 dL_law_1503 dL_law_1504 dL_law_1505 dL_law_1507 dL_law_1510 dL_law_1511 dL_law_1514 dL_law_1515 dL_law_1516 dL_law_1521 (by decide) ?_
  exact kk H locs M2 ls hH hL (hG2.up (by omega)) (lv_sub hl [2, 3, 4, 5, 6, 7] rfl)
set_option maxRecDepth 20000 in
set_option maxHeartbeats 4000000 in
theorem case_23 {p : Program} {l : Launch} {e : Env} {s : State} {m : MethodId} {args : Array Value} {below : List Frame} {meth : Method} {c : Code} {H : Heap} {locs : List Loc} {cells slots B k b L : Nat} {Q : State → Prop} {ls : Array Slot} {g : GP} {M : Mem} {xs : Nat → Int32} (hst0 : l.stackTraces = false) (X : CX g l p s m args meth c RL cL_law 9) (hX : va_X b L xs s (gH g)) (hbl : b < gN g) (hk : 5 * k + 5 ≤ L) (hL2 : L ≤ 2560) (hH : HR g M H) (hL : LK g s H locs) (hG : GI B M) (hB : B + 600 ≤ 2 ^ 20) (hf : cells + 1 ≤ 603072 ∧ slots + 6 ≤ 7198826) (hl : lv_has ls 9 (LVl g b k))
    (kk : ∀ H1 locs1 M1 ls1, HR g M1 H1 → LK g s H1 locs1 → GI (B + 600) M1 → lv_has ls1 9 (LVl g b k) → W p l e room_1 s m args below meth c H1 locs1 (cells + 1) (slots + 6) Q (F0 m 2994 ls1 [])) : W p l e room_1 s m args below meth c H locs cells slots Q (F0 m 1524 ls []) := by
  have hx := X.1
  have hb := X.2.1
  obtain ⟨k9, M1, b9, M2, e1, e2, e3, e4, hG2⟩ := call_areAlike hG (xs (5 * k + 1)) (xs (5 * k + 2))
  refine lv_aload_n hx hb dL_law_1524 rfl (lv_at hl 2 rfl) ?_
  refine w_ar (jn := 1) X hH hX hbl hk hL2 hl 1 rfl 0 rfl (by decide) rfl dL_law_1525 dL_law_1526 dL_law_1528 dL_law_1529 dL_law_1530 ?_
  refine w_ar (jn := 2) X hH hX hbl hk hL2 hl 1 rfl 0 rfl (by decide) rfl dL_law_1531 dL_law_1532 dL_law_1534 dL_law_1535 dL_law_1536 ?_
  refine lv_aload_n hx hb dL_law_1537 rfl (lv_at hl 4 rfl) ?_
  refine w_call X hH hL hl.1 (co_L_areAlike g l hst0 1 (xs (5 * k + 1)) (xs (5 * k + 2)) 213 M (by decide) (by decide) k9 M1 e1) ok_L_areAlike U881 rfl rfl ⟨(Nat.le_of_ble_eq_true rfl), (Nat.le_of_ble_eq_true rfl)⟩ hf (Nat.zero_le _) dL_law_1538 (fun H locs hH hL => ?_)
  refine lv_istore (lv' := (6, .int k9) :: LVl g b k) hx hb dL_law_1541 hl (by decide) rfl (fun ls hl => ?_)
  refine lv_aload_n hx hb dL_law_1543 rfl (lv_at hl 4 rfl) ?_
  refine w_ar (jn := 1) X hH hX hbl hk hL2 hl 2 rfl 1 rfl (by decide) rfl dL_law_1544 dL_law_1545 dL_law_1547 dL_law_1548 dL_law_1549 ?_
  refine w_ar (jn := 2) X hH hX hbl hk hL2 hl 2 rfl 1 rfl (by decide) rfl dL_law_1550 dL_law_1551 dL_law_1553 dL_law_1554 dL_law_1555 ?_
  refine my_done hL (my_runV X hH hl.1 (co_X9_areAlike g l hst0 204 (xs (5 * k + 1)) (xs (5 * k + 2)) M1 (by decide) b9 M2 e2) ok_X9_areAlike U1591 (show tyT 204 = 9 by decide) rfl (by decide) rfl rfl rfl ⟨(Nat.le_of_ble_eq_true rfl), (Nat.le_of_ble_eq_true rfl)⟩ hf (Nat.zero_le _) dL_law_1556) (fun H locs hH hL => ?_)
  refine lv_istore (lv' := (7, .int b9) :: (6, .int k9) :: LVl g b k) hx hb dL_law_1559 hl (by decide) rfl (fun ls hl => ?_)
  refine w_thr (v := k9) hst0 X hH hL hl ⟨(Nat.le_of_ble_eq_true rfl), (Nat.le_of_ble_eq_true rfl)⟩ hf 5 rfl 1 rfl e3 U1274 dL_law_1561 dL_law_1562 dL_law_1565 dL_law_1567 (fun H locs hH hL => ?_) (Nat.zero_le _)
  refine w_cmpZ (tg := 2994) (o2 := 1398) X hH hl 6 rfl 1 rfl 0 rfl e4 (oa_areAlike _ _ _ _ _ _ e2) dL_law_1572 dL_law_1574 dL_law_1577 dL_law_1578 dL_law_1579 dL_law_1580 dL_law_1582 dL_law_1585 dL_law_1586 dL_law_1589 dL_law_1590 dL_law_1591 dL_law_1596 (by decide) ?_
  exact kk H locs M2 ls hH hL (hG2.up (by omega)) (lv_sub hl [2, 3, 4, 5, 6, 7] rfl)
set_option maxRecDepth 20000 in
set_option maxHeartbeats 4000000 in
theorem case_24 {p : Program} {l : Launch} {e : Env} {s : State} {m : MethodId} {args : Array Value} {below : List Frame} {meth : Method} {c : Code} {H : Heap} {locs : List Loc} {cells slots B k b L : Nat} {Q : State → Prop} {ls : Array Slot} {g : GP} {M : Mem} {xs : Nat → Int32} (hst0 : l.stackTraces = false) (X : CX g l p s m args meth c RL cL_law 9) (hX : va_X b L xs s (gH g)) (hbl : b < gN g) (hk : 5 * k + 5 ≤ L) (hL2 : L ≤ 2560) (hH : HR g M H) (hL : LK g s H locs) (hG : GI B M) (hB : B + 600 ≤ 2 ^ 20) (hf : cells + 1 ≤ 603072 ∧ slots + 6 ≤ 7198826) (hl : lv_has ls 9 (LVl g b k))
    (kk : ∀ H1 locs1 M1 ls1, HR g M1 H1 → LK g s H1 locs1 → GI (B + 600) M1 → lv_has ls1 9 (LVl g b k) → W p l e room_1 s m args below meth c H1 locs1 (cells + 1) (slots + 6) Q (F0 m 2994 ls1 [])) : W p l e room_1 s m args below meth c H locs cells slots Q (F0 m 1599 ls []) := by
  have hx := X.1
  have hb := X.2.1
  obtain ⟨k9, M1, b9, M2, e1, e2, e3, e4, hG2⟩ := call_noteVolume hG (((xs (5 * k + 1)).toUInt32 % 65536).toInt32) (xs (5 * k + 2))
  refine lv_aload_n hx hb dL_law_1599 rfl (lv_at hl 2 rfl) ?_
  refine w_ar (jn := 1) X hH hX hbl hk hL2 hl 1 rfl 0 rfl (by decide) rfl dL_law_1600 dL_law_1601 dL_law_1603 dL_law_1604 dL_law_1605 ?_
  refine lv_i2c hx hb dL_law_1606 rfl ?_
  refine w_ar (jn := 2) X hH hX hbl hk hL2 hl 1 rfl 0 rfl (by decide) rfl dL_law_1607 dL_law_1608 dL_law_1610 dL_law_1611 dL_law_1612 ?_
  refine lv_aload_n hx hb dL_law_1613 rfl (lv_at hl 4 rfl) ?_
  refine w_call X hH hL hl.1 (co_L_noteVolume g l hst0 1 (((xs (5 * k + 1)).toUInt32 % 65536).toInt32) (xs (5 * k + 2)) 213 M (by decide) (by decide) k9 M1 e1) ok_L_noteVolume U888 rfl rfl ⟨(Nat.le_of_ble_eq_true rfl), (Nat.le_of_ble_eq_true rfl)⟩ hf (Nat.zero_le _) dL_law_1614 (fun H locs hH hL => ?_)
  refine lv_istore (lv' := (6, .int k9) :: LVl g b k) hx hb dL_law_1617 hl (by decide) rfl (fun ls hl => ?_)
  refine lv_aload_n hx hb dL_law_1619 rfl (lv_at hl 4 rfl) ?_
  refine w_ar (jn := 1) X hH hX hbl hk hL2 hl 2 rfl 1 rfl (by decide) rfl dL_law_1620 dL_law_1621 dL_law_1623 dL_law_1624 dL_law_1625 ?_
  refine lv_i2c hx hb dL_law_1626 rfl ?_
  refine w_ar (jn := 2) X hH hX hbl hk hL2 hl 2 rfl 1 rfl (by decide) rfl dL_law_1627 dL_law_1628 dL_law_1630 dL_law_1631 dL_law_1632 ?_
  refine my_done hL (my_runV X hH hl.1 (co_X9_noteVolume g l hst0 204 (((xs (5 * k + 1)).toUInt32 % 65536).toInt32) (xs (5 * k + 2)) M1 (by decide) b9 M2 e2) ok_X9_noteVolume U1595 (show tyT 204 = 9 by decide) rfl (by decide) rfl rfl rfl ⟨(Nat.le_of_ble_eq_true rfl), (Nat.le_of_ble_eq_true rfl)⟩ hf (Nat.zero_le _) dL_law_1633) (fun H locs hH hL => ?_)
  refine lv_istore (lv' := (7, .int b9) :: (6, .int k9) :: LVl g b k) hx hb dL_law_1636 hl (by decide) rfl (fun ls hl => ?_)
  refine w_thr (v := k9) hst0 X hH hL hl ⟨(Nat.le_of_ble_eq_true rfl), (Nat.le_of_ble_eq_true rfl)⟩ hf 5 rfl 1 rfl e3 U1274 dL_law_1638 dL_law_1639 dL_law_1642 dL_law_1644 (fun H locs hH hL => ?_) (Nat.zero_le _)
  refine w_cmpI (tg := 2994) (o2 := 1328) X hH hl 6 rfl 1 rfl 0 rfl e4 dL_law_1649 dL_law_1651 dL_law_1654 dL_law_1655 dL_law_1656 dL_law_1657 dL_law_1659 dL_law_1660 dL_law_1661 dL_law_1666 (by decide) ?_
  exact kk H locs M2 ls hH hL (hG2.up (by omega)) (lv_sub hl [2, 3, 4, 5, 6, 7] rfl)
set_option maxRecDepth 20000 in
set_option maxHeartbeats 4000000 in
theorem case_25 {p : Program} {l : Launch} {e : Env} {s : State} {m : MethodId} {args : Array Value} {below : List Frame} {meth : Method} {c : Code} {H : Heap} {locs : List Loc} {cells slots B k b L : Nat} {Q : State → Prop} {ls : Array Slot} {g : GP} {M : Mem} {xs : Nat → Int32} (hst0 : l.stackTraces = false) (X : CX g l p s m args meth c RL cL_law 9) (hX : va_X b L xs s (gH g)) (hbl : b < gN g) (hk : 5 * k + 5 ≤ L) (hL2 : L ≤ 2560) (hH : HR g M H) (hL : LK g s H locs) (hG : GI B M) (hB : B + 600 ≤ 2 ^ 20) (hf : cells + 1 ≤ 603072 ∧ slots + 6 ≤ 7198826) (hl : lv_has ls 9 (LVl g b k))
    (kk : ∀ H1 locs1 M1 ls1, HR g M1 H1 → LK g s H1 locs1 → GI (B + 600) M1 → lv_has ls1 9 (LVl g b k) → W p l e room_1 s m args below meth c H1 locs1 (cells + 1) (slots + 6) Q (F0 m 2994 ls1 [])) : W p l e room_1 s m args below meth c H locs cells slots Q (F0 m 1669 ls []) := by
  have hx := X.1
  have hb := X.2.1
  obtain ⟨k9, M1, b9, M2, e1, e2, e3, e4, hG2⟩ := call_columnVolume hG (xs (5 * k + 1)) (xs (5 * k + 2))
  refine lv_aload_n hx hb dL_law_1669 rfl (lv_at hl 2 rfl) ?_
  refine w_ar (jn := 1) X hH hX hbl hk hL2 hl 1 rfl 0 rfl (by decide) rfl dL_law_1670 dL_law_1671 dL_law_1673 dL_law_1674 dL_law_1675 ?_
  refine w_ar (jn := 2) X hH hX hbl hk hL2 hl 1 rfl 0 rfl (by decide) rfl dL_law_1676 dL_law_1677 dL_law_1679 dL_law_1680 dL_law_1681 ?_
  refine lv_aload_n hx hb dL_law_1682 rfl (lv_at hl 4 rfl) ?_
  refine w_call X hH hL hl.1 (co_L_columnVolume g l hst0 1 (xs (5 * k + 1)) (xs (5 * k + 2)) 213 M (by decide) (by decide) k9 M1 e1) ok_L_columnVolume U897 rfl rfl ⟨(Nat.le_of_ble_eq_true rfl), (Nat.le_of_ble_eq_true rfl)⟩ hf (Nat.zero_le _) dL_law_1683 (fun H locs hH hL => ?_)
  refine lv_istore (lv' := (6, .int k9) :: LVl g b k) hx hb dL_law_1686 hl (by decide) rfl (fun ls hl => ?_)
  refine lv_aload_n hx hb dL_law_1688 rfl (lv_at hl 4 rfl) ?_
  refine w_ar (jn := 1) X hH hX hbl hk hL2 hl 2 rfl 1 rfl (by decide) rfl dL_law_1689 dL_law_1690 dL_law_1692 dL_law_1693 dL_law_1694 ?_
  refine w_ar (jn := 2) X hH hX hbl hk hL2 hl 2 rfl 1 rfl (by decide) rfl dL_law_1695 dL_law_1696 dL_law_1698 dL_law_1699 dL_law_1700 ?_
  refine my_done hL (my_runV X hH hl.1 (co_X9_columnVolume g l hst0 204 (xs (5 * k + 1)) (xs (5 * k + 2)) M1 (by decide) b9 M2 e2) ok_X9_columnVolume U1599 (show tyT 204 = 9 by decide) rfl (by decide) rfl rfl rfl ⟨(Nat.le_of_ble_eq_true rfl), (Nat.le_of_ble_eq_true rfl)⟩ hf (Nat.zero_le _) dL_law_1701) (fun H locs hH hL => ?_)
  refine lv_istore (lv' := (7, .int b9) :: (6, .int k9) :: LVl g b k) hx hb dL_law_1704 hl (by decide) rfl (fun ls hl => ?_)
  refine w_thr (v := k9) hst0 X hH hL hl ⟨(Nat.le_of_ble_eq_true rfl), (Nat.le_of_ble_eq_true rfl)⟩ hf 5 rfl 1 rfl e3 U1274 dL_law_1706 dL_law_1707 dL_law_1710 dL_law_1712 (fun H locs hH hL => ?_) (Nat.zero_le _)
  refine w_cmpI (tg := 2994) (o2 := 1260) X hH hl 6 rfl 1 rfl 0 rfl e4 dL_law_1717 dL_law_1719 dL_law_1722 dL_law_1723 dL_law_1724 dL_law_1725 dL_law_1727 dL_law_1728 dL_law_1729 dL_law_1734 (by decide) ?_
  exact kk H locs M2 ls hH hL (hG2.up (by omega)) (lv_sub hl [2, 3, 4, 5, 6, 7] rfl)
set_option maxRecDepth 20000 in
set_option maxHeartbeats 4000000 in
theorem case_26 {p : Program} {l : Launch} {e : Env} {s : State} {m : MethodId} {args : Array Value} {below : List Frame} {meth : Method} {c : Code} {H : Heap} {locs : List Loc} {cells slots B k b L : Nat} {Q : State → Prop} {ls : Array Slot} {g : GP} {M : Mem} {xs : Nat → Int32} (hst0 : l.stackTraces = false) (X : CX g l p s m args meth c RL cL_law 9) (hX : va_X b L xs s (gH g)) (hbl : b < gN g) (hk : 5 * k + 5 ≤ L) (hL2 : L ≤ 2560) (hH : HR g M H) (hL : LK g s H locs) (hG : GI B M) (hB : B + 600 ≤ 2 ^ 20) (hf : cells + 1 ≤ 603072 ∧ slots + 6 ≤ 7198826) (hl : lv_has ls 9 (LVl g b k))
    (kk : ∀ H1 locs1 M1 ls1, HR g M1 H1 → LK g s H1 locs1 → GI (B + 600) M1 → lv_has ls1 9 (LVl g b k) → W p l e room_1 s m args below meth c H1 locs1 (cells + 1) (slots + 6) Q (F0 m 2994 ls1 [])) : W p l e room_1 s m args below meth c H locs cells slots Q (F0 m 1737 ls []) := by
  have hx := X.1
  have hb := X.2.1
  obtain ⟨k9, M1, b9, M2, e1, e2, e3, e4, hG2⟩ := call_columnVolumeByTransposing hG (xs (5 * k + 1)) (xs (5 * k + 2))
  refine lv_aload_n hx hb dL_law_1737 rfl (lv_at hl 2 rfl) ?_
  refine w_ar (jn := 1) X hH hX hbl hk hL2 hl 1 rfl 0 rfl (by decide) rfl dL_law_1738 dL_law_1739 dL_law_1741 dL_law_1742 dL_law_1743 ?_
  refine w_ar (jn := 2) X hH hX hbl hk hL2 hl 1 rfl 0 rfl (by decide) rfl dL_law_1744 dL_law_1745 dL_law_1747 dL_law_1748 dL_law_1749 ?_
  refine lv_aload_n hx hb dL_law_1750 rfl (lv_at hl 4 rfl) ?_
  refine w_call X hH hL hl.1 (co_L_columnVolumeByTransposing g l hst0 1 (xs (5 * k + 1)) (xs (5 * k + 2)) 213 M (by decide) (by decide) k9 M1 e1) ok_L_columnVolumeByTransposing U901 rfl rfl ⟨(Nat.le_of_ble_eq_true rfl), (Nat.le_of_ble_eq_true rfl)⟩ hf (Nat.zero_le _) dL_law_1751 (fun H locs hH hL => ?_)
  refine lv_istore (lv' := (6, .int k9) :: LVl g b k) hx hb dL_law_1754 hl (by decide) rfl (fun ls hl => ?_)
  refine lv_aload_n hx hb dL_law_1756 rfl (lv_at hl 4 rfl) ?_
  refine w_ar (jn := 1) X hH hX hbl hk hL2 hl 2 rfl 1 rfl (by decide) rfl dL_law_1757 dL_law_1758 dL_law_1760 dL_law_1761 dL_law_1762 ?_
  refine w_ar (jn := 2) X hH hX hbl hk hL2 hl 2 rfl 1 rfl (by decide) rfl dL_law_1763 dL_law_1764 dL_law_1766 dL_law_1767 dL_law_1768 ?_
  refine my_done hL (my_runV X hH hl.1 (co_X9_columnVolumeByTransposing g l hst0 204 (xs (5 * k + 1)) (xs (5 * k + 2)) M1 (by decide) b9 M2 e2) ok_X9_columnVolumeByTransposing U1603 (show tyT 204 = 9 by decide) rfl (by decide) rfl rfl rfl ⟨(Nat.le_of_ble_eq_true rfl), (Nat.le_of_ble_eq_true rfl)⟩ hf (Nat.zero_le _) dL_law_1769) (fun H locs hH hL => ?_)
  refine lv_istore (lv' := (7, .int b9) :: (6, .int k9) :: LVl g b k) hx hb dL_law_1772 hl (by decide) rfl (fun ls hl => ?_)
  refine w_thr (v := k9) hst0 X hH hL hl ⟨(Nat.le_of_ble_eq_true rfl), (Nat.le_of_ble_eq_true rfl)⟩ hf 5 rfl 1 rfl e3 U1274 dL_law_1774 dL_law_1775 dL_law_1778 dL_law_1780 (fun H locs hH hL => ?_) (Nat.zero_le _)
  refine w_cmpI (tg := 2994) (o2 := 1192) X hH hl 6 rfl 1 rfl 0 rfl e4 dL_law_1785 dL_law_1787 dL_law_1790 dL_law_1791 dL_law_1792 dL_law_1793 dL_law_1795 dL_law_1796 dL_law_1797 dL_law_1802 (by decide) ?_
  exact kk H locs M2 ls hH hL (hG2.up (by omega)) (lv_sub hl [2, 3, 4, 5, 6, 7] rfl)
set_option maxRecDepth 20000 in
set_option maxHeartbeats 4000000 in
theorem case_27 {p : Program} {l : Launch} {e : Env} {s : State} {m : MethodId} {args : Array Value} {below : List Frame} {meth : Method} {c : Code} {H : Heap} {locs : List Loc} {cells slots B k b L : Nat} {Q : State → Prop} {ls : Array Slot} {g : GP} {M : Mem} {xs : Nat → Int32} (hst0 : l.stackTraces = false) (X : CX g l p s m args meth c RL cL_law 9) (hX : va_X b L xs s (gH g)) (hbl : b < gN g) (hk : 5 * k + 5 ≤ L) (hL2 : L ≤ 2560) (hH : HR g M H) (hL : LK g s H locs) (hG : GI B M) (hB : B + 600 ≤ 2 ^ 20) (hf : cells + 1 ≤ 603072 ∧ slots + 6 ≤ 7198826) (hl : lv_has ls 9 (LVl g b k))
    (kk : ∀ H1 locs1 M1 ls1, HR g M1 H1 → LK g s H1 locs1 → GI (B + 600) M1 → lv_has ls1 9 (LVl g b k) → W p l e room_1 s m args below meth c H1 locs1 (cells + 1) (slots + 6) Q (F0 m 2994 ls1 [])) : W p l e room_1 s m args below meth c H locs cells slots Q (F0 m 1805 ls []) := by
  have hx := X.1
  have hb := X.2.1
  obtain ⟨k9, M1, b9, M2, e1, e2, e3, e4, hG2⟩ := call_nextVolume hG (by omega) (xs (5 * k + 1))
  refine lv_aload_n hx hb dL_law_1805 rfl (lv_at hl 2 rfl) ?_
  refine w_ar (jn := 1) X hH hX hbl hk hL2 hl 1 rfl 0 rfl (by decide) rfl dL_law_1806 dL_law_1807 dL_law_1809 dL_law_1810 dL_law_1811 ?_
  refine lv_aload_n hx hb dL_law_1812 rfl (lv_at hl 4 rfl) ?_
  refine w_call X hH hL hl.1 (co_L_nextVolume g l hst0 1 (xs (5 * k + 1)) 213 M (by decide) (by decide) k9 M1 e1) ok_L_nextVolume U905 rfl rfl ⟨(Nat.le_of_ble_eq_true rfl), (Nat.le_of_ble_eq_true rfl)⟩ hf (Nat.zero_le _) dL_law_1813 (fun H locs hH hL => ?_)
  refine lv_istore (lv' := (6, .int k9) :: LVl g b k) hx hb dL_law_1816 hl (by decide) rfl (fun ls hl => ?_)
  refine lv_aload_n hx hb dL_law_1818 rfl (lv_at hl 4 rfl) ?_
  refine w_ar (jn := 1) X hH hX hbl hk hL2 hl 2 rfl 1 rfl (by decide) rfl dL_law_1819 dL_law_1820 dL_law_1822 dL_law_1823 dL_law_1824 ?_
  refine my_done hL (my_runV X hH hl.1 (co_X9_nextVolume g l hst0 204 (xs (5 * k + 1)) M1 (by decide) b9 M2 e2) ok_X9_nextVolume U1608 (show tyT 204 = 9 by decide) rfl (by decide) rfl rfl rfl ⟨(Nat.le_of_ble_eq_true rfl), (Nat.le_of_ble_eq_true rfl)⟩ hf (Nat.zero_le _) dL_law_1825) (fun H locs hH hL => ?_)
  refine lv_istore (lv' := (7, .int b9) :: (6, .int k9) :: LVl g b k) hx hb dL_law_1828 hl (by decide) rfl (fun ls hl => ?_)
  refine w_thr (v := k9) hst0 X hH hL hl ⟨(Nat.le_of_ble_eq_true rfl), (Nat.le_of_ble_eq_true rfl)⟩ hf 5 rfl 1 rfl e3 U1274 dL_law_1830 dL_law_1831 dL_law_1834 dL_law_1836 (fun H locs hH hL => ?_) (Nat.zero_le _)
  refine w_cmpI (tg := 2994) (o2 := 1136) X hH hl 6 rfl 1 rfl 0 rfl e4 dL_law_1841 dL_law_1843 dL_law_1846 dL_law_1847 dL_law_1848 dL_law_1849 dL_law_1851 dL_law_1852 dL_law_1853 dL_law_1858 (by decide) ?_
  exact kk H locs M2 ls hH hL (hG2.up (by omega)) (lv_sub hl [2, 3, 4, 5, 6, 7] rfl)
