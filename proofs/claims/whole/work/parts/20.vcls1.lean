set_option maxRecDepth 100000 in
def xF_X0 : Nat → Nat := fun k => (cond (Nat.blt k 13) 678 (cond (Nat.blt k 17) 680 682))
set_option maxRecDepth 100000 in
def xK_X0 : Nat → Nat := fun k => 0
set_option maxRecDepth 100000 in
def xQ_X0 : Nat → Nat := fun k => 0
set_option maxRecDepth 100000 in
def xM_X0 : Nat → List Nat := fun k => [677, 188, 189]
set_option maxRecDepth 100000 in
theorem vF_X0 (pu : Nat → Option ((List Value → z_H → Prop) × (List Value → z_H → Int32))) : z_FV (t_X0 pu) := z_FVof (C := (t_X0 (fun _ => none))) xF_X0 1000 (by decide +kernel) (fun k hk => by show fF_X0 k = none; unfold fF_X0; first | rfl | (rw [z_bltF hk]; rfl))
set_option maxRecDepth 100000 in
theorem vK_X0 (pu : Nat → Option ((List Value → z_H → Prop) × (List Value → z_H → Int32))) : z_KV (t_X0 pu) ∧ z_TV (t_X0 pu) := z_KVof (C := (t_X0 (fun _ => none))) xK_X0 1000 (by decide +kernel) (fun k hk => by show fK_X0 k = none; unfold fK_X0; first | rfl | (rw [z_bltF hk]; rfl))
set_option maxRecDepth 100000 in
theorem vM_X0 (pu : Nat → Option ((List Value → z_H → Prop) × (List Value → z_H → Int32))) : z_MV (t_X0 pu) := z_MVof (C := (t_X0 (fun _ => none))) xM_X0 1000 (by decide +kernel) (fun k hk => by show fM_X0 k = none; unfold fM_X0; first | rfl | (rw [z_bltF hk]; rfl))
set_option maxRecDepth 100000 in
theorem vQ_X0 (pu : Nat → Option ((List Value → z_H → Prop) × (List Value → z_H → Int32))) : (∀ k v, z_cQ (t_X0 pu) k = some (.inl v) → Cond.constant (z_cNm (t_X0 pu)) k v ∈ z_gt) ∧ (∀ k v, z_cQ (t_X0 pu) k = some (.inr (.inl v)) → Cond.constantLong (z_cNm (t_X0 pu)) k v ∈ z_gt) := z_QVof (C := (t_X0 (fun _ => none))) xQ_X0 1000 (by decide +kernel) (fun k hk => by show fQ_X0 k = none; unfold fQ_X0; first | rfl | (rw [z_bltF hk]; rfl))
set_option maxRecDepth 100000 in
def xF_X1 : Nat → Nat := fun k => (cond (Nat.blt k 30) (cond (Nat.blt k 15) 311 (cond (Nat.blt k 19) 313 315)) (cond (Nat.blt k 43) (cond (Nat.blt k 35) 243 236) (cond (Nat.blt k 68) 228 261)))
set_option maxRecDepth 100000 in
def xK_X1 : Nat → Nat := fun k => (cond (Nat.blt k 26) 662 (cond (Nat.blt k 31) 711 716))
set_option maxRecDepth 100000 in
def xQ_X1 : Nat → Nat := fun k => 0
set_option maxRecDepth 100000 in
def xM_X1 : Nat → List Nat := fun k => (cond (Nat.blt k 49) (cond (Nat.blt k 25) (cond (Nat.blt k 22) [310, 188, 189] [663, 308, 157, 309]) (cond (Nat.blt k 39) [710, 204, 205, 206, 207] (cond (Nat.blt k 46) [712, 713, 714, 157, 715] [717, 195, 158, 196]))) (cond (Nat.blt k 57) (cond (Nat.blt k 53) [718, 659, 660, 157, 661] [1140, 1142, 35, 157, 1143]) (cond (Nat.blt k 61) [1144, 1146, 36, 157, 1147] (cond (Nat.blt k 65) [1148, 1150, 37, 157, 1151] [1152, 1154, 38, 157, 1155]))))
set_option maxRecDepth 100000 in
theorem vF_X1 (pu : Nat → Option ((List Value → z_H → Prop) × (List Value → z_H → Int32))) : z_FV (t_X1 pu) := z_FVof (C := (t_X1 (fun _ => none))) xF_X1 1000 (by decide +kernel) (fun k hk => by show fF_X1 k = none; unfold fF_X1; first | rfl | (rw [z_bltF hk]; rfl))
set_option maxRecDepth 100000 in
theorem vK_X1 (pu : Nat → Option ((List Value → z_H → Prop) × (List Value → z_H → Int32))) : z_KV (t_X1 pu) ∧ z_TV (t_X1 pu) := z_KVof (C := (t_X1 (fun _ => none))) xK_X1 1000 (by decide +kernel) (fun k hk => by show fK_X1 k = none; unfold fK_X1; first | rfl | (rw [z_bltF hk]; rfl))
set_option maxRecDepth 100000 in
theorem vM_X1 (pu : Nat → Option ((List Value → z_H → Prop) × (List Value → z_H → Int32))) : z_MV (t_X1 pu) := z_MVof (C := (t_X1 (fun _ => none))) xM_X1 1000 (by decide +kernel) (fun k hk => by show fM_X1 k = none; unfold fM_X1; first | rfl | (rw [z_bltF hk]; rfl))
set_option maxRecDepth 100000 in
theorem vQ_X1 (pu : Nat → Option ((List Value → z_H → Prop) × (List Value → z_H → Int32))) : (∀ k v, z_cQ (t_X1 pu) k = some (.inl v) → Cond.constant (z_cNm (t_X1 pu)) k v ∈ z_gt) ∧ (∀ k v, z_cQ (t_X1 pu) k = some (.inr (.inl v)) → Cond.constantLong (z_cNm (t_X1 pu)) k v ∈ z_gt) := z_QVof (C := (t_X1 (fun _ => none))) xQ_X1 1000 (by decide +kernel) (fun k hk => by show fQ_X1 k = none; unfold fQ_X1; first | rfl | (rw [z_bltF hk]; rfl))
set_option maxRecDepth 100000 in
def xF_X2 : Nat → Nat := fun k => (cond (Nat.blt k 46) (cond (Nat.blt k 30) (cond (Nat.blt k 20) (cond (Nat.blt k 17) 473 474) (cond (Nat.blt k 23) 475 (cond (Nat.blt k 26) 476 477))) (cond (Nat.blt k 36) (cond (Nat.blt k 33) 478 479) (cond (Nat.blt k 39) 480 (cond (Nat.blt k 42) 481 482)))) (cond (Nat.blt k 98) (cond (Nat.blt k 52) (cond (Nat.blt k 49) 483 484) (cond (Nat.blt k 55) 485 (cond (Nat.blt k 58) 486 272))) (cond (Nat.blt k 111) (cond (Nat.blt k 108) 231 259) (cond (Nat.blt k 114) 245 (cond (Nat.blt k 117) 238 249)))))
set_option maxRecDepth 100000 in
def xK_X2 : Nat → Nat := fun k => (cond (Nat.blt k 59) 472 1431)
set_option maxRecDepth 100000 in
def xQ_X2 : Nat → Nat := fun k => 0
set_option maxRecDepth 100000 in
def xM_X2 : Nat → List Nat := fun k => (cond (Nat.blt k 89) (cond (Nat.blt k 75) (cond (Nat.blt k 67) (cond (Nat.blt k 63) [471, 188, 189] [1408, 1410, 58, 165, 1411]) (cond (Nat.blt k 71) [1416, 1418, 60, 165, 1419] [1424, 1426, 62, 165, 1427])) (cond (Nat.blt k 82) (cond (Nat.blt k 79) [1435, 1436, 165, 1437] [1438, 1440, 63, 165, 1441]) (cond (Nat.blt k 85) [1458, 1460, 65, 165, 1461] [1462, 1464, 66, 165, 1465]))) (cond (Nat.blt k 120) (cond (Nat.blt k 99) (cond (Nat.blt k 94) [1466, 645, 178, 646] [1428, 1429, 165, 1430]) (cond (Nat.blt k 102) [1433, 1068, 1069, 158, 1070] [1434, 217, 159, 218])) (cond (Nat.blt k 129) (cond (Nat.blt k 123) [1432, 195, 158, 196] [1442, 215, 214, 161]) (cond (Nat.blt k 133) [1443, 1445, 64, 165, 1446] (cond (Nat.blt k 137) [1412, 1414, 59, 165, 1415] [1420, 1422, 61, 165, 1423])))))
set_option maxRecDepth 100000 in
theorem vF_X2 (pu : Nat → Option ((List Value → z_H → Prop) × (List Value → z_H → Int32))) : z_FV (t_X2 pu) := z_FVof (C := (t_X2 (fun _ => none))) xF_X2 1000 (by decide +kernel) (fun k hk => by show fF_X2 k = none; unfold fF_X2; first | rfl | (rw [z_bltF hk]; rfl))
set_option maxRecDepth 100000 in
theorem vK_X2 (pu : Nat → Option ((List Value → z_H → Prop) × (List Value → z_H → Int32))) : z_KV (t_X2 pu) ∧ z_TV (t_X2 pu) := z_KVof (C := (t_X2 (fun _ => none))) xK_X2 1000 (by decide +kernel) (fun k hk => by show fK_X2 k = none; unfold fK_X2; first | rfl | (rw [z_bltF hk]; rfl))
set_option maxRecDepth 100000 in
theorem vM_X2 (pu : Nat → Option ((List Value → z_H → Prop) × (List Value → z_H → Int32))) : z_MV (t_X2 pu) := z_MVof (C := (t_X2 (fun _ => none))) xM_X2 1000 (by decide +kernel) (fun k hk => by show fM_X2 k = none; unfold fM_X2; first | rfl | (rw [z_bltF hk]; rfl))
set_option maxRecDepth 100000 in
theorem vQ_X2 (pu : Nat → Option ((List Value → z_H → Prop) × (List Value → z_H → Int32))) : (∀ k v, z_cQ (t_X2 pu) k = some (.inl v) → Cond.constant (z_cNm (t_X2 pu)) k v ∈ z_gt) ∧ (∀ k v, z_cQ (t_X2 pu) k = some (.inr (.inl v)) → Cond.constantLong (z_cNm (t_X2 pu)) k v ∈ z_gt) := z_QVof (C := (t_X2 (fun _ => none))) xQ_X2 1000 (by decide +kernel) (fun k hk => by show fQ_X2 k = none; unfold fQ_X2; first | rfl | (rw [z_bltF hk]; rfl))
set_option maxRecDepth 100000 in
def xF_X3 : Nat → Nat := fun k => (cond (Nat.blt k 25) (cond (Nat.blt k 17) 778 (cond (Nat.blt k 21) 776 780)) (cond (Nat.blt k 29) 782 (cond (Nat.blt k 32) 784 786)))
set_option maxRecDepth 100000 in
def xK_X3 : Nat → Nat := fun k => 775
set_option maxRecDepth 100000 in
def xQ_X3 : Nat → Nat := fun k => 0
set_option maxRecDepth 100000 in
def xM_X3 : Nat → List Nat := fun k => [774, 188, 189]
set_option maxRecDepth 100000 in
theorem vF_X3 (pu : Nat → Option ((List Value → z_H → Prop) × (List Value → z_H → Int32))) : z_FV (t_X3 pu) := z_FVof (C := (t_X3 (fun _ => none))) xF_X3 1000 (by decide +kernel) (fun k hk => by show fF_X3 k = none; unfold fF_X3; first | rfl | (rw [z_bltF hk]; rfl))
set_option maxRecDepth 100000 in
theorem vK_X3 (pu : Nat → Option ((List Value → z_H → Prop) × (List Value → z_H → Int32))) : z_KV (t_X3 pu) ∧ z_TV (t_X3 pu) := z_KVof (C := (t_X3 (fun _ => none))) xK_X3 1000 (by decide +kernel) (fun k hk => by show fK_X3 k = none; unfold fK_X3; first | rfl | (rw [z_bltF hk]; rfl))
set_option maxRecDepth 100000 in
theorem vM_X3 (pu : Nat → Option ((List Value → z_H → Prop) × (List Value → z_H → Int32))) : z_MV (t_X3 pu) := z_MVof (C := (t_X3 (fun _ => none))) xM_X3 1000 (by decide +kernel) (fun k hk => by show fM_X3 k = none; unfold fM_X3; first | rfl | (rw [z_bltF hk]; rfl))
set_option maxRecDepth 100000 in
theorem vQ_X3 (pu : Nat → Option ((List Value → z_H → Prop) × (List Value → z_H → Int32))) : (∀ k v, z_cQ (t_X3 pu) k = some (.inl v) → Cond.constant (z_cNm (t_X3 pu)) k v ∈ z_gt) ∧ (∀ k v, z_cQ (t_X3 pu) k = some (.inr (.inl v)) → Cond.constantLong (z_cNm (t_X3 pu)) k v ∈ z_gt) := z_QVof (C := (t_X3 (fun _ => none))) xQ_X3 1000 (by decide +kernel) (fun k hk => by show fQ_X3 k = none; unfold fQ_X3; first | rfl | (rw [z_bltF hk]; rfl))
set_option maxRecDepth 100000 in
def xF_X4 : Nat → Nat := fun k => (cond (Nat.blt k 39) (cond (Nat.blt k 26) (cond (Nat.blt k 19) (cond (Nat.blt k 15) 428 429) (cond (Nat.blt k 23) 430 431)) (cond (Nat.blt k 33) (cond (Nat.blt k 30) 432 433) (cond (Nat.blt k 36) 434 435))) (cond (Nat.blt k 54) (cond (Nat.blt k 47) (cond (Nat.blt k 43) 436 437) (cond (Nat.blt k 50) 438 439)) (cond (Nat.blt k 89) (cond (Nat.blt k 75) 268 235) (cond (Nat.blt k 111) 229 246))))
set_option maxRecDepth 100000 in
def xK_X4 : Nat → Nat := fun k => (cond (Nat.blt k 55) 427 1378)
set_option maxRecDepth 100000 in
def xQ_X4 : Nat → Nat := fun k => 1276
set_option maxRecDepth 100000 in
def xM_X4 : Nat → List Nat := fun k => (cond (Nat.blt k 103) (cond (Nat.blt k 82) (cond (Nat.blt k 65) (cond (Nat.blt k 59) [426, 188, 189] [1271, 1273, 44, 164, 1274]) (cond (Nat.blt k 71) [1277, 1278, 159, 1279] (cond (Nat.blt k 78) [1280, 1282, 45, 164, 1283] [1308, 201, 159, 202]))) (cond (Nat.blt k 92) (cond (Nat.blt k 86) [1297, 1298, 164, 1299] [1275, 1068, 1069, 158, 1070]) (cond (Nat.blt k 96) [1293, 1295, 48, 164, 1296] (cond (Nat.blt k 100) [1304, 1306, 50, 164, 1307] [1284, 1286, 46, 164, 1287])))) (cond (Nat.blt k 128) (cond (Nat.blt k 114) (cond (Nat.blt k 107) [1289, 1291, 47, 164, 1292] [1300, 1302, 49, 164, 1303]) (cond (Nat.blt k 120) [1288, 215, 214, 161] (cond (Nat.blt k 124) [1388, 1390, 57, 164, 1391] [1372, 1373, 1374, 164, 1375]))) (cond (Nat.blt k 138) (cond (Nat.blt k 132) [1368, 1370, 55, 164, 1371] [1376, 645, 178, 646]) (cond (Nat.blt k 142) [1377, 651, 158, 652] (cond (Nat.blt k 145) [1379, 195, 158, 196] [1380, 1382, 56, 164, 1383])))))
set_option maxRecDepth 100000 in
theorem vF_X4 (pu : Nat → Option ((List Value → z_H → Prop) × (List Value → z_H → Int32))) : z_FV (t_X4 pu) := z_FVof (C := (t_X4 (fun _ => none))) xF_X4 1000 (by decide +kernel) (fun k hk => by show fF_X4 k = none; unfold fF_X4; first | rfl | (rw [z_bltF hk]; rfl))
set_option maxRecDepth 100000 in
theorem vK_X4 (pu : Nat → Option ((List Value → z_H → Prop) × (List Value → z_H → Int32))) : z_KV (t_X4 pu) ∧ z_TV (t_X4 pu) := z_KVof (C := (t_X4 (fun _ => none))) xK_X4 1000 (by decide +kernel) (fun k hk => by show fK_X4 k = none; unfold fK_X4; first | rfl | (rw [z_bltF hk]; rfl))
set_option maxRecDepth 100000 in
theorem vM_X4 (pu : Nat → Option ((List Value → z_H → Prop) × (List Value → z_H → Int32))) : z_MV (t_X4 pu) := z_MVof (C := (t_X4 (fun _ => none))) xM_X4 1000 (by decide +kernel) (fun k hk => by show fM_X4 k = none; unfold fM_X4; first | rfl | (rw [z_bltF hk]; rfl))
set_option maxRecDepth 100000 in
theorem vQ_X4 (pu : Nat → Option ((List Value → z_H → Prop) × (List Value → z_H → Int32))) : (∀ k v, z_cQ (t_X4 pu) k = some (.inl v) → Cond.constant (z_cNm (t_X4 pu)) k v ∈ z_gt) ∧ (∀ k v, z_cQ (t_X4 pu) k = some (.inr (.inl v)) → Cond.constantLong (z_cNm (t_X4 pu)) k v ∈ z_gt) := z_QVof (C := (t_X4 (fun _ => none))) xQ_X4 1000 (by decide +kernel) (fun k hk => by show fQ_X4 k = none; unfold fQ_X4; first | rfl | (rw [z_bltF hk]; rfl))
set_option maxRecDepth 100000 in
def xF_X5 : Nat → Nat := fun k => (cond (Nat.blt k 48) (cond (Nat.blt k 29) (cond (Nat.blt k 18) (cond (Nat.blt k 15) 381 382) (cond (Nat.blt k 22) 383 (cond (Nat.blt k 25) 384 385))) (cond (Nat.blt k 39) (cond (Nat.blt k 32) 386 (cond (Nat.blt k 35) 387 388)) (cond (Nat.blt k 42) 389 (cond (Nat.blt k 45) 390 391)))) (cond (Nat.blt k 128) (cond (Nat.blt k 60) (cond (Nat.blt k 51) 392 393) (cond (Nat.blt k 69) 264 (cond (Nat.blt k 76) 266 227))) (cond (Nat.blt k 171) (cond (Nat.blt k 146) 239 (cond (Nat.blt k 168) 247 255)) (cond (Nat.blt k 177) 262 (cond (Nat.blt k 180) 252 250)))))
set_option maxRecDepth 100000 in
def xK_X5 : Nat → Nat := fun k => 0
set_option maxRecDepth 100000 in
def xQ_X5 : Nat → Nat := fun k => 0
set_option maxRecDepth 100000 in
def xM_X5 : Nat → List Nat := fun k => (cond (Nat.blt k 115) (cond (Nat.blt k 87) (cond (Nat.blt k 72) (cond (Nat.blt k 54) [380, 188, 189] (cond (Nat.blt k 63) [1067, 1068, 1069, 158, 1070] [1062, 217, 159, 218])) (cond (Nat.blt k 79) [1063, 1065, 25, 163, 1066] (cond (Nat.blt k 83) [1079, 1081, 28, 163, 1082] [1114, 1059, 1060, 163, 1061]))) (cond (Nat.blt k 98) (cond (Nat.blt k 90) [1110, 1111, 1112, 163, 1113] (cond (Nat.blt k 94) [1083, 1084, 163, 1085] [1090, 1092, 29, 163, 1093])) (cond (Nat.blt k 106) (cond (Nat.blt k 102) [1098, 1100, 31, 163, 1101] [1102, 1104, 32, 163, 1105]) (cond (Nat.blt k 112) [1086, 211, 160, 212] [1087, 1088, 160, 1089])))) (cond (Nat.blt k 142) (cond (Nat.blt k 131) (cond (Nat.blt k 119) [1251, 1253, 42, 163, 1254] (cond (Nat.blt k 122) [1255, 1257, 43, 163, 1258] [1259, 215, 214, 161])) (cond (Nat.blt k 135) [1119, 724, 725, 158, 726] (cond (Nat.blt k 139) [1120, 1121, 1122, 163, 1123] [1128, 1130, 33, 163, 1131]))) (cond (Nat.blt k 156) (cond (Nat.blt k 149) [1132, 1134, 34, 163, 1135] (cond (Nat.blt k 152) [1332, 1334, 52, 163, 1335] [1340, 1342, 54, 163, 1343])) (cond (Nat.blt k 165) (cond (Nat.blt k 159) [1356, 1329, 1330, 163, 1331] [1344, 645, 178, 646]) (cond (Nat.blt k 174) [1336, 1338, 53, 163, 1339] [1094, 1096, 30, 163, 1097])))))
set_option maxRecDepth 100000 in
theorem vF_X5 (pu : Nat → Option ((List Value → z_H → Prop) × (List Value → z_H → Int32))) : z_FV (t_X5 pu) := z_FVof (C := (t_X5 (fun _ => none))) xF_X5 1000 (by decide +kernel) (fun k hk => by show fF_X5 k = none; unfold fF_X5; first | rfl | (rw [z_bltF hk]; rfl))
set_option maxRecDepth 100000 in
theorem vK_X5 (pu : Nat → Option ((List Value → z_H → Prop) × (List Value → z_H → Int32))) : z_KV (t_X5 pu) ∧ z_TV (t_X5 pu) := z_KVof (C := (t_X5 (fun _ => none))) xK_X5 1000 (by decide +kernel) (fun k hk => by show fK_X5 k = none; unfold fK_X5; first | rfl | (rw [z_bltF hk]; rfl))
set_option maxRecDepth 100000 in
theorem vM_X5 (pu : Nat → Option ((List Value → z_H → Prop) × (List Value → z_H → Int32))) : z_MV (t_X5 pu) := z_MVof (C := (t_X5 (fun _ => none))) xM_X5 1000 (by decide +kernel) (fun k hk => by show fM_X5 k = none; unfold fM_X5; first | rfl | (rw [z_bltF hk]; rfl))
set_option maxRecDepth 100000 in
theorem vQ_X5 (pu : Nat → Option ((List Value → z_H → Prop) × (List Value → z_H → Int32))) : (∀ k v, z_cQ (t_X5 pu) k = some (.inl v) → Cond.constant (z_cNm (t_X5 pu)) k v ∈ z_gt) ∧ (∀ k v, z_cQ (t_X5 pu) k = some (.inr (.inl v)) → Cond.constantLong (z_cNm (t_X5 pu)) k v ∈ z_gt) := z_QVof (C := (t_X5 (fun _ => none))) xQ_X5 1000 (by decide +kernel) (fun k hk => by show fQ_X5 k = none; unfold fQ_X5; first | rfl | (rw [z_bltF hk]; rfl))
set_option maxRecDepth 100000 in
def xF_X6 : Nat → Nat := fun k => (cond (Nat.blt k 23) (cond (Nat.blt k 15) 522 (cond (Nat.blt k 19) 523 524)) (cond (Nat.blt k 27) 525 (cond (Nat.blt k 40) 270 226)))
set_option maxRecDepth 100000 in
def xK_X6 : Nat → Nat := fun k => 0
set_option maxRecDepth 100000 in
def xQ_X6 : Nat → Nat := fun k => 0
set_option maxRecDepth 100000 in
def xM_X6 : Nat → List Nat := fun k => (cond (Nat.blt k 47) (cond (Nat.blt k 36) (cond (Nat.blt k 32) [521, 188, 189] [1533, 1535, 69, 166, 1536]) (cond (Nat.blt k 41) [1541, 1543, 70, 166, 1544] [1537, 1538, 159, 1539])) (cond (Nat.blt k 56) (cond (Nat.blt k 53) [1540, 1480, 167, 1481] [1545, 1547, 71, 166, 1548]) (cond (Nat.blt k 60) [1549, 1551, 72, 166, 1552] [1553, 1088, 160, 1089])))
set_option maxRecDepth 100000 in
theorem vF_X6 (pu : Nat → Option ((List Value → z_H → Prop) × (List Value → z_H → Int32))) : z_FV (t_X6 pu) := z_FVof (C := (t_X6 (fun _ => none))) xF_X6 1000 (by decide +kernel) (fun k hk => by show fF_X6 k = none; unfold fF_X6; first | rfl | (rw [z_bltF hk]; rfl))
set_option maxRecDepth 100000 in
theorem vK_X6 (pu : Nat → Option ((List Value → z_H → Prop) × (List Value → z_H → Int32))) : z_KV (t_X6 pu) ∧ z_TV (t_X6 pu) := z_KVof (C := (t_X6 (fun _ => none))) xK_X6 1000 (by decide +kernel) (fun k hk => by show fK_X6 k = none; unfold fK_X6; first | rfl | (rw [z_bltF hk]; rfl))
set_option maxRecDepth 100000 in
theorem vM_X6 (pu : Nat → Option ((List Value → z_H → Prop) × (List Value → z_H → Int32))) : z_MV (t_X6 pu) := z_MVof (C := (t_X6 (fun _ => none))) xM_X6 1000 (by decide +kernel) (fun k hk => by show fM_X6 k = none; unfold fM_X6; first | rfl | (rw [z_bltF hk]; rfl))
set_option maxRecDepth 100000 in
theorem vQ_X6 (pu : Nat → Option ((List Value → z_H → Prop) × (List Value → z_H → Int32))) : (∀ k v, z_cQ (t_X6 pu) k = some (.inl v) → Cond.constant (z_cNm (t_X6 pu)) k v ∈ z_gt) ∧ (∀ k v, z_cQ (t_X6 pu) k = some (.inr (.inl v)) → Cond.constantLong (z_cNm (t_X6 pu)) k v ∈ z_gt) := z_QVof (C := (t_X6 (fun _ => none))) xQ_X6 1000 (by decide +kernel) (fun k hk => by show fQ_X6 k = none; unfold fQ_X6; first | rfl | (rw [z_bltF hk]; rfl))
set_option maxRecDepth 100000 in
def xF_X7 : Nat → Nat := fun k => (cond (Nat.blt k 35) (cond (Nat.blt k 22) (cond (Nat.blt k 15) 331 (cond (Nat.blt k 19) 332 333)) (cond (Nat.blt k 28) (cond (Nat.blt k 25) 334 335) (cond (Nat.blt k 31) 336 337))) (cond (Nat.blt k 44) (cond (Nat.blt k 38) 338 (cond (Nat.blt k 41) 339 340)) (cond (Nat.blt k 50) (cond (Nat.blt k 47) 341 342) (cond (Nat.blt k 53) 343 344))))
set_option maxRecDepth 100000 in
def xK_X7 : Nat → Nat := fun k => (cond (Nat.blt k 71) 1006 (cond (Nat.blt k 77) 1007 1010))
set_option maxRecDepth 100000 in
def xQ_X7 : Nat → Nat := fun k => 0
set_option maxRecDepth 100000 in
def xM_X7 : Nat → List Nat := fun k => (cond (Nat.blt k 100) (cond (Nat.blt k 81) (cond (Nat.blt k 65) (cond (Nat.blt k 56) [330, 188, 189] (cond (Nat.blt k 62) [879, 217, 159, 218] [880, 882, 8, 162, 883])) (cond (Nat.blt k 73) [957, 959, 13, 162, 960] (cond (Nat.blt k 76) [1008, 195, 158, 196] [1009, 204, 205, 206, 207]))) (cond (Nat.blt k 90) (cond (Nat.blt k 84) [1011, 308, 157, 309] (cond (Nat.blt k 87) [961, 963, 14, 162, 964] [981, 983, 19, 162, 984])) (cond (Nat.blt k 93) [994, 996, 22, 162, 997] (cond (Nat.blt k 97) [965, 967, 15, 162, 968] [969, 971, 16, 162, 972])))) (cond (Nat.blt k 119) (cond (Nat.blt k 109) (cond (Nat.blt k 103) [977, 979, 18, 162, 980] (cond (Nat.blt k 106) [985, 987, 20, 162, 988] [973, 975, 17, 162, 976])) (cond (Nat.blt k 112) [990, 992, 21, 162, 993] (cond (Nat.blt k 116) [989, 651, 158, 652] [998, 1000, 23, 162, 1001]))) (cond (Nat.blt k 130) (cond (Nat.blt k 123) [884, 886, 9, 162, 887] (cond (Nat.blt k 126) [888, 889, 162, 890] [891, 893, 10, 162, 894])) (cond (Nat.blt k 138) [896, 898, 11, 162, 899] (cond (Nat.blt k 141) [950, 951, 162, 952] [953, 955, 12, 162, 956])))))
set_option maxRecDepth 100000 in
theorem vF_X7 (pu : Nat → Option ((List Value → z_H → Prop) × (List Value → z_H → Int32))) : z_FV (t_X7 pu) := z_FVof (C := (t_X7 (fun _ => none))) xF_X7 1000 (by decide +kernel) (fun k hk => by show fF_X7 k = none; unfold fF_X7; first | rfl | (rw [z_bltF hk]; rfl))
set_option maxRecDepth 100000 in
theorem vK_X7 (pu : Nat → Option ((List Value → z_H → Prop) × (List Value → z_H → Int32))) : z_KV (t_X7 pu) ∧ z_TV (t_X7 pu) := z_KVof (C := (t_X7 (fun _ => none))) xK_X7 1000 (by decide +kernel) (fun k hk => by show fK_X7 k = none; unfold fK_X7; first | rfl | (rw [z_bltF hk]; rfl))
set_option maxRecDepth 100000 in
theorem vM_X7 (pu : Nat → Option ((List Value → z_H → Prop) × (List Value → z_H → Int32))) : z_MV (t_X7 pu) := z_MVof (C := (t_X7 (fun _ => none))) xM_X7 1000 (by decide +kernel) (fun k hk => by show fM_X7 k = none; unfold fM_X7; first | rfl | (rw [z_bltF hk]; rfl))
set_option maxRecDepth 100000 in
theorem vQ_X7 (pu : Nat → Option ((List Value → z_H → Prop) × (List Value → z_H → Int32))) : (∀ k v, z_cQ (t_X7 pu) k = some (.inl v) → Cond.constant (z_cNm (t_X7 pu)) k v ∈ z_gt) ∧ (∀ k v, z_cQ (t_X7 pu) k = some (.inr (.inl v)) → Cond.constantLong (z_cNm (t_X7 pu)) k v ∈ z_gt) := z_QVof (C := (t_X7 (fun _ => none))) xQ_X7 1000 (by decide +kernel) (fun k hk => by show fQ_X7 k = none; unfold fQ_X7; first | rfl | (rw [z_bltF hk]; rfl))
set_option maxRecDepth 100000 in
def xF_X8 : Nat → Nat := fun k => (cond (Nat.blt k 36) (cond (Nat.blt k 21) (cond (Nat.blt k 15) 253 (cond (Nat.blt k 18) 256 258)) (cond (Nat.blt k 27) (cond (Nat.blt k 24) 263 265) (cond (Nat.blt k 30) 267 269))) (cond (Nat.blt k 51) (cond (Nat.blt k 43) (cond (Nat.blt k 40) 271 273) (cond (Nat.blt k 47) 274 223)) (cond (Nat.blt k 63) (cond (Nat.blt k 60) 232 240) (cond (Nat.blt k 66) 248 251))))
set_option maxRecDepth 100000 in
def xK_X8 : Nat → Nat := fun k => (cond (Nat.blt k 35) 731 198)
set_option maxRecDepth 100000 in
def xQ_X8 : Nat → Nat := fun k => 0
set_option maxRecDepth 100000 in
def xM_X8 : Nat → List Nat := fun k => (cond (Nat.blt k 94) (cond (Nat.blt k 77) (cond (Nat.blt k 69) (cond (Nat.blt k 54) [197, 188, 189] [200, 201, 159, 202]) (cond (Nat.blt k 73) [216, 217, 159, 218] [219, 221, 0, 158, 222])) (cond (Nat.blt k 86) (cond (Nat.blt k 80) [732, 195, 158, 196] [644, 645, 178, 646]) (cond (Nat.blt k 90) [650, 651, 158, 652] [1040, 1041, 158, 1042]))) (cond (Nat.blt k 109) (cond (Nat.blt k 102) (cond (Nat.blt k 98) [1043, 1044, 158, 1045] [1172, 1174, 39, 158, 1175]) (cond (Nat.blt k 106) [1054, 1056, 24, 158, 1057] [1050, 1051, 1052, 158, 1053])) (cond (Nat.blt k 116) (cond (Nat.blt k 112) [1164, 1165, 1166, 158, 1167] [727, 729, 6, 158, 730]) (cond (Nat.blt k 120) [1071, 1073, 26, 158, 1074] [1075, 1077, 27, 158, 1078]))))
set_option maxRecDepth 100000 in
theorem vF_X8 (pu : Nat → Option ((List Value → z_H → Prop) × (List Value → z_H → Int32))) : z_FV (t_X8 pu) := z_FVof (C := (t_X8 (fun _ => none))) xF_X8 1000 (by decide +kernel) (fun k hk => by show fF_X8 k = none; unfold fF_X8; first | rfl | (rw [z_bltF hk]; rfl))
set_option maxRecDepth 100000 in
theorem vK_X8 (pu : Nat → Option ((List Value → z_H → Prop) × (List Value → z_H → Int32))) : z_KV (t_X8 pu) ∧ z_TV (t_X8 pu) := z_KVof (C := (t_X8 (fun _ => none))) xK_X8 1000 (by decide +kernel) (fun k hk => by show fK_X8 k = none; unfold fK_X8; first | rfl | (rw [z_bltF hk]; rfl))
set_option maxRecDepth 100000 in
theorem vM_X8 (pu : Nat → Option ((List Value → z_H → Prop) × (List Value → z_H → Int32))) : z_MV (t_X8 pu) := z_MVof (C := (t_X8 (fun _ => none))) xM_X8 1000 (by decide +kernel) (fun k hk => by show fM_X8 k = none; unfold fM_X8; first | rfl | (rw [z_bltF hk]; rfl))
set_option maxRecDepth 100000 in
theorem vQ_X8 (pu : Nat → Option ((List Value → z_H → Prop) × (List Value → z_H → Int32))) : (∀ k v, z_cQ (t_X8 pu) k = some (.inl v) → Cond.constant (z_cNm (t_X8 pu)) k v ∈ z_gt) ∧ (∀ k v, z_cQ (t_X8 pu) k = some (.inr (.inl v)) → Cond.constantLong (z_cNm (t_X8 pu)) k v ∈ z_gt) := z_QVof (C := (t_X8 (fun _ => none))) xQ_X8 1000 (by decide +kernel) (fun k hk => by show fQ_X8 k = none; unfold fQ_X8; first | rfl | (rw [z_bltF hk]; rfl))
set_option maxRecDepth 100000 in
def xF_X9 : Nat → Nat := fun k => (cond (Nat.blt k 18) (cond (Nat.blt k 15) 543 544) (cond (Nat.blt k 23) 233 (cond (Nat.blt k 27) 241 225)))
set_option maxRecDepth 100000 in
def xK_X9 : Nat → Nat := fun k => 0
set_option maxRecDepth 100000 in
def xQ_X9 : Nat → Nat := fun k => 0
set_option maxRecDepth 100000 in
def xM_X9 : Nat → List Nat := fun k => (cond (Nat.blt k 40) (cond (Nat.blt k 30) [542, 188, 189] (cond (Nat.blt k 36) [1478, 645, 178, 646] [1479, 1480, 167, 1481])) (cond (Nat.blt k 47) (cond (Nat.blt k 43) [1490, 1491, 167, 1492] [1501, 1503, 67, 167, 1504]) (cond (Nat.blt k 51) [1505, 1507, 68, 167, 1508] [1509, 211, 160, 212])))
set_option maxRecDepth 100000 in
theorem vF_X9 (pu : Nat → Option ((List Value → z_H → Prop) × (List Value → z_H → Int32))) : z_FV (t_X9 pu) := z_FVof (C := (t_X9 (fun _ => none))) xF_X9 1000 (by decide +kernel) (fun k hk => by show fF_X9 k = none; unfold fF_X9; first | rfl | (rw [z_bltF hk]; rfl))
set_option maxRecDepth 100000 in
theorem vK_X9 (pu : Nat → Option ((List Value → z_H → Prop) × (List Value → z_H → Int32))) : z_KV (t_X9 pu) ∧ z_TV (t_X9 pu) := z_KVof (C := (t_X9 (fun _ => none))) xK_X9 1000 (by decide +kernel) (fun k hk => by show fK_X9 k = none; unfold fK_X9; first | rfl | (rw [z_bltF hk]; rfl))
set_option maxRecDepth 100000 in
theorem vM_X9 (pu : Nat → Option ((List Value → z_H → Prop) × (List Value → z_H → Int32))) : z_MV (t_X9 pu) := z_MVof (C := (t_X9 (fun _ => none))) xM_X9 1000 (by decide +kernel) (fun k hk => by show fM_X9 k = none; unfold fM_X9; first | rfl | (rw [z_bltF hk]; rfl))
set_option maxRecDepth 100000 in
theorem vQ_X9 (pu : Nat → Option ((List Value → z_H → Prop) × (List Value → z_H → Int32))) : (∀ k v, z_cQ (t_X9 pu) k = some (.inl v) → Cond.constant (z_cNm (t_X9 pu)) k v ∈ z_gt) ∧ (∀ k v, z_cQ (t_X9 pu) k = some (.inr (.inl v)) → Cond.constantLong (z_cNm (t_X9 pu)) k v ∈ z_gt) := z_QVof (C := (t_X9 (fun _ => none))) xQ_X9 1000 (by decide +kernel) (fun k hk => by show fQ_X9 k = none; unfold fQ_X9; first | rfl | (rw [z_bltF hk]; rfl))
set_option maxRecDepth 100000 in
def xF_X10 : Nat → Nat := fun k => (cond (Nat.blt k 22) (cond (Nat.blt k 15) 556 (cond (Nat.blt k 19) 557 559)) (cond (Nat.blt k 28) (cond (Nat.blt k 25) 561 234) (cond (Nat.blt k 39) 242 224)))
set_option maxRecDepth 100000 in
def xK_X10 : Nat → Nat := fun k => 0
set_option maxRecDepth 100000 in
def xQ_X10 : Nat → Nat := fun k => 1570
set_option maxRecDepth 100000 in
def xM_X10 : Nat → List Nat := fun k => (cond (Nat.blt k 42) (cond (Nat.blt k 29) [555, 188, 189] (cond (Nat.blt k 35) [1565, 215, 214, 161] [1566, 1568, 73, 168, 1569])) (cond (Nat.blt k 50) (cond (Nat.blt k 46) [1571, 1573, 74, 168, 1574] [1577, 1579, 75, 168, 1580]) (cond (Nat.blt k 55) [1575, 645, 178, 646] [1576, 651, 158, 652])))
set_option maxRecDepth 100000 in
theorem vF_X10 (pu : Nat → Option ((List Value → z_H → Prop) × (List Value → z_H → Int32))) : z_FV (t_X10 pu) := z_FVof (C := (t_X10 (fun _ => none))) xF_X10 1000 (by decide +kernel) (fun k hk => by show fF_X10 k = none; unfold fF_X10; first | rfl | (rw [z_bltF hk]; rfl))
set_option maxRecDepth 100000 in
theorem vK_X10 (pu : Nat → Option ((List Value → z_H → Prop) × (List Value → z_H → Int32))) : z_KV (t_X10 pu) ∧ z_TV (t_X10 pu) := z_KVof (C := (t_X10 (fun _ => none))) xK_X10 1000 (by decide +kernel) (fun k hk => by show fK_X10 k = none; unfold fK_X10; first | rfl | (rw [z_bltF hk]; rfl))
set_option maxRecDepth 100000 in
theorem vM_X10 (pu : Nat → Option ((List Value → z_H → Prop) × (List Value → z_H → Int32))) : z_MV (t_X10 pu) := z_MVof (C := (t_X10 (fun _ => none))) xM_X10 1000 (by decide +kernel) (fun k hk => by show fM_X10 k = none; unfold fM_X10; first | rfl | (rw [z_bltF hk]; rfl))
set_option maxRecDepth 100000 in
theorem vQ_X10 (pu : Nat → Option ((List Value → z_H → Prop) × (List Value → z_H → Int32))) : (∀ k v, z_cQ (t_X10 pu) k = some (.inl v) → Cond.constant (z_cNm (t_X10 pu)) k v ∈ z_gt) ∧ (∀ k v, z_cQ (t_X10 pu) k = some (.inr (.inl v)) → Cond.constantLong (z_cNm (t_X10 pu)) k v ∈ z_gt) := z_QVof (C := (t_X10 (fun _ => none))) xQ_X10 1000 (by decide +kernel) (fun k hk => by show fQ_X10 k = none; unfold fQ_X10; first | rfl | (rw [z_bltF hk]; rfl))
set_option maxRecDepth 100000 in
def xF_J6 : Nat → Nat := fun k => 0
set_option maxRecDepth 100000 in
def xK_J6 : Nat → Nat := fun k => 0
set_option maxRecDepth 100000 in
def xQ_J6 : Nat → Nat := fun k => (cond (Nat.blt k 266) (cond (Nat.blt k 265) 1222 647) (cond (Nat.blt k 267) 648 649))
set_option maxRecDepth 100000 in
def xM_J6 : Nat → List Nat := fun k => []
set_option maxRecDepth 100000 in
theorem vF_J6 (pu : Nat → Option ((List Value → z_H → Prop) × (List Value → z_H → Int32))) : z_FV (t_J6 pu) := z_FVof (C := (t_J6 (fun _ => none))) xF_J6 1000 (by decide +kernel) (fun k hk => by show fF_J6 k = none; unfold fF_J6; first | rfl | (rw [z_bltF hk]; rfl))
set_option maxRecDepth 100000 in
theorem vK_J6 (pu : Nat → Option ((List Value → z_H → Prop) × (List Value → z_H → Int32))) : z_KV (t_J6 pu) ∧ z_TV (t_J6 pu) := z_KVof (C := (t_J6 (fun _ => none))) xK_J6 1000 (by decide +kernel) (fun k hk => by show fK_J6 k = none; unfold fK_J6; first | rfl | (rw [z_bltF hk]; rfl))
set_option maxRecDepth 100000 in
theorem vM_J6 (pu : Nat → Option ((List Value → z_H → Prop) × (List Value → z_H → Int32))) : z_MV (t_J6 pu) := z_MVof (C := (t_J6 (fun _ => none))) xM_J6 1000 (by decide +kernel) (fun k hk => by show fM_J6 k = none; unfold fM_J6; first | rfl | (rw [z_bltF hk]; rfl))
set_option maxRecDepth 100000 in
theorem vQ_J6 (pu : Nat → Option ((List Value → z_H → Prop) × (List Value → z_H → Int32))) : (∀ k v, z_cQ (t_J6 pu) k = some (.inl v) → Cond.constant (z_cNm (t_J6 pu)) k v ∈ z_gt) ∧ (∀ k v, z_cQ (t_J6 pu) k = some (.inr (.inl v)) → Cond.constantLong (z_cNm (t_J6 pu)) k v ∈ z_gt) := z_QVof (C := (t_J6 (fun _ => none))) xQ_J6 1000 (by decide +kernel) (fun k hk => by show fQ_J6 k = none; unfold fQ_J6; first | rfl | (rw [z_bltF hk]; rfl))
set_option maxRecDepth 100000 in
def xF_J7 : Nat → Nat := fun k => 0
set_option maxRecDepth 100000 in
def xK_J7 : Nat → Nat := fun k => 209
set_option maxRecDepth 100000 in
def xQ_J7 : Nat → Nat := fun k => 0
set_option maxRecDepth 100000 in
def xM_J7 : Nat → List Nat := fun k => (cond (Nat.blt k 304) [213, 215, 214, 161] (cond (Nat.blt k 316) [210, 211, 160, 212] [203, 204, 205, 206, 207]))
set_option maxRecDepth 100000 in
theorem vF_J7 (pu : Nat → Option ((List Value → z_H → Prop) × (List Value → z_H → Int32))) : z_FV (t_J7 pu) := z_FVof (C := (t_J7 (fun _ => none))) xF_J7 1000 (by decide +kernel) (fun k hk => by show fF_J7 k = none; unfold fF_J7; first | rfl | (rw [z_bltF hk]; rfl))
set_option maxRecDepth 100000 in
theorem vK_J7 (pu : Nat → Option ((List Value → z_H → Prop) × (List Value → z_H → Int32))) : z_KV (t_J7 pu) ∧ z_TV (t_J7 pu) := z_KVof (C := (t_J7 (fun _ => none))) xK_J7 1000 (by decide +kernel) (fun k hk => by show fK_J7 k = none; unfold fK_J7; first | rfl | (rw [z_bltF hk]; rfl))
set_option maxRecDepth 100000 in
theorem vM_J7 (pu : Nat → Option ((List Value → z_H → Prop) × (List Value → z_H → Int32))) : z_MV (t_J7 pu) := z_MVof (C := (t_J7 (fun _ => none))) xM_J7 1000 (by decide +kernel) (fun k hk => by show fM_J7 k = none; unfold fM_J7; first | rfl | (rw [z_bltF hk]; rfl))
set_option maxRecDepth 100000 in
theorem vQ_J7 (pu : Nat → Option ((List Value → z_H → Prop) × (List Value → z_H → Int32))) : (∀ k v, z_cQ (t_J7 pu) k = some (.inl v) → Cond.constant (z_cNm (t_J7 pu)) k v ∈ z_gt) ∧ (∀ k v, z_cQ (t_J7 pu) k = some (.inr (.inl v)) → Cond.constantLong (z_cNm (t_J7 pu)) k v ∈ z_gt) := z_QVof (C := (t_J7 (fun _ => none))) xQ_J7 1000 (by decide +kernel) (fun k hk => by show fQ_J7 k = none; unfold fQ_J7; first | rfl | (rw [z_bltF hk]; rfl))
set_option maxRecDepth 100000 in
def xF_J9 : Nat → Nat := fun k => 0
set_option maxRecDepth 100000 in
def xK_J9 : Nat → Nat := fun k => 0
set_option maxRecDepth 100000 in
def xQ_J9 : Nat → Nat := fun k => 0
set_option maxRecDepth 100000 in
def xM_J9 : Nat → List Nat := fun k => []
set_option maxRecDepth 100000 in
theorem vF_J9 (pu : Nat → Option ((List Value → z_H → Prop) × (List Value → z_H → Int32))) : z_FV (t_J9 pu) := z_FVof (C := (t_J9 (fun _ => none))) xF_J9 1000 (by decide +kernel) (fun k hk => by show fF_J9 k = none; unfold fF_J9; first | rfl | (rw [z_bltF hk]; rfl))
set_option maxRecDepth 100000 in
theorem vK_J9 (pu : Nat → Option ((List Value → z_H → Prop) × (List Value → z_H → Int32))) : z_KV (t_J9 pu) ∧ z_TV (t_J9 pu) := z_KVof (C := (t_J9 (fun _ => none))) xK_J9 1000 (by decide +kernel) (fun k hk => by show fK_J9 k = none; unfold fK_J9; first | rfl | (rw [z_bltF hk]; rfl))
set_option maxRecDepth 100000 in
theorem vM_J9 (pu : Nat → Option ((List Value → z_H → Prop) × (List Value → z_H → Int32))) : z_MV (t_J9 pu) := z_MVof (C := (t_J9 (fun _ => none))) xM_J9 1000 (by decide +kernel) (fun k hk => by show fM_J9 k = none; unfold fM_J9; first | rfl | (rw [z_bltF hk]; rfl))
set_option maxRecDepth 100000 in
theorem vQ_J9 (pu : Nat → Option ((List Value → z_H → Prop) × (List Value → z_H → Int32))) : (∀ k v, z_cQ (t_J9 pu) k = some (.inl v) → Cond.constant (z_cNm (t_J9 pu)) k v ∈ z_gt) ∧ (∀ k v, z_cQ (t_J9 pu) k = some (.inr (.inl v)) → Cond.constantLong (z_cNm (t_J9 pu)) k v ∈ z_gt) := z_QVof (C := (t_J9 (fun _ => none))) xQ_J9 1000 (by decide +kernel) (fun k hk => by show fQ_J9 k = none; unfold fQ_J9; first | rfl | (rw [z_bltF hk]; rfl))
