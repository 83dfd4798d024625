set_option maxRecDepth 100000 in
def xF_X11 : Nat → Nat := fun k => (cond (Nat.blt k 126) (cond (Nat.blt k 51) (cond (Nat.blt k 34) (cond (Nat.blt k 17) (cond (Nat.blt k 13) 2177 2178) (cond (Nat.blt k 30) 2179 2180)) (cond (Nat.blt k 42) (cond (Nat.blt k 38) 2181 2182) (cond (Nat.blt k 45) 2183 (cond (Nat.blt k 48) 2184 2185)))) (cond (Nat.blt k 86) (cond (Nat.blt k 65) (cond (Nat.blt k 58) 2186 2187) (cond (Nat.blt k 72) 2188 (cond (Nat.blt k 79) 2189 2190))) (cond (Nat.blt k 100) (cond (Nat.blt k 93) 2191 2192) (cond (Nat.blt k 115) 2193 (cond (Nat.blt k 122) 1190 1157))))) (cond (Nat.blt k 308) (cond (Nat.blt k 199) (cond (Nat.blt k 140) (cond (Nat.blt k 129) 1075 1082) (cond (Nat.blt k 190) 1099 (cond (Nat.blt k 196) 1089 1102))) (cond (Nat.blt k 221) (cond (Nat.blt k 202) 1159 1161) (cond (Nat.blt k 300) 1105 (cond (Nat.blt k 305) 3046 3048)))) (cond (Nat.blt k 374) (cond (Nat.blt k 361) (cond (Nat.blt k 360) 3044 2165) (cond (Nat.blt k 365) 2163 (cond (Nat.blt k 373) 2167 3142))) (cond (Nat.blt k 376) (cond (Nat.blt k 375) 3144 3146) (cond (Nat.blt k 377) 3148 (cond (Nat.blt k 378) 3150 3152))))))
set_option maxRecDepth 100000 in
def xK_X11 : Nat → Nat := fun k => (cond (Nat.blt k 90) (cond (Nat.blt k 62) (cond (Nat.blt k 22) 1035 (cond (Nat.blt k 55) 1037 1170)) (cond (Nat.blt k 76) (cond (Nat.blt k 69) 1220 2026) (cond (Nat.blt k 83) 2071 2121))) (cond (Nat.blt k 184) (cond (Nat.blt k 97) 2142 (cond (Nat.blt k 108) 2155 3178)) (cond (Nat.blt k 301) (cond (Nat.blt k 272) 5065 3062) (cond (Nat.blt k 368) 3037 3134))))
set_option maxRecDepth 100000 in
def xQ_X11 : Nat → Nat := fun k => 0
set_option maxRecDepth 100000 in
def xM_X11 : Nat → List Nat := fun k => (cond (Nat.blt k 231) (cond (Nat.blt k 152) (cond (Nat.blt k 99) (cond (Nat.blt k 64) (cond (Nat.blt k 27) (cond (Nat.blt k 24) [1032, 1033, 1034] [1039, 1040, 1003, 1041]) (cond (Nat.blt k 57) [1152, 1153, 1002, 1154] [1173, 1007, 1174])) (cond (Nat.blt k 78) (cond (Nat.blt k 71) [1223, 1008, 1224] [2029, 1009, 2030]) (cond (Nat.blt k 85) [2074, 1010, 2075] (cond (Nat.blt k 92) [2124, 1011, 2125] [2145, 1012, 2146])))) (cond (Nat.blt k 132) (cond (Nat.blt k 111) (cond (Nat.blt k 104) [2158, 1013, 2159] [2233, 2235, 1, 1001, 2236]) (cond (Nat.blt k 118) [4000, 4001, 4002, 1007, 4003] [4127, 4128, 4129, 1007, 4130])) (cond (Nat.blt k 143) (cond (Nat.blt k 136) [4145, 4146, 4147, 1003, 4148] [4149, 4150, 4151, 1003, 4152]) (cond (Nat.blt k 146) [4153, 4154, 4155, 1003, 4156] (cond (Nat.blt k 149) [4157, 4158, 4159, 1003, 4160] [4161, 4162, 4163, 1003, 4164]))))) (cond (Nat.blt k 181) (cond (Nat.blt k 166) (cond (Nat.blt k 159) (cond (Nat.blt k 155) [4171, 4172, 4173, 1003, 4174] [4183, 4184, 4185, 1008, 4186]) (cond (Nat.blt k 163) [4231, 4232, 4233, 1008, 4234] [5000, 5001, 5002, 1008, 5003])) (cond (Nat.blt k 172) (cond (Nat.blt k 169) [5009, 5010, 5011, 1008, 5012] [5021, 5022, 5023, 1002, 5024]) (cond (Nat.blt k 175) [5041, 5042, 5043, 1002, 5044] (cond (Nat.blt k 178) [5045, 5046, 5047, 1003, 5048] [5053, 5054, 5055, 1003, 5056])))) (cond (Nat.blt k 208) (cond (Nat.blt k 193) (cond (Nat.blt k 187) [5061, 5062, 5063, 1003, 5064] [5087, 5089, 40, 1001, 5090]) (cond (Nat.blt k 205) [5098, 5100, 41, 1001, 5101] [5102, 4236, 4237, 1008, 4238])) (cond (Nat.blt k 217) (cond (Nat.blt k 212) [5103, 4176, 4177, 1003, 4178] [5104, 5105, 1023, 5106]) (cond (Nat.blt k 224) [5115, 5116, 1001, 5117] (cond (Nat.blt k 228) [5132, 5133, 5134, 1008, 5135] [5152, 5153, 5154, 1009, 5155])))))) (cond (Nat.blt k 311) (cond (Nat.blt k 267) (cond (Nat.blt k 246) (cond (Nat.blt k 239) (cond (Nat.blt k 235) [3088, 3089, 3090, 1003, 3091] [5208, 5210, 51, 1001, 5211]) (cond (Nat.blt k 243) [5212, 5006, 5007, 1008, 5008] [5213, 5214, 5215, 1008, 5216])) (cond (Nat.blt k 254) (cond (Nat.blt k 250) [5237, 5238, 5239, 1008, 6000] [3005, 3006, 3007, 1003, 3008]) (cond (Nat.blt k 257) [3018, 3020, 2, 1001, 3021] (cond (Nat.blt k 263) [3022, 1046, 1004, 1047] [3023, 3024, 3025, 1002, 3026])))) (cond (Nat.blt k 283) (cond (Nat.blt k 276) (cond (Nat.blt k 271) [3029, 3031, 3, 1001, 3032] [3061, 1049, 1050, 1051, 1052]) (cond (Nat.blt k 279) [3067, 3069, 5, 1001, 3070] [3071, 3072, 3073, 1002, 3074])) (cond (Nat.blt k 289) (cond (Nat.blt k 286) [3102, 3103, 3104, 1003, 3105] [3106, 3107, 3108, 1002, 3109]) (cond (Nat.blt k 292) [3114, 3115, 1001, 3116] (cond (Nat.blt k 296) [3117, 3078, 3079, 1002, 3080] [3033, 3035, 4, 1001, 3036]))))) (cond (Nat.blt k 341) (cond (Nat.blt k 325) (cond (Nat.blt k 318) (cond (Nat.blt k 314) [6009, 6010, 6011, 1009, 6012] [6029, 6030, 6031, 1009, 6032]) (cond (Nat.blt k 322) [6037, 6038, 6039, 1009, 6040] [6041, 6018, 6019, 1009, 6020])) (cond (Nat.blt k 332) (cond (Nat.blt k 329) [6049, 6050, 6051, 1010, 6052] [6099, 6100, 6101, 1010, 6102]) (cond (Nat.blt k 335) [6119, 6120, 6121, 1012, 6122] (cond (Nat.blt k 338) [6127, 6128, 6129, 1012, 6130] [6131, 6132, 6133, 1012, 6134])))) (cond (Nat.blt k 356) (cond (Nat.blt k 347) (cond (Nat.blt k 344) [6138, 6139, 6140, 1012, 6141] [6142, 6143, 6144, 1012, 6145]) (cond (Nat.blt k 350) [6155, 6156, 6157, 1012, 6158] (cond (Nat.blt k 353) [6166, 5050, 5051, 1003, 5052] [6174, 6175, 6176, 1011, 6177]))) (cond (Nat.blt k 370) (cond (Nat.blt k 362) [6206, 6207, 6208, 1013, 6209] [6226, 4166, 1003, 4167]) (cond (Nat.blt k 379) [3136, 3137, 1026, 3138] (cond (Nat.blt k 382) [3039, 3040, 1025, 3041] [3056, 1056, 1005, 1057])))))))
set_option maxRecDepth 100000 in
theorem vF_X11 (pu : Nat → Option ((List Value → z_H → Prop) × (List Value → z_H → Int32))) : z_FV (t_X11 pu) := z_FVof (C := (t_X11 (fun _ => none))) xF_X11 1000 (by decide +kernel) (fun k hk => by show fF_X11 k = none; unfold fF_X11; first | rfl | (rw [z_bltF hk]; rfl))
set_option maxRecDepth 100000 in
theorem vK_X11 (pu : Nat → Option ((List Value → z_H → Prop) × (List Value → z_H → Int32))) : z_KV (t_X11 pu) ∧ z_TV (t_X11 pu) := z_KVof (C := (t_X11 (fun _ => none))) xK_X11 1000 (by decide +kernel) (fun k hk => by show fK_X11 k = none; unfold fK_X11; first | rfl | (rw [z_bltF hk]; rfl))
set_option maxRecDepth 100000 in
theorem vMc_X11_0 : (List.range 40).all (fun j => z_mck xM_X11 (t_X11 (fun _ => none)) (40 * 0 + j)) = true := by decide +kernel
set_option maxRecDepth 100000 in
theorem vMc_X11_1 : (List.range 40).all (fun j => z_mck xM_X11 (t_X11 (fun _ => none)) (40 * 1 + j)) = true := by decide +kernel
set_option maxRecDepth 100000 in
theorem vMc_X11_2 : (List.range 40).all (fun j => z_mck xM_X11 (t_X11 (fun _ => none)) (40 * 2 + j)) = true := by decide +kernel
set_option maxRecDepth 100000 in
theorem vMc_X11_3 : (List.range 40).all (fun j => z_mck xM_X11 (t_X11 (fun _ => none)) (40 * 3 + j)) = true := by decide +kernel
set_option maxRecDepth 100000 in
theorem vMc_X11_4 : (List.range 40).all (fun j => z_mck xM_X11 (t_X11 (fun _ => none)) (40 * 4 + j)) = true := by decide +kernel
set_option maxRecDepth 100000 in
theorem vMc_X11_5 : (List.range 40).all (fun j => z_mck xM_X11 (t_X11 (fun _ => none)) (40 * 5 + j)) = true := by decide +kernel
set_option maxRecDepth 100000 in
theorem vMc_X11_6 : (List.range 40).all (fun j => z_mck xM_X11 (t_X11 (fun _ => none)) (40 * 6 + j)) = true := by decide +kernel
set_option maxRecDepth 100000 in
theorem vMc_X11_7 : (List.range 40).all (fun j => z_mck xM_X11 (t_X11 (fun _ => none)) (40 * 7 + j)) = true := by decide +kernel
set_option maxRecDepth 100000 in
theorem vMc_X11_8 : (List.range 40).all (fun j => z_mck xM_X11 (t_X11 (fun _ => none)) (40 * 8 + j)) = true := by decide +kernel
set_option maxRecDepth 100000 in
theorem vMc_X11_9 : (List.range 40).all (fun j => z_mck xM_X11 (t_X11 (fun _ => none)) (40 * 9 + j)) = true := by decide +kernel
set_option maxRecDepth 100000 in
theorem vMc_X11_10 : (List.range 40).all (fun j => z_mck xM_X11 (t_X11 (fun _ => none)) (40 * 10 + j)) = true := by decide +kernel
set_option maxRecDepth 100000 in
theorem vMc_X11_11 : (List.range 40).all (fun j => z_mck xM_X11 (t_X11 (fun _ => none)) (40 * 11 + j)) = true := by decide +kernel
set_option maxRecDepth 100000 in
theorem vMc_X11_12 : (List.range 40).all (fun j => z_mck xM_X11 (t_X11 (fun _ => none)) (40 * 12 + j)) = true := by decide +kernel
set_option maxRecDepth 100000 in
theorem vMc_X11_13 : (List.range 40).all (fun j => z_mck xM_X11 (t_X11 (fun _ => none)) (40 * 13 + j)) = true := by decide +kernel
set_option maxRecDepth 100000 in
theorem vMc_X11_14 : (List.range 40).all (fun j => z_mck xM_X11 (t_X11 (fun _ => none)) (40 * 14 + j)) = true := by decide +kernel
set_option maxRecDepth 100000 in
theorem vMc_X11_15 : (List.range 40).all (fun j => z_mck xM_X11 (t_X11 (fun _ => none)) (40 * 15 + j)) = true := by decide +kernel
set_option maxRecDepth 100000 in
theorem vMc_X11_16 : (List.range 40).all (fun j => z_mck xM_X11 (t_X11 (fun _ => none)) (40 * 16 + j)) = true := by decide +kernel
set_option maxRecDepth 100000 in
theorem vMc_X11_17 : (List.range 40).all (fun j => z_mck xM_X11 (t_X11 (fun _ => none)) (40 * 17 + j)) = true := by decide +kernel
set_option maxRecDepth 100000 in
theorem vMc_X11_18 : (List.range 40).all (fun j => z_mck xM_X11 (t_X11 (fun _ => none)) (40 * 18 + j)) = true := by decide +kernel
set_option maxRecDepth 100000 in
theorem vMc_X11_19 : (List.range 40).all (fun j => z_mck xM_X11 (t_X11 (fun _ => none)) (40 * 19 + j)) = true := by decide +kernel
set_option maxRecDepth 100000 in
theorem vMc_X11_20 : (List.range 40).all (fun j => z_mck xM_X11 (t_X11 (fun _ => none)) (40 * 20 + j)) = true := by decide +kernel
set_option maxRecDepth 100000 in
theorem vMc_X11_21 : (List.range 40).all (fun j => z_mck xM_X11 (t_X11 (fun _ => none)) (40 * 21 + j)) = true := by decide +kernel
set_option maxRecDepth 100000 in
theorem vMc_X11_22 : (List.range 40).all (fun j => z_mck xM_X11 (t_X11 (fun _ => none)) (40 * 22 + j)) = true := by decide +kernel
set_option maxRecDepth 100000 in
theorem vMc_X11_23 : (List.range 40).all (fun j => z_mck xM_X11 (t_X11 (fun _ => none)) (40 * 23 + j)) = true := by decide +kernel
set_option maxRecDepth 100000 in
theorem vMc_X11_24 : (List.range 40).all (fun j => z_mck xM_X11 (t_X11 (fun _ => none)) (40 * 24 + j)) = true := by decide +kernel
set_option maxRecDepth 100000 in
theorem vMc_X11 : ∀ c, c < 25 → (List.range 40).all (fun j => z_mck xM_X11 (t_X11 (fun _ => none)) (40 * c + j)) = true := by
  intro c hc
  match c, hc with
  | 0, _ => exact vMc_X11_0
  | 1, _ => exact vMc_X11_1
  | 2, _ => exact vMc_X11_2
  | 3, _ => exact vMc_X11_3
  | 4, _ => exact vMc_X11_4
  | 5, _ => exact vMc_X11_5
  | 6, _ => exact vMc_X11_6
  | 7, _ => exact vMc_X11_7
  | 8, _ => exact vMc_X11_8
  | 9, _ => exact vMc_X11_9
  | 10, _ => exact vMc_X11_10
  | 11, _ => exact vMc_X11_11
  | 12, _ => exact vMc_X11_12
  | 13, _ => exact vMc_X11_13
  | 14, _ => exact vMc_X11_14
  | 15, _ => exact vMc_X11_15
  | 16, _ => exact vMc_X11_16
  | 17, _ => exact vMc_X11_17
  | 18, _ => exact vMc_X11_18
  | 19, _ => exact vMc_X11_19
  | 20, _ => exact vMc_X11_20
  | 21, _ => exact vMc_X11_21
  | 22, _ => exact vMc_X11_22
  | 23, _ => exact vMc_X11_23
  | 24, _ => exact vMc_X11_24
  | n + 25, hc => exact absurd hc (by omega)
set_option maxRecDepth 100000 in
theorem vM_X11 (pu : Nat → Option ((List Value → z_H → Prop) × (List Value → z_H → Int32))) : z_MV (t_X11 pu) := z_MVof (C := (t_X11 (fun _ => none))) xM_X11 1000 (z_chunk 25 vMc_X11) (fun k hk => by show fM_X11 k = none; unfold fM_X11; first | rfl | (rw [z_bltF hk]; rfl))
set_option maxRecDepth 100000 in
theorem vQ_X11 (pu : Nat → Option ((List Value → z_H → Prop) × (List Value → z_H → Int32))) : (∀ k v, z_cQ (t_X11 pu) k = some (.inl v) → Cond.constant (z_cNm (t_X11 pu)) k v ∈ z_gt) ∧ (∀ k v, z_cQ (t_X11 pu) k = some (.inr (.inl v)) → Cond.constantLong (z_cNm (t_X11 pu)) k v ∈ z_gt) := z_QVof (C := (t_X11 (fun _ => none))) xQ_X11 1000 (by decide +kernel) (fun k hk => by show fQ_X11 k = none; unfold fQ_X11; first | rfl | (rw [z_bltF hk]; rfl))
set_option maxRecDepth 100000 in
theorem vS_X11 (pu : Nat → Option ((List Value → z_H → Prop) × (List Value → z_H → Int32))) : z_SV (t_X11 pu) := z_SVof (C := (t_X11 (fun _ => none))) 1000 (by decide +kernel) (fun k hk => by show fQ_X11 k = none; unfold fQ_X11; first | rfl | (rw [z_bltF hk]; rfl))
set_option maxRecDepth 100000 in
theorem v_X11 (pu : Nat → Option ((List Value → z_H → Prop) × (List Value → z_H → Int32))) {G : z_G} {d : Nat} {κ : z_Key} {b : Bool} {P} (hP : z_PV (κ, b, t_X11 pu, P)) (hPu : z_PuV G d (t_X11 pu)) : z_V G d (κ, b, t_X11 pu, P) := ⟨z_CFv, z_AVv, hP, vF_X11 pu, (vK_X11 pu).1, (vK_X11 pu).2, vM_X11 pu, (vQ_X11 pu).1, (vQ_X11 pu).2, vS_X11 pu, hPu⟩
