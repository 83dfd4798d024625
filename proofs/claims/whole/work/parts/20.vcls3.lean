set_option maxRecDepth 100000 in
def xF_X12 : Nat → Nat := fun k => (cond (Nat.blt k 90) (cond (Nat.blt k 50) (cond (Nat.blt k 29) (cond (Nat.blt k 19) (cond (Nat.blt k 13) 6235 (cond (Nat.blt k 16) 6236 6237)) (cond (Nat.blt k 22) 6238 (cond (Nat.blt k 26) 7008 7010))) (cond (Nat.blt k 38) (cond (Nat.blt k 32) 7011 (cond (Nat.blt k 35) 7012 7013)) (cond (Nat.blt k 44) (cond (Nat.blt k 41) 7014 7015) (cond (Nat.blt k 47) 7016 7017)))) (cond (Nat.blt k 68) (cond (Nat.blt k 59) (cond (Nat.blt k 53) 7020 (cond (Nat.blt k 56) 7022 7024)) (cond (Nat.blt k 62) 7025 (cond (Nat.blt k 65) 7026 7027))) (cond (Nat.blt k 78) (cond (Nat.blt k 71) 7028 (cond (Nat.blt k 74) 7029 7030)) (cond (Nat.blt k 84) (cond (Nat.blt k 81) 7038 7040) (cond (Nat.blt k 87) 7043 7044))))) (cond (Nat.blt k 201) (cond (Nat.blt k 112) (cond (Nat.blt k 99) (cond (Nat.blt k 93) 7045 (cond (Nat.blt k 96) 6234 6239)) (cond (Nat.blt k 102) 7001 (cond (Nat.blt k 109) 7000 7004))) (cond (Nat.blt k 135) (cond (Nat.blt k 122) 7002 (cond (Nat.blt k 132) 7003 7005)) (cond (Nat.blt k 180) (cond (Nat.blt k 138) 7006 7007) (cond (Nat.blt k 198) 7009 7019)))) (cond (Nat.blt k 413) (cond (Nat.blt k 395) (cond (Nat.blt k 358) 7041 (cond (Nat.blt k 392) 7018 7021)) (cond (Nat.blt k 404) 7023 (cond (Nat.blt k 410) 7032 7033))) (cond (Nat.blt k 438) (cond (Nat.blt k 432) 7031 (cond (Nat.blt k 435) 7034 7035)) (cond (Nat.blt k 469) (cond (Nat.blt k 441) 7036 7037) (cond (Nat.blt k 480) 7039 7042))))))
set_option maxRecDepth 100000 in
def xK_X12 : Nat → Nat := fun k => 0
set_option maxRecDepth 100000 in
def xQ_X12 : Nat → Nat := fun k => (cond (Nat.blt k 125) 6233 (cond (Nat.blt k 472) 7181 9144))
set_option maxRecDepth 100000 in
def xM_X12 : Nat → List Nat := fun k => (cond (Nat.blt k 296) (cond (Nat.blt k 219) (cond (Nat.blt k 164) (cond (Nat.blt k 141) (cond (Nat.blt k 115) (cond (Nat.blt k 105) [6232, 1033, 1034] [7171, 7173, 78, 1014, 7174]) (cond (Nat.blt k 119) [7175, 7176, 1014, 7177] (cond (Nat.blt k 126) [7178, 7179, 1014, 7180] [7182, 1056, 1005, 1057]))) (cond (Nat.blt k 155) (cond (Nat.blt k 147) [7192, 4026, 4027, 1019, 4028] (cond (Nat.blt k 151) [7193, 4036, 4037, 1019, 4038] [7194, 7196, 81, 1014, 7197])) (cond (Nat.blt k 158) [7202, 7204, 83, 1014, 7205] (cond (Nat.blt k 161) [7167, 7169, 77, 1014, 7170] [7215, 7217, 86, 1014, 7218])))) (cond (Nat.blt k 192) (cond (Nat.blt k 176) (cond (Nat.blt k 167) [7198, 7200, 82, 1014, 7201] (cond (Nat.blt k 170) [7211, 7213, 85, 1014, 7214] [7219, 7220, 1014, 7221])) (cond (Nat.blt k 185) [7188, 7190, 80, 1014, 7191] (cond (Nat.blt k 189) [7207, 7209, 84, 1014, 7210] [7227, 7229, 87, 1014, 7230]))) (cond (Nat.blt k 210) (cond (Nat.blt k 195) [7163, 7165, 76, 1014, 7166] (cond (Nat.blt k 205) [7183, 7185, 79, 1014, 7186] [7225, 3010, 1023, 3011])) (cond (Nat.blt k 213) [7222, 7223, 1014, 7224] (cond (Nat.blt k 216) [8003, 8005, 89, 1014, 8006] [8011, 8013, 91, 1014, 8014]))))) (cond (Nat.blt k 256) (cond (Nat.blt k 237) (cond (Nat.blt k 228) (cond (Nat.blt k 222) [8039, 8041, 98, 1014, 8042] (cond (Nat.blt k 224) [7239, 8001, 88, 1014, 8002] [8035, 8037, 97, 1014, 8038])) (cond (Nat.blt k 231) [8023, 8025, 94, 1014, 8026] (cond (Nat.blt k 234) [8019, 8021, 93, 1014, 8022] [8027, 8029, 95, 1014, 8030]))) (cond (Nat.blt k 247) (cond (Nat.blt k 240) [8051, 8053, 101, 1014, 8054] (cond (Nat.blt k 243) [8055, 5105, 1023, 5106] [8080, 8082, 108, 1014, 8083])) (cond (Nat.blt k 250) [8072, 8074, 106, 1014, 8075] (cond (Nat.blt k 253) [8060, 8062, 103, 1014, 8063] [8064, 8066, 104, 1014, 8067])))) (cond (Nat.blt k 276) (cond (Nat.blt k 266) (cond (Nat.blt k 260) [8068, 8070, 105, 1014, 8071] (cond (Nat.blt k 263) [8076, 8078, 107, 1014, 8079] [8056, 8058, 102, 1014, 8059])) (cond (Nat.blt k 269) [8092, 8094, 111, 1014, 8095] (cond (Nat.blt k 272) [8096, 8098, 112, 1014, 8099] [8116, 8117, 1014, 8118]))) (cond (Nat.blt k 286) (cond (Nat.blt k 279) [8108, 8110, 115, 1014, 8111] (cond (Nat.blt k 283) [8112, 8114, 116, 1014, 8115] [8104, 8106, 114, 1014, 8107])) (cond (Nat.blt k 290) [8127, 8129, 119, 1014, 8130] (cond (Nat.blt k 293) [8007, 8009, 90, 1014, 8010] [8015, 8017, 92, 1014, 8018])))))) (cond (Nat.blt k 374) (cond (Nat.blt k 333) (cond (Nat.blt k 315) (cond (Nat.blt k 305) (cond (Nat.blt k 299) [8031, 8033, 96, 1014, 8034] (cond (Nat.blt k 302) [8043, 8045, 99, 1014, 8046] [8047, 8049, 100, 1014, 8050])) (cond (Nat.blt k 308) [8084, 8086, 109, 1014, 8087] (cond (Nat.blt k 312) [8088, 8090, 110, 1014, 8091] [8100, 8102, 113, 1014, 8103]))) (cond (Nat.blt k 324) (cond (Nat.blt k 318) [8119, 8121, 117, 1014, 8122] (cond (Nat.blt k 321) [8123, 8125, 118, 1014, 8126] [8131, 8133, 120, 1014, 8134])) (cond (Nat.blt k 327) [8135, 8137, 121, 1014, 8138] (cond (Nat.blt k 330) [8147, 8148, 1014, 8149] [8143, 8145, 122, 1014, 8146])))) (cond (Nat.blt k 352) (cond (Nat.blt k 343) (cond (Nat.blt k 336) [8154, 8156, 123, 1014, 8157] (cond (Nat.blt k 339) [8178, 8180, 125, 1014, 8181] [8182, 8183, 1014, 8184])) (cond (Nat.blt k 346) [8174, 8176, 124, 1014, 8177] (cond (Nat.blt k 349) [8189, 8191, 126, 1014, 8192] [8201, 8202, 1014, 8203]))) (cond (Nat.blt k 365) (cond (Nat.blt k 355) [8208, 8210, 129, 1014, 8211] (cond (Nat.blt k 361) [8216, 8218, 131, 1014, 8219] [8212, 8214, 130, 1014, 8215])) (cond (Nat.blt k 368) [8197, 8199, 127, 1014, 8200] (cond (Nat.blt k 371) [8204, 8206, 128, 1014, 8207] [8232, 8234, 133, 1014, 8235]))))) (cond (Nat.blt k 426) (cond (Nat.blt k 398) (cond (Nat.blt k 383) (cond (Nat.blt k 377) [8228, 8230, 132, 1014, 8231] (cond (Nat.blt k 380) [8236, 8238, 134, 1014, 8239] [9000, 9002, 135, 1014, 9003])) (cond (Nat.blt k 386) [9008, 9010, 136, 1014, 9011] (cond (Nat.blt k 389) [9016, 9018, 137, 1014, 9019] [9020, 9022, 138, 1014, 9023]))) (cond (Nat.blt k 416) (cond (Nat.blt k 401) [9056, 9058, 140, 1014, 9059] (cond (Nat.blt k 407) [9052, 9054, 139, 1014, 9055] [9076, 9078, 144, 1014, 9079])) (cond (Nat.blt k 419) [9072, 9074, 143, 1014, 9075] (cond (Nat.blt k 423) [9068, 9070, 142, 1014, 9071] [9064, 9066, 141, 1014, 9067])))) (cond (Nat.blt k 456) (cond (Nat.blt k 447) (cond (Nat.blt k 429) [9092, 9094, 146, 1014, 9095] (cond (Nat.blt k 444) [9096, 9098, 147, 1014, 9099] [9088, 9090, 145, 1014, 9091])) (cond (Nat.blt k 450) [9100, 9102, 148, 1014, 9103] (cond (Nat.blt k 453) [9104, 9106, 149, 1014, 9107] [9108, 9110, 150, 1014, 9111]))) (cond (Nat.blt k 466) (cond (Nat.blt k 460) [9128, 9130, 153, 1014, 9131] (cond (Nat.blt k 463) [9132, 4213, 1005, 4214] [9124, 9126, 152, 1014, 9127])) (cond (Nat.blt k 473) [9120, 9122, 151, 1014, 9123] (cond (Nat.blt k 477) [9137, 9138, 1014, 9139] [9140, 9142, 154, 1014, 9143])))))))
set_option maxRecDepth 100000 in
theorem vF_X12 (pu : Nat → Option ((List Value → z_H → Prop) × (List Value → z_H → Int32))) : z_FV (t_X12 pu) := z_FVof (C := (t_X12 (fun _ => none))) xF_X12 1000 (by decide +kernel) (fun k hk => by show fF_X12 k = none; unfold fF_X12; first | rfl | (rw [z_bltF hk]; rfl))
set_option maxRecDepth 100000 in
theorem vK_X12 (pu : Nat → Option ((List Value → z_H → Prop) × (List Value → z_H → Int32))) : z_KV (t_X12 pu) ∧ z_TV (t_X12 pu) := z_KVof (C := (t_X12 (fun _ => none))) xK_X12 1000 (by decide +kernel) (fun k hk => by show fK_X12 k = none; unfold fK_X12; first | rfl | (rw [z_bltF hk]; rfl))
set_option maxRecDepth 100000 in
theorem vMc_X12_0 : (List.range 40).all (fun j => z_mck xM_X12 (t_X12 (fun _ => none)) (40 * 0 + j)) = true := by decide +kernel
set_option maxRecDepth 100000 in
theorem vMc_X12_1 : (List.range 40).all (fun j => z_mck xM_X12 (t_X12 (fun _ => none)) (40 * 1 + j)) = true := by decide +kernel
set_option maxRecDepth 100000 in
theorem vMc_X12_2 : (List.range 40).all (fun j => z_mck xM_X12 (t_X12 (fun _ => none)) (40 * 2 + j)) = true := by decide +kernel
set_option maxRecDepth 100000 in
theorem vMc_X12_3 : (List.range 40).all (fun j => z_mck xM_X12 (t_X12 (fun _ => none)) (40 * 3 + j)) = true := by decide +kernel
set_option maxRecDepth 100000 in
theorem vMc_X12_4 : (List.range 40).all (fun j => z_mck xM_X12 (t_X12 (fun _ => none)) (40 * 4 + j)) = true := by decide +kernel
set_option maxRecDepth 100000 in
theorem vMc_X12_5 : (List.range 40).all (fun j => z_mck xM_X12 (t_X12 (fun _ => none)) (40 * 5 + j)) = true := by decide +kernel
set_option maxRecDepth 100000 in
theorem vMc_X12_6 : (List.range 40).all (fun j => z_mck xM_X12 (t_X12 (fun _ => none)) (40 * 6 + j)) = true := by decide +kernel
set_option maxRecDepth 100000 in
theorem vMc_X12_7 : (List.range 40).all (fun j => z_mck xM_X12 (t_X12 (fun _ => none)) (40 * 7 + j)) = true := by decide +kernel
set_option maxRecDepth 100000 in
theorem vMc_X12_8 : (List.range 40).all (fun j => z_mck xM_X12 (t_X12 (fun _ => none)) (40 * 8 + j)) = true := by decide +kernel
set_option maxRecDepth 100000 in
theorem vMc_X12_9 : (List.range 40).all (fun j => z_mck xM_X12 (t_X12 (fun _ => none)) (40 * 9 + j)) = true := by decide +kernel
set_option maxRecDepth 100000 in
theorem vMc_X12_10 : (List.range 40).all (fun j => z_mck xM_X12 (t_X12 (fun _ => none)) (40 * 10 + j)) = true := by decide +kernel
set_option maxRecDepth 100000 in
theorem vMc_X12_11 : (List.range 40).all (fun j => z_mck xM_X12 (t_X12 (fun _ => none)) (40 * 11 + j)) = true := by decide +kernel
set_option maxRecDepth 100000 in
theorem vMc_X12_12 : (List.range 40).all (fun j => z_mck xM_X12 (t_X12 (fun _ => none)) (40 * 12 + j)) = true := by decide +kernel
set_option maxRecDepth 100000 in
theorem vMc_X12_13 : (List.range 40).all (fun j => z_mck xM_X12 (t_X12 (fun _ => none)) (40 * 13 + j)) = true := by decide +kernel
set_option maxRecDepth 100000 in
theorem vMc_X12_14 : (List.range 40).all (fun j => z_mck xM_X12 (t_X12 (fun _ => none)) (40 * 14 + j)) = true := by decide +kernel
set_option maxRecDepth 100000 in
theorem vMc_X12_15 : (List.range 40).all (fun j => z_mck xM_X12 (t_X12 (fun _ => none)) (40 * 15 + j)) = true := by decide +kernel
set_option maxRecDepth 100000 in
theorem vMc_X12_16 : (List.range 40).all (fun j => z_mck xM_X12 (t_X12 (fun _ => none)) (40 * 16 + j)) = true := by decide +kernel
set_option maxRecDepth 100000 in
theorem vMc_X12_17 : (List.range 40).all (fun j => z_mck xM_X12 (t_X12 (fun _ => none)) (40 * 17 + j)) = true := by decide +kernel
set_option maxRecDepth 100000 in
theorem vMc_X12_18 : (List.range 40).all (fun j => z_mck xM_X12 (t_X12 (fun _ => none)) (40 * 18 + j)) = true := by decide +kernel
set_option maxRecDepth 100000 in
theorem vMc_X12_19 : (List.range 40).all (fun j => z_mck xM_X12 (t_X12 (fun _ => none)) (40 * 19 + j)) = true := by decide +kernel
set_option maxRecDepth 100000 in
theorem vMc_X12_20 : (List.range 40).all (fun j => z_mck xM_X12 (t_X12 (fun _ => none)) (40 * 20 + j)) = true := by decide +kernel
set_option maxRecDepth 100000 in
theorem vMc_X12_21 : (List.range 40).all (fun j => z_mck xM_X12 (t_X12 (fun _ => none)) (40 * 21 + j)) = true := by decide +kernel
set_option maxRecDepth 100000 in
theorem vMc_X12_22 : (List.range 40).all (fun j => z_mck xM_X12 (t_X12 (fun _ => none)) (40 * 22 + j)) = true := by decide +kernel
set_option maxRecDepth 100000 in
theorem vMc_X12_23 : (List.range 40).all (fun j => z_mck xM_X12 (t_X12 (fun _ => none)) (40 * 23 + j)) = true := by decide +kernel
set_option maxRecDepth 100000 in
theorem vMc_X12_24 : (List.range 40).all (fun j => z_mck xM_X12 (t_X12 (fun _ => none)) (40 * 24 + j)) = true := by decide +kernel
set_option maxRecDepth 100000 in
theorem vMc_X12 : ∀ c, c < 25 → (List.range 40).all (fun j => z_mck xM_X12 (t_X12 (fun _ => none)) (40 * c + j)) = true := by
  intro c hc
  match c, hc with
  | 0, _ => exact vMc_X12_0
  | 1, _ => exact vMc_X12_1
  | 2, _ => exact vMc_X12_2
  | 3, _ => exact vMc_X12_3
  | 4, _ => exact vMc_X12_4
  | 5, _ => exact vMc_X12_5
  | 6, _ => exact vMc_X12_6
  | 7, _ => exact vMc_X12_7
  | 8, _ => exact vMc_X12_8
  | 9, _ => exact vMc_X12_9
  | 10, _ => exact vMc_X12_10
  | 11, _ => exact vMc_X12_11
  | 12, _ => exact vMc_X12_12
  | 13, _ => exact vMc_X12_13
  | 14, _ => exact vMc_X12_14
  | 15, _ => exact vMc_X12_15
  | 16, _ => exact vMc_X12_16
  | 17, _ => exact vMc_X12_17
  | 18, _ => exact vMc_X12_18
  | 19, _ => exact vMc_X12_19
  | 20, _ => exact vMc_X12_20
  | 21, _ => exact vMc_X12_21
  | 22, _ => exact vMc_X12_22
  | 23, _ => exact vMc_X12_23
  | 24, _ => exact vMc_X12_24
  | n + 25, hc => exact absurd hc (by omega)
set_option maxRecDepth 100000 in
theorem vM_X12 (pu : Nat → Option ((List Value → z_H → Prop) × (List Value → z_H → Int32))) : z_MV (t_X12 pu) := z_MVof (C := (t_X12 (fun _ => none))) xM_X12 1000 (z_chunk 25 vMc_X12) (fun k hk => by show fM_X12 k = none; unfold fM_X12; first | rfl | (rw [z_bltF hk]; rfl))
set_option maxRecDepth 100000 in
theorem vQ_X12 (pu : Nat → Option ((List Value → z_H → Prop) × (List Value → z_H → Int32))) : (∀ k v, z_cQ (t_X12 pu) k = some (.inl v) → Cond.constant (z_cNm (t_X12 pu)) k v ∈ z_gt) ∧ (∀ k v, z_cQ (t_X12 pu) k = some (.inr (.inl v)) → Cond.constantLong (z_cNm (t_X12 pu)) k v ∈ z_gt) := z_QVof (C := (t_X12 (fun _ => none))) xQ_X12 1000 (by decide +kernel) (fun k hk => by show fQ_X12 k = none; unfold fQ_X12; first | rfl | (rw [z_bltF hk]; rfl))
set_option maxRecDepth 100000 in
theorem vS_X12 (pu : Nat → Option ((List Value → z_H → Prop) × (List Value → z_H → Int32))) : z_SV (t_X12 pu) := z_SVof (C := (t_X12 (fun _ => none))) 1000 (by decide +kernel) (fun k hk => by show fQ_X12 k = none; unfold fQ_X12; first | rfl | (rw [z_bltF hk]; rfl))
set_option maxRecDepth 100000 in
theorem v_X12 (pu : Nat → Option ((List Value → z_H → Prop) × (List Value → z_H → Int32))) {G : z_G} {d : Nat} {κ : z_Key} {b : Bool} {P} (hP : z_PV (κ, b, t_X12 pu, P)) (hPu : z_PuV G d (t_X12 pu)) : z_V G d (κ, b, t_X12 pu, P) := ⟨z_CFv, z_AVv, hP, vF_X12 pu, (vK_X12 pu).1, (vK_X12 pu).2, vM_X12 pu, (vQ_X12 pu).1, (vQ_X12 pu).2, vS_X12 pu, hPu⟩
