set_option maxRecDepth 100000 in
def xF_L : Nat → Nat := fun k => 0
set_option maxRecDepth 100000 in
def xK_L : Nat → Nat := fun k => (cond (Nat.blt k 72) 1027 6227)
set_option maxRecDepth 100000 in
def xQ_L : Nat → Nat := fun k => 0
set_option maxRecDepth 100000 in
def xM_L : Nat → List Nat := fun k => (cond (Nat.blt k 116) (cond (Nat.blt k 75) (cond (Nat.blt k 45) (cond (Nat.blt k 30) (cond (Nat.blt k 20) (cond (Nat.blt k 15) [3174, 3175, 3176, 1001, 3177] [4141, 4142, 4143, 1001, 4144]) (cond (Nat.blt k 23) [5083, 5084, 5085, 1001, 5086] (cond (Nat.blt k 27) [5094, 5095, 5096, 1001, 5097] [5111, 5112, 5113, 1001, 5114]))) (cond (Nat.blt k 36) (cond (Nat.blt k 33) [5121, 5122, 5123, 1001, 5124] [5128, 5129, 5130, 1001, 5131]) (cond (Nat.blt k 39) [5148, 5149, 5150, 1001, 5151] (cond (Nat.blt k 42) [5197, 5198, 5199, 1001, 5200] [5204, 5205, 5206, 1001, 5207])))) (cond (Nat.blt k 61) (cond (Nat.blt k 52) (cond (Nat.blt k 48) [5233, 5234, 5235, 1001, 5236] [6005, 6006, 6007, 1001, 6008]) (cond (Nat.blt k 55) [6045, 6046, 6047, 1001, 6048] (cond (Nat.blt k 58) [6095, 6096, 6097, 1001, 6098] [6115, 6116, 6117, 1001, 6118]))) (cond (Nat.blt k 67) (cond (Nat.blt k 64) [6162, 6163, 6164, 1001, 6165] [6170, 6171, 6172, 1001, 6173]) (cond (Nat.blt k 71) [6202, 6203, 6204, 1001, 6205] (cond (Nat.blt k 74) [1029, 1030, 1001, 1031] [6229, 6230, 1014, 6231]))))) (cond (Nat.blt k 99) (cond (Nat.blt k 90) (cond (Nat.blt k 80) (cond (Nat.blt k 79) [2229, 2230, 2231, 1001, 2232] [7155, 7156, 7157, 1014, 7158]) (cond (Nat.blt k 85) [3170, 3171, 1000, 3172] (cond (Nat.blt k 86) [7159, 7160, 7161, 1014, 7162] [7151, 7152, 7153, 1014, 7154]))) (cond (Nat.blt k 94) (cond (Nat.blt k 93) [2237, 2238, 2239, 1001, 3000] [7231, 7232, 7233, 1014, 7234]) (cond (Nat.blt k 96) [4137, 4138, 1000, 4139] (cond (Nat.blt k 97) [7235, 7236, 7237, 1014, 7238] [5080, 5081, 1000, 5082])))) (cond (Nat.blt k 107) (cond (Nat.blt k 103) (cond (Nat.blt k 100) [8139, 8140, 8141, 1014, 8142] [5091, 5092, 1000, 5093]) (cond (Nat.blt k 104) [8150, 8151, 8152, 1014, 8153] (cond (Nat.blt k 106) [5108, 5109, 1000, 5110] [8158, 8159, 8160, 1014, 8161]))) (cond (Nat.blt k 112) (cond (Nat.blt k 109) [5118, 5119, 1000, 5120] (cond (Nat.blt k 110) [8162, 8163, 8164, 1014, 8165] [5125, 5126, 1000, 5127])) (cond (Nat.blt k 113) [8166, 8167, 8168, 1014, 8169] (cond (Nat.blt k 115) [5145, 5146, 1000, 5147] [8170, 8171, 8172, 1014, 8173])))))) (cond (Nat.blt k 159) (cond (Nat.blt k 133) (cond (Nat.blt k 124) (cond (Nat.blt k 119) (cond (Nat.blt k 118) [5194, 5195, 1000, 5196] [8185, 8186, 8187, 1014, 8188]) (cond (Nat.blt k 121) [5201, 5202, 1000, 5203] (cond (Nat.blt k 122) [8193, 8194, 8195, 1014, 8196] [5230, 5231, 1000, 5232]))) (cond (Nat.blt k 128) (cond (Nat.blt k 125) [8220, 8221, 8222, 1014, 8223] [3001, 3002, 3003, 1001, 3004]) (cond (Nat.blt k 129) [8224, 8225, 8226, 1014, 8227] (cond (Nat.blt k 132) [3057, 3058, 3059, 1001, 3060] [9004, 9005, 9006, 1014, 9007])))) (cond (Nat.blt k 146) (cond (Nat.blt k 138) (cond (Nat.blt k 137) [3063, 3064, 3065, 1001, 3066] [9012, 9013, 9014, 1014, 9015]) (cond (Nat.blt k 141) [3084, 3085, 3086, 1001, 3087] (cond (Nat.blt k 142) [9024, 9025, 9026, 1014, 9027] [3098, 3099, 3100, 1001, 3101]))) (cond (Nat.blt k 152) (cond (Nat.blt k 147) [9028, 9029, 9030, 1014, 9031] (cond (Nat.blt k 151) [3110, 3111, 3112, 1001, 3113] [9032, 9033, 9034, 1014, 9035])) (cond (Nat.blt k 155) [3118, 3119, 3120, 1001, 3121] (cond (Nat.blt k 156) [9036, 9037, 9038, 1014, 9039] [3122, 3123, 3124, 1001, 3125]))))) (cond (Nat.blt k 176) (cond (Nat.blt k 168) (cond (Nat.blt k 163) (cond (Nat.blt k 160) [9040, 9041, 9042, 1014, 9043] [3126, 3127, 3128, 1001, 3129]) (cond (Nat.blt k 164) [9044, 9045, 9046, 1014, 9047] (cond (Nat.blt k 167) [6002, 6003, 1000, 6004] [9048, 9049, 9050, 1014, 9051]))) (cond (Nat.blt k 171) (cond (Nat.blt k 170) [6042, 6043, 1000, 6044] [9060, 9061, 9062, 1014, 9063]) (cond (Nat.blt k 173) [6092, 6093, 1000, 6094] (cond (Nat.blt k 174) [9080, 9081, 9082, 1014, 9083] [6112, 6113, 1000, 6114])))) (cond (Nat.blt k 183) (cond (Nat.blt k 179) (cond (Nat.blt k 177) [9084, 9085, 9086, 1014, 9087] [6159, 6160, 1000, 6161]) (cond (Nat.blt k 180) [9112, 9113, 9114, 1014, 9115] (cond (Nat.blt k 182) [6167, 6168, 1000, 6169] [9116, 9117, 9118, 1014, 9119]))) (cond (Nat.blt k 190) (cond (Nat.blt k 186) [6199, 6200, 1000, 6201] (cond (Nat.blt k 187) [9133, 9134, 9135, 1014, 9136] [3130, 3131, 3132, 1001, 3133])) (cond (Nat.blt k 191) [9145, 9146, 9147, 1014, 9148] (cond (Nat.blt k 195) [3166, 3167, 3168, 1001, 3169] [9149, 9150, 9151, 1014, 9152])))))))
set_option maxRecDepth 100000 in
theorem vF_L (pu : Nat → Option ((List Value → z_H → Prop) × (List Value → z_H → Int32))) : z_FV (t_L pu) := z_FVof (C := (t_L (fun _ => none))) xF_L 1000 (by decide +kernel) (fun k hk => by show fF_L k = none; unfold fF_L; first | rfl | (rw [z_bltF hk]; rfl))
set_option maxRecDepth 100000 in
theorem vK_L (pu : Nat → Option ((List Value → z_H → Prop) × (List Value → z_H → Int32))) : z_KV (t_L pu) ∧ z_TV (t_L pu) := z_KVof (C := (t_L (fun _ => none))) xK_L 1000 (by decide +kernel) (fun k hk => by show fK_L k = none; unfold fK_L; first | rfl | (rw [z_bltF hk]; rfl))
set_option maxRecDepth 100000 in
theorem vMc_L_0 : (List.range 40).all (fun j => z_mck xM_L (t_L (fun _ => none)) (40 * 0 + j)) = true := by decide +kernel
set_option maxRecDepth 100000 in
theorem vMc_L_1 : (List.range 40).all (fun j => z_mck xM_L (t_L (fun _ => none)) (40 * 1 + j)) = true := by decide +kernel
set_option maxRecDepth 100000 in
theorem vMc_L_2 : (List.range 40).all (fun j => z_mck xM_L (t_L (fun _ => none)) (40 * 2 + j)) = true := by decide +kernel
set_option maxRecDepth 100000 in
theorem vMc_L_3 : (List.range 40).all (fun j => z_mck xM_L (t_L (fun _ => none)) (40 * 3 + j)) = true := by decide +kernel
set_option maxRecDepth 100000 in
theorem vMc_L_4 : (List.range 40).all (fun j => z_mck xM_L (t_L (fun _ => none)) (40 * 4 + j)) = true := by decide +kernel
set_option maxRecDepth 100000 in
theorem vMc_L_5 : (List.range 40).all (fun j => z_mck xM_L (t_L (fun _ => none)) (40 * 5 + j)) = true := by decide +kernel
set_option maxRecDepth 100000 in
theorem vMc_L_6 : (List.range 40).all (fun j => z_mck xM_L (t_L (fun _ => none)) (40 * 6 + j)) = true := by decide +kernel
set_option maxRecDepth 100000 in
theorem vMc_L_7 : (List.range 40).all (fun j => z_mck xM_L (t_L (fun _ => none)) (40 * 7 + j)) = true := by decide +kernel
set_option maxRecDepth 100000 in
theorem vMc_L_8 : (List.range 40).all (fun j => z_mck xM_L (t_L (fun _ => none)) (40 * 8 + j)) = true := by decide +kernel
set_option maxRecDepth 100000 in
theorem vMc_L_9 : (List.range 40).all (fun j => z_mck xM_L (t_L (fun _ => none)) (40 * 9 + j)) = true := by decide +kernel
set_option maxRecDepth 100000 in
theorem vMc_L_10 : (List.range 40).all (fun j => z_mck xM_L (t_L (fun _ => none)) (40 * 10 + j)) = true := by decide +kernel
set_option maxRecDepth 100000 in
theorem vMc_L_11 : (List.range 40).all (fun j => z_mck xM_L (t_L (fun _ => none)) (40 * 11 + j)) = true := by decide +kernel
set_option maxRecDepth 100000 in
theorem vMc_L_12 : (List.range 40).all (fun j => z_mck xM_L (t_L (fun _ => none)) (40 * 12 + j)) = true := by decide +kernel
set_option maxRecDepth 100000 in
theorem vMc_L_13 : (List.range 40).all (fun j => z_mck xM_L (t_L (fun _ => none)) (40 * 13 + j)) = true := by decide +kernel
set_option maxRecDepth 100000 in
theorem vMc_L_14 : (List.range 40).all (fun j => z_mck xM_L (t_L (fun _ => none)) (40 * 14 + j)) = true := by decide +kernel
set_option maxRecDepth 100000 in
theorem vMc_L_15 : (List.range 40).all (fun j => z_mck xM_L (t_L (fun _ => none)) (40 * 15 + j)) = true := by decide +kernel
set_option maxRecDepth 100000 in
theorem vMc_L_16 : (List.range 40).all (fun j => z_mck xM_L (t_L (fun _ => none)) (40 * 16 + j)) = true := by decide +kernel
set_option maxRecDepth 100000 in
theorem vMc_L_17 : (List.range 40).all (fun j => z_mck xM_L (t_L (fun _ => none)) (40 * 17 + j)) = true := by decide +kernel
set_option maxRecDepth 100000 in
theorem vMc_L_18 : (List.range 40).all (fun j => z_mck xM_L (t_L (fun _ => none)) (40 * 18 + j)) = true := by decide +kernel
set_option maxRecDepth 100000 in
theorem vMc_L_19 : (List.range 40).all (fun j => z_mck xM_L (t_L (fun _ => none)) (40 * 19 + j)) = true := by decide +kernel
set_option maxRecDepth 100000 in
theorem vMc_L_20 : (List.range 40).all (fun j => z_mck xM_L (t_L (fun _ => none)) (40 * 20 + j)) = true := by decide +kernel
set_option maxRecDepth 100000 in
theorem vMc_L_21 : (List.range 40).all (fun j => z_mck xM_L (t_L (fun _ => none)) (40 * 21 + j)) = true := by decide +kernel
set_option maxRecDepth 100000 in
theorem vMc_L_22 : (List.range 40).all (fun j => z_mck xM_L (t_L (fun _ => none)) (40 * 22 + j)) = true := by decide +kernel
set_option maxRecDepth 100000 in
theorem vMc_L_23 : (List.range 40).all (fun j => z_mck xM_L (t_L (fun _ => none)) (40 * 23 + j)) = true := by decide +kernel
set_option maxRecDepth 100000 in
theorem vMc_L_24 : (List.range 40).all (fun j => z_mck xM_L (t_L (fun _ => none)) (40 * 24 + j)) = true := by decide +kernel
set_option maxRecDepth 100000 in
theorem vMc_L : ∀ c, c < 25 → (List.range 40).all (fun j => z_mck xM_L (t_L (fun _ => none)) (40 * c + j)) = true := by
  intro c hc
  match c, hc with
  | 0, _ => exact vMc_L_0
  | 1, _ => exact vMc_L_1
  | 2, _ => exact vMc_L_2
  | 3, _ => exact vMc_L_3
  | 4, _ => exact vMc_L_4
  | 5, _ => exact vMc_L_5
  | 6, _ => exact vMc_L_6
  | 7, _ => exact vMc_L_7
  | 8, _ => exact vMc_L_8
  | 9, _ => exact vMc_L_9
  | 10, _ => exact vMc_L_10
  | 11, _ => exact vMc_L_11
  | 12, _ => exact vMc_L_12
  | 13, _ => exact vMc_L_13
  | 14, _ => exact vMc_L_14
  | 15, _ => exact vMc_L_15
  | 16, _ => exact vMc_L_16
  | 17, _ => exact vMc_L_17
  | 18, _ => exact vMc_L_18
  | 19, _ => exact vMc_L_19
  | 20, _ => exact vMc_L_20
  | 21, _ => exact vMc_L_21
  | 22, _ => exact vMc_L_22
  | 23, _ => exact vMc_L_23
  | 24, _ => exact vMc_L_24
  | n + 25, hc => exact absurd hc (by omega)
set_option maxRecDepth 100000 in
theorem vM_L (pu : Nat → Option ((List Value → z_H → Prop) × (List Value → z_H → Int32))) : z_MV (t_L pu) := z_MVof (C := (t_L (fun _ => none))) xM_L 1000 (z_chunk 25 vMc_L) (fun k hk => by show fM_L k = none; unfold fM_L; first | rfl | (rw [z_bltF hk]; rfl))
set_option maxRecDepth 100000 in
theorem vQ_L (pu : Nat → Option ((List Value → z_H → Prop) × (List Value → z_H → Int32))) : (∀ k v, z_cQ (t_L pu) k = some (.inl v) → Cond.constant (z_cNm (t_L pu)) k v ∈ z_gt) ∧ (∀ k v, z_cQ (t_L pu) k = some (.inr (.inl v)) → Cond.constantLong (z_cNm (t_L pu)) k v ∈ z_gt) := z_QVof (C := (t_L (fun _ => none))) xQ_L 1000 (by decide +kernel) (fun k hk => by show fQ_L k = none; unfold fQ_L; first | rfl | (rw [z_bltF hk]; rfl))
set_option maxRecDepth 100000 in
theorem vS_L (pu : Nat → Option ((List Value → z_H → Prop) × (List Value → z_H → Int32))) : z_SV (t_L pu) := z_SVof (C := (t_L (fun _ => none))) 1000 (by decide +kernel) (fun k hk => by show fQ_L k = none; unfold fQ_L; first | rfl | (rw [z_bltF hk]; rfl))
set_option maxRecDepth 100000 in
theorem v_L (pu : Nat → Option ((List Value → z_H → Prop) × (List Value → z_H → Int32))) {G : z_G} {d : Nat} {κ : z_Key} {b : Bool} {P} (hP : z_PV (κ, b, t_L pu, P)) (hPu : z_PuV G d (t_L pu)) : z_V G d (κ, b, t_L pu, P) := ⟨z_CFv, z_AVv, hP, vF_L pu, (vK_L pu).1, (vK_L pu).2, vM_L pu, (vQ_L pu).1, (vQ_L pu).2, vS_L pu, hPu⟩
