set_option maxRecDepth 100000 in
def xF_X0 : Nat → Nat := fun k => (cond (Nat.blt k 13) 3043 (cond (Nat.blt k 17) 3045 3047))
set_option maxRecDepth 100000 in
def xK_X0 : Nat → Nat := fun k => 0
set_option maxRecDepth 100000 in
def xQ_X0 : Nat → Nat := fun k => 0
set_option maxRecDepth 100000 in
def xM_X0 : Nat → List Nat := fun k => [3042, 1033, 1034]
set_option maxRecDepth 100000 in
theorem vF_X0 (pu : Nat → Option ((List Value → z_H → Prop) × (List Value → z_H → Int32))) : z_FV (t_X0 pu) := z_FVof (C := (t_X0 (fun _ => none))) xF_X0 1000 (by decide +kernel) (fun k hk => by show fF_X0 k = none; unfold fF_X0; first | rfl | (rw [z_bltF hk]; rfl))
set_option maxRecDepth 100000 in
theorem vK_X0 (pu : Nat → Option ((List Value → z_H → Prop) × (List Value → z_H → Int32))) : z_KV (t_X0 pu) ∧ z_TV (t_X0 pu) := z_KVof (C := (t_X0 (fun _ => none))) xK_X0 1000 (by decide +kernel) (fun k hk => by show fK_X0 k = none; unfold fK_X0; first | rfl | (rw [z_bltF hk]; rfl))
set_option maxRecDepth 100000 in
theorem vMc_X0_0 : (List.range 40).all (fun j => z_mck xM_X0 (t_X0 (fun _ => none)) (40 * 0 + j)) = true := by decide +kernel
set_option maxRecDepth 100000 in
theorem vMc_X0_1 : (List.range 40).all (fun j => z_mck xM_X0 (t_X0 (fun _ => none)) (40 * 1 + j)) = true := by decide +kernel
set_option maxRecDepth 100000 in
theorem vMc_X0_2 : (List.range 40).all (fun j => z_mck xM_X0 (t_X0 (fun _ => none)) (40 * 2 + j)) = true := by decide +kernel
set_option maxRecDepth 100000 in
theorem vMc_X0_3 : (List.range 40).all (fun j => z_mck xM_X0 (t_X0 (fun _ => none)) (40 * 3 + j)) = true := by decide +kernel
set_option maxRecDepth 100000 in
theorem vMc_X0_4 : (List.range 40).all (fun j => z_mck xM_X0 (t_X0 (fun _ => none)) (40 * 4 + j)) = true := by decide +kernel
set_option maxRecDepth 100000 in
theorem vMc_X0_5 : (List.range 40).all (fun j => z_mck xM_X0 (t_X0 (fun _ => none)) (40 * 5 + j)) = true := by decide +kernel
set_option maxRecDepth 100000 in
theorem vMc_X0_6 : (List.range 40).all (fun j => z_mck xM_X0 (t_X0 (fun _ => none)) (40 * 6 + j)) = true := by decide +kernel
set_option maxRecDepth 100000 in
theorem vMc_X0_7 : (List.range 40).all (fun j => z_mck xM_X0 (t_X0 (fun _ => none)) (40 * 7 + j)) = true := by decide +kernel
set_option maxRecDepth 100000 in
theorem vMc_X0_8 : (List.range 40).all (fun j => z_mck xM_X0 (t_X0 (fun _ => none)) (40 * 8 + j)) = true := by decide +kernel
set_option maxRecDepth 100000 in
theorem vMc_X0_9 : (List.range 40).all (fun j => z_mck xM_X0 (t_X0 (fun _ => none)) (40 * 9 + j)) = true := by decide +kernel
set_option maxRecDepth 100000 in
theorem vMc_X0_10 : (List.range 40).all (fun j => z_mck xM_X0 (t_X0 (fun _ => none)) (40 * 10 + j)) = true := by decide +kernel
set_option maxRecDepth 100000 in
theorem vMc_X0_11 : (List.range 40).all (fun j => z_mck xM_X0 (t_X0 (fun _ => none)) (40 * 11 + j)) = true := by decide +kernel
set_option maxRecDepth 100000 in
theorem vMc_X0_12 : (List.range 40).all (fun j => z_mck xM_X0 (t_X0 (fun _ => none)) (40 * 12 + j)) = true := by decide +kernel
set_option maxRecDepth 100000 in
theorem vMc_X0_13 : (List.range 40).all (fun j => z_mck xM_X0 (t_X0 (fun _ => none)) (40 * 13 + j)) = true := by decide +kernel
set_option maxRecDepth 100000 in
theorem vMc_X0_14 : (List.range 40).all (fun j => z_mck xM_X0 (t_X0 (fun _ => none)) (40 * 14 + j)) = true := by decide +kernel
set_option maxRecDepth 100000 in
theorem vMc_X0_15 : (List.range 40).all (fun j => z_mck xM_X0 (t_X0 (fun _ => none)) (40 * 15 + j)) = true := by decide +kernel
set_option maxRecDepth 100000 in
theorem vMc_X0_16 : (List.range 40).all (fun j => z_mck xM_X0 (t_X0 (fun _ => none)) (40 * 16 + j)) = true := by decide +kernel
set_option maxRecDepth 100000 in
theorem vMc_X0_17 : (List.range 40).all (fun j => z_mck xM_X0 (t_X0 (fun _ => none)) (40 * 17 + j)) = true := by decide +kernel
set_option maxRecDepth 100000 in
theorem vMc_X0_18 : (List.range 40).all (fun j => z_mck xM_X0 (t_X0 (fun _ => none)) (40 * 18 + j)) = true := by decide +kernel
set_option maxRecDepth 100000 in
theorem vMc_X0_19 : (List.range 40).all (fun j => z_mck xM_X0 (t_X0 (fun _ => none)) (40 * 19 + j)) = true := by decide +kernel
set_option maxRecDepth 100000 in
theorem vMc_X0_20 : (List.range 40).all (fun j => z_mck xM_X0 (t_X0 (fun _ => none)) (40 * 20 + j)) = true := by decide +kernel
set_option maxRecDepth 100000 in
theorem vMc_X0_21 : (List.range 40).all (fun j => z_mck xM_X0 (t_X0 (fun _ => none)) (40 * 21 + j)) = true := by decide +kernel
set_option maxRecDepth 100000 in
theorem vMc_X0_22 : (List.range 40).all (fun j => z_mck xM_X0 (t_X0 (fun _ => none)) (40 * 22 + j)) = true := by decide +kernel
set_option maxRecDepth 100000 in
theorem vMc_X0_23 : (List.range 40).all (fun j => z_mck xM_X0 (t_X0 (fun _ => none)) (40 * 23 + j)) = true := by decide +kernel
set_option maxRecDepth 100000 in
theorem vMc_X0_24 : (List.range 40).all (fun j => z_mck xM_X0 (t_X0 (fun _ => none)) (40 * 24 + j)) = true := by decide +kernel
set_option maxRecDepth 100000 in
theorem vMc_X0 : ∀ c, c < 25 → (List.range 40).all (fun j => z_mck xM_X0 (t_X0 (fun _ => none)) (40 * c + j)) = true := by
  intro c hc
  match c, hc with
  | 0, _ => exact vMc_X0_0
  | 1, _ => exact vMc_X0_1
  | 2, _ => exact vMc_X0_2
  | 3, _ => exact vMc_X0_3
  | 4, _ => exact vMc_X0_4
  | 5, _ => exact vMc_X0_5
  | 6, _ => exact vMc_X0_6
  | 7, _ => exact vMc_X0_7
  | 8, _ => exact vMc_X0_8
  | 9, _ => exact vMc_X0_9
  | 10, _ => exact vMc_X0_10
  | 11, _ => exact vMc_X0_11
  | 12, _ => exact vMc_X0_12
  | 13, _ => exact vMc_X0_13
  | 14, _ => exact vMc_X0_14
  | 15, _ => exact vMc_X0_15
  | 16, _ => exact vMc_X0_16
  | 17, _ => exact vMc_X0_17
  | 18, _ => exact vMc_X0_18
  | 19, _ => exact vMc_X0_19
  | 20, _ => exact vMc_X0_20
  | 21, _ => exact vMc_X0_21
  | 22, _ => exact vMc_X0_22
  | 23, _ => exact vMc_X0_23
  | 24, _ => exact vMc_X0_24
  | n + 25, hc => exact absurd hc (by omega)
set_option maxRecDepth 100000 in
theorem vM_X0 (pu : Nat → Option ((List Value → z_H → Prop) × (List Value → z_H → Int32))) : z_MV (t_X0 pu) := z_MVof (C := (t_X0 (fun _ => none))) xM_X0 1000 (z_chunk 25 vMc_X0) (fun k hk => by show fM_X0 k = none; unfold fM_X0; first | rfl | (rw [z_bltF hk]; rfl))
set_option maxRecDepth 100000 in
theorem vQ_X0 (pu : Nat → Option ((List Value → z_H → Prop) × (List Value → z_H → Int32))) : (∀ k v, z_cQ (t_X0 pu) k = some (.inl v) → Cond.constant (z_cNm (t_X0 pu)) k v ∈ z_gt) ∧ (∀ k v, z_cQ (t_X0 pu) k = some (.inr (.inl v)) → Cond.constantLong (z_cNm (t_X0 pu)) k v ∈ z_gt) := z_QVof (C := (t_X0 (fun _ => none))) xQ_X0 1000 (by decide +kernel) (fun k hk => by show fQ_X0 k = none; unfold fQ_X0; first | rfl | (rw [z_bltF hk]; rfl))
set_option maxRecDepth 100000 in
theorem vS_X0 (pu : Nat → Option ((List Value → z_H → Prop) × (List Value → z_H → Int32))) : z_SV (t_X0 pu) := z_SVof (C := (t_X0 (fun _ => none))) 1000 (by decide +kernel) (fun k hk => by show fQ_X0 k = none; unfold fQ_X0; first | rfl | (rw [z_bltF hk]; rfl))
set_option maxRecDepth 100000 in
theorem v_X0 (pu : Nat → Option ((List Value → z_H → Prop) × (List Value → z_H → Int32))) {G : z_G} {d : Nat} {κ : z_Key} {b : Bool} {P} (hP : z_PV (κ, b, t_X0 pu, P)) (hPu : z_PuV G d (t_X0 pu)) : z_V G d (κ, b, t_X0 pu, P) := ⟨z_CFv, z_AVv, hP, vF_X0 pu, (vK_X0 pu).1, (vK_X0 pu).2, vM_X0 pu, (vQ_X0 pu).1, (vQ_X0 pu).2, vS_X0 pu, hPu⟩
set_option maxRecDepth 100000 in
def xF_X1 : Nat → Nat := fun k => (cond (Nat.blt k 30) (cond (Nat.blt k 15) 1156 (cond (Nat.blt k 19) 1158 1160)) (cond (Nat.blt k 43) (cond (Nat.blt k 35) 1088 1081) (cond (Nat.blt k 68) 1073 1106)))
set_option maxRecDepth 100000 in
def xK_X1 : Nat → Nat := fun k => (cond (Nat.blt k 26) 3027 (cond (Nat.blt k 31) 3076 3081))
set_option maxRecDepth 100000 in
def xQ_X1 : Nat → Nat := fun k => 0
set_option maxRecDepth 100000 in
def xM_X1 : Nat → List Nat := fun k => (cond (Nat.blt k 49) (cond (Nat.blt k 25) (cond (Nat.blt k 22) [1155, 1033, 1034] [3028, 1153, 1002, 1154]) (cond (Nat.blt k 39) [3075, 1049, 1050, 1051, 1052] (cond (Nat.blt k 46) [3077, 3078, 3079, 1002, 3080] [3082, 1040, 1003, 1041]))) (cond (Nat.blt k 57) (cond (Nat.blt k 53) [3083, 3024, 3025, 1002, 3026] [5025, 5027, 35, 1002, 5028]) (cond (Nat.blt k 61) [5029, 5031, 36, 1002, 5032] (cond (Nat.blt k 65) [5033, 5035, 37, 1002, 5036] [5037, 5039, 38, 1002, 5040]))))
set_option maxRecDepth 100000 in
theorem vF_X1 (pu : Nat → Option ((List Value → z_H → Prop) × (List Value → z_H → Int32))) : z_FV (t_X1 pu) := z_FVof (C := (t_X1 (fun _ => none))) xF_X1 1000 (by decide +kernel) (fun k hk => by show fF_X1 k = none; unfold fF_X1; first | rfl | (rw [z_bltF hk]; rfl))
set_option maxRecDepth 100000 in
theorem vK_X1 (pu : Nat → Option ((List Value → z_H → Prop) × (List Value → z_H → Int32))) : z_KV (t_X1 pu) ∧ z_TV (t_X1 pu) := z_KVof (C := (t_X1 (fun _ => none))) xK_X1 1000 (by decide +kernel) (fun k hk => by show fK_X1 k = none; unfold fK_X1; first | rfl | (rw [z_bltF hk]; rfl))
set_option maxRecDepth 100000 in
theorem vMc_X1_0 : (List.range 40).all (fun j => z_mck xM_X1 (t_X1 (fun _ => none)) (40 * 0 + j)) = true := by decide +kernel
set_option maxRecDepth 100000 in
theorem vMc_X1_1 : (List.range 40).all (fun j => z_mck xM_X1 (t_X1 (fun _ => none)) (40 * 1 + j)) = true := by decide +kernel
set_option maxRecDepth 100000 in
theorem vMc_X1_2 : (List.range 40).all (fun j => z_mck xM_X1 (t_X1 (fun _ => none)) (40 * 2 + j)) = true := by decide +kernel
set_option maxRecDepth 100000 in
theorem vMc_X1_3 : (List.range 40).all (fun j => z_mck xM_X1 (t_X1 (fun _ => none)) (40 * 3 + j)) = true := by decide +kernel
set_option maxRecDepth 100000 in
theorem vMc_X1_4 : (List.range 40).all (fun j => z_mck xM_X1 (t_X1 (fun _ => none)) (40 * 4 + j)) = true := by decide +kernel
set_option maxRecDepth 100000 in
theorem vMc_X1_5 : (List.range 40).all (fun j => z_mck xM_X1 (t_X1 (fun _ => none)) (40 * 5 + j)) = true := by decide +kernel
set_option maxRecDepth 100000 in
theorem vMc_X1_6 : (List.range 40).all (fun j => z_mck xM_X1 (t_X1 (fun _ => none)) (40 * 6 + j)) = true := by decide +kernel
set_option maxRecDepth 100000 in
theorem vMc_X1_7 : (List.range 40).all (fun j => z_mck xM_X1 (t_X1 (fun _ => none)) (40 * 7 + j)) = true := by decide +kernel
set_option maxRecDepth 100000 in
theorem vMc_X1_8 : (List.range 40).all (fun j => z_mck xM_X1 (t_X1 (fun _ => none)) (40 * 8 + j)) = true := by decide +kernel
set_option maxRecDepth 100000 in
theorem vMc_X1_9 : (List.range 40).all (fun j => z_mck xM_X1 (t_X1 (fun _ => none)) (40 * 9 + j)) = true := by decide +kernel
set_option maxRecDepth 100000 in
theorem vMc_X1_10 : (List.range 40).all (fun j => z_mck xM_X1 (t_X1 (fun _ => none)) (40 * 10 + j)) = true := by decide +kernel
set_option maxRecDepth 100000 in
theorem vMc_X1_11 : (List.range 40).all (fun j => z_mck xM_X1 (t_X1 (fun _ => none)) (40 * 11 + j)) = true := by decide +kernel
set_option maxRecDepth 100000 in
theorem vMc_X1_12 : (List.range 40).all (fun j => z_mck xM_X1 (t_X1 (fun _ => none)) (40 * 12 + j)) = true := by decide +kernel
set_option maxRecDepth 100000 in
theorem vMc_X1_13 : (List.range 40).all (fun j => z_mck xM_X1 (t_X1 (fun _ => none)) (40 * 13 + j)) = true := by decide +kernel
set_option maxRecDepth 100000 in
theorem vMc_X1_14 : (List.range 40).all (fun j => z_mck xM_X1 (t_X1 (fun _ => none)) (40 * 14 + j)) = true := by decide +kernel
set_option maxRecDepth 100000 in
theorem vMc_X1_15 : (List.range 40).all (fun j => z_mck xM_X1 (t_X1 (fun _ => none)) (40 * 15 + j)) = true := by decide +kernel
set_option maxRecDepth 100000 in
theorem vMc_X1_16 : (List.range 40).all (fun j => z_mck xM_X1 (t_X1 (fun _ => none)) (40 * 16 + j)) = true := by decide +kernel
set_option maxRecDepth 100000 in
theorem vMc_X1_17 : (List.range 40).all (fun j => z_mck xM_X1 (t_X1 (fun _ => none)) (40 * 17 + j)) = true := by decide +kernel
set_option maxRecDepth 100000 in
theorem vMc_X1_18 : (List.range 40).all (fun j => z_mck xM_X1 (t_X1 (fun _ => none)) (40 * 18 + j)) = true := by decide +kernel
set_option maxRecDepth 100000 in
theorem vMc_X1_19 : (List.range 40).all (fun j => z_mck xM_X1 (t_X1 (fun _ => none)) (40 * 19 + j)) = true := by decide +kernel
set_option maxRecDepth 100000 in
theorem vMc_X1_20 : (List.range 40).all (fun j => z_mck xM_X1 (t_X1 (fun _ => none)) (40 * 20 + j)) = true := by decide +kernel
set_option maxRecDepth 100000 in
theorem vMc_X1_21 : (List.range 40).all (fun j => z_mck xM_X1 (t_X1 (fun _ => none)) (40 * 21 + j)) = true := by decide +kernel
set_option maxRecDepth 100000 in
theorem vMc_X1_22 : (List.range 40).all (fun j => z_mck xM_X1 (t_X1 (fun _ => none)) (40 * 22 + j)) = true := by decide +kernel
set_option maxRecDepth 100000 in
theorem vMc_X1_23 : (List.range 40).all (fun j => z_mck xM_X1 (t_X1 (fun _ => none)) (40 * 23 + j)) = true := by decide +kernel
set_option maxRecDepth 100000 in
theorem vMc_X1_24 : (List.range 40).all (fun j => z_mck xM_X1 (t_X1 (fun _ => none)) (40 * 24 + j)) = true := by decide +kernel
set_option maxRecDepth 100000 in
theorem vMc_X1 : ∀ c, c < 25 → (List.range 40).all (fun j => z_mck xM_X1 (t_X1 (fun _ => none)) (40 * c + j)) = true := by
  intro c hc
  match c, hc with
  | 0, _ => exact vMc_X1_0
  | 1, _ => exact vMc_X1_1
  | 2, _ => exact vMc_X1_2
  | 3, _ => exact vMc_X1_3
  | 4, _ => exact vMc_X1_4
  | 5, _ => exact vMc_X1_5
  | 6, _ => exact vMc_X1_6
  | 7, _ => exact vMc_X1_7
  | 8, _ => exact vMc_X1_8
  | 9, _ => exact vMc_X1_9
  | 10, _ => exact vMc_X1_10
  | 11, _ => exact vMc_X1_11
  | 12, _ => exact vMc_X1_12
  | 13, _ => exact vMc_X1_13
  | 14, _ => exact vMc_X1_14
  | 15, _ => exact vMc_X1_15
  | 16, _ => exact vMc_X1_16
  | 17, _ => exact vMc_X1_17
  | 18, _ => exact vMc_X1_18
  | 19, _ => exact vMc_X1_19
  | 20, _ => exact vMc_X1_20
  | 21, _ => exact vMc_X1_21
  | 22, _ => exact vMc_X1_22
  | 23, _ => exact vMc_X1_23
  | 24, _ => exact vMc_X1_24
  | n + 25, hc => exact absurd hc (by omega)
set_option maxRecDepth 100000 in
theorem vM_X1 (pu : Nat → Option ((List Value → z_H → Prop) × (List Value → z_H → Int32))) : z_MV (t_X1 pu) := z_MVof (C := (t_X1 (fun _ => none))) xM_X1 1000 (z_chunk 25 vMc_X1) (fun k hk => by show fM_X1 k = none; unfold fM_X1; first | rfl | (rw [z_bltF hk]; rfl))
set_option maxRecDepth 100000 in
theorem vQ_X1 (pu : Nat → Option ((List Value → z_H → Prop) × (List Value → z_H → Int32))) : (∀ k v, z_cQ (t_X1 pu) k = some (.inl v) → Cond.constant (z_cNm (t_X1 pu)) k v ∈ z_gt) ∧ (∀ k v, z_cQ (t_X1 pu) k = some (.inr (.inl v)) → Cond.constantLong (z_cNm (t_X1 pu)) k v ∈ z_gt) := z_QVof (C := (t_X1 (fun _ => none))) xQ_X1 1000 (by decide +kernel) (fun k hk => by show fQ_X1 k = none; unfold fQ_X1; first | rfl | (rw [z_bltF hk]; rfl))
set_option maxRecDepth 100000 in
theorem vS_X1 (pu : Nat → Option ((List Value → z_H → Prop) × (List Value → z_H → Int32))) : z_SV (t_X1 pu) := z_SVof (C := (t_X1 (fun _ => none))) 1000 (by decide +kernel) (fun k hk => by show fQ_X1 k = none; unfold fQ_X1; first | rfl | (rw [z_bltF hk]; rfl))
set_option maxRecDepth 100000 in
theorem v_X1 (pu : Nat → Option ((List Value → z_H → Prop) × (List Value → z_H → Int32))) {G : z_G} {d : Nat} {κ : z_Key} {b : Bool} {P} (hP : z_PV (κ, b, t_X1 pu, P)) (hPu : z_PuV G d (t_X1 pu)) : z_V G d (κ, b, t_X1 pu, P) := ⟨z_CFv, z_AVv, hP, vF_X1 pu, (vK_X1 pu).1, (vK_X1 pu).2, vM_X1 pu, (vQ_X1 pu).1, (vQ_X1 pu).2, vS_X1 pu, hPu⟩
set_option maxRecDepth 100000 in
def xF_X2 : Nat → Nat := fun k => (cond (Nat.blt k 46) (cond (Nat.blt k 30) (cond (Nat.blt k 20) (cond (Nat.blt k 17) 2078 2079) (cond (Nat.blt k 23) 2080 (cond (Nat.blt k 26) 2081 2082))) (cond (Nat.blt k 36) (cond (Nat.blt k 33) 2083 2084) (cond (Nat.blt k 39) 2085 (cond (Nat.blt k 42) 2086 2087)))) (cond (Nat.blt k 98) (cond (Nat.blt k 52) (cond (Nat.blt k 49) 2088 2089) (cond (Nat.blt k 55) 2090 (cond (Nat.blt k 58) 2091 1117))) (cond (Nat.blt k 111) (cond (Nat.blt k 108) 1076 1104) (cond (Nat.blt k 114) 1090 (cond (Nat.blt k 117) 1083 1094)))))
set_option maxRecDepth 100000 in
def xK_X2 : Nat → Nat := fun k => (cond (Nat.blt k 59) 2077 6076)
set_option maxRecDepth 100000 in
def xQ_X2 : Nat → Nat := fun k => 0
set_option maxRecDepth 100000 in
def xM_X2 : Nat → List Nat := fun k => (cond (Nat.blt k 89) (cond (Nat.blt k 75) (cond (Nat.blt k 67) (cond (Nat.blt k 63) [2076, 1033, 1034] [6053, 6055, 58, 1010, 6056]) (cond (Nat.blt k 71) [6061, 6063, 60, 1010, 6064] [6069, 6071, 62, 1010, 6072])) (cond (Nat.blt k 82) (cond (Nat.blt k 79) [6080, 6081, 1010, 6082] [6083, 6085, 63, 1010, 6086]) (cond (Nat.blt k 85) [6103, 6105, 65, 1010, 6106] [6107, 6109, 66, 1010, 6110]))) (cond (Nat.blt k 120) (cond (Nat.blt k 99) (cond (Nat.blt k 94) [6111, 3010, 1023, 3011] [6073, 6074, 1010, 6075]) (cond (Nat.blt k 102) [6078, 4193, 4194, 1003, 4195] [6079, 1062, 1004, 1063])) (cond (Nat.blt k 129) (cond (Nat.blt k 123) [6077, 1040, 1003, 1041] [6087, 1060, 1059, 1006]) (cond (Nat.blt k 133) [6088, 6090, 64, 1010, 6091] (cond (Nat.blt k 137) [6057, 6059, 59, 1010, 6060] [6065, 6067, 61, 1010, 6068])))))
set_option maxRecDepth 100000 in
theorem vF_X2 (pu : Nat → Option ((List Value → z_H → Prop) × (List Value → z_H → Int32))) : z_FV (t_X2 pu) := z_FVof (C := (t_X2 (fun _ => none))) xF_X2 1000 (by decide +kernel) (fun k hk => by show fF_X2 k = none; unfold fF_X2; first | rfl | (rw [z_bltF hk]; rfl))
set_option maxRecDepth 100000 in
theorem vK_X2 (pu : Nat → Option ((List Value → z_H → Prop) × (List Value → z_H → Int32))) : z_KV (t_X2 pu) ∧ z_TV (t_X2 pu) := z_KVof (C := (t_X2 (fun _ => none))) xK_X2 1000 (by decide +kernel) (fun k hk => by show fK_X2 k = none; unfold fK_X2; first | rfl | (rw [z_bltF hk]; rfl))
set_option maxRecDepth 100000 in
theorem vMc_X2_0 : (List.range 40).all (fun j => z_mck xM_X2 (t_X2 (fun _ => none)) (40 * 0 + j)) = true := by decide +kernel
set_option maxRecDepth 100000 in
theorem vMc_X2_1 : (List.range 40).all (fun j => z_mck xM_X2 (t_X2 (fun _ => none)) (40 * 1 + j)) = true := by decide +kernel
set_option maxRecDepth 100000 in
theorem vMc_X2_2 : (List.range 40).all (fun j => z_mck xM_X2 (t_X2 (fun _ => none)) (40 * 2 + j)) = true := by decide +kernel
set_option maxRecDepth 100000 in
theorem vMc_X2_3 : (List.range 40).all (fun j => z_mck xM_X2 (t_X2 (fun _ => none)) (40 * 3 + j)) = true := by decide +kernel
set_option maxRecDepth 100000 in
theorem vMc_X2_4 : (List.range 40).all (fun j => z_mck xM_X2 (t_X2 (fun _ => none)) (40 * 4 + j)) = true := by decide +kernel
set_option maxRecDepth 100000 in
theorem vMc_X2_5 : (List.range 40).all (fun j => z_mck xM_X2 (t_X2 (fun _ => none)) (40 * 5 + j)) = true := by decide +kernel
set_option maxRecDepth 100000 in
theorem vMc_X2_6 : (List.range 40).all (fun j => z_mck xM_X2 (t_X2 (fun _ => none)) (40 * 6 + j)) = true := by decide +kernel
set_option maxRecDepth 100000 in
theorem vMc_X2_7 : (List.range 40).all (fun j => z_mck xM_X2 (t_X2 (fun _ => none)) (40 * 7 + j)) = true := by decide +kernel
set_option maxRecDepth 100000 in
theorem vMc_X2_8 : (List.range 40).all (fun j => z_mck xM_X2 (t_X2 (fun _ => none)) (40 * 8 + j)) = true := by decide +kernel
set_option maxRecDepth 100000 in
theorem vMc_X2_9 : (List.range 40).all (fun j => z_mck xM_X2 (t_X2 (fun _ => none)) (40 * 9 + j)) = true := by decide +kernel
set_option maxRecDepth 100000 in
theorem vMc_X2_10 : (List.range 40).all (fun j => z_mck xM_X2 (t_X2 (fun _ => none)) (40 * 10 + j)) = true := by decide +kernel
set_option maxRecDepth 100000 in
theorem vMc_X2_11 : (List.range 40).all (fun j => z_mck xM_X2 (t_X2 (fun _ => none)) (40 * 11 + j)) = true := by decide +kernel
set_option maxRecDepth 100000 in
theorem vMc_X2_12 : (List.range 40).all (fun j => z_mck xM_X2 (t_X2 (fun _ => none)) (40 * 12 + j)) = true := by decide +kernel
set_option maxRecDepth 100000 in
theorem vMc_X2_13 : (List.range 40).all (fun j => z_mck xM_X2 (t_X2 (fun _ => none)) (40 * 13 + j)) = true := by decide +kernel
set_option maxRecDepth 100000 in
theorem vMc_X2_14 : (List.range 40).all (fun j => z_mck xM_X2 (t_X2 (fun _ => none)) (40 * 14 + j)) = true := by decide +kernel
set_option maxRecDepth 100000 in
theorem vMc_X2_15 : (List.range 40).all (fun j => z_mck xM_X2 (t_X2 (fun _ => none)) (40 * 15 + j)) = true := by decide +kernel
set_option maxRecDepth 100000 in
theorem vMc_X2_16 : (List.range 40).all (fun j => z_mck xM_X2 (t_X2 (fun _ => none)) (40 * 16 + j)) = true := by decide +kernel
set_option maxRecDepth 100000 in
theorem vMc_X2_17 : (List.range 40).all (fun j => z_mck xM_X2 (t_X2 (fun _ => none)) (40 * 17 + j)) = true := by decide +kernel
set_option maxRecDepth 100000 in
theorem vMc_X2_18 : (List.range 40).all (fun j => z_mck xM_X2 (t_X2 (fun _ => none)) (40 * 18 + j)) = true := by decide +kernel
set_option maxRecDepth 100000 in
theorem vMc_X2_19 : (List.range 40).all (fun j => z_mck xM_X2 (t_X2 (fun _ => none)) (40 * 19 + j)) = true := by decide +kernel
set_option maxRecDepth 100000 in
theorem vMc_X2_20 : (List.range 40).all (fun j => z_mck xM_X2 (t_X2 (fun _ => none)) (40 * 20 + j)) = true := by decide +kernel
set_option maxRecDepth 100000 in
theorem vMc_X2_21 : (List.range 40).all (fun j => z_mck xM_X2 (t_X2 (fun _ => none)) (40 * 21 + j)) = true := by decide +kernel
set_option maxRecDepth 100000 in
theorem vMc_X2_22 : (List.range 40).all (fun j => z_mck xM_X2 (t_X2 (fun _ => none)) (40 * 22 + j)) = true := by decide +kernel
set_option maxRecDepth 100000 in
theorem vMc_X2_23 : (List.range 40).all (fun j => z_mck xM_X2 (t_X2 (fun _ => none)) (40 * 23 + j)) = true := by decide +kernel
set_option maxRecDepth 100000 in
theorem vMc_X2_24 : (List.range 40).all (fun j => z_mck xM_X2 (t_X2 (fun _ => none)) (40 * 24 + j)) = true := by decide +kernel
set_option maxRecDepth 100000 in
theorem vMc_X2 : ∀ c, c < 25 → (List.range 40).all (fun j => z_mck xM_X2 (t_X2 (fun _ => none)) (40 * c + j)) = true := by
  intro c hc
  match c, hc with
  | 0, _ => exact vMc_X2_0
  | 1, _ => exact vMc_X2_1
  | 2, _ => exact vMc_X2_2
  | 3, _ => exact vMc_X2_3
  | 4, _ => exact vMc_X2_4
  | 5, _ => exact vMc_X2_5
  | 6, _ => exact vMc_X2_6
  | 7, _ => exact vMc_X2_7
  | 8, _ => exact vMc_X2_8
  | 9, _ => exact vMc_X2_9
  | 10, _ => exact vMc_X2_10
  | 11, _ => exact vMc_X2_11
  | 12, _ => exact vMc_X2_12
  | 13, _ => exact vMc_X2_13
  | 14, _ => exact vMc_X2_14
  | 15, _ => exact vMc_X2_15
  | 16, _ => exact vMc_X2_16
  | 17, _ => exact vMc_X2_17
  | 18, _ => exact vMc_X2_18
  | 19, _ => exact vMc_X2_19
  | 20, _ => exact vMc_X2_20
  | 21, _ => exact vMc_X2_21
  | 22, _ => exact vMc_X2_22
  | 23, _ => exact vMc_X2_23
  | 24, _ => exact vMc_X2_24
  | n + 25, hc => exact absurd hc (by omega)
set_option maxRecDepth 100000 in
theorem vM_X2 (pu : Nat → Option ((List Value → z_H → Prop) × (List Value → z_H → Int32))) : z_MV (t_X2 pu) := z_MVof (C := (t_X2 (fun _ => none))) xM_X2 1000 (z_chunk 25 vMc_X2) (fun k hk => by show fM_X2 k = none; unfold fM_X2; first | rfl | (rw [z_bltF hk]; rfl))
set_option maxRecDepth 100000 in
theorem vQ_X2 (pu : Nat → Option ((List Value → z_H → Prop) × (List Value → z_H → Int32))) : (∀ k v, z_cQ (t_X2 pu) k = some (.inl v) → Cond.constant (z_cNm (t_X2 pu)) k v ∈ z_gt) ∧ (∀ k v, z_cQ (t_X2 pu) k = some (.inr (.inl v)) → Cond.constantLong (z_cNm (t_X2 pu)) k v ∈ z_gt) := z_QVof (C := (t_X2 (fun _ => none))) xQ_X2 1000 (by decide +kernel) (fun k hk => by show fQ_X2 k = none; unfold fQ_X2; first | rfl | (rw [z_bltF hk]; rfl))
set_option maxRecDepth 100000 in
theorem vS_X2 (pu : Nat → Option ((List Value → z_H → Prop) × (List Value → z_H → Int32))) : z_SV (t_X2 pu) := z_SVof (C := (t_X2 (fun _ => none))) 1000 (by decide +kernel) (fun k hk => by show fQ_X2 k = none; unfold fQ_X2; first | rfl | (rw [z_bltF hk]; rfl))
set_option maxRecDepth 100000 in
theorem v_X2 (pu : Nat → Option ((List Value → z_H → Prop) × (List Value → z_H → Int32))) {G : z_G} {d : Nat} {κ : z_Key} {b : Bool} {P} (hP : z_PV (κ, b, t_X2 pu, P)) (hPu : z_PuV G d (t_X2 pu)) : z_V G d (κ, b, t_X2 pu, P) := ⟨z_CFv, z_AVv, hP, vF_X2 pu, (vK_X2 pu).1, (vK_X2 pu).2, vM_X2 pu, (vQ_X2 pu).1, (vQ_X2 pu).2, vS_X2 pu, hPu⟩
set_option maxRecDepth 100000 in
def xF_X3 : Nat → Nat := fun k => (cond (Nat.blt k 25) (cond (Nat.blt k 17) 3143 (cond (Nat.blt k 21) 3141 3145)) (cond (Nat.blt k 29) 3147 (cond (Nat.blt k 32) 3149 3151)))
set_option maxRecDepth 100000 in
def xK_X3 : Nat → Nat := fun k => 3140
set_option maxRecDepth 100000 in
def xQ_X3 : Nat → Nat := fun k => 0
set_option maxRecDepth 100000 in
def xM_X3 : Nat → List Nat := fun k => [3139, 1033, 1034]
set_option maxRecDepth 100000 in
theorem vF_X3 (pu : Nat → Option ((List Value → z_H → Prop) × (List Value → z_H → Int32))) : z_FV (t_X3 pu) := z_FVof (C := (t_X3 (fun _ => none))) xF_X3 1000 (by decide +kernel) (fun k hk => by show fF_X3 k = none; unfold fF_X3; first | rfl | (rw [z_bltF hk]; rfl))
set_option maxRecDepth 100000 in
theorem vK_X3 (pu : Nat → Option ((List Value → z_H → Prop) × (List Value → z_H → Int32))) : z_KV (t_X3 pu) ∧ z_TV (t_X3 pu) := z_KVof (C := (t_X3 (fun _ => none))) xK_X3 1000 (by decide +kernel) (fun k hk => by show fK_X3 k = none; unfold fK_X3; first | rfl | (rw [z_bltF hk]; rfl))
set_option maxRecDepth 100000 in
theorem vMc_X3_0 : (List.range 40).all (fun j => z_mck xM_X3 (t_X3 (fun _ => none)) (40 * 0 + j)) = true := by decide +kernel
set_option maxRecDepth 100000 in
theorem vMc_X3_1 : (List.range 40).all (fun j => z_mck xM_X3 (t_X3 (fun _ => none)) (40 * 1 + j)) = true := by decide +kernel
set_option maxRecDepth 100000 in
theorem vMc_X3_2 : (List.range 40).all (fun j => z_mck xM_X3 (t_X3 (fun _ => none)) (40 * 2 + j)) = true := by decide +kernel
set_option maxRecDepth 100000 in
theorem vMc_X3_3 : (List.range 40).all (fun j => z_mck xM_X3 (t_X3 (fun _ => none)) (40 * 3 + j)) = true := by decide +kernel
set_option maxRecDepth 100000 in
theorem vMc_X3_4 : (List.range 40).all (fun j => z_mck xM_X3 (t_X3 (fun _ => none)) (40 * 4 + j)) = true := by decide +kernel
set_option maxRecDepth 100000 in
theorem vMc_X3_5 : (List.range 40).all (fun j => z_mck xM_X3 (t_X3 (fun _ => none)) (40 * 5 + j)) = true := by decide +kernel
set_option maxRecDepth 100000 in
theorem vMc_X3_6 : (List.range 40).all (fun j => z_mck xM_X3 (t_X3 (fun _ => none)) (40 * 6 + j)) = true := by decide +kernel
set_option maxRecDepth 100000 in
theorem vMc_X3_7 : (List.range 40).all (fun j => z_mck xM_X3 (t_X3 (fun _ => none)) (40 * 7 + j)) = true := by decide +kernel
set_option maxRecDepth 100000 in
theorem vMc_X3_8 : (List.range 40).all (fun j => z_mck xM_X3 (t_X3 (fun _ => none)) (40 * 8 + j)) = true := by decide +kernel
set_option maxRecDepth 100000 in
theorem vMc_X3_9 : (List.range 40).all (fun j => z_mck xM_X3 (t_X3 (fun _ => none)) (40 * 9 + j)) = true := by decide +kernel
set_option maxRecDepth 100000 in
theorem vMc_X3_10 : (List.range 40).all (fun j => z_mck xM_X3 (t_X3 (fun _ => none)) (40 * 10 + j)) = true := by decide +kernel
set_option maxRecDepth 100000 in
theorem vMc_X3_11 : (List.range 40).all (fun j => z_mck xM_X3 (t_X3 (fun _ => none)) (40 * 11 + j)) = true := by decide +kernel
set_option maxRecDepth 100000 in
theorem vMc_X3_12 : (List.range 40).all (fun j => z_mck xM_X3 (t_X3 (fun _ => none)) (40 * 12 + j)) = true := by decide +kernel
set_option maxRecDepth 100000 in
theorem vMc_X3_13 : (List.range 40).all (fun j => z_mck xM_X3 (t_X3 (fun _ => none)) (40 * 13 + j)) = true := by decide +kernel
set_option maxRecDepth 100000 in
theorem vMc_X3_14 : (List.range 40).all (fun j => z_mck xM_X3 (t_X3 (fun _ => none)) (40 * 14 + j)) = true := by decide +kernel
set_option maxRecDepth 100000 in
theorem vMc_X3_15 : (List.range 40).all (fun j => z_mck xM_X3 (t_X3 (fun _ => none)) (40 * 15 + j)) = true := by decide +kernel
set_option maxRecDepth 100000 in
theorem vMc_X3_16 : (List.range 40).all (fun j => z_mck xM_X3 (t_X3 (fun _ => none)) (40 * 16 + j)) = true := by decide +kernel
set_option maxRecDepth 100000 in
theorem vMc_X3_17 : (List.range 40).all (fun j => z_mck xM_X3 (t_X3 (fun _ => none)) (40 * 17 + j)) = true := by decide +kernel
set_option maxRecDepth 100000 in
theorem vMc_X3_18 : (List.range 40).all (fun j => z_mck xM_X3 (t_X3 (fun _ => none)) (40 * 18 + j)) = true := by decide +kernel
set_option maxRecDepth 100000 in
theorem vMc_X3_19 : (List.range 40).all (fun j => z_mck xM_X3 (t_X3 (fun _ => none)) (40 * 19 + j)) = true := by decide +kernel
set_option maxRecDepth 100000 in
theorem vMc_X3_20 : (List.range 40).all (fun j => z_mck xM_X3 (t_X3 (fun _ => none)) (40 * 20 + j)) = true := by decide +kernel
set_option maxRecDepth 100000 in
theorem vMc_X3_21 : (List.range 40).all (fun j => z_mck xM_X3 (t_X3 (fun _ => none)) (40 * 21 + j)) = true := by decide +kernel
set_option maxRecDepth 100000 in
theorem vMc_X3_22 : (List.range 40).all (fun j => z_mck xM_X3 (t_X3 (fun _ => none)) (40 * 22 + j)) = true := by decide +kernel
set_option maxRecDepth 100000 in
theorem vMc_X3_23 : (List.range 40).all (fun j => z_mck xM_X3 (t_X3 (fun _ => none)) (40 * 23 + j)) = true := by decide +kernel
set_option maxRecDepth 100000 in
theorem vMc_X3_24 : (List.range 40).all (fun j => z_mck xM_X3 (t_X3 (fun _ => none)) (40 * 24 + j)) = true := by decide +kernel
set_option maxRecDepth 100000 in
theorem vMc_X3 : ∀ c, c < 25 → (List.range 40).all (fun j => z_mck xM_X3 (t_X3 (fun _ => none)) (40 * c + j)) = true := by
  intro c hc
  match c, hc with
  | 0, _ => exact vMc_X3_0
  | 1, _ => exact vMc_X3_1
  | 2, _ => exact vMc_X3_2
  | 3, _ => exact vMc_X3_3
  | 4, _ => exact vMc_X3_4
  | 5, _ => exact vMc_X3_5
  | 6, _ => exact vMc_X3_6
  | 7, _ => exact vMc_X3_7
  | 8, _ => exact vMc_X3_8
  | 9, _ => exact vMc_X3_9
  | 10, _ => exact vMc_X3_10
  | 11, _ => exact vMc_X3_11
  | 12, _ => exact vMc_X3_12
  | 13, _ => exact vMc_X3_13
  | 14, _ => exact vMc_X3_14
  | 15, _ => exact vMc_X3_15
  | 16, _ => exact vMc_X3_16
  | 17, _ => exact vMc_X3_17
  | 18, _ => exact vMc_X3_18
  | 19, _ => exact vMc_X3_19
  | 20, _ => exact vMc_X3_20
  | 21, _ => exact vMc_X3_21
  | 22, _ => exact vMc_X3_22
  | 23, _ => exact vMc_X3_23
  | 24, _ => exact vMc_X3_24
  | n + 25, hc => exact absurd hc (by omega)
set_option maxRecDepth 100000 in
theorem vM_X3 (pu : Nat → Option ((List Value → z_H → Prop) × (List Value → z_H → Int32))) : z_MV (t_X3 pu) := z_MVof (C := (t_X3 (fun _ => none))) xM_X3 1000 (z_chunk 25 vMc_X3) (fun k hk => by show fM_X3 k = none; unfold fM_X3; first | rfl | (rw [z_bltF hk]; rfl))
set_option maxRecDepth 100000 in
theorem vQ_X3 (pu : Nat → Option ((List Value → z_H → Prop) × (List Value → z_H → Int32))) : (∀ k v, z_cQ (t_X3 pu) k = some (.inl v) → Cond.constant (z_cNm (t_X3 pu)) k v ∈ z_gt) ∧ (∀ k v, z_cQ (t_X3 pu) k = some (.inr (.inl v)) → Cond.constantLong (z_cNm (t_X3 pu)) k v ∈ z_gt) := z_QVof (C := (t_X3 (fun _ => none))) xQ_X3 1000 (by decide +kernel) (fun k hk => by show fQ_X3 k = none; unfold fQ_X3; first | rfl | (rw [z_bltF hk]; rfl))
set_option maxRecDepth 100000 in
theorem vS_X3 (pu : Nat → Option ((List Value → z_H → Prop) × (List Value → z_H → Int32))) : z_SV (t_X3 pu) := z_SVof (C := (t_X3 (fun _ => none))) 1000 (by decide +kernel) (fun k hk => by show fQ_X3 k = none; unfold fQ_X3; first | rfl | (rw [z_bltF hk]; rfl))
set_option maxRecDepth 100000 in
theorem v_X3 (pu : Nat → Option ((List Value → z_H → Prop) × (List Value → z_H → Int32))) {G : z_G} {d : Nat} {κ : z_Key} {b : Bool} {P} (hP : z_PV (κ, b, t_X3 pu, P)) (hPu : z_PuV G d (t_X3 pu)) : z_V G d (κ, b, t_X3 pu, P) := ⟨z_CFv, z_AVv, hP, vF_X3 pu, (vK_X3 pu).1, (vK_X3 pu).2, vM_X3 pu, (vQ_X3 pu).1, (vQ_X3 pu).2, vS_X3 pu, hPu⟩
set_option maxRecDepth 100000 in
def xF_X4 : Nat → Nat := fun k => (cond (Nat.blt k 39) (cond (Nat.blt k 26) (cond (Nat.blt k 19) (cond (Nat.blt k 15) 2033 2034) (cond (Nat.blt k 23) 2035 2036)) (cond (Nat.blt k 33) (cond (Nat.blt k 30) 2037 2038) (cond (Nat.blt k 36) 2039 2040))) (cond (Nat.blt k 54) (cond (Nat.blt k 47) (cond (Nat.blt k 43) 2041 2042) (cond (Nat.blt k 50) 2043 2044)) (cond (Nat.blt k 89) (cond (Nat.blt k 75) 1113 1080) (cond (Nat.blt k 111) 1074 1091))))
set_option maxRecDepth 100000 in
def xK_X4 : Nat → Nat := fun k => (cond (Nat.blt k 55) 2032 6023)
set_option maxRecDepth 100000 in
def xQ_X4 : Nat → Nat := fun k => 5161
set_option maxRecDepth 100000 in
def xM_X4 : Nat → List Nat := fun k => (cond (Nat.blt k 103) (cond (Nat.blt k 82) (cond (Nat.blt k 65) (cond (Nat.blt k 59) [2031, 1033, 1034] [5156, 5158, 44, 1009, 5159]) (cond (Nat.blt k 71) [5162, 5163, 1004, 5164] (cond (Nat.blt k 78) [5165, 5167, 45, 1009, 5168] [5193, 1046, 1004, 1047]))) (cond (Nat.blt k 92) (cond (Nat.blt k 86) [5182, 5183, 1009, 5184] [5160, 4193, 4194, 1003, 4195]) (cond (Nat.blt k 96) [5178, 5180, 48, 1009, 5181] (cond (Nat.blt k 100) [5189, 5191, 50, 1009, 5192] [5169, 5171, 46, 1009, 5172])))) (cond (Nat.blt k 128) (cond (Nat.blt k 114) (cond (Nat.blt k 107) [5174, 5176, 47, 1009, 5177] [5185, 5187, 49, 1009, 5188]) (cond (Nat.blt k 120) [5173, 1060, 1059, 1006] (cond (Nat.blt k 124) [6033, 6035, 57, 1009, 6036] [6017, 6018, 6019, 1009, 6020]))) (cond (Nat.blt k 138) (cond (Nat.blt k 132) [6013, 6015, 55, 1009, 6016] [6021, 3010, 1023, 3011]) (cond (Nat.blt k 142) [6022, 3016, 1003, 3017] (cond (Nat.blt k 145) [6024, 1040, 1003, 1041] [6025, 6027, 56, 1009, 6028])))))
set_option maxRecDepth 100000 in
theorem vF_X4 (pu : Nat → Option ((List Value → z_H → Prop) × (List Value → z_H → Int32))) : z_FV (t_X4 pu) := z_FVof (C := (t_X4 (fun _ => none))) xF_X4 1000 (by decide +kernel) (fun k hk => by show fF_X4 k = none; unfold fF_X4; first | rfl | (rw [z_bltF hk]; rfl))
set_option maxRecDepth 100000 in
theorem vK_X4 (pu : Nat → Option ((List Value → z_H → Prop) × (List Value → z_H → Int32))) : z_KV (t_X4 pu) ∧ z_TV (t_X4 pu) := z_KVof (C := (t_X4 (fun _ => none))) xK_X4 1000 (by decide +kernel) (fun k hk => by show fK_X4 k = none; unfold fK_X4; first | rfl | (rw [z_bltF hk]; rfl))
set_option maxRecDepth 100000 in
theorem vMc_X4_0 : (List.range 40).all (fun j => z_mck xM_X4 (t_X4 (fun _ => none)) (40 * 0 + j)) = true := by decide +kernel
set_option maxRecDepth 100000 in
theorem vMc_X4_1 : (List.range 40).all (fun j => z_mck xM_X4 (t_X4 (fun _ => none)) (40 * 1 + j)) = true := by decide +kernel
set_option maxRecDepth 100000 in
theorem vMc_X4_2 : (List.range 40).all (fun j => z_mck xM_X4 (t_X4 (fun _ => none)) (40 * 2 + j)) = true := by decide +kernel
set_option maxRecDepth 100000 in
theorem vMc_X4_3 : (List.range 40).all (fun j => z_mck xM_X4 (t_X4 (fun _ => none)) (40 * 3 + j)) = true := by decide +kernel
set_option maxRecDepth 100000 in
theorem vMc_X4_4 : (List.range 40).all (fun j => z_mck xM_X4 (t_X4 (fun _ => none)) (40 * 4 + j)) = true := by decide +kernel
set_option maxRecDepth 100000 in
theorem vMc_X4_5 : (List.range 40).all (fun j => z_mck xM_X4 (t_X4 (fun _ => none)) (40 * 5 + j)) = true := by decide +kernel
set_option maxRecDepth 100000 in
theorem vMc_X4_6 : (List.range 40).all (fun j => z_mck xM_X4 (t_X4 (fun _ => none)) (40 * 6 + j)) = true := by decide +kernel
set_option maxRecDepth 100000 in
theorem vMc_X4_7 : (List.range 40).all (fun j => z_mck xM_X4 (t_X4 (fun _ => none)) (40 * 7 + j)) = true := by decide +kernel
set_option maxRecDepth 100000 in
theorem vMc_X4_8 : (List.range 40).all (fun j => z_mck xM_X4 (t_X4 (fun _ => none)) (40 * 8 + j)) = true := by decide +kernel
set_option maxRecDepth 100000 in
theorem vMc_X4_9 : (List.range 40).all (fun j => z_mck xM_X4 (t_X4 (fun _ => none)) (40 * 9 + j)) = true := by decide +kernel
set_option maxRecDepth 100000 in
theorem vMc_X4_10 : (List.range 40).all (fun j => z_mck xM_X4 (t_X4 (fun _ => none)) (40 * 10 + j)) = true := by decide +kernel
set_option maxRecDepth 100000 in
theorem vMc_X4_11 : (List.range 40).all (fun j => z_mck xM_X4 (t_X4 (fun _ => none)) (40 * 11 + j)) = true := by decide +kernel
set_option maxRecDepth 100000 in
theorem vMc_X4_12 : (List.range 40).all (fun j => z_mck xM_X4 (t_X4 (fun _ => none)) (40 * 12 + j)) = true := by decide +kernel
set_option maxRecDepth 100000 in
theorem vMc_X4_13 : (List.range 40).all (fun j => z_mck xM_X4 (t_X4 (fun _ => none)) (40 * 13 + j)) = true := by decide +kernel
set_option maxRecDepth 100000 in
theorem vMc_X4_14 : (List.range 40).all (fun j => z_mck xM_X4 (t_X4 (fun _ => none)) (40 * 14 + j)) = true := by decide +kernel
set_option maxRecDepth 100000 in
theorem vMc_X4_15 : (List.range 40).all (fun j => z_mck xM_X4 (t_X4 (fun _ => none)) (40 * 15 + j)) = true := by decide +kernel
set_option maxRecDepth 100000 in
theorem vMc_X4_16 : (List.range 40).all (fun j => z_mck xM_X4 (t_X4 (fun _ => none)) (40 * 16 + j)) = true := by decide +kernel
set_option maxRecDepth 100000 in
theorem vMc_X4_17 : (List.range 40).all (fun j => z_mck xM_X4 (t_X4 (fun _ => none)) (40 * 17 + j)) = true := by decide +kernel
set_option maxRecDepth 100000 in
theorem vMc_X4_18 : (List.range 40).all (fun j => z_mck xM_X4 (t_X4 (fun _ => none)) (40 * 18 + j)) = true := by decide +kernel
set_option maxRecDepth 100000 in
theorem vMc_X4_19 : (List.range 40).all (fun j => z_mck xM_X4 (t_X4 (fun _ => none)) (40 * 19 + j)) = true := by decide +kernel
set_option maxRecDepth 100000 in
theorem vMc_X4_20 : (List.range 40).all (fun j => z_mck xM_X4 (t_X4 (fun _ => none)) (40 * 20 + j)) = true := by decide +kernel
set_option maxRecDepth 100000 in
theorem vMc_X4_21 : (List.range 40).all (fun j => z_mck xM_X4 (t_X4 (fun _ => none)) (40 * 21 + j)) = true := by decide +kernel
set_option maxRecDepth 100000 in
theorem vMc_X4_22 : (List.range 40).all (fun j => z_mck xM_X4 (t_X4 (fun _ => none)) (40 * 22 + j)) = true := by decide +kernel
set_option maxRecDepth 100000 in
theorem vMc_X4_23 : (List.range 40).all (fun j => z_mck xM_X4 (t_X4 (fun _ => none)) (40 * 23 + j)) = true := by decide +kernel
set_option maxRecDepth 100000 in
theorem vMc_X4_24 : (List.range 40).all (fun j => z_mck xM_X4 (t_X4 (fun _ => none)) (40 * 24 + j)) = true := by decide +kernel
set_option maxRecDepth 100000 in
theorem vMc_X4 : ∀ c, c < 25 → (List.range 40).all (fun j => z_mck xM_X4 (t_X4 (fun _ => none)) (40 * c + j)) = true := by
  intro c hc
  match c, hc with
  | 0, _ => exact vMc_X4_0
  | 1, _ => exact vMc_X4_1
  | 2, _ => exact vMc_X4_2
  | 3, _ => exact vMc_X4_3
  | 4, _ => exact vMc_X4_4
  | 5, _ => exact vMc_X4_5
  | 6, _ => exact vMc_X4_6
  | 7, _ => exact vMc_X4_7
  | 8, _ => exact vMc_X4_8
  | 9, _ => exact vMc_X4_9
  | 10, _ => exact vMc_X4_10
  | 11, _ => exact vMc_X4_11
  | 12, _ => exact vMc_X4_12
  | 13, _ => exact vMc_X4_13
  | 14, _ => exact vMc_X4_14
  | 15, _ => exact vMc_X4_15
  | 16, _ => exact vMc_X4_16
  | 17, _ => exact vMc_X4_17
  | 18, _ => exact vMc_X4_18
  | 19, _ => exact vMc_X4_19
  | 20, _ => exact vMc_X4_20
  | 21, _ => exact vMc_X4_21
  | 22, _ => exact vMc_X4_22
  | 23, _ => exact vMc_X4_23
  | 24, _ => exact vMc_X4_24
  | n + 25, hc => exact absurd hc (by omega)
set_option maxRecDepth 100000 in
theorem vM_X4 (pu : Nat → Option ((List Value → z_H → Prop) × (List Value → z_H → Int32))) : z_MV (t_X4 pu) := z_MVof (C := (t_X4 (fun _ => none))) xM_X4 1000 (z_chunk 25 vMc_X4) (fun k hk => by show fM_X4 k = none; unfold fM_X4; first | rfl | (rw [z_bltF hk]; rfl))
set_option maxRecDepth 100000 in
theorem vQ_X4 (pu : Nat → Option ((List Value → z_H → Prop) × (List Value → z_H → Int32))) : (∀ k v, z_cQ (t_X4 pu) k = some (.inl v) → Cond.constant (z_cNm (t_X4 pu)) k v ∈ z_gt) ∧ (∀ k v, z_cQ (t_X4 pu) k = some (.inr (.inl v)) → Cond.constantLong (z_cNm (t_X4 pu)) k v ∈ z_gt) := z_QVof (C := (t_X4 (fun _ => none))) xQ_X4 1000 (by decide +kernel) (fun k hk => by show fQ_X4 k = none; unfold fQ_X4; first | rfl | (rw [z_bltF hk]; rfl))
set_option maxRecDepth 100000 in
theorem vS_X4 (pu : Nat → Option ((List Value → z_H → Prop) × (List Value → z_H → Int32))) : z_SV (t_X4 pu) := z_SVof (C := (t_X4 (fun _ => none))) 1000 (by decide +kernel) (fun k hk => by show fQ_X4 k = none; unfold fQ_X4; first | rfl | (rw [z_bltF hk]; rfl))
set_option maxRecDepth 100000 in
theorem v_X4 (pu : Nat → Option ((List Value → z_H → Prop) × (List Value → z_H → Int32))) {G : z_G} {d : Nat} {κ : z_Key} {b : Bool} {P} (hP : z_PV (κ, b, t_X4 pu, P)) (hPu : z_PuV G d (t_X4 pu)) : z_V G d (κ, b, t_X4 pu, P) := ⟨z_CFv, z_AVv, hP, vF_X4 pu, (vK_X4 pu).1, (vK_X4 pu).2, vM_X4 pu, (vQ_X4 pu).1, (vQ_X4 pu).2, vS_X4 pu, hPu⟩
set_option maxRecDepth 100000 in
def xF_X5 : Nat → Nat := fun k => (cond (Nat.blt k 48) (cond (Nat.blt k 29) (cond (Nat.blt k 18) (cond (Nat.blt k 15) 1226 1227) (cond (Nat.blt k 22) 1228 (cond (Nat.blt k 25) 1229 1230))) (cond (Nat.blt k 39) (cond (Nat.blt k 32) 1231 (cond (Nat.blt k 35) 1232 1233)) (cond (Nat.blt k 42) 1234 (cond (Nat.blt k 45) 1235 1236)))) (cond (Nat.blt k 128) (cond (Nat.blt k 60) (cond (Nat.blt k 51) 1237 1238) (cond (Nat.blt k 69) 1109 (cond (Nat.blt k 76) 1111 1072))) (cond (Nat.blt k 171) (cond (Nat.blt k 146) 1084 (cond (Nat.blt k 168) 1092 1100)) (cond (Nat.blt k 177) 1107 (cond (Nat.blt k 180) 1097 1095)))))
set_option maxRecDepth 100000 in
def xK_X5 : Nat → Nat := fun k => 0
set_option maxRecDepth 100000 in
def xQ_X5 : Nat → Nat := fun k => 0
set_option maxRecDepth 100000 in
def xM_X5 : Nat → List Nat := fun k => (cond (Nat.blt k 115) (cond (Nat.blt k 87) (cond (Nat.blt k 72) (cond (Nat.blt k 54) [1225, 1033, 1034] (cond (Nat.blt k 63) [4192, 4193, 4194, 1003, 4195] [4187, 1062, 1004, 1063])) (cond (Nat.blt k 79) [4188, 4190, 25, 1008, 4191] (cond (Nat.blt k 83) [4204, 4206, 28, 1008, 4207] [4239, 4184, 4185, 1008, 4186]))) (cond (Nat.blt k 98) (cond (Nat.blt k 90) [4235, 4236, 4237, 1008, 4238] (cond (Nat.blt k 94) [4208, 4209, 1008, 4210] [4215, 4217, 29, 1008, 4218])) (cond (Nat.blt k 106) (cond (Nat.blt k 102) [4223, 4225, 31, 1008, 4226] [4227, 4229, 32, 1008, 4230]) (cond (Nat.blt k 112) [4211, 1056, 1005, 1057] [4212, 4213, 1005, 4214])))) (cond (Nat.blt k 142) (cond (Nat.blt k 131) (cond (Nat.blt k 119) [5136, 5138, 42, 1008, 5139] (cond (Nat.blt k 122) [5140, 5142, 43, 1008, 5143] [5144, 1060, 1059, 1006])) (cond (Nat.blt k 135) [5004, 3089, 3090, 1003, 3091] (cond (Nat.blt k 139) [5005, 5006, 5007, 1008, 5008] [5013, 5015, 33, 1008, 5016]))) (cond (Nat.blt k 156) (cond (Nat.blt k 149) [5017, 5019, 34, 1008, 5020] (cond (Nat.blt k 152) [5217, 5219, 52, 1008, 5220] [5225, 5227, 54, 1008, 5228])) (cond (Nat.blt k 165) (cond (Nat.blt k 159) [6001, 5214, 5215, 1008, 5216] [5229, 3010, 1023, 3011]) (cond (Nat.blt k 174) [5221, 5223, 53, 1008, 5224] [4219, 4221, 30, 1008, 4222])))))
set_option maxRecDepth 100000 in
theorem vF_X5 (pu : Nat → Option ((List Value → z_H → Prop) × (List Value → z_H → Int32))) : z_FV (t_X5 pu) := z_FVof (C := (t_X5 (fun _ => none))) xF_X5 1000 (by decide +kernel) (fun k hk => by show fF_X5 k = none; unfold fF_X5; first | rfl | (rw [z_bltF hk]; rfl))
set_option maxRecDepth 100000 in
theorem vK_X5 (pu : Nat → Option ((List Value → z_H → Prop) × (List Value → z_H → Int32))) : z_KV (t_X5 pu) ∧ z_TV (t_X5 pu) := z_KVof (C := (t_X5 (fun _ => none))) xK_X5 1000 (by decide +kernel) (fun k hk => by show fK_X5 k = none; unfold fK_X5; first | rfl | (rw [z_bltF hk]; rfl))
set_option maxRecDepth 100000 in
theorem vMc_X5_0 : (List.range 40).all (fun j => z_mck xM_X5 (t_X5 (fun _ => none)) (40 * 0 + j)) = true := by decide +kernel
set_option maxRecDepth 100000 in
theorem vMc_X5_1 : (List.range 40).all (fun j => z_mck xM_X5 (t_X5 (fun _ => none)) (40 * 1 + j)) = true := by decide +kernel
set_option maxRecDepth 100000 in
theorem vMc_X5_2 : (List.range 40).all (fun j => z_mck xM_X5 (t_X5 (fun _ => none)) (40 * 2 + j)) = true := by decide +kernel
set_option maxRecDepth 100000 in
theorem vMc_X5_3 : (List.range 40).all (fun j => z_mck xM_X5 (t_X5 (fun _ => none)) (40 * 3 + j)) = true := by decide +kernel
set_option maxRecDepth 100000 in
theorem vMc_X5_4 : (List.range 40).all (fun j => z_mck xM_X5 (t_X5 (fun _ => none)) (40 * 4 + j)) = true := by decide +kernel
set_option maxRecDepth 100000 in
theorem vMc_X5_5 : (List.range 40).all (fun j => z_mck xM_X5 (t_X5 (fun _ => none)) (40 * 5 + j)) = true := by decide +kernel
set_option maxRecDepth 100000 in
theorem vMc_X5_6 : (List.range 40).all (fun j => z_mck xM_X5 (t_X5 (fun _ => none)) (40 * 6 + j)) = true := by decide +kernel
set_option maxRecDepth 100000 in
theorem vMc_X5_7 : (List.range 40).all (fun j => z_mck xM_X5 (t_X5 (fun _ => none)) (40 * 7 + j)) = true := by decide +kernel
set_option maxRecDepth 100000 in
theorem vMc_X5_8 : (List.range 40).all (fun j => z_mck xM_X5 (t_X5 (fun _ => none)) (40 * 8 + j)) = true := by decide +kernel
set_option maxRecDepth 100000 in
theorem vMc_X5_9 : (List.range 40).all (fun j => z_mck xM_X5 (t_X5 (fun _ => none)) (40 * 9 + j)) = true := by decide +kernel
set_option maxRecDepth 100000 in
theorem vMc_X5_10 : (List.range 40).all (fun j => z_mck xM_X5 (t_X5 (fun _ => none)) (40 * 10 + j)) = true := by decide +kernel
set_option maxRecDepth 100000 in
theorem vMc_X5_11 : (List.range 40).all (fun j => z_mck xM_X5 (t_X5 (fun _ => none)) (40 * 11 + j)) = true := by decide +kernel
set_option maxRecDepth 100000 in
theorem vMc_X5_12 : (List.range 40).all (fun j => z_mck xM_X5 (t_X5 (fun _ => none)) (40 * 12 + j)) = true := by decide +kernel
set_option maxRecDepth 100000 in
theorem vMc_X5_13 : (List.range 40).all (fun j => z_mck xM_X5 (t_X5 (fun _ => none)) (40 * 13 + j)) = true := by decide +kernel
set_option maxRecDepth 100000 in
theorem vMc_X5_14 : (List.range 40).all (fun j => z_mck xM_X5 (t_X5 (fun _ => none)) (40 * 14 + j)) = true := by decide +kernel
set_option maxRecDepth 100000 in
theorem vMc_X5_15 : (List.range 40).all (fun j => z_mck xM_X5 (t_X5 (fun _ => none)) (40 * 15 + j)) = true := by decide +kernel
set_option maxRecDepth 100000 in
theorem vMc_X5_16 : (List.range 40).all (fun j => z_mck xM_X5 (t_X5 (fun _ => none)) (40 * 16 + j)) = true := by decide +kernel
set_option maxRecDepth 100000 in
theorem vMc_X5_17 : (List.range 40).all (fun j => z_mck xM_X5 (t_X5 (fun _ => none)) (40 * 17 + j)) = true := by decide +kernel
set_option maxRecDepth 100000 in
theorem vMc_X5_18 : (List.range 40).all (fun j => z_mck xM_X5 (t_X5 (fun _ => none)) (40 * 18 + j)) = true := by decide +kernel
set_option maxRecDepth 100000 in
theorem vMc_X5_19 : (List.range 40).all (fun j => z_mck xM_X5 (t_X5 (fun _ => none)) (40 * 19 + j)) = true := by decide +kernel
set_option maxRecDepth 100000 in
theorem vMc_X5_20 : (List.range 40).all (fun j => z_mck xM_X5 (t_X5 (fun _ => none)) (40 * 20 + j)) = true := by decide +kernel
set_option maxRecDepth 100000 in
theorem vMc_X5_21 : (List.range 40).all (fun j => z_mck xM_X5 (t_X5 (fun _ => none)) (40 * 21 + j)) = true := by decide +kernel
set_option maxRecDepth 100000 in
theorem vMc_X5_22 : (List.range 40).all (fun j => z_mck xM_X5 (t_X5 (fun _ => none)) (40 * 22 + j)) = true := by decide +kernel
set_option maxRecDepth 100000 in
theorem vMc_X5_23 : (List.range 40).all (fun j => z_mck xM_X5 (t_X5 (fun _ => none)) (40 * 23 + j)) = true := by decide +kernel
set_option maxRecDepth 100000 in
theorem vMc_X5_24 : (List.range 40).all (fun j => z_mck xM_X5 (t_X5 (fun _ => none)) (40 * 24 + j)) = true := by decide +kernel
set_option maxRecDepth 100000 in
theorem vMc_X5 : ∀ c, c < 25 → (List.range 40).all (fun j => z_mck xM_X5 (t_X5 (fun _ => none)) (40 * c + j)) = true := by
  intro c hc
  match c, hc with
  | 0, _ => exact vMc_X5_0
  | 1, _ => exact vMc_X5_1
  | 2, _ => exact vMc_X5_2
  | 3, _ => exact vMc_X5_3
  | 4, _ => exact vMc_X5_4
  | 5, _ => exact vMc_X5_5
  | 6, _ => exact vMc_X5_6
  | 7, _ => exact vMc_X5_7
  | 8, _ => exact vMc_X5_8
  | 9, _ => exact vMc_X5_9
  | 10, _ => exact vMc_X5_10
  | 11, _ => exact vMc_X5_11
  | 12, _ => exact vMc_X5_12
  | 13, _ => exact vMc_X5_13
  | 14, _ => exact vMc_X5_14
  | 15, _ => exact vMc_X5_15
  | 16, _ => exact vMc_X5_16
  | 17, _ => exact vMc_X5_17
  | 18, _ => exact vMc_X5_18
  | 19, _ => exact vMc_X5_19
  | 20, _ => exact vMc_X5_20
  | 21, _ => exact vMc_X5_21
  | 22, _ => exact vMc_X5_22
  | 23, _ => exact vMc_X5_23
  | 24, _ => exact vMc_X5_24
  | n + 25, hc => exact absurd hc (by omega)
set_option maxRecDepth 100000 in
theorem vM_X5 (pu : Nat → Option ((List Value → z_H → Prop) × (List Value → z_H → Int32))) : z_MV (t_X5 pu) := z_MVof (C := (t_X5 (fun _ => none))) xM_X5 1000 (z_chunk 25 vMc_X5) (fun k hk => by show fM_X5 k = none; unfold fM_X5; first | rfl | (rw [z_bltF hk]; rfl))
set_option maxRecDepth 100000 in
theorem vQ_X5 (pu : Nat → Option ((List Value → z_H → Prop) × (List Value → z_H → Int32))) : (∀ k v, z_cQ (t_X5 pu) k = some (.inl v) → Cond.constant (z_cNm (t_X5 pu)) k v ∈ z_gt) ∧ (∀ k v, z_cQ (t_X5 pu) k = some (.inr (.inl v)) → Cond.constantLong (z_cNm (t_X5 pu)) k v ∈ z_gt) := z_QVof (C := (t_X5 (fun _ => none))) xQ_X5 1000 (by decide +kernel) (fun k hk => by show fQ_X5 k = none; unfold fQ_X5; first | rfl | (rw [z_bltF hk]; rfl))
set_option maxRecDepth 100000 in
theorem vS_X5 (pu : Nat → Option ((List Value → z_H → Prop) × (List Value → z_H → Int32))) : z_SV (t_X5 pu) := z_SVof (C := (t_X5 (fun _ => none))) 1000 (by decide +kernel) (fun k hk => by show fQ_X5 k = none; unfold fQ_X5; first | rfl | (rw [z_bltF hk]; rfl))
set_option maxRecDepth 100000 in
theorem v_X5 (pu : Nat → Option ((List Value → z_H → Prop) × (List Value → z_H → Int32))) {G : z_G} {d : Nat} {κ : z_Key} {b : Bool} {P} (hP : z_PV (κ, b, t_X5 pu, P)) (hPu : z_PuV G d (t_X5 pu)) : z_V G d (κ, b, t_X5 pu, P) := ⟨z_CFv, z_AVv, hP, vF_X5 pu, (vK_X5 pu).1, (vK_X5 pu).2, vM_X5 pu, (vQ_X5 pu).1, (vQ_X5 pu).2, vS_X5 pu, hPu⟩
set_option maxRecDepth 100000 in
def xF_X6 : Nat → Nat := fun k => (cond (Nat.blt k 23) (cond (Nat.blt k 15) 2127 (cond (Nat.blt k 19) 2128 2129)) (cond (Nat.blt k 27) 2130 (cond (Nat.blt k 40) 1115 1071)))
set_option maxRecDepth 100000 in
def xK_X6 : Nat → Nat := fun k => 0
set_option maxRecDepth 100000 in
def xQ_X6 : Nat → Nat := fun k => 0
set_option maxRecDepth 100000 in
def xM_X6 : Nat → List Nat := fun k => (cond (Nat.blt k 47) (cond (Nat.blt k 36) (cond (Nat.blt k 32) [2126, 1033, 1034] [6178, 6180, 69, 1011, 6181]) (cond (Nat.blt k 41) [6186, 6188, 70, 1011, 6189] [6182, 6183, 1004, 6184])) (cond (Nat.blt k 56) (cond (Nat.blt k 53) [6185, 6125, 1012, 6126] [6190, 6192, 71, 1011, 6193]) (cond (Nat.blt k 60) [6194, 6196, 72, 1011, 6197] [6198, 4213, 1005, 4214])))
set_option maxRecDepth 100000 in
theorem vF_X6 (pu : Nat → Option ((List Value → z_H → Prop) × (List Value → z_H → Int32))) : z_FV (t_X6 pu) := z_FVof (C := (t_X6 (fun _ => none))) xF_X6 1000 (by decide +kernel) (fun k hk => by show fF_X6 k = none; unfold fF_X6; first | rfl | (rw [z_bltF hk]; rfl))
set_option maxRecDepth 100000 in
theorem vK_X6 (pu : Nat → Option ((List Value → z_H → Prop) × (List Value → z_H → Int32))) : z_KV (t_X6 pu) ∧ z_TV (t_X6 pu) := z_KVof (C := (t_X6 (fun _ => none))) xK_X6 1000 (by decide +kernel) (fun k hk => by show fK_X6 k = none; unfold fK_X6; first | rfl | (rw [z_bltF hk]; rfl))
set_option maxRecDepth 100000 in
theorem vMc_X6_0 : (List.range 40).all (fun j => z_mck xM_X6 (t_X6 (fun _ => none)) (40 * 0 + j)) = true := by decide +kernel
set_option maxRecDepth 100000 in
theorem vMc_X6_1 : (List.range 40).all (fun j => z_mck xM_X6 (t_X6 (fun _ => none)) (40 * 1 + j)) = true := by decide +kernel
set_option maxRecDepth 100000 in
theorem vMc_X6_2 : (List.range 40).all (fun j => z_mck xM_X6 (t_X6 (fun _ => none)) (40 * 2 + j)) = true := by decide +kernel
set_option maxRecDepth 100000 in
theorem vMc_X6_3 : (List.range 40).all (fun j => z_mck xM_X6 (t_X6 (fun _ => none)) (40 * 3 + j)) = true := by decide +kernel
set_option maxRecDepth 100000 in
theorem vMc_X6_4 : (List.range 40).all (fun j => z_mck xM_X6 (t_X6 (fun _ => none)) (40 * 4 + j)) = true := by decide +kernel
set_option maxRecDepth 100000 in
theorem vMc_X6_5 : (List.range 40).all (fun j => z_mck xM_X6 (t_X6 (fun _ => none)) (40 * 5 + j)) = true := by decide +kernel
set_option maxRecDepth 100000 in
theorem vMc_X6_6 : (List.range 40).all (fun j => z_mck xM_X6 (t_X6 (fun _ => none)) (40 * 6 + j)) = true := by decide +kernel
set_option maxRecDepth 100000 in
theorem vMc_X6_7 : (List.range 40).all (fun j => z_mck xM_X6 (t_X6 (fun _ => none)) (40 * 7 + j)) = true := by decide +kernel
set_option maxRecDepth 100000 in
theorem vMc_X6_8 : (List.range 40).all (fun j => z_mck xM_X6 (t_X6 (fun _ => none)) (40 * 8 + j)) = true := by decide +kernel
set_option maxRecDepth 100000 in
theorem vMc_X6_9 : (List.range 40).all (fun j => z_mck xM_X6 (t_X6 (fun _ => none)) (40 * 9 + j)) = true := by decide +kernel
set_option maxRecDepth 100000 in
theorem vMc_X6_10 : (List.range 40).all (fun j => z_mck xM_X6 (t_X6 (fun _ => none)) (40 * 10 + j)) = true := by decide +kernel
set_option maxRecDepth 100000 in
theorem vMc_X6_11 : (List.range 40).all (fun j => z_mck xM_X6 (t_X6 (fun _ => none)) (40 * 11 + j)) = true := by decide +kernel
set_option maxRecDepth 100000 in
theorem vMc_X6_12 : (List.range 40).all (fun j => z_mck xM_X6 (t_X6 (fun _ => none)) (40 * 12 + j)) = true := by decide +kernel
set_option maxRecDepth 100000 in
theorem vMc_X6_13 : (List.range 40).all (fun j => z_mck xM_X6 (t_X6 (fun _ => none)) (40 * 13 + j)) = true := by decide +kernel
set_option maxRecDepth 100000 in
theorem vMc_X6_14 : (List.range 40).all (fun j => z_mck xM_X6 (t_X6 (fun _ => none)) (40 * 14 + j)) = true := by decide +kernel
set_option maxRecDepth 100000 in
theorem vMc_X6_15 : (List.range 40).all (fun j => z_mck xM_X6 (t_X6 (fun _ => none)) (40 * 15 + j)) = true := by decide +kernel
set_option maxRecDepth 100000 in
theorem vMc_X6_16 : (List.range 40).all (fun j => z_mck xM_X6 (t_X6 (fun _ => none)) (40 * 16 + j)) = true := by decide +kernel
set_option maxRecDepth 100000 in
theorem vMc_X6_17 : (List.range 40).all (fun j => z_mck xM_X6 (t_X6 (fun _ => none)) (40 * 17 + j)) = true := by decide +kernel
set_option maxRecDepth 100000 in
theorem vMc_X6_18 : (List.range 40).all (fun j => z_mck xM_X6 (t_X6 (fun _ => none)) (40 * 18 + j)) = true := by decide +kernel
set_option maxRecDepth 100000 in
theorem vMc_X6_19 : (List.range 40).all (fun j => z_mck xM_X6 (t_X6 (fun _ => none)) (40 * 19 + j)) = true := by decide +kernel
set_option maxRecDepth 100000 in
theorem vMc_X6_20 : (List.range 40).all (fun j => z_mck xM_X6 (t_X6 (fun _ => none)) (40 * 20 + j)) = true := by decide +kernel
set_option maxRecDepth 100000 in
theorem vMc_X6_21 : (List.range 40).all (fun j => z_mck xM_X6 (t_X6 (fun _ => none)) (40 * 21 + j)) = true := by decide +kernel
set_option maxRecDepth 100000 in
theorem vMc_X6_22 : (List.range 40).all (fun j => z_mck xM_X6 (t_X6 (fun _ => none)) (40 * 22 + j)) = true := by decide +kernel
set_option maxRecDepth 100000 in
theorem vMc_X6_23 : (List.range 40).all (fun j => z_mck xM_X6 (t_X6 (fun _ => none)) (40 * 23 + j)) = true := by decide +kernel
set_option maxRecDepth 100000 in
theorem vMc_X6_24 : (List.range 40).all (fun j => z_mck xM_X6 (t_X6 (fun _ => none)) (40 * 24 + j)) = true := by decide +kernel
set_option maxRecDepth 100000 in
theorem vMc_X6 : ∀ c, c < 25 → (List.range 40).all (fun j => z_mck xM_X6 (t_X6 (fun _ => none)) (40 * c + j)) = true := by
  intro c hc
  match c, hc with
  | 0, _ => exact vMc_X6_0
  | 1, _ => exact vMc_X6_1
  | 2, _ => exact vMc_X6_2
  | 3, _ => exact vMc_X6_3
  | 4, _ => exact vMc_X6_4
  | 5, _ => exact vMc_X6_5
  | 6, _ => exact vMc_X6_6
  | 7, _ => exact vMc_X6_7
  | 8, _ => exact vMc_X6_8
  | 9, _ => exact vMc_X6_9
  | 10, _ => exact vMc_X6_10
  | 11, _ => exact vMc_X6_11
  | 12, _ => exact vMc_X6_12
  | 13, _ => exact vMc_X6_13
  | 14, _ => exact vMc_X6_14
  | 15, _ => exact vMc_X6_15
  | 16, _ => exact vMc_X6_16
  | 17, _ => exact vMc_X6_17
  | 18, _ => exact vMc_X6_18
  | 19, _ => exact vMc_X6_19
  | 20, _ => exact vMc_X6_20
  | 21, _ => exact vMc_X6_21
  | 22, _ => exact vMc_X6_22
  | 23, _ => exact vMc_X6_23
  | 24, _ => exact vMc_X6_24
  | n + 25, hc => exact absurd hc (by omega)
set_option maxRecDepth 100000 in
theorem vM_X6 (pu : Nat → Option ((List Value → z_H → Prop) × (List Value → z_H → Int32))) : z_MV (t_X6 pu) := z_MVof (C := (t_X6 (fun _ => none))) xM_X6 1000 (z_chunk 25 vMc_X6) (fun k hk => by show fM_X6 k = none; unfold fM_X6; first | rfl | (rw [z_bltF hk]; rfl))
set_option maxRecDepth 100000 in
theorem vQ_X6 (pu : Nat → Option ((List Value → z_H → Prop) × (List Value → z_H → Int32))) : (∀ k v, z_cQ (t_X6 pu) k = some (.inl v) → Cond.constant (z_cNm (t_X6 pu)) k v ∈ z_gt) ∧ (∀ k v, z_cQ (t_X6 pu) k = some (.inr (.inl v)) → Cond.constantLong (z_cNm (t_X6 pu)) k v ∈ z_gt) := z_QVof (C := (t_X6 (fun _ => none))) xQ_X6 1000 (by decide +kernel) (fun k hk => by show fQ_X6 k = none; unfold fQ_X6; first | rfl | (rw [z_bltF hk]; rfl))
set_option maxRecDepth 100000 in
theorem vS_X6 (pu : Nat → Option ((List Value → z_H → Prop) × (List Value → z_H → Int32))) : z_SV (t_X6 pu) := z_SVof (C := (t_X6 (fun _ => none))) 1000 (by decide +kernel) (fun k hk => by show fQ_X6 k = none; unfold fQ_X6; first | rfl | (rw [z_bltF hk]; rfl))
set_option maxRecDepth 100000 in
theorem v_X6 (pu : Nat → Option ((List Value → z_H → Prop) × (List Value → z_H → Int32))) {G : z_G} {d : Nat} {κ : z_Key} {b : Bool} {P} (hP : z_PV (κ, b, t_X6 pu, P)) (hPu : z_PuV G d (t_X6 pu)) : z_V G d (κ, b, t_X6 pu, P) := ⟨z_CFv, z_AVv, hP, vF_X6 pu, (vK_X6 pu).1, (vK_X6 pu).2, vM_X6 pu, (vQ_X6 pu).1, (vQ_X6 pu).2, vS_X6 pu, hPu⟩
set_option maxRecDepth 100000 in
def xF_X7 : Nat → Nat := fun k => (cond (Nat.blt k 35) (cond (Nat.blt k 22) (cond (Nat.blt k 15) 1176 (cond (Nat.blt k 19) 1177 1178)) (cond (Nat.blt k 28) (cond (Nat.blt k 25) 1179 1180) (cond (Nat.blt k 31) 1181 1182))) (cond (Nat.blt k 44) (cond (Nat.blt k 38) 1183 (cond (Nat.blt k 41) 1184 1185)) (cond (Nat.blt k 50) (cond (Nat.blt k 47) 1186 1187) (cond (Nat.blt k 53) 1188 1189))))
set_option maxRecDepth 100000 in
def xK_X7 : Nat → Nat := fun k => (cond (Nat.blt k 71) 4131 (cond (Nat.blt k 77) 4132 4135))
set_option maxRecDepth 100000 in
def xQ_X7 : Nat → Nat := fun k => 0
set_option maxRecDepth 100000 in
def xM_X7 : Nat → List Nat := fun k => (cond (Nat.blt k 103) (cond (Nat.blt k 81) (cond (Nat.blt k 65) (cond (Nat.blt k 56) [1175, 1033, 1034] (cond (Nat.blt k 62) [4004, 1062, 1004, 1063] [4005, 4007, 8, 1007, 4008])) (cond (Nat.blt k 73) [4082, 4084, 13, 1007, 4085] (cond (Nat.blt k 76) [4133, 1040, 1003, 1041] [4134, 1049, 1050, 1051, 1052]))) (cond (Nat.blt k 90) (cond (Nat.blt k 84) [4136, 1153, 1002, 1154] (cond (Nat.blt k 87) [4086, 4088, 14, 1007, 4089] [4106, 4108, 19, 1007, 4109])) (cond (Nat.blt k 97) (cond (Nat.blt k 93) [4119, 4121, 22, 1007, 4122] [4090, 4092, 15, 1007, 4093]) (cond (Nat.blt k 100) [4094, 4096, 16, 1007, 4097] [4102, 4104, 18, 1007, 4105])))) (cond (Nat.blt k 123) (cond (Nat.blt k 112) (cond (Nat.blt k 106) [4110, 4112, 20, 1007, 4113] (cond (Nat.blt k 109) [4098, 4100, 17, 1007, 4101] [4115, 4117, 21, 1007, 4118])) (cond (Nat.blt k 116) [4114, 3016, 1003, 3017] (cond (Nat.blt k 119) [4123, 4125, 23, 1007, 4126] [4009, 4011, 9, 1007, 4012]))) (cond (Nat.blt k 138) (cond (Nat.blt k 126) [4013, 4014, 1007, 4015] (cond (Nat.blt k 130) [4016, 4018, 10, 1007, 4019] [4021, 4023, 11, 1007, 4024])) (cond (Nat.blt k 144) (cond (Nat.blt k 141) [4075, 4076, 1007, 4077] [4078, 4080, 12, 1007, 4081]) (cond (Nat.blt k 149) [4025, 4026, 4027, 1019, 4028] [4035, 4036, 4037, 1019, 4038])))))
set_option maxRecDepth 100000 in
theorem vF_X7 (pu : Nat → Option ((List Value → z_H → Prop) × (List Value → z_H → Int32))) : z_FV (t_X7 pu) := z_FVof (C := (t_X7 (fun _ => none))) xF_X7 1000 (by decide +kernel) (fun k hk => by show fF_X7 k = none; unfold fF_X7; first | rfl | (rw [z_bltF hk]; rfl))
set_option maxRecDepth 100000 in
theorem vK_X7 (pu : Nat → Option ((List Value → z_H → Prop) × (List Value → z_H → Int32))) : z_KV (t_X7 pu) ∧ z_TV (t_X7 pu) := z_KVof (C := (t_X7 (fun _ => none))) xK_X7 1000 (by decide +kernel) (fun k hk => by show fK_X7 k = none; unfold fK_X7; first | rfl | (rw [z_bltF hk]; rfl))
set_option maxRecDepth 100000 in
theorem vMc_X7_0 : (List.range 40).all (fun j => z_mck xM_X7 (t_X7 (fun _ => none)) (40 * 0 + j)) = true := by decide +kernel
set_option maxRecDepth 100000 in
theorem vMc_X7_1 : (List.range 40).all (fun j => z_mck xM_X7 (t_X7 (fun _ => none)) (40 * 1 + j)) = true := by decide +kernel
set_option maxRecDepth 100000 in
theorem vMc_X7_2 : (List.range 40).all (fun j => z_mck xM_X7 (t_X7 (fun _ => none)) (40 * 2 + j)) = true := by decide +kernel
set_option maxRecDepth 100000 in
theorem vMc_X7_3 : (List.range 40).all (fun j => z_mck xM_X7 (t_X7 (fun _ => none)) (40 * 3 + j)) = true := by decide +kernel
set_option maxRecDepth 100000 in
theorem vMc_X7_4 : (List.range 40).all (fun j => z_mck xM_X7 (t_X7 (fun _ => none)) (40 * 4 + j)) = true := by decide +kernel
set_option maxRecDepth 100000 in
theorem vMc_X7_5 : (List.range 40).all (fun j => z_mck xM_X7 (t_X7 (fun _ => none)) (40 * 5 + j)) = true := by decide +kernel
set_option maxRecDepth 100000 in
theorem vMc_X7_6 : (List.range 40).all (fun j => z_mck xM_X7 (t_X7 (fun _ => none)) (40 * 6 + j)) = true := by decide +kernel
set_option maxRecDepth 100000 in
theorem vMc_X7_7 : (List.range 40).all (fun j => z_mck xM_X7 (t_X7 (fun _ => none)) (40 * 7 + j)) = true := by decide +kernel
set_option maxRecDepth 100000 in
theorem vMc_X7_8 : (List.range 40).all (fun j => z_mck xM_X7 (t_X7 (fun _ => none)) (40 * 8 + j)) = true := by decide +kernel
set_option maxRecDepth 100000 in
theorem vMc_X7_9 : (List.range 40).all (fun j => z_mck xM_X7 (t_X7 (fun _ => none)) (40 * 9 + j)) = true := by decide +kernel
set_option maxRecDepth 100000 in
theorem vMc_X7_10 : (List.range 40).all (fun j => z_mck xM_X7 (t_X7 (fun _ => none)) (40 * 10 + j)) = true := by decide +kernel
set_option maxRecDepth 100000 in
theorem vMc_X7_11 : (List.range 40).all (fun j => z_mck xM_X7 (t_X7 (fun _ => none)) (40 * 11 + j)) = true := by decide +kernel
set_option maxRecDepth 100000 in
theorem vMc_X7_12 : (List.range 40).all (fun j => z_mck xM_X7 (t_X7 (fun _ => none)) (40 * 12 + j)) = true := by decide +kernel
set_option maxRecDepth 100000 in
theorem vMc_X7_13 : (List.range 40).all (fun j => z_mck xM_X7 (t_X7 (fun _ => none)) (40 * 13 + j)) = true := by decide +kernel
set_option maxRecDepth 100000 in
theorem vMc_X7_14 : (List.range 40).all (fun j => z_mck xM_X7 (t_X7 (fun _ => none)) (40 * 14 + j)) = true := by decide +kernel
set_option maxRecDepth 100000 in
theorem vMc_X7_15 : (List.range 40).all (fun j => z_mck xM_X7 (t_X7 (fun _ => none)) (40 * 15 + j)) = true := by decide +kernel
set_option maxRecDepth 100000 in
theorem vMc_X7_16 : (List.range 40).all (fun j => z_mck xM_X7 (t_X7 (fun _ => none)) (40 * 16 + j)) = true := by decide +kernel
set_option maxRecDepth 100000 in
theorem vMc_X7_17 : (List.range 40).all (fun j => z_mck xM_X7 (t_X7 (fun _ => none)) (40 * 17 + j)) = true := by decide +kernel
set_option maxRecDepth 100000 in
theorem vMc_X7_18 : (List.range 40).all (fun j => z_mck xM_X7 (t_X7 (fun _ => none)) (40 * 18 + j)) = true := by decide +kernel
set_option maxRecDepth 100000 in
theorem vMc_X7_19 : (List.range 40).all (fun j => z_mck xM_X7 (t_X7 (fun _ => none)) (40 * 19 + j)) = true := by decide +kernel
set_option maxRecDepth 100000 in
theorem vMc_X7_20 : (List.range 40).all (fun j => z_mck xM_X7 (t_X7 (fun _ => none)) (40 * 20 + j)) = true := by decide +kernel
set_option maxRecDepth 100000 in
theorem vMc_X7_21 : (List.range 40).all (fun j => z_mck xM_X7 (t_X7 (fun _ => none)) (40 * 21 + j)) = true := by decide +kernel
set_option maxRecDepth 100000 in
theorem vMc_X7_22 : (List.range 40).all (fun j => z_mck xM_X7 (t_X7 (fun _ => none)) (40 * 22 + j)) = true := by decide +kernel
set_option maxRecDepth 100000 in
theorem vMc_X7_23 : (List.range 40).all (fun j => z_mck xM_X7 (t_X7 (fun _ => none)) (40 * 23 + j)) = true := by decide +kernel
set_option maxRecDepth 100000 in
theorem vMc_X7_24 : (List.range 40).all (fun j => z_mck xM_X7 (t_X7 (fun _ => none)) (40 * 24 + j)) = true := by decide +kernel
set_option maxRecDepth 100000 in
theorem vMc_X7 : ∀ c, c < 25 → (List.range 40).all (fun j => z_mck xM_X7 (t_X7 (fun _ => none)) (40 * c + j)) = true := by
  intro c hc
  match c, hc with
  | 0, _ => exact vMc_X7_0
  | 1, _ => exact vMc_X7_1
  | 2, _ => exact vMc_X7_2
  | 3, _ => exact vMc_X7_3
  | 4, _ => exact vMc_X7_4
  | 5, _ => exact vMc_X7_5
  | 6, _ => exact vMc_X7_6
  | 7, _ => exact vMc_X7_7
  | 8, _ => exact vMc_X7_8
  | 9, _ => exact vMc_X7_9
  | 10, _ => exact vMc_X7_10
  | 11, _ => exact vMc_X7_11
  | 12, _ => exact vMc_X7_12
  | 13, _ => exact vMc_X7_13
  | 14, _ => exact vMc_X7_14
  | 15, _ => exact vMc_X7_15
  | 16, _ => exact vMc_X7_16
  | 17, _ => exact vMc_X7_17
  | 18, _ => exact vMc_X7_18
  | 19, _ => exact vMc_X7_19
  | 20, _ => exact vMc_X7_20
  | 21, _ => exact vMc_X7_21
  | 22, _ => exact vMc_X7_22
  | 23, _ => exact vMc_X7_23
  | 24, _ => exact vMc_X7_24
  | n + 25, hc => exact absurd hc (by omega)
set_option maxRecDepth 100000 in
theorem vM_X7 (pu : Nat → Option ((List Value → z_H → Prop) × (List Value → z_H → Int32))) : z_MV (t_X7 pu) := z_MVof (C := (t_X7 (fun _ => none))) xM_X7 1000 (z_chunk 25 vMc_X7) (fun k hk => by show fM_X7 k = none; unfold fM_X7; first | rfl | (rw [z_bltF hk]; rfl))
set_option maxRecDepth 100000 in
theorem vQ_X7 (pu : Nat → Option ((List Value → z_H → Prop) × (List Value → z_H → Int32))) : (∀ k v, z_cQ (t_X7 pu) k = some (.inl v) → Cond.constant (z_cNm (t_X7 pu)) k v ∈ z_gt) ∧ (∀ k v, z_cQ (t_X7 pu) k = some (.inr (.inl v)) → Cond.constantLong (z_cNm (t_X7 pu)) k v ∈ z_gt) := z_QVof (C := (t_X7 (fun _ => none))) xQ_X7 1000 (by decide +kernel) (fun k hk => by show fQ_X7 k = none; unfold fQ_X7; first | rfl | (rw [z_bltF hk]; rfl))
set_option maxRecDepth 100000 in
theorem vS_X7 (pu : Nat → Option ((List Value → z_H → Prop) × (List Value → z_H → Int32))) : z_SV (t_X7 pu) := z_SVof (C := (t_X7 (fun _ => none))) 1000 (by decide +kernel) (fun k hk => by show fQ_X7 k = none; unfold fQ_X7; first | rfl | (rw [z_bltF hk]; rfl))
set_option maxRecDepth 100000 in
theorem v_X7 (pu : Nat → Option ((List Value → z_H → Prop) × (List Value → z_H → Int32))) {G : z_G} {d : Nat} {κ : z_Key} {b : Bool} {P} (hP : z_PV (κ, b, t_X7 pu, P)) (hPu : z_PuV G d (t_X7 pu)) : z_V G d (κ, b, t_X7 pu, P) := ⟨z_CFv, z_AVv, hP, vF_X7 pu, (vK_X7 pu).1, (vK_X7 pu).2, vM_X7 pu, (vQ_X7 pu).1, (vQ_X7 pu).2, vS_X7 pu, hPu⟩
set_option maxRecDepth 100000 in
def xF_X8 : Nat → Nat := fun k => (cond (Nat.blt k 36) (cond (Nat.blt k 21) (cond (Nat.blt k 15) 1098 (cond (Nat.blt k 18) 1101 1103)) (cond (Nat.blt k 27) (cond (Nat.blt k 24) 1108 1110) (cond (Nat.blt k 30) 1112 1114))) (cond (Nat.blt k 51) (cond (Nat.blt k 43) (cond (Nat.blt k 40) 1116 1118) (cond (Nat.blt k 47) 1119 1068)) (cond (Nat.blt k 63) (cond (Nat.blt k 60) 1077 1085) (cond (Nat.blt k 66) 1093 1096))))
set_option maxRecDepth 100000 in
def xK_X8 : Nat → Nat := fun k => (cond (Nat.blt k 35) 3096 1043)
set_option maxRecDepth 100000 in
def xQ_X8 : Nat → Nat := fun k => 0
set_option maxRecDepth 100000 in
def xM_X8 : Nat → List Nat := fun k => (cond (Nat.blt k 94) (cond (Nat.blt k 77) (cond (Nat.blt k 69) (cond (Nat.blt k 54) [1042, 1033, 1034] [1045, 1046, 1004, 1047]) (cond (Nat.blt k 73) [1061, 1062, 1004, 1063] [1064, 1066, 0, 1003, 1067])) (cond (Nat.blt k 86) (cond (Nat.blt k 80) [3097, 1040, 1003, 1041] [3009, 3010, 1023, 3011]) (cond (Nat.blt k 90) [3015, 3016, 1003, 3017] [4165, 4166, 1003, 4167]))) (cond (Nat.blt k 109) (cond (Nat.blt k 102) (cond (Nat.blt k 98) [4168, 4169, 1003, 4170] [5057, 5059, 39, 1003, 5060]) (cond (Nat.blt k 106) [4179, 4181, 24, 1003, 4182] [4175, 4176, 4177, 1003, 4178])) (cond (Nat.blt k 116) (cond (Nat.blt k 112) [5049, 5050, 5051, 1003, 5052] [3092, 3094, 6, 1003, 3095]) (cond (Nat.blt k 120) [4196, 4198, 26, 1003, 4199] [4200, 4202, 27, 1003, 4203]))))
set_option maxRecDepth 100000 in
theorem vF_X8 (pu : Nat → Option ((List Value → z_H → Prop) × (List Value → z_H → Int32))) : z_FV (t_X8 pu) := z_FVof (C := (t_X8 (fun _ => none))) xF_X8 1000 (by decide +kernel) (fun k hk => by show fF_X8 k = none; unfold fF_X8; first | rfl | (rw [z_bltF hk]; rfl))
set_option maxRecDepth 100000 in
theorem vK_X8 (pu : Nat → Option ((List Value → z_H → Prop) × (List Value → z_H → Int32))) : z_KV (t_X8 pu) ∧ z_TV (t_X8 pu) := z_KVof (C := (t_X8 (fun _ => none))) xK_X8 1000 (by decide +kernel) (fun k hk => by show fK_X8 k = none; unfold fK_X8; first | rfl | (rw [z_bltF hk]; rfl))
set_option maxRecDepth 100000 in
theorem vMc_X8_0 : (List.range 40).all (fun j => z_mck xM_X8 (t_X8 (fun _ => none)) (40 * 0 + j)) = true := by decide +kernel
set_option maxRecDepth 100000 in
theorem vMc_X8_1 : (List.range 40).all (fun j => z_mck xM_X8 (t_X8 (fun _ => none)) (40 * 1 + j)) = true := by decide +kernel
set_option maxRecDepth 100000 in
theorem vMc_X8_2 : (List.range 40).all (fun j => z_mck xM_X8 (t_X8 (fun _ => none)) (40 * 2 + j)) = true := by decide +kernel
set_option maxRecDepth 100000 in
theorem vMc_X8_3 : (List.range 40).all (fun j => z_mck xM_X8 (t_X8 (fun _ => none)) (40 * 3 + j)) = true := by decide +kernel
set_option maxRecDepth 100000 in
theorem vMc_X8_4 : (List.range 40).all (fun j => z_mck xM_X8 (t_X8 (fun _ => none)) (40 * 4 + j)) = true := by decide +kernel
set_option maxRecDepth 100000 in
theorem vMc_X8_5 : (List.range 40).all (fun j => z_mck xM_X8 (t_X8 (fun _ => none)) (40 * 5 + j)) = true := by decide +kernel
set_option maxRecDepth 100000 in
theorem vMc_X8_6 : (List.range 40).all (fun j => z_mck xM_X8 (t_X8 (fun _ => none)) (40 * 6 + j)) = true := by decide +kernel
set_option maxRecDepth 100000 in
theorem vMc_X8_7 : (List.range 40).all (fun j => z_mck xM_X8 (t_X8 (fun _ => none)) (40 * 7 + j)) = true := by decide +kernel
set_option maxRecDepth 100000 in
theorem vMc_X8_8 : (List.range 40).all (fun j => z_mck xM_X8 (t_X8 (fun _ => none)) (40 * 8 + j)) = true := by decide +kernel
set_option maxRecDepth 100000 in
theorem vMc_X8_9 : (List.range 40).all (fun j => z_mck xM_X8 (t_X8 (fun _ => none)) (40 * 9 + j)) = true := by decide +kernel
set_option maxRecDepth 100000 in
theorem vMc_X8_10 : (List.range 40).all (fun j => z_mck xM_X8 (t_X8 (fun _ => none)) (40 * 10 + j)) = true := by decide +kernel
set_option maxRecDepth 100000 in
theorem vMc_X8_11 : (List.range 40).all (fun j => z_mck xM_X8 (t_X8 (fun _ => none)) (40 * 11 + j)) = true := by decide +kernel
set_option maxRecDepth 100000 in
theorem vMc_X8_12 : (List.range 40).all (fun j => z_mck xM_X8 (t_X8 (fun _ => none)) (40 * 12 + j)) = true := by decide +kernel
set_option maxRecDepth 100000 in
theorem vMc_X8_13 : (List.range 40).all (fun j => z_mck xM_X8 (t_X8 (fun _ => none)) (40 * 13 + j)) = true := by decide +kernel
set_option maxRecDepth 100000 in
theorem vMc_X8_14 : (List.range 40).all (fun j => z_mck xM_X8 (t_X8 (fun _ => none)) (40 * 14 + j)) = true := by decide +kernel
set_option maxRecDepth 100000 in
theorem vMc_X8_15 : (List.range 40).all (fun j => z_mck xM_X8 (t_X8 (fun _ => none)) (40 * 15 + j)) = true := by decide +kernel
set_option maxRecDepth 100000 in
theorem vMc_X8_16 : (List.range 40).all (fun j => z_mck xM_X8 (t_X8 (fun _ => none)) (40 * 16 + j)) = true := by decide +kernel
set_option maxRecDepth 100000 in
theorem vMc_X8_17 : (List.range 40).all (fun j => z_mck xM_X8 (t_X8 (fun _ => none)) (40 * 17 + j)) = true := by decide +kernel
set_option maxRecDepth 100000 in
theorem vMc_X8_18 : (List.range 40).all (fun j => z_mck xM_X8 (t_X8 (fun _ => none)) (40 * 18 + j)) = true := by decide +kernel
set_option maxRecDepth 100000 in
theorem vMc_X8_19 : (List.range 40).all (fun j => z_mck xM_X8 (t_X8 (fun _ => none)) (40 * 19 + j)) = true := by decide +kernel
set_option maxRecDepth 100000 in
theorem vMc_X8_20 : (List.range 40).all (fun j => z_mck xM_X8 (t_X8 (fun _ => none)) (40 * 20 + j)) = true := by decide +kernel
set_option maxRecDepth 100000 in
theorem vMc_X8_21 : (List.range 40).all (fun j => z_mck xM_X8 (t_X8 (fun _ => none)) (40 * 21 + j)) = true := by decide +kernel
set_option maxRecDepth 100000 in
theorem vMc_X8_22 : (List.range 40).all (fun j => z_mck xM_X8 (t_X8 (fun _ => none)) (40 * 22 + j)) = true := by decide +kernel
set_option maxRecDepth 100000 in
theorem vMc_X8_23 : (List.range 40).all (fun j => z_mck xM_X8 (t_X8 (fun _ => none)) (40 * 23 + j)) = true := by decide +kernel
set_option maxRecDepth 100000 in
theorem vMc_X8_24 : (List.range 40).all (fun j => z_mck xM_X8 (t_X8 (fun _ => none)) (40 * 24 + j)) = true := by decide +kernel
set_option maxRecDepth 100000 in
theorem vMc_X8 : ∀ c, c < 25 → (List.range 40).all (fun j => z_mck xM_X8 (t_X8 (fun _ => none)) (40 * c + j)) = true := by
  intro c hc
  match c, hc with
  | 0, _ => exact vMc_X8_0
  | 1, _ => exact vMc_X8_1
  | 2, _ => exact vMc_X8_2
  | 3, _ => exact vMc_X8_3
  | 4, _ => exact vMc_X8_4
  | 5, _ => exact vMc_X8_5
  | 6, _ => exact vMc_X8_6
  | 7, _ => exact vMc_X8_7
  | 8, _ => exact vMc_X8_8
  | 9, _ => exact vMc_X8_9
  | 10, _ => exact vMc_X8_10
  | 11, _ => exact vMc_X8_11
  | 12, _ => exact vMc_X8_12
  | 13, _ => exact vMc_X8_13
  | 14, _ => exact vMc_X8_14
  | 15, _ => exact vMc_X8_15
  | 16, _ => exact vMc_X8_16
  | 17, _ => exact vMc_X8_17
  | 18, _ => exact vMc_X8_18
  | 19, _ => exact vMc_X8_19
  | 20, _ => exact vMc_X8_20
  | 21, _ => exact vMc_X8_21
  | 22, _ => exact vMc_X8_22
  | 23, _ => exact vMc_X8_23
  | 24, _ => exact vMc_X8_24
  | n + 25, hc => exact absurd hc (by omega)
set_option maxRecDepth 100000 in
theorem vM_X8 (pu : Nat → Option ((List Value → z_H → Prop) × (List Value → z_H → Int32))) : z_MV (t_X8 pu) := z_MVof (C := (t_X8 (fun _ => none))) xM_X8 1000 (z_chunk 25 vMc_X8) (fun k hk => by show fM_X8 k = none; unfold fM_X8; first | rfl | (rw [z_bltF hk]; rfl))
set_option maxRecDepth 100000 in
theorem vQ_X8 (pu : Nat → Option ((List Value → z_H → Prop) × (List Value → z_H → Int32))) : (∀ k v, z_cQ (t_X8 pu) k = some (.inl v) → Cond.constant (z_cNm (t_X8 pu)) k v ∈ z_gt) ∧ (∀ k v, z_cQ (t_X8 pu) k = some (.inr (.inl v)) → Cond.constantLong (z_cNm (t_X8 pu)) k v ∈ z_gt) := z_QVof (C := (t_X8 (fun _ => none))) xQ_X8 1000 (by decide +kernel) (fun k hk => by show fQ_X8 k = none; unfold fQ_X8; first | rfl | (rw [z_bltF hk]; rfl))
set_option maxRecDepth 100000 in
theorem vS_X8 (pu : Nat → Option ((List Value → z_H → Prop) × (List Value → z_H → Int32))) : z_SV (t_X8 pu) := z_SVof (C := (t_X8 (fun _ => none))) 1000 (by decide +kernel) (fun k hk => by show fQ_X8 k = none; unfold fQ_X8; first | rfl | (rw [z_bltF hk]; rfl))
set_option maxRecDepth 100000 in
theorem v_X8 (pu : Nat → Option ((List Value → z_H → Prop) × (List Value → z_H → Int32))) {G : z_G} {d : Nat} {κ : z_Key} {b : Bool} {P} (hP : z_PV (κ, b, t_X8 pu, P)) (hPu : z_PuV G d (t_X8 pu)) : z_V G d (κ, b, t_X8 pu, P) := ⟨z_CFv, z_AVv, hP, vF_X8 pu, (vK_X8 pu).1, (vK_X8 pu).2, vM_X8 pu, (vQ_X8 pu).1, (vQ_X8 pu).2, vS_X8 pu, hPu⟩
set_option maxRecDepth 100000 in
def xF_X9 : Nat → Nat := fun k => (cond (Nat.blt k 18) (cond (Nat.blt k 15) 2148 2149) (cond (Nat.blt k 23) 1078 (cond (Nat.blt k 27) 1086 1070)))
set_option maxRecDepth 100000 in
def xK_X9 : Nat → Nat := fun k => 0
set_option maxRecDepth 100000 in
def xQ_X9 : Nat → Nat := fun k => 0
set_option maxRecDepth 100000 in
def xM_X9 : Nat → List Nat := fun k => (cond (Nat.blt k 40) (cond (Nat.blt k 30) [2147, 1033, 1034] (cond (Nat.blt k 36) [6123, 3010, 1023, 3011] [6124, 6125, 1012, 6126])) (cond (Nat.blt k 47) (cond (Nat.blt k 43) [6135, 6136, 1012, 6137] [6146, 6148, 67, 1012, 6149]) (cond (Nat.blt k 51) [6150, 6152, 68, 1012, 6153] [6154, 1056, 1005, 1057])))
set_option maxRecDepth 100000 in
theorem vF_X9 (pu : Nat → Option ((List Value → z_H → Prop) × (List Value → z_H → Int32))) : z_FV (t_X9 pu) := z_FVof (C := (t_X9 (fun _ => none))) xF_X9 1000 (by decide +kernel) (fun k hk => by show fF_X9 k = none; unfold fF_X9; first | rfl | (rw [z_bltF hk]; rfl))
set_option maxRecDepth 100000 in
theorem vK_X9 (pu : Nat → Option ((List Value → z_H → Prop) × (List Value → z_H → Int32))) : z_KV (t_X9 pu) ∧ z_TV (t_X9 pu) := z_KVof (C := (t_X9 (fun _ => none))) xK_X9 1000 (by decide +kernel) (fun k hk => by show fK_X9 k = none; unfold fK_X9; first | rfl | (rw [z_bltF hk]; rfl))
set_option maxRecDepth 100000 in
theorem vMc_X9_0 : (List.range 40).all (fun j => z_mck xM_X9 (t_X9 (fun _ => none)) (40 * 0 + j)) = true := by decide +kernel
set_option maxRecDepth 100000 in
theorem vMc_X9_1 : (List.range 40).all (fun j => z_mck xM_X9 (t_X9 (fun _ => none)) (40 * 1 + j)) = true := by decide +kernel
set_option maxRecDepth 100000 in
theorem vMc_X9_2 : (List.range 40).all (fun j => z_mck xM_X9 (t_X9 (fun _ => none)) (40 * 2 + j)) = true := by decide +kernel
set_option maxRecDepth 100000 in
theorem vMc_X9_3 : (List.range 40).all (fun j => z_mck xM_X9 (t_X9 (fun _ => none)) (40 * 3 + j)) = true := by decide +kernel
set_option maxRecDepth 100000 in
theorem vMc_X9_4 : (List.range 40).all (fun j => z_mck xM_X9 (t_X9 (fun _ => none)) (40 * 4 + j)) = true := by decide +kernel
set_option maxRecDepth 100000 in
theorem vMc_X9_5 : (List.range 40).all (fun j => z_mck xM_X9 (t_X9 (fun _ => none)) (40 * 5 + j)) = true := by decide +kernel
set_option maxRecDepth 100000 in
theorem vMc_X9_6 : (List.range 40).all (fun j => z_mck xM_X9 (t_X9 (fun _ => none)) (40 * 6 + j)) = true := by decide +kernel
set_option maxRecDepth 100000 in
theorem vMc_X9_7 : (List.range 40).all (fun j => z_mck xM_X9 (t_X9 (fun _ => none)) (40 * 7 + j)) = true := by decide +kernel
set_option maxRecDepth 100000 in
theorem vMc_X9_8 : (List.range 40).all (fun j => z_mck xM_X9 (t_X9 (fun _ => none)) (40 * 8 + j)) = true := by decide +kernel
set_option maxRecDepth 100000 in
theorem vMc_X9_9 : (List.range 40).all (fun j => z_mck xM_X9 (t_X9 (fun _ => none)) (40 * 9 + j)) = true := by decide +kernel
set_option maxRecDepth 100000 in
theorem vMc_X9_10 : (List.range 40).all (fun j => z_mck xM_X9 (t_X9 (fun _ => none)) (40 * 10 + j)) = true := by decide +kernel
set_option maxRecDepth 100000 in
theorem vMc_X9_11 : (List.range 40).all (fun j => z_mck xM_X9 (t_X9 (fun _ => none)) (40 * 11 + j)) = true := by decide +kernel
set_option maxRecDepth 100000 in
theorem vMc_X9_12 : (List.range 40).all (fun j => z_mck xM_X9 (t_X9 (fun _ => none)) (40 * 12 + j)) = true := by decide +kernel
set_option maxRecDepth 100000 in
theorem vMc_X9_13 : (List.range 40).all (fun j => z_mck xM_X9 (t_X9 (fun _ => none)) (40 * 13 + j)) = true := by decide +kernel
set_option maxRecDepth 100000 in
theorem vMc_X9_14 : (List.range 40).all (fun j => z_mck xM_X9 (t_X9 (fun _ => none)) (40 * 14 + j)) = true := by decide +kernel
set_option maxRecDepth 100000 in
theorem vMc_X9_15 : (List.range 40).all (fun j => z_mck xM_X9 (t_X9 (fun _ => none)) (40 * 15 + j)) = true := by decide +kernel
set_option maxRecDepth 100000 in
theorem vMc_X9_16 : (List.range 40).all (fun j => z_mck xM_X9 (t_X9 (fun _ => none)) (40 * 16 + j)) = true := by decide +kernel
set_option maxRecDepth 100000 in
theorem vMc_X9_17 : (List.range 40).all (fun j => z_mck xM_X9 (t_X9 (fun _ => none)) (40 * 17 + j)) = true := by decide +kernel
set_option maxRecDepth 100000 in
theorem vMc_X9_18 : (List.range 40).all (fun j => z_mck xM_X9 (t_X9 (fun _ => none)) (40 * 18 + j)) = true := by decide +kernel
set_option maxRecDepth 100000 in
theorem vMc_X9_19 : (List.range 40).all (fun j => z_mck xM_X9 (t_X9 (fun _ => none)) (40 * 19 + j)) = true := by decide +kernel
set_option maxRecDepth 100000 in
theorem vMc_X9_20 : (List.range 40).all (fun j => z_mck xM_X9 (t_X9 (fun _ => none)) (40 * 20 + j)) = true := by decide +kernel
set_option maxRecDepth 100000 in
theorem vMc_X9_21 : (List.range 40).all (fun j => z_mck xM_X9 (t_X9 (fun _ => none)) (40 * 21 + j)) = true := by decide +kernel
set_option maxRecDepth 100000 in
theorem vMc_X9_22 : (List.range 40).all (fun j => z_mck xM_X9 (t_X9 (fun _ => none)) (40 * 22 + j)) = true := by decide +kernel
set_option maxRecDepth 100000 in
theorem vMc_X9_23 : (List.range 40).all (fun j => z_mck xM_X9 (t_X9 (fun _ => none)) (40 * 23 + j)) = true := by decide +kernel
set_option maxRecDepth 100000 in
theorem vMc_X9_24 : (List.range 40).all (fun j => z_mck xM_X9 (t_X9 (fun _ => none)) (40 * 24 + j)) = true := by decide +kernel
set_option maxRecDepth 100000 in
theorem vMc_X9 : ∀ c, c < 25 → (List.range 40).all (fun j => z_mck xM_X9 (t_X9 (fun _ => none)) (40 * c + j)) = true := by
  intro c hc
  match c, hc with
  | 0, _ => exact vMc_X9_0
  | 1, _ => exact vMc_X9_1
  | 2, _ => exact vMc_X9_2
  | 3, _ => exact vMc_X9_3
  | 4, _ => exact vMc_X9_4
  | 5, _ => exact vMc_X9_5
  | 6, _ => exact vMc_X9_6
  | 7, _ => exact vMc_X9_7
  | 8, _ => exact vMc_X9_8
  | 9, _ => exact vMc_X9_9
  | 10, _ => exact vMc_X9_10
  | 11, _ => exact vMc_X9_11
  | 12, _ => exact vMc_X9_12
  | 13, _ => exact vMc_X9_13
  | 14, _ => exact vMc_X9_14
  | 15, _ => exact vMc_X9_15
  | 16, _ => exact vMc_X9_16
  | 17, _ => exact vMc_X9_17
  | 18, _ => exact vMc_X9_18
  | 19, _ => exact vMc_X9_19
  | 20, _ => exact vMc_X9_20
  | 21, _ => exact vMc_X9_21
  | 22, _ => exact vMc_X9_22
  | 23, _ => exact vMc_X9_23
  | 24, _ => exact vMc_X9_24
  | n + 25, hc => exact absurd hc (by omega)
set_option maxRecDepth 100000 in
theorem vM_X9 (pu : Nat → Option ((List Value → z_H → Prop) × (List Value → z_H → Int32))) : z_MV (t_X9 pu) := z_MVof (C := (t_X9 (fun _ => none))) xM_X9 1000 (z_chunk 25 vMc_X9) (fun k hk => by show fM_X9 k = none; unfold fM_X9; first | rfl | (rw [z_bltF hk]; rfl))
set_option maxRecDepth 100000 in
theorem vQ_X9 (pu : Nat → Option ((List Value → z_H → Prop) × (List Value → z_H → Int32))) : (∀ k v, z_cQ (t_X9 pu) k = some (.inl v) → Cond.constant (z_cNm (t_X9 pu)) k v ∈ z_gt) ∧ (∀ k v, z_cQ (t_X9 pu) k = some (.inr (.inl v)) → Cond.constantLong (z_cNm (t_X9 pu)) k v ∈ z_gt) := z_QVof (C := (t_X9 (fun _ => none))) xQ_X9 1000 (by decide +kernel) (fun k hk => by show fQ_X9 k = none; unfold fQ_X9; first | rfl | (rw [z_bltF hk]; rfl))
set_option maxRecDepth 100000 in
theorem vS_X9 (pu : Nat → Option ((List Value → z_H → Prop) × (List Value → z_H → Int32))) : z_SV (t_X9 pu) := z_SVof (C := (t_X9 (fun _ => none))) 1000 (by decide +kernel) (fun k hk => by show fQ_X9 k = none; unfold fQ_X9; first | rfl | (rw [z_bltF hk]; rfl))
set_option maxRecDepth 100000 in
theorem v_X9 (pu : Nat → Option ((List Value → z_H → Prop) × (List Value → z_H → Int32))) {G : z_G} {d : Nat} {κ : z_Key} {b : Bool} {P} (hP : z_PV (κ, b, t_X9 pu, P)) (hPu : z_PuV G d (t_X9 pu)) : z_V G d (κ, b, t_X9 pu, P) := ⟨z_CFv, z_AVv, hP, vF_X9 pu, (vK_X9 pu).1, (vK_X9 pu).2, vM_X9 pu, (vQ_X9 pu).1, (vQ_X9 pu).2, vS_X9 pu, hPu⟩
set_option maxRecDepth 100000 in
def xF_X10 : Nat → Nat := fun k => (cond (Nat.blt k 22) (cond (Nat.blt k 15) 2161 (cond (Nat.blt k 19) 2162 2164)) (cond (Nat.blt k 28) (cond (Nat.blt k 25) 2166 1079) (cond (Nat.blt k 39) 1087 1069)))
set_option maxRecDepth 100000 in
def xK_X10 : Nat → Nat := fun k => 0
set_option maxRecDepth 100000 in
def xQ_X10 : Nat → Nat := fun k => 6215
set_option maxRecDepth 100000 in
def xM_X10 : Nat → List Nat := fun k => (cond (Nat.blt k 42) (cond (Nat.blt k 29) [2160, 1033, 1034] (cond (Nat.blt k 35) [6210, 1060, 1059, 1006] [6211, 6213, 73, 1013, 6214])) (cond (Nat.blt k 50) (cond (Nat.blt k 46) [6216, 6218, 74, 1013, 6219] [6222, 6224, 75, 1013, 6225]) (cond (Nat.blt k 55) [6220, 3010, 1023, 3011] [6221, 3016, 1003, 3017])))
set_option maxRecDepth 100000 in
theorem vF_X10 (pu : Nat → Option ((List Value → z_H → Prop) × (List Value → z_H → Int32))) : z_FV (t_X10 pu) := z_FVof (C := (t_X10 (fun _ => none))) xF_X10 1000 (by decide +kernel) (fun k hk => by show fF_X10 k = none; unfold fF_X10; first | rfl | (rw [z_bltF hk]; rfl))
set_option maxRecDepth 100000 in
theorem vK_X10 (pu : Nat → Option ((List Value → z_H → Prop) × (List Value → z_H → Int32))) : z_KV (t_X10 pu) ∧ z_TV (t_X10 pu) := z_KVof (C := (t_X10 (fun _ => none))) xK_X10 1000 (by decide +kernel) (fun k hk => by show fK_X10 k = none; unfold fK_X10; first | rfl | (rw [z_bltF hk]; rfl))
set_option maxRecDepth 100000 in
theorem vMc_X10_0 : (List.range 40).all (fun j => z_mck xM_X10 (t_X10 (fun _ => none)) (40 * 0 + j)) = true := by decide +kernel
set_option maxRecDepth 100000 in
theorem vMc_X10_1 : (List.range 40).all (fun j => z_mck xM_X10 (t_X10 (fun _ => none)) (40 * 1 + j)) = true := by decide +kernel
set_option maxRecDepth 100000 in
theorem vMc_X10_2 : (List.range 40).all (fun j => z_mck xM_X10 (t_X10 (fun _ => none)) (40 * 2 + j)) = true := by decide +kernel
set_option maxRecDepth 100000 in
theorem vMc_X10_3 : (List.range 40).all (fun j => z_mck xM_X10 (t_X10 (fun _ => none)) (40 * 3 + j)) = true := by decide +kernel
set_option maxRecDepth 100000 in
theorem vMc_X10_4 : (List.range 40).all (fun j => z_mck xM_X10 (t_X10 (fun _ => none)) (40 * 4 + j)) = true := by decide +kernel
set_option maxRecDepth 100000 in
theorem vMc_X10_5 : (List.range 40).all (fun j => z_mck xM_X10 (t_X10 (fun _ => none)) (40 * 5 + j)) = true := by decide +kernel
set_option maxRecDepth 100000 in
theorem vMc_X10_6 : (List.range 40).all (fun j => z_mck xM_X10 (t_X10 (fun _ => none)) (40 * 6 + j)) = true := by decide +kernel
set_option maxRecDepth 100000 in
theorem vMc_X10_7 : (List.range 40).all (fun j => z_mck xM_X10 (t_X10 (fun _ => none)) (40 * 7 + j)) = true := by decide +kernel
set_option maxRecDepth 100000 in
theorem vMc_X10_8 : (List.range 40).all (fun j => z_mck xM_X10 (t_X10 (fun _ => none)) (40 * 8 + j)) = true := by decide +kernel
set_option maxRecDepth 100000 in
theorem vMc_X10_9 : (List.range 40).all (fun j => z_mck xM_X10 (t_X10 (fun _ => none)) (40 * 9 + j)) = true := by decide +kernel
set_option maxRecDepth 100000 in
theorem vMc_X10_10 : (List.range 40).all (fun j => z_mck xM_X10 (t_X10 (fun _ => none)) (40 * 10 + j)) = true := by decide +kernel
set_option maxRecDepth 100000 in
theorem vMc_X10_11 : (List.range 40).all (fun j => z_mck xM_X10 (t_X10 (fun _ => none)) (40 * 11 + j)) = true := by decide +kernel
set_option maxRecDepth 100000 in
theorem vMc_X10_12 : (List.range 40).all (fun j => z_mck xM_X10 (t_X10 (fun _ => none)) (40 * 12 + j)) = true := by decide +kernel
set_option maxRecDepth 100000 in
theorem vMc_X10_13 : (List.range 40).all (fun j => z_mck xM_X10 (t_X10 (fun _ => none)) (40 * 13 + j)) = true := by decide +kernel
set_option maxRecDepth 100000 in
theorem vMc_X10_14 : (List.range 40).all (fun j => z_mck xM_X10 (t_X10 (fun _ => none)) (40 * 14 + j)) = true := by decide +kernel
set_option maxRecDepth 100000 in
theorem vMc_X10_15 : (List.range 40).all (fun j => z_mck xM_X10 (t_X10 (fun _ => none)) (40 * 15 + j)) = true := by decide +kernel
set_option maxRecDepth 100000 in
theorem vMc_X10_16 : (List.range 40).all (fun j => z_mck xM_X10 (t_X10 (fun _ => none)) (40 * 16 + j)) = true := by decide +kernel
set_option maxRecDepth 100000 in
theorem vMc_X10_17 : (List.range 40).all (fun j => z_mck xM_X10 (t_X10 (fun _ => none)) (40 * 17 + j)) = true := by decide +kernel
set_option maxRecDepth 100000 in
theorem vMc_X10_18 : (List.range 40).all (fun j => z_mck xM_X10 (t_X10 (fun _ => none)) (40 * 18 + j)) = true := by decide +kernel
set_option maxRecDepth 100000 in
theorem vMc_X10_19 : (List.range 40).all (fun j => z_mck xM_X10 (t_X10 (fun _ => none)) (40 * 19 + j)) = true := by decide +kernel
set_option maxRecDepth 100000 in
theorem vMc_X10_20 : (List.range 40).all (fun j => z_mck xM_X10 (t_X10 (fun _ => none)) (40 * 20 + j)) = true := by decide +kernel
set_option maxRecDepth 100000 in
theorem vMc_X10_21 : (List.range 40).all (fun j => z_mck xM_X10 (t_X10 (fun _ => none)) (40 * 21 + j)) = true := by decide +kernel
set_option maxRecDepth 100000 in
theorem vMc_X10_22 : (List.range 40).all (fun j => z_mck xM_X10 (t_X10 (fun _ => none)) (40 * 22 + j)) = true := by decide +kernel
set_option maxRecDepth 100000 in
theorem vMc_X10_23 : (List.range 40).all (fun j => z_mck xM_X10 (t_X10 (fun _ => none)) (40 * 23 + j)) = true := by decide +kernel
set_option maxRecDepth 100000 in
theorem vMc_X10_24 : (List.range 40).all (fun j => z_mck xM_X10 (t_X10 (fun _ => none)) (40 * 24 + j)) = true := by decide +kernel
set_option maxRecDepth 100000 in
theorem vMc_X10 : ∀ c, c < 25 → (List.range 40).all (fun j => z_mck xM_X10 (t_X10 (fun _ => none)) (40 * c + j)) = true := by
  intro c hc
  match c, hc with
  | 0, _ => exact vMc_X10_0
  | 1, _ => exact vMc_X10_1
  | 2, _ => exact vMc_X10_2
  | 3, _ => exact vMc_X10_3
  | 4, _ => exact vMc_X10_4
  | 5, _ => exact vMc_X10_5
  | 6, _ => exact vMc_X10_6
  | 7, _ => exact vMc_X10_7
  | 8, _ => exact vMc_X10_8
  | 9, _ => exact vMc_X10_9
  | 10, _ => exact vMc_X10_10
  | 11, _ => exact vMc_X10_11
  | 12, _ => exact vMc_X10_12
  | 13, _ => exact vMc_X10_13
  | 14, _ => exact vMc_X10_14
  | 15, _ => exact vMc_X10_15
  | 16, _ => exact vMc_X10_16
  | 17, _ => exact vMc_X10_17
  | 18, _ => exact vMc_X10_18
  | 19, _ => exact vMc_X10_19
  | 20, _ => exact vMc_X10_20
  | 21, _ => exact vMc_X10_21
  | 22, _ => exact vMc_X10_22
  | 23, _ => exact vMc_X10_23
  | 24, _ => exact vMc_X10_24
  | n + 25, hc => exact absurd hc (by omega)
set_option maxRecDepth 100000 in
theorem vM_X10 (pu : Nat → Option ((List Value → z_H → Prop) × (List Value → z_H → Int32))) : z_MV (t_X10 pu) := z_MVof (C := (t_X10 (fun _ => none))) xM_X10 1000 (z_chunk 25 vMc_X10) (fun k hk => by show fM_X10 k = none; unfold fM_X10; first | rfl | (rw [z_bltF hk]; rfl))
set_option maxRecDepth 100000 in
theorem vQ_X10 (pu : Nat → Option ((List Value → z_H → Prop) × (List Value → z_H → Int32))) : (∀ k v, z_cQ (t_X10 pu) k = some (.inl v) → Cond.constant (z_cNm (t_X10 pu)) k v ∈ z_gt) ∧ (∀ k v, z_cQ (t_X10 pu) k = some (.inr (.inl v)) → Cond.constantLong (z_cNm (t_X10 pu)) k v ∈ z_gt) := z_QVof (C := (t_X10 (fun _ => none))) xQ_X10 1000 (by decide +kernel) (fun k hk => by show fQ_X10 k = none; unfold fQ_X10; first | rfl | (rw [z_bltF hk]; rfl))
set_option maxRecDepth 100000 in
theorem vS_X10 (pu : Nat → Option ((List Value → z_H → Prop) × (List Value → z_H → Int32))) : z_SV (t_X10 pu) := z_SVof (C := (t_X10 (fun _ => none))) 1000 (by decide +kernel) (fun k hk => by show fQ_X10 k = none; unfold fQ_X10; first | rfl | (rw [z_bltF hk]; rfl))
set_option maxRecDepth 100000 in
theorem v_X10 (pu : Nat → Option ((List Value → z_H → Prop) × (List Value → z_H → Int32))) {G : z_G} {d : Nat} {κ : z_Key} {b : Bool} {P} (hP : z_PV (κ, b, t_X10 pu, P)) (hPu : z_PuV G d (t_X10 pu)) : z_V G d (κ, b, t_X10 pu, P) := ⟨z_CFv, z_AVv, hP, vF_X10 pu, (vK_X10 pu).1, (vK_X10 pu).2, vM_X10 pu, (vQ_X10 pu).1, (vQ_X10 pu).2, vS_X10 pu, hPu⟩
set_option maxRecDepth 100000 in
def xF_J6 : Nat → Nat := fun k => 0
set_option maxRecDepth 100000 in
def xK_J6 : Nat → Nat := fun k => 0
set_option maxRecDepth 100000 in
def xQ_J6 : Nat → Nat := fun k => (cond (Nat.blt k 266) (cond (Nat.blt k 265) 5107 3012) (cond (Nat.blt k 267) 3013 3014))
set_option maxRecDepth 100000 in
def xM_J6 : Nat → List Nat := fun k => []
set_option maxRecDepth 100000 in
theorem vF_J6 (pu : Nat → Option ((List Value → z_H → Prop) × (List Value → z_H → Int32))) : z_FV (t_J6 pu) := z_FVof (C := (t_J6 (fun _ => none))) xF_J6 1000 (by decide +kernel) (fun k hk => by show fF_J6 k = none; unfold fF_J6; first | rfl | (rw [z_bltF hk]; rfl))
set_option maxRecDepth 100000 in
theorem vK_J6 (pu : Nat → Option ((List Value → z_H → Prop) × (List Value → z_H → Int32))) : z_KV (t_J6 pu) ∧ z_TV (t_J6 pu) := z_KVof (C := (t_J6 (fun _ => none))) xK_J6 1000 (by decide +kernel) (fun k hk => by show fK_J6 k = none; unfold fK_J6; first | rfl | (rw [z_bltF hk]; rfl))
set_option maxRecDepth 100000 in
theorem vMc_J6_0 : (List.range 40).all (fun j => z_mck xM_J6 (t_J6 (fun _ => none)) (40 * 0 + j)) = true := by decide +kernel
set_option maxRecDepth 100000 in
theorem vMc_J6_1 : (List.range 40).all (fun j => z_mck xM_J6 (t_J6 (fun _ => none)) (40 * 1 + j)) = true := by decide +kernel
set_option maxRecDepth 100000 in
theorem vMc_J6_2 : (List.range 40).all (fun j => z_mck xM_J6 (t_J6 (fun _ => none)) (40 * 2 + j)) = true := by decide +kernel
set_option maxRecDepth 100000 in
theorem vMc_J6_3 : (List.range 40).all (fun j => z_mck xM_J6 (t_J6 (fun _ => none)) (40 * 3 + j)) = true := by decide +kernel
set_option maxRecDepth 100000 in
theorem vMc_J6_4 : (List.range 40).all (fun j => z_mck xM_J6 (t_J6 (fun _ => none)) (40 * 4 + j)) = true := by decide +kernel
set_option maxRecDepth 100000 in
theorem vMc_J6_5 : (List.range 40).all (fun j => z_mck xM_J6 (t_J6 (fun _ => none)) (40 * 5 + j)) = true := by decide +kernel
set_option maxRecDepth 100000 in
theorem vMc_J6_6 : (List.range 40).all (fun j => z_mck xM_J6 (t_J6 (fun _ => none)) (40 * 6 + j)) = true := by decide +kernel
set_option maxRecDepth 100000 in
theorem vMc_J6_7 : (List.range 40).all (fun j => z_mck xM_J6 (t_J6 (fun _ => none)) (40 * 7 + j)) = true := by decide +kernel
set_option maxRecDepth 100000 in
theorem vMc_J6_8 : (List.range 40).all (fun j => z_mck xM_J6 (t_J6 (fun _ => none)) (40 * 8 + j)) = true := by decide +kernel
set_option maxRecDepth 100000 in
theorem vMc_J6_9 : (List.range 40).all (fun j => z_mck xM_J6 (t_J6 (fun _ => none)) (40 * 9 + j)) = true := by decide +kernel
set_option maxRecDepth 100000 in
theorem vMc_J6_10 : (List.range 40).all (fun j => z_mck xM_J6 (t_J6 (fun _ => none)) (40 * 10 + j)) = true := by decide +kernel
set_option maxRecDepth 100000 in
theorem vMc_J6_11 : (List.range 40).all (fun j => z_mck xM_J6 (t_J6 (fun _ => none)) (40 * 11 + j)) = true := by decide +kernel
set_option maxRecDepth 100000 in
theorem vMc_J6_12 : (List.range 40).all (fun j => z_mck xM_J6 (t_J6 (fun _ => none)) (40 * 12 + j)) = true := by decide +kernel
set_option maxRecDepth 100000 in
theorem vMc_J6_13 : (List.range 40).all (fun j => z_mck xM_J6 (t_J6 (fun _ => none)) (40 * 13 + j)) = true := by decide +kernel
set_option maxRecDepth 100000 in
theorem vMc_J6_14 : (List.range 40).all (fun j => z_mck xM_J6 (t_J6 (fun _ => none)) (40 * 14 + j)) = true := by decide +kernel
set_option maxRecDepth 100000 in
theorem vMc_J6_15 : (List.range 40).all (fun j => z_mck xM_J6 (t_J6 (fun _ => none)) (40 * 15 + j)) = true := by decide +kernel
set_option maxRecDepth 100000 in
theorem vMc_J6_16 : (List.range 40).all (fun j => z_mck xM_J6 (t_J6 (fun _ => none)) (40 * 16 + j)) = true := by decide +kernel
set_option maxRecDepth 100000 in
theorem vMc_J6_17 : (List.range 40).all (fun j => z_mck xM_J6 (t_J6 (fun _ => none)) (40 * 17 + j)) = true := by decide +kernel
set_option maxRecDepth 100000 in
theorem vMc_J6_18 : (List.range 40).all (fun j => z_mck xM_J6 (t_J6 (fun _ => none)) (40 * 18 + j)) = true := by decide +kernel
set_option maxRecDepth 100000 in
theorem vMc_J6_19 : (List.range 40).all (fun j => z_mck xM_J6 (t_J6 (fun _ => none)) (40 * 19 + j)) = true := by decide +kernel
set_option maxRecDepth 100000 in
theorem vMc_J6_20 : (List.range 40).all (fun j => z_mck xM_J6 (t_J6 (fun _ => none)) (40 * 20 + j)) = true := by decide +kernel
set_option maxRecDepth 100000 in
theorem vMc_J6_21 : (List.range 40).all (fun j => z_mck xM_J6 (t_J6 (fun _ => none)) (40 * 21 + j)) = true := by decide +kernel
set_option maxRecDepth 100000 in
theorem vMc_J6_22 : (List.range 40).all (fun j => z_mck xM_J6 (t_J6 (fun _ => none)) (40 * 22 + j)) = true := by decide +kernel
set_option maxRecDepth 100000 in
theorem vMc_J6_23 : (List.range 40).all (fun j => z_mck xM_J6 (t_J6 (fun _ => none)) (40 * 23 + j)) = true := by decide +kernel
set_option maxRecDepth 100000 in
theorem vMc_J6_24 : (List.range 40).all (fun j => z_mck xM_J6 (t_J6 (fun _ => none)) (40 * 24 + j)) = true := by decide +kernel
set_option maxRecDepth 100000 in
theorem vMc_J6 : ∀ c, c < 25 → (List.range 40).all (fun j => z_mck xM_J6 (t_J6 (fun _ => none)) (40 * c + j)) = true := by
  intro c hc
  match c, hc with
  | 0, _ => exact vMc_J6_0
  | 1, _ => exact vMc_J6_1
  | 2, _ => exact vMc_J6_2
  | 3, _ => exact vMc_J6_3
  | 4, _ => exact vMc_J6_4
  | 5, _ => exact vMc_J6_5
  | 6, _ => exact vMc_J6_6
  | 7, _ => exact vMc_J6_7
  | 8, _ => exact vMc_J6_8
  | 9, _ => exact vMc_J6_9
  | 10, _ => exact vMc_J6_10
  | 11, _ => exact vMc_J6_11
  | 12, _ => exact vMc_J6_12
  | 13, _ => exact vMc_J6_13
  | 14, _ => exact vMc_J6_14
  | 15, _ => exact vMc_J6_15
  | 16, _ => exact vMc_J6_16
  | 17, _ => exact vMc_J6_17
  | 18, _ => exact vMc_J6_18
  | 19, _ => exact vMc_J6_19
  | 20, _ => exact vMc_J6_20
  | 21, _ => exact vMc_J6_21
  | 22, _ => exact vMc_J6_22
  | 23, _ => exact vMc_J6_23
  | 24, _ => exact vMc_J6_24
  | n + 25, hc => exact absurd hc (by omega)
set_option maxRecDepth 100000 in
theorem vM_J6 (pu : Nat → Option ((List Value → z_H → Prop) × (List Value → z_H → Int32))) : z_MV (t_J6 pu) := z_MVof (C := (t_J6 (fun _ => none))) xM_J6 1000 (z_chunk 25 vMc_J6) (fun k hk => by show fM_J6 k = none; unfold fM_J6; first | rfl | (rw [z_bltF hk]; rfl))
set_option maxRecDepth 100000 in
theorem vQ_J6 (pu : Nat → Option ((List Value → z_H → Prop) × (List Value → z_H → Int32))) : (∀ k v, z_cQ (t_J6 pu) k = some (.inl v) → Cond.constant (z_cNm (t_J6 pu)) k v ∈ z_gt) ∧ (∀ k v, z_cQ (t_J6 pu) k = some (.inr (.inl v)) → Cond.constantLong (z_cNm (t_J6 pu)) k v ∈ z_gt) := z_QVof (C := (t_J6 (fun _ => none))) xQ_J6 1000 (by decide +kernel) (fun k hk => by show fQ_J6 k = none; unfold fQ_J6; first | rfl | (rw [z_bltF hk]; rfl))
set_option maxRecDepth 100000 in
theorem vS_J6 (pu : Nat → Option ((List Value → z_H → Prop) × (List Value → z_H → Int32))) : z_SV (t_J6 pu) := z_SVof (C := (t_J6 (fun _ => none))) 1000 (by decide +kernel) (fun k hk => by show fQ_J6 k = none; unfold fQ_J6; first | rfl | (rw [z_bltF hk]; rfl))
set_option maxRecDepth 100000 in
theorem v_J6 (pu : Nat → Option ((List Value → z_H → Prop) × (List Value → z_H → Int32))) {G : z_G} {d : Nat} {κ : z_Key} {b : Bool} {P} (hP : z_PV (κ, b, t_J6 pu, P)) (hPu : z_PuV G d (t_J6 pu)) : z_V G d (κ, b, t_J6 pu, P) := ⟨z_CFv, z_AVv, hP, vF_J6 pu, (vK_J6 pu).1, (vK_J6 pu).2, vM_J6 pu, (vQ_J6 pu).1, (vQ_J6 pu).2, vS_J6 pu, hPu⟩
set_option maxRecDepth 100000 in
def xF_J7 : Nat → Nat := fun k => 0
set_option maxRecDepth 100000 in
def xK_J7 : Nat → Nat := fun k => 1054
set_option maxRecDepth 100000 in
def xQ_J7 : Nat → Nat := fun k => 0
set_option maxRecDepth 100000 in
def xM_J7 : Nat → List Nat := fun k => (cond (Nat.blt k 304) [1058, 1060, 1059, 1006] (cond (Nat.blt k 316) [1055, 1056, 1005, 1057] [1048, 1049, 1050, 1051, 1052]))
set_option maxRecDepth 100000 in
theorem vF_J7 (pu : Nat → Option ((List Value → z_H → Prop) × (List Value → z_H → Int32))) : z_FV (t_J7 pu) := z_FVof (C := (t_J7 (fun _ => none))) xF_J7 1000 (by decide +kernel) (fun k hk => by show fF_J7 k = none; unfold fF_J7; first | rfl | (rw [z_bltF hk]; rfl))
set_option maxRecDepth 100000 in
theorem vK_J7 (pu : Nat → Option ((List Value → z_H → Prop) × (List Value → z_H → Int32))) : z_KV (t_J7 pu) ∧ z_TV (t_J7 pu) := z_KVof (C := (t_J7 (fun _ => none))) xK_J7 1000 (by decide +kernel) (fun k hk => by show fK_J7 k = none; unfold fK_J7; first | rfl | (rw [z_bltF hk]; rfl))
set_option maxRecDepth 100000 in
theorem vMc_J7_0 : (List.range 40).all (fun j => z_mck xM_J7 (t_J7 (fun _ => none)) (40 * 0 + j)) = true := by decide +kernel
set_option maxRecDepth 100000 in
theorem vMc_J7_1 : (List.range 40).all (fun j => z_mck xM_J7 (t_J7 (fun _ => none)) (40 * 1 + j)) = true := by decide +kernel
set_option maxRecDepth 100000 in
theorem vMc_J7_2 : (List.range 40).all (fun j => z_mck xM_J7 (t_J7 (fun _ => none)) (40 * 2 + j)) = true := by decide +kernel
set_option maxRecDepth 100000 in
theorem vMc_J7_3 : (List.range 40).all (fun j => z_mck xM_J7 (t_J7 (fun _ => none)) (40 * 3 + j)) = true := by decide +kernel
set_option maxRecDepth 100000 in
theorem vMc_J7_4 : (List.range 40).all (fun j => z_mck xM_J7 (t_J7 (fun _ => none)) (40 * 4 + j)) = true := by decide +kernel
set_option maxRecDepth 100000 in
theorem vMc_J7_5 : (List.range 40).all (fun j => z_mck xM_J7 (t_J7 (fun _ => none)) (40 * 5 + j)) = true := by decide +kernel
set_option maxRecDepth 100000 in
theorem vMc_J7_6 : (List.range 40).all (fun j => z_mck xM_J7 (t_J7 (fun _ => none)) (40 * 6 + j)) = true := by decide +kernel
set_option maxRecDepth 100000 in
theorem vMc_J7_7 : (List.range 40).all (fun j => z_mck xM_J7 (t_J7 (fun _ => none)) (40 * 7 + j)) = true := by decide +kernel
set_option maxRecDepth 100000 in
theorem vMc_J7_8 : (List.range 40).all (fun j => z_mck xM_J7 (t_J7 (fun _ => none)) (40 * 8 + j)) = true := by decide +kernel
set_option maxRecDepth 100000 in
theorem vMc_J7_9 : (List.range 40).all (fun j => z_mck xM_J7 (t_J7 (fun _ => none)) (40 * 9 + j)) = true := by decide +kernel
set_option maxRecDepth 100000 in
theorem vMc_J7_10 : (List.range 40).all (fun j => z_mck xM_J7 (t_J7 (fun _ => none)) (40 * 10 + j)) = true := by decide +kernel
set_option maxRecDepth 100000 in
theorem vMc_J7_11 : (List.range 40).all (fun j => z_mck xM_J7 (t_J7 (fun _ => none)) (40 * 11 + j)) = true := by decide +kernel
set_option maxRecDepth 100000 in
theorem vMc_J7_12 : (List.range 40).all (fun j => z_mck xM_J7 (t_J7 (fun _ => none)) (40 * 12 + j)) = true := by decide +kernel
set_option maxRecDepth 100000 in
theorem vMc_J7_13 : (List.range 40).all (fun j => z_mck xM_J7 (t_J7 (fun _ => none)) (40 * 13 + j)) = true := by decide +kernel
set_option maxRecDepth 100000 in
theorem vMc_J7_14 : (List.range 40).all (fun j => z_mck xM_J7 (t_J7 (fun _ => none)) (40 * 14 + j)) = true := by decide +kernel
set_option maxRecDepth 100000 in
theorem vMc_J7_15 : (List.range 40).all (fun j => z_mck xM_J7 (t_J7 (fun _ => none)) (40 * 15 + j)) = true := by decide +kernel
set_option maxRecDepth 100000 in
theorem vMc_J7_16 : (List.range 40).all (fun j => z_mck xM_J7 (t_J7 (fun _ => none)) (40 * 16 + j)) = true := by decide +kernel
set_option maxRecDepth 100000 in
theorem vMc_J7_17 : (List.range 40).all (fun j => z_mck xM_J7 (t_J7 (fun _ => none)) (40 * 17 + j)) = true := by decide +kernel
set_option maxRecDepth 100000 in
theorem vMc_J7_18 : (List.range 40).all (fun j => z_mck xM_J7 (t_J7 (fun _ => none)) (40 * 18 + j)) = true := by decide +kernel
set_option maxRecDepth 100000 in
theorem vMc_J7_19 : (List.range 40).all (fun j => z_mck xM_J7 (t_J7 (fun _ => none)) (40 * 19 + j)) = true := by decide +kernel
set_option maxRecDepth 100000 in
theorem vMc_J7_20 : (List.range 40).all (fun j => z_mck xM_J7 (t_J7 (fun _ => none)) (40 * 20 + j)) = true := by decide +kernel
set_option maxRecDepth 100000 in
theorem vMc_J7_21 : (List.range 40).all (fun j => z_mck xM_J7 (t_J7 (fun _ => none)) (40 * 21 + j)) = true := by decide +kernel
set_option maxRecDepth 100000 in
theorem vMc_J7_22 : (List.range 40).all (fun j => z_mck xM_J7 (t_J7 (fun _ => none)) (40 * 22 + j)) = true := by decide +kernel
set_option maxRecDepth 100000 in
theorem vMc_J7_23 : (List.range 40).all (fun j => z_mck xM_J7 (t_J7 (fun _ => none)) (40 * 23 + j)) = true := by decide +kernel
set_option maxRecDepth 100000 in
theorem vMc_J7_24 : (List.range 40).all (fun j => z_mck xM_J7 (t_J7 (fun _ => none)) (40 * 24 + j)) = true := by decide +kernel
set_option maxRecDepth 100000 in
theorem vMc_J7 : ∀ c, c < 25 → (List.range 40).all (fun j => z_mck xM_J7 (t_J7 (fun _ => none)) (40 * c + j)) = true := by
  intro c hc
  match c, hc with
  | 0, _ => exact vMc_J7_0
  | 1, _ => exact vMc_J7_1
  | 2, _ => exact vMc_J7_2
  | 3, _ => exact vMc_J7_3
  | 4, _ => exact vMc_J7_4
  | 5, _ => exact vMc_J7_5
  | 6, _ => exact vMc_J7_6
  | 7, _ => exact vMc_J7_7
  | 8, _ => exact vMc_J7_8
  | 9, _ => exact vMc_J7_9
  | 10, _ => exact vMc_J7_10
  | 11, _ => exact vMc_J7_11
  | 12, _ => exact vMc_J7_12
  | 13, _ => exact vMc_J7_13
  | 14, _ => exact vMc_J7_14
  | 15, _ => exact vMc_J7_15
  | 16, _ => exact vMc_J7_16
  | 17, _ => exact vMc_J7_17
  | 18, _ => exact vMc_J7_18
  | 19, _ => exact vMc_J7_19
  | 20, _ => exact vMc_J7_20
  | 21, _ => exact vMc_J7_21
  | 22, _ => exact vMc_J7_22
  | 23, _ => exact vMc_J7_23
  | 24, _ => exact vMc_J7_24
  | n + 25, hc => exact absurd hc (by omega)
set_option maxRecDepth 100000 in
theorem vM_J7 (pu : Nat → Option ((List Value → z_H → Prop) × (List Value → z_H → Int32))) : z_MV (t_J7 pu) := z_MVof (C := (t_J7 (fun _ => none))) xM_J7 1000 (z_chunk 25 vMc_J7) (fun k hk => by show fM_J7 k = none; unfold fM_J7; first | rfl | (rw [z_bltF hk]; rfl))
set_option maxRecDepth 100000 in
theorem vQ_J7 (pu : Nat → Option ((List Value → z_H → Prop) × (List Value → z_H → Int32))) : (∀ k v, z_cQ (t_J7 pu) k = some (.inl v) → Cond.constant (z_cNm (t_J7 pu)) k v ∈ z_gt) ∧ (∀ k v, z_cQ (t_J7 pu) k = some (.inr (.inl v)) → Cond.constantLong (z_cNm (t_J7 pu)) k v ∈ z_gt) := z_QVof (C := (t_J7 (fun _ => none))) xQ_J7 1000 (by decide +kernel) (fun k hk => by show fQ_J7 k = none; unfold fQ_J7; first | rfl | (rw [z_bltF hk]; rfl))
set_option maxRecDepth 100000 in
theorem vS_J7 (pu : Nat → Option ((List Value → z_H → Prop) × (List Value → z_H → Int32))) : z_SV (t_J7 pu) := z_SVof (C := (t_J7 (fun _ => none))) 1000 (by decide +kernel) (fun k hk => by show fQ_J7 k = none; unfold fQ_J7; first | rfl | (rw [z_bltF hk]; rfl))
set_option maxRecDepth 100000 in
theorem v_J7 (pu : Nat → Option ((List Value → z_H → Prop) × (List Value → z_H → Int32))) {G : z_G} {d : Nat} {κ : z_Key} {b : Bool} {P} (hP : z_PV (κ, b, t_J7 pu, P)) (hPu : z_PuV G d (t_J7 pu)) : z_V G d (κ, b, t_J7 pu, P) := ⟨z_CFv, z_AVv, hP, vF_J7 pu, (vK_J7 pu).1, (vK_J7 pu).2, vM_J7 pu, (vQ_J7 pu).1, (vQ_J7 pu).2, vS_J7 pu, hPu⟩
set_option maxRecDepth 100000 in
def xF_J9 : Nat → Nat := fun k => 0
set_option maxRecDepth 100000 in
def xK_J9 : Nat → Nat := fun k => 0
set_option maxRecDepth 100000 in
def xQ_J9 : Nat → Nat := fun k => 0
set_option maxRecDepth 100000 in
def xM_J9 : Nat → List Nat := fun k => []
set_option maxRecDepth 100000 in
theorem vF_J9 (pu : Nat → Option ((List Value → z_H → Prop) × (List Value → z_H → Int32))) : z_FV (t_J9 pu) := z_FVof (C := (t_J9 (fun _ => none))) xF_J9 1000 (by decide +kernel) (fun k hk => by show fF_J9 k = none; unfold fF_J9; first | rfl | (rw [z_bltF hk]; rfl))
set_option maxRecDepth 100000 in
theorem vK_J9 (pu : Nat → Option ((List Value → z_H → Prop) × (List Value → z_H → Int32))) : z_KV (t_J9 pu) ∧ z_TV (t_J9 pu) := z_KVof (C := (t_J9 (fun _ => none))) xK_J9 1000 (by decide +kernel) (fun k hk => by show fK_J9 k = none; unfold fK_J9; first | rfl | (rw [z_bltF hk]; rfl))
set_option maxRecDepth 100000 in
theorem vMc_J9_0 : (List.range 40).all (fun j => z_mck xM_J9 (t_J9 (fun _ => none)) (40 * 0 + j)) = true := by decide +kernel
set_option maxRecDepth 100000 in
theorem vMc_J9_1 : (List.range 40).all (fun j => z_mck xM_J9 (t_J9 (fun _ => none)) (40 * 1 + j)) = true := by decide +kernel
set_option maxRecDepth 100000 in
theorem vMc_J9_2 : (List.range 40).all (fun j => z_mck xM_J9 (t_J9 (fun _ => none)) (40 * 2 + j)) = true := by decide +kernel
set_option maxRecDepth 100000 in
theorem vMc_J9_3 : (List.range 40).all (fun j => z_mck xM_J9 (t_J9 (fun _ => none)) (40 * 3 + j)) = true := by decide +kernel
set_option maxRecDepth 100000 in
theorem vMc_J9_4 : (List.range 40).all (fun j => z_mck xM_J9 (t_J9 (fun _ => none)) (40 * 4 + j)) = true := by decide +kernel
set_option maxRecDepth 100000 in
theorem vMc_J9_5 : (List.range 40).all (fun j => z_mck xM_J9 (t_J9 (fun _ => none)) (40 * 5 + j)) = true := by decide +kernel
set_option maxRecDepth 100000 in
theorem vMc_J9_6 : (List.range 40).all (fun j => z_mck xM_J9 (t_J9 (fun _ => none)) (40 * 6 + j)) = true := by decide +kernel
set_option maxRecDepth 100000 in
theorem vMc_J9_7 : (List.range 40).all (fun j => z_mck xM_J9 (t_J9 (fun _ => none)) (40 * 7 + j)) = true := by decide +kernel
set_option maxRecDepth 100000 in
theorem vMc_J9_8 : (List.range 40).all (fun j => z_mck xM_J9 (t_J9 (fun _ => none)) (40 * 8 + j)) = true := by decide +kernel
set_option maxRecDepth 100000 in
theorem vMc_J9_9 : (List.range 40).all (fun j => z_mck xM_J9 (t_J9 (fun _ => none)) (40 * 9 + j)) = true := by decide +kernel
set_option maxRecDepth 100000 in
theorem vMc_J9_10 : (List.range 40).all (fun j => z_mck xM_J9 (t_J9 (fun _ => none)) (40 * 10 + j)) = true := by decide +kernel
set_option maxRecDepth 100000 in
theorem vMc_J9_11 : (List.range 40).all (fun j => z_mck xM_J9 (t_J9 (fun _ => none)) (40 * 11 + j)) = true := by decide +kernel
set_option maxRecDepth 100000 in
theorem vMc_J9_12 : (List.range 40).all (fun j => z_mck xM_J9 (t_J9 (fun _ => none)) (40 * 12 + j)) = true := by decide +kernel
set_option maxRecDepth 100000 in
theorem vMc_J9_13 : (List.range 40).all (fun j => z_mck xM_J9 (t_J9 (fun _ => none)) (40 * 13 + j)) = true := by decide +kernel
set_option maxRecDepth 100000 in
theorem vMc_J9_14 : (List.range 40).all (fun j => z_mck xM_J9 (t_J9 (fun _ => none)) (40 * 14 + j)) = true := by decide +kernel
set_option maxRecDepth 100000 in
theorem vMc_J9_15 : (List.range 40).all (fun j => z_mck xM_J9 (t_J9 (fun _ => none)) (40 * 15 + j)) = true := by decide +kernel
set_option maxRecDepth 100000 in
theorem vMc_J9_16 : (List.range 40).all (fun j => z_mck xM_J9 (t_J9 (fun _ => none)) (40 * 16 + j)) = true := by decide +kernel
set_option maxRecDepth 100000 in
theorem vMc_J9_17 : (List.range 40).all (fun j => z_mck xM_J9 (t_J9 (fun _ => none)) (40 * 17 + j)) = true := by decide +kernel
set_option maxRecDepth 100000 in
theorem vMc_J9_18 : (List.range 40).all (fun j => z_mck xM_J9 (t_J9 (fun _ => none)) (40 * 18 + j)) = true := by decide +kernel
set_option maxRecDepth 100000 in
theorem vMc_J9_19 : (List.range 40).all (fun j => z_mck xM_J9 (t_J9 (fun _ => none)) (40 * 19 + j)) = true := by decide +kernel
set_option maxRecDepth 100000 in
theorem vMc_J9_20 : (List.range 40).all (fun j => z_mck xM_J9 (t_J9 (fun _ => none)) (40 * 20 + j)) = true := by decide +kernel
set_option maxRecDepth 100000 in
theorem vMc_J9_21 : (List.range 40).all (fun j => z_mck xM_J9 (t_J9 (fun _ => none)) (40 * 21 + j)) = true := by decide +kernel
set_option maxRecDepth 100000 in
theorem vMc_J9_22 : (List.range 40).all (fun j => z_mck xM_J9 (t_J9 (fun _ => none)) (40 * 22 + j)) = true := by decide +kernel
set_option maxRecDepth 100000 in
theorem vMc_J9_23 : (List.range 40).all (fun j => z_mck xM_J9 (t_J9 (fun _ => none)) (40 * 23 + j)) = true := by decide +kernel
set_option maxRecDepth 100000 in
theorem vMc_J9_24 : (List.range 40).all (fun j => z_mck xM_J9 (t_J9 (fun _ => none)) (40 * 24 + j)) = true := by decide +kernel
set_option maxRecDepth 100000 in
theorem vMc_J9 : ∀ c, c < 25 → (List.range 40).all (fun j => z_mck xM_J9 (t_J9 (fun _ => none)) (40 * c + j)) = true := by
  intro c hc
  match c, hc with
  | 0, _ => exact vMc_J9_0
  | 1, _ => exact vMc_J9_1
  | 2, _ => exact vMc_J9_2
  | 3, _ => exact vMc_J9_3
  | 4, _ => exact vMc_J9_4
  | 5, _ => exact vMc_J9_5
  | 6, _ => exact vMc_J9_6
  | 7, _ => exact vMc_J9_7
  | 8, _ => exact vMc_J9_8
  | 9, _ => exact vMc_J9_9
  | 10, _ => exact vMc_J9_10
  | 11, _ => exact vMc_J9_11
  | 12, _ => exact vMc_J9_12
  | 13, _ => exact vMc_J9_13
  | 14, _ => exact vMc_J9_14
  | 15, _ => exact vMc_J9_15
  | 16, _ => exact vMc_J9_16
  | 17, _ => exact vMc_J9_17
  | 18, _ => exact vMc_J9_18
  | 19, _ => exact vMc_J9_19
  | 20, _ => exact vMc_J9_20
  | 21, _ => exact vMc_J9_21
  | 22, _ => exact vMc_J9_22
  | 23, _ => exact vMc_J9_23
  | 24, _ => exact vMc_J9_24
  | n + 25, hc => exact absurd hc (by omega)
set_option maxRecDepth 100000 in
theorem vM_J9 (pu : Nat → Option ((List Value → z_H → Prop) × (List Value → z_H → Int32))) : z_MV (t_J9 pu) := z_MVof (C := (t_J9 (fun _ => none))) xM_J9 1000 (z_chunk 25 vMc_J9) (fun k hk => by show fM_J9 k = none; unfold fM_J9; first | rfl | (rw [z_bltF hk]; rfl))
set_option maxRecDepth 100000 in
theorem vQ_J9 (pu : Nat → Option ((List Value → z_H → Prop) × (List Value → z_H → Int32))) : (∀ k v, z_cQ (t_J9 pu) k = some (.inl v) → Cond.constant (z_cNm (t_J9 pu)) k v ∈ z_gt) ∧ (∀ k v, z_cQ (t_J9 pu) k = some (.inr (.inl v)) → Cond.constantLong (z_cNm (t_J9 pu)) k v ∈ z_gt) := z_QVof (C := (t_J9 (fun _ => none))) xQ_J9 1000 (by decide +kernel) (fun k hk => by show fQ_J9 k = none; unfold fQ_J9; first | rfl | (rw [z_bltF hk]; rfl))
set_option maxRecDepth 100000 in
theorem vS_J9 (pu : Nat → Option ((List Value → z_H → Prop) × (List Value → z_H → Int32))) : z_SV (t_J9 pu) := z_SVof (C := (t_J9 (fun _ => none))) 1000 (by decide +kernel) (fun k hk => by show fQ_J9 k = none; unfold fQ_J9; first | rfl | (rw [z_bltF hk]; rfl))
set_option maxRecDepth 100000 in
theorem v_J9 (pu : Nat → Option ((List Value → z_H → Prop) × (List Value → z_H → Int32))) {G : z_G} {d : Nat} {κ : z_Key} {b : Bool} {P} (hP : z_PV (κ, b, t_J9 pu, P)) (hPu : z_PuV G d (t_J9 pu)) : z_V G d (κ, b, t_J9 pu, P) := ⟨z_CFv, z_AVv, hP, vF_J9 pu, (vK_J9 pu).1, (vK_J9 pu).2, vM_J9 pu, (vQ_J9 pu).1, (vQ_J9 pu).2, vS_J9 pu, hPu⟩
