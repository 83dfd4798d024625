theorem en_X7_fail {pu : Nat → Option ((List Value → z_H → Prop) × (List Value → z_H → Int32))} {G : z_G} {d : Nat} {r : z_Res} {h : z_H} {x0 : Nat} {x1 : Int32} (hJ : z_J G d (m_X7_fail pu) r 0 [some (.ref x0), some (.int x1)] [] h) : z_Ev G d k_X7_fail [.ref x0, .int x1] h r := z_enter (μ := m_X7_fail pu) rfl (by decide) rfl rfl (fun q => by cases q) (Nat.le_of_ble_eq_true rfl) hJ
def hd_X7_fail : Nat → Option (List Bool) := (fun k => none)
set_option maxRecDepth 20000 in
theorem b_X7_fail_0 {G : z_G} {d : Nat} {r : z_Res} (hPu : z_PuV G d (t_X7 z_pu0)) {h : z_H} {x0 : Nat} {x1 : Int32} (hT : (z_kd h x0 = 23 ∧ (z_kd (z_poi h x0 12 x1) x0 = 23 ∧ (z_kd (z_poi h x0 12 x1) x0 = 23 ∧ (z_bz (nI 0) ∧ r = (.inl (some (.int (nI 0))), z_poi (z_poi h x0 12 x1) x0 13 (z_oi (z_poi h x0 12 x1) x0 4))))))) : (z_J G (d + 1) (m_X7_fail z_pu0) r) 0 [some (.ref x0), some (.int x1)] [] h := z_bq (v_X7 z_pu0 (vP_X7_fail z_pu0) hPu) hd_X7_fail 11 hT
theorem en_X7_isNumber {pu : Nat → Option ((List Value → z_H → Prop) × (List Value → z_H → Int32))} {G : z_G} {d : Nat} {r : z_Res} {h : z_H} {x0 : Nat} (hJ : z_J G d (m_X7_isNumber pu) r 0 [some (.ref x0)] [] h) : z_Ev G d k_X7_isNumber [.ref x0] h r := z_enter (μ := m_X7_isNumber pu) rfl (by decide) rfl rfl (fun q => by cases q) (Nat.le_of_ble_eq_true rfl) hJ
def hd_X7_isNumber : Nat → Option (List Bool) := (fun k => none)
set_option maxRecDepth 20000 in
theorem b_X7_isNumber_0 {G : z_G} {d : Nat} {r : z_Res} (hPu : z_PuV G d (t_X7 z_pu0)) {h : z_H} {x0 : Nat} (hT : (z_kd h x0 = 23 ∧ (if (z_oi h x0 3) = (nI 4) then (z_kd h x0 = 23 ∧ (if (z_oi h x0 5) < (nI 10) then (z_bz (nI 1) ∧ r = (.inl (some (.int (nI 1))), h)) else (z_kd h x0 = 23 ∧ ∃ x_2 h_1, z_Ev G d k_X7_fail [.ref x0, .int (nI 2)] h (.inl (some (.int x_2)), h_1) ∧ (if x_2 = (nI 0) then (z_bz (nI 0) ∧ r = (.inl (some (.int (nI 0))), h_1)) else (z_bz (nI 1) ∧ r = (.inl (some (.int (nI 1))), h_1)))))) else (z_kd h x0 = 23 ∧ ∃ x_4 h_3, z_Ev G d k_X7_fail [.ref x0, .int (nI 1)] h (.inl (some (.int x_4)), h_3) ∧ (z_bz x_4 ∧ r = (.inl (some (.int x_4)), h_3)))))) : (z_J G (d + 1) (m_X7_isNumber z_pu0) r) 0 [some (.ref x0)] [] h := z_bq (v_X7 z_pu0 (vP_X7_isNumber z_pu0) hPu) hd_X7_isNumber 17 hT
theorem en_X7_readNumber {pu : Nat → Option ((List Value → z_H → Prop) × (List Value → z_H → Int32))} {G : z_G} {d : Nat} {r : z_Res} {h : z_H} {x0 : Nat} (hJ : z_J G d (m_X7_readNumber pu) r 0 [some (.ref x0)] [] h) : z_Ev G d k_X7_readNumber [.ref x0] h r := z_enter (μ := m_X7_readNumber pu) rfl (by decide) rfl rfl (fun q => by cases q) (Nat.le_of_ble_eq_true rfl) hJ
def hd_X7_readNumber : Nat → Option (List Bool) := (fun k => none)
set_option maxRecDepth 20000 in
theorem b_X7_readNumber_0 {G : z_G} {d : Nat} {r : z_Res} (hPu : z_PuV G d (t_X7 z_pu0)) {h : z_H} {x0 : Nat} (hT : (z_kd h x0 = 23 ∧ ∃ h_1, z_Ev G d k_X7_step [.ref x0] h (.inl none, h_1) ∧ (z_kd h_1 x0 = 23 ∧ ∃ x_3 h_2, z_Ev G d k_X7_isNumber [.ref x0] h_1 (.inl (some (.int x_3)), h_2) ∧ (z_bz x_3 ∧ r = (.inl (some (.int x_3)), h_2))))) : (z_J G (d + 1) (m_X7_readNumber z_pu0) r) 0 [some (.ref x0)] [] h := z_bq (v_X7 z_pu0 (vP_X7_readNumber z_pu0) hPu) hd_X7_readNumber 7 hT
theorem en_X7_isPointThere {pu : Nat → Option ((List Value → z_H → Prop) × (List Value → z_H → Int32))} {G : z_G} {d : Nat} {r : z_Res} {h : z_H} {x0 : Nat} (hJ : z_J G d (m_X7_isPointThere pu) r 0 [some (.ref x0)] [] h) : z_Ev G d k_X7_isPointThere [.ref x0] h r := z_enter (μ := m_X7_isPointThere pu) rfl (by decide) rfl rfl (fun q => by cases q) (Nat.le_of_ble_eq_true rfl) hJ
def hd_X7_isPointThere : Nat → Option (List Bool) := (fun k => none)
set_option maxRecDepth 20000 in
theorem b_X7_isPointThere_0 {G : z_G} {d : Nat} {r : z_Res} (hPu : z_PuV G d (t_X7 z_pu0)) {h : z_H} {x0 : Nat} (hT : (z_kd h x0 = 23 ∧ (z_kd h x0 = 23 ∧ (if (z_oi h x0 5) < (z_oi h x0 7) then (z_bz (nI 1) ∧ r = (.inl (some (.int (nI 1))), h)) else (z_kd h x0 = 23 ∧ ∃ x_2 h_1, z_Ev G d k_X7_fail [.ref x0, .int (nI 3)] h (.inl (some (.int x_2)), h_1) ∧ (if x_2 = (nI 0) then (z_bz (nI 0) ∧ r = (.inl (some (.int (nI 0))), h_1)) else (z_bz (nI 1) ∧ r = (.inl (some (.int (nI 1))), h_1)))))))) : (z_J G (d + 1) (m_X7_isPointThere z_pu0) r) 0 [some (.ref x0)] [] h := z_bq (v_X7 z_pu0 (vP_X7_isPointThere z_pu0) hPu) hd_X7_isPointThere 14 hT
theorem en_X7_readClose {pu : Nat → Option ((List Value → z_H → Prop) × (List Value → z_H → Int32))} {G : z_G} {d : Nat} {r : z_Res} {h : z_H} {x0 : Nat} (hJ : z_J G d (m_X7_readClose pu) r 0 [some (.ref x0)] [] h) : z_Ev G d k_X7_readClose [.ref x0] h r := z_enter (μ := m_X7_readClose pu) rfl (by decide) rfl rfl (fun q => by cases q) (Nat.le_of_ble_eq_true rfl) hJ
def hd_X7_readClose : Nat → Option (List Bool) := (fun k => none)
set_option maxRecDepth 20000 in
theorem b_X7_readClose_0 {G : z_G} {d : Nat} {r : z_Res} (hPu : z_PuV G d (t_X7 z_pu0)) {h : z_H} {x0 : Nat} (hT : (z_kd h x0 = 23 ∧ ∃ h_1, z_Ev G d k_X7_step [.ref x0] h (.inl none, h_1) ∧ (z_kd h_1 x0 = 23 ∧ (if (z_oi h_1 x0 3) = (nI 5) then (z_bz (nI 1) ∧ r = (.inl (some (.int (nI 1))), h_1)) else (z_kd h_1 x0 = 23 ∧ ∃ x_3 h_2, z_Ev G d k_X7_fail [.ref x0, .int (nI 1)] h_1 (.inl (some (.int x_3)), h_2) ∧ (if x_3 = (nI 0) then (z_bz (nI 0) ∧ r = (.inl (some (.int (nI 0))), h_2)) else (z_bz (nI 1) ∧ r = (.inl (some (.int (nI 1))), h_2)))))))) : (z_J G (d + 1) (m_X7_readClose z_pu0) r) 0 [some (.ref x0)] [] h := z_bq (v_X7 z_pu0 (vP_X7_readClose z_pu0) hPu) hd_X7_readClose 15 hT
theorem en_X7_readSigned {pu : Nat → Option ((List Value → z_H → Prop) × (List Value → z_H → Int32))} {G : z_G} {d : Nat} {r : z_Res} {h : z_H} {x0 : Nat} (hJ : z_J G d (m_X7_readSigned pu) r 0 [some (.ref x0)] [] h) : z_Ev G d k_X7_readSigned [.ref x0] h r := z_enter (μ := m_X7_readSigned pu) rfl (by decide) rfl rfl (fun q => by cases q) (Nat.le_of_ble_eq_true rfl) hJ
def hd_X7_readSigned : Nat → Option (List Bool) := (fun k => none)
set_option maxRecDepth 20000 in
theorem b_X7_readSigned_0 {G : z_G} {d : Nat} {r : z_Res} (hPu : z_PuV G d (t_X7 z_pu0)) {h : z_H} {x0 : Nat} (hT : (z_kd h x0 = 23 ∧ ∃ h_1, z_Ev G d k_X7_step [.ref x0] h (.inl none, h_1) ∧ (z_kd h_1 x0 = 23 ∧ (if (z_oi h_1 x0 3) = (nI 6) then (z_kd h_1 x0 = 23 ∧ ∃ h_2, z_Ev G d k_X7_step [.ref x0] h_1 (.inl none, h_2) ∧ (z_kd h_2 x0 = 23 ∧ ∃ x_4 h_3, z_Ev G d k_X7_isNumber [.ref x0] h_2 (.inl (some (.int x_4)), h_3) ∧ (if x_4 = (nI 0) then (z_bz (nI 0) ∧ r = (.inl (some (.int (nI 0))), h_3)) else (z_kd h_3 x0 = 23 ∧ (z_kd h_3 x0 = 23 ∧ (z_bz (nI 1) ∧ r = (.inl (some (.int (nI 1))), z_poi h_3 x0 5 (-(z_oi h_3 x0 5))))))))) else (z_kd h_1 x0 = 23 ∧ ∃ x_6 h_5, z_Ev G d k_X7_isNumber [.ref x0] h_1 (.inl (some (.int x_6)), h_5) ∧ (z_bz x_6 ∧ r = (.inl (some (.int x_6)), h_5))))))) : (z_J G (d + 1) (m_X7_readSigned z_pu0) r) 0 [some (.ref x0)] [] h := z_bq (v_X7 z_pu0 (vP_X7_readSigned z_pu0) hPu) hd_X7_readSigned 20 hT
theorem en_X7_keepLine {pu : Nat → Option ((List Value → z_H → Prop) × (List Value → z_H → Int32))} {G : z_G} {d : Nat} {r : z_Res} {h : z_H} {x0 : Nat} {x1 : Int32} (hJ : z_J G d (m_X7_keepLine pu) r 0 [some (.ref x0), some (.int x1)] [] h) : z_Ev G d k_X7_keepLine [.ref x0, .int x1] h r := z_enter (μ := m_X7_keepLine pu) rfl (by decide) rfl rfl (fun q => by cases q) (Nat.le_of_ble_eq_true rfl) hJ
def hd_X7_keepLine : Nat → Option (List Bool) := (fun k => none)
set_option maxRecDepth 20000 in
theorem b_X7_keepLine_0 {G : z_G} {d : Nat} {r : z_Res} (hPu : z_PuV G d (t_X7 z_pu0)) {h : z_H} {x0 : Nat} {x1 : Int32} (hT : (z_kd h x0 = 23 ∧ (z_rc (z_or h x0 9) (z_kd h x0 = 23 ∧ (∃ x_3 h_2, z_Ev G d k_X8_keepsApart [.int x1, .null, .int (z_oi h x0 8)] h (.inl (some (.int x_3)), h_2) ∧ (if x_3 = (nI 0) then (z_kd h_2 x0 = 23 ∧ ∃ x_5 h_4, z_Ev G d k_X7_fail [.ref x0, .int (nI 5)] h_2 (.inl (some (.int x_5)), h_4) ∧ (z_bz x_5 ∧ r = (.inl (some (.int x_5)), h_4))) else (z_kd h_2 x0 = 23 ∧ (z_rc (z_or h_2 x0 9) (z_kd h_2 x0 = 23 ∧ False) (fun x_6 => (z_kd h_2 x0 = 23 ∧ (z_kd h_2 x_6 = 1 ∧ vp_in (z_oi h_2 x0 8) (z_ln h_2 x_6) ∧ (z_kd (z_pai h_2 x_6 (Int32.toNatClampNeg (z_oi h_2 x0 8)) x1) x0 = 23 ∧ (z_kd (z_pai h_2 x_6 (Int32.toNatClampNeg (z_oi h_2 x0 8)) x1) x0 = 23 ∧ (z_bz (nI 1) ∧ r = (.inl (some (.int (nI 1))), z_poi (z_pai h_2 x_6 (Int32.toNatClampNeg (z_oi h_2 x0 8)) x1) x0 8 ((z_oi (z_pai h_2 x_6 (Int32.toNatClampNeg (z_oi h_2 x0 8)) x1) x0 8) + (nI 1)))))))))))))) (fun x_1 => (z_kd h x0 = 23 ∧ (∃ x_8 h_7, z_Ev G d k_X8_keepsApart [.int x1, .ref x_1, .int (z_oi h x0 8)] h (.inl (some (.int x_8)), h_7) ∧ (if x_8 = (nI 0) then (z_kd h_7 x0 = 23 ∧ ∃ x_10 h_9, z_Ev G d k_X7_fail [.ref x0, .int (nI 5)] h_7 (.inl (some (.int x_10)), h_9) ∧ (z_bz x_10 ∧ r = (.inl (some (.int x_10)), h_9))) else (z_kd h_7 x0 = 23 ∧ (z_rc (z_or h_7 x0 9) (z_kd h_7 x0 = 23 ∧ False) (fun x_11 => (z_kd h_7 x0 = 23 ∧ (z_kd h_7 x_11 = 1 ∧ vp_in (z_oi h_7 x0 8) (z_ln h_7 x_11) ∧ (z_kd (z_pai h_7 x_11 (Int32.toNatClampNeg (z_oi h_7 x0 8)) x1) x0 = 23 ∧ (z_kd (z_pai h_7 x_11 (Int32.toNatClampNeg (z_oi h_7 x0 8)) x1) x0 = 23 ∧ (z_bz (nI 1) ∧ r = (.inl (some (.int (nI 1))), z_poi (z_pai h_7 x_11 (Int32.toNatClampNeg (z_oi h_7 x0 8)) x1) x0 8 ((z_oi (z_pai h_7 x_11 (Int32.toNatClampNeg (z_oi h_7 x0 8)) x1) x0 8) + (nI 1)))))))))))))))))) : (z_J G (d + 1) (m_X7_keepLine z_pu0) r) 0 [some (.ref x0), some (.int x1)] [] h := z_bq (v_X7 z_pu0 (vP_X7_keepLine z_pu0) hPu) hd_X7_keepLine 23 hT
theorem en_X7_readLine {pu : Nat → Option ((List Value → z_H → Prop) × (List Value → z_H → Int32))} {G : z_G} {d : Nat} {r : z_Res} {h : z_H} {x0 : Nat} (hJ : z_J G d (m_X7_readLine pu) r 0 [some (.ref x0), none, none] [] h) : z_Ev G d k_X7_readLine [.ref x0] h r := z_enter (μ := m_X7_readLine pu) rfl (by decide) rfl rfl (fun q => by cases q) (Nat.le_of_ble_eq_true rfl) hJ
def hd_X7_readLine : Nat → Option (List Bool) := (fun k => (cond (Nat.blt k 116) (cond (Nat.beq k 19) (some [true, true, true]) none) none))
set_option maxRecDepth 20000 in
theorem b_X7_readLine_0 {G : z_G} {d : Nat} {r : z_Res} (hPu : z_PuV G d (t_X7 z_pu0)) {h : z_H} {x0 : Nat} (hT : (z_kd h x0 = 23 ∧ (if (z_oi h x0 8) < (nI 12) then (z_J G (d + 1) (m_X7_readLine z_pu0) r) 19 [some (.ref x0), some (.int (nI 0)), some (.int (nI 0))] [] h else (z_kd h x0 = 23 ∧ ∃ x_2 h_1, z_Ev G d k_X7_fail [.ref x0, .int (nI 2)] h (.inl (some (.int x_2)), h_1) ∧ (z_bz x_2 ∧ r = (.inl (some (.int x_2)), h_1)))))) : (z_J G (d + 1) (m_X7_readLine z_pu0) r) 0 [some (.ref x0), none, none] [] h := z_bq (v_X7 z_pu0 (vP_X7_readLine z_pu0) hPu) hd_X7_readLine 11 hT
set_option maxRecDepth 20000 in
theorem b_X7_readLine_19 {G : z_G} {d : Nat} {r : z_Res} (hPu : z_PuV G d (t_X7 z_pu0)) {h : z_H} {x0 : Nat} {x1 : Int32} {x2 : Int32} (hT : (if x2 < (nI 4) then (z_kd h x0 = 23 ∧ ∃ h_1, z_Ev G d k_X7_step [.ref x0] h (.inl none, h_1) ∧ (if x2 < (nI 2) then (z_kd h_1 x0 = 23 ∧ ∃ x_3 h_2, z_Ev G d k_X7_isNumber [.ref x0] h_1 (.inl (some (.int x_3)), h_2) ∧ (if x_3 = (nI 0) then (z_bz (nI 0) ∧ r = (.inl (some (.int (nI 0))), h_2)) else (z_kd h_2 x0 = 23 ∧ ∃ x_5 h_4, z_Ev G d k_X7_isPointThere [.ref x0] h_2 (.inl (some (.int x_5)), h_4) ∧ (if x_5 = (nI 0) then (z_bz (nI 0) ∧ r = (.inl (some (.int (nI 0))), h_4)) else (z_kd h_4 x0 = 23 ∧ (if ((x1 >>> ((z_oi h_4 x0 5) &&& (nI 31))) &&& (nI 1)) = (nI 0) then (z_kd h_4 x0 = 23 ∧ (z_J G (d + 1) (m_X7_readLine z_pu0) r) 19 [some (.ref x0), some (.int (x1 ||| ((nI 1) <<< ((z_oi h_4 x0 5) &&& (nI 31))))), some (.int (x2 + (nI 1)))] [] h_4) else (z_kd h_4 x0 = 23 ∧ ∃ x_7 h_6, z_Ev G d k_X7_fail [.ref x0, .int (nI 5)] h_4 (.inl (some (.int x_7)), h_6) ∧ (z_bz x_7 ∧ r = (.inl (some (.int x_7)), h_6))))))))) else (z_kd h_1 x0 = 23 ∧ (if (z_oi h_1 x0 3) = (nI 5) then (z_kd h_1 x0 = 23 ∧ ∃ x_9 h_8, z_Ev G d k_X7_keepLine [.ref x0, .int x1] h_1 (.inl (some (.int x_9)), h_8) ∧ (z_bz x_9 ∧ r = (.inl (some (.int x_9)), h_8))) else (z_kd h_1 x0 = 23 ∧ ∃ x_11 h_10, z_Ev G d k_X7_isNumber [.ref x0] h_1 (.inl (some (.int x_11)), h_10) ∧ (if x_11 = (nI 0) then (z_bz (nI 0) ∧ r = (.inl (some (.int (nI 0))), h_10)) else (z_kd h_10 x0 = 23 ∧ ∃ x_13 h_12, z_Ev G d k_X7_isPointThere [.ref x0] h_10 (.inl (some (.int x_13)), h_12) ∧ (if x_13 = (nI 0) then (z_bz (nI 0) ∧ r = (.inl (some (.int (nI 0))), h_12)) else (z_kd h_12 x0 = 23 ∧ (if ((x1 >>> ((z_oi h_12 x0 5) &&& (nI 31))) &&& (nI 1)) = (nI 0) then (z_kd h_12 x0 = 23 ∧ (z_J G (d + 1) (m_X7_readLine z_pu0) r) 19 [some (.ref x0), some (.int (x1 ||| ((nI 1) <<< ((z_oi h_12 x0 5) &&& (nI 31))))), some (.int (x2 + (nI 1)))] [] h_12) else (z_kd h_12 x0 = 23 ∧ ∃ x_15 h_14, z_Ev G d k_X7_fail [.ref x0, .int (nI 5)] h_12 (.inl (some (.int x_15)), h_14) ∧ (z_bz x_15 ∧ r = (.inl (some (.int x_15)), h_14))))))))))))) else (z_kd h x0 = 23 ∧ ∃ x_17 h_16, z_Ev G d k_X7_readClose [.ref x0] h (.inl (some (.int x_17)), h_16) ∧ (if x_17 = (nI 0) then (z_bz (nI 0) ∧ r = (.inl (some (.int (nI 0))), h_16)) else (z_kd h_16 x0 = 23 ∧ ∃ x_19 h_18, z_Ev G d k_X7_keepLine [.ref x0, .int x1] h_16 (.inl (some (.int x_19)), h_18) ∧ (if x_19 = (nI 0) then (z_bz (nI 0) ∧ r = (.inl (some (.int (nI 0))), h_18)) else (z_bz (nI 1) ∧ r = (.inl (some (.int (nI 1))), h_18)))))))) : (z_J G (d + 1) (m_X7_readLine z_pu0) r) 19 [some (.ref x0), some (.int x1), some (.int x2)] [] h := z_bq (v_X7 z_pu0 (vP_X7_readLine z_pu0) hPu) hd_X7_readLine 37 hT
theorem en_X7_readAt {pu : Nat → Option ((List Value → z_H → Prop) × (List Value → z_H → Int32))} {G : z_G} {d : Nat} {r : z_Res} {h : z_H} {x0 : Nat} (hJ : z_J G d (m_X7_readAt pu) r 0 [some (.ref x0), none] [] h) : z_Ev G d k_X7_readAt [.ref x0] h r := z_enter (μ := m_X7_readAt pu) rfl (by decide) rfl rfl (fun q => by cases q) (Nat.le_of_ble_eq_true rfl) hJ
def hd_X7_readAt : Nat → Option (List Bool) := (fun k => none)
set_option maxRecDepth 20000 in
theorem b_X7_readAt_0 {G : z_G} {d : Nat} {r : z_Res} (hPu : z_PuV G d (t_X7 z_pu0)) {h : z_H} {x0 : Nat} (hT : (z_kd h x0 = 23 ∧ ∃ x_2 h_1, z_Ev G d k_X7_readNumber [.ref x0] h (.inl (some (.int x_2)), h_1) ∧ (if x_2 = (nI 0) then (z_bz (nI 0) ∧ r = (.inl (some (.int (nI 0))), h_1)) else (z_kd h_1 x0 = 23 ∧ ∃ x_4 h_3, z_Ev G d k_X7_isPointThere [.ref x0] h_1 (.inl (some (.int x_4)), h_3) ∧ (if x_4 = (nI 0) then (z_bz (nI 0) ∧ r = (.inl (some (.int (nI 0))), h_3)) else (z_kd h_3 x0 = 23 ∧ (z_kd h_3 x0 = 23 ∧ ∃ x_6 h_5, z_Ev G d k_X7_readSigned [.ref x0] h_3 (.inl (some (.int x_6)), h_5) ∧ (if x_6 = (nI 0) then (z_bz (nI 0) ∧ r = (.inl (some (.int (nI 0))), h_5)) else (z_kd h_5 x0 = 23 ∧ (z_rc (z_or h_5 x0 10) (z_kd h_5 x0 = 23 ∧ False) (fun x_7 => (z_kd h_5 x0 = 23 ∧ (z_kd h_5 x_7 = 1 ∧ vp_in (z_oi h_3 x0 5) (z_ln h_5 x_7) ∧ (z_kd (z_pai h_5 x_7 (Int32.toNatClampNeg (z_oi h_3 x0 5)) (z_oi h_5 x0 5)) x0 = 23 ∧ ∃ x_9 h_8, z_Ev G d k_X7_readSigned [.ref x0] (z_pai h_5 x_7 (Int32.toNatClampNeg (z_oi h_3 x0 5)) (z_oi h_5 x0 5)) (.inl (some (.int x_9)), h_8) ∧ (if x_9 = (nI 0) then (z_bz (nI 0) ∧ r = (.inl (some (.int (nI 0))), h_8)) else (z_kd h_8 x0 = 23 ∧ (z_rc (z_or h_8 x0 11) (z_kd h_8 x0 = 23 ∧ False) (fun x_10 => (z_kd h_8 x0 = 23 ∧ (z_kd h_8 x_10 = 1 ∧ vp_in (z_oi h_3 x0 5) (z_ln h_8 x_10) ∧ (z_kd (z_pai h_8 x_10 (Int32.toNatClampNeg (z_oi h_3 x0 5)) (z_oi h_8 x0 5)) x0 = 23 ∧ ∃ x_12 h_11, z_Ev G d k_X7_readClose [.ref x0] (z_pai h_8 x_10 (Int32.toNatClampNeg (z_oi h_3 x0 5)) (z_oi h_8 x0 5)) (.inl (some (.int x_12)), h_11) ∧ (z_bz x_12 ∧ r = (.inl (some (.int x_12)), h_11))))))))))))))))))))))) : (z_J G (d + 1) (m_X7_readAt z_pu0) r) 0 [some (.ref x0), none] [] h := z_bq (v_X7 z_pu0 (vP_X7_readAt z_pu0) hPu) hd_X7_readAt 32 hT
theorem en_X7_readPoints {pu : Nat → Option ((List Value → z_H → Prop) × (List Value → z_H → Int32))} {G : z_G} {d : Nat} {r : z_Res} {h : z_H} {x0 : Nat} (hJ : z_J G d (m_X7_readPoints pu) r 0 [some (.ref x0)] [] h) : z_Ev G d k_X7_readPoints [.ref x0] h r := z_enter (μ := m_X7_readPoints pu) rfl (by decide) rfl rfl (fun q => by cases q) (Nat.le_of_ble_eq_true rfl) hJ
def hd_X7_readPoints : Nat → Option (List Bool) := (fun k => none)
set_option maxRecDepth 20000 in
theorem b_X7_readPoints_0 {G : z_G} {d : Nat} {r : z_Res} (hPu : z_PuV G d (t_X7 z_pu0)) {h : z_H} {x0 : Nat} (hT : (z_kd h x0 = 23 ∧ (if (z_oi h x0 6) = (nI 0) then (z_kd h x0 = 23 ∧ ∃ x_2 h_1, z_Ev G d k_X7_readNumber [.ref x0] h (.inl (some (.int x_2)), h_1) ∧ (if x_2 = (nI 0) then (z_bz (nI 0) ∧ r = (.inl (some (.int (nI 0))), h_1)) else (z_kd h_1 x0 = 23 ∧ (if (z_oi h_1 x0 5) < (nI 1) then (z_kd h_1 x0 = 23 ∧ ∃ x_4 h_3, z_Ev G d k_X7_fail [.ref x0, .int (nI 2)] h_1 (.inl (some (.int x_4)), h_3) ∧ (z_bz x_4 ∧ r = (.inl (some (.int x_4)), h_3))) else (z_kd h_1 x0 = 23 ∧ (if (nI 8) < (z_oi h_1 x0 5) then (z_kd h_1 x0 = 23 ∧ ∃ x_6 h_5, z_Ev G d k_X7_fail [.ref x0, .int (nI 2)] h_1 (.inl (some (.int x_6)), h_5) ∧ (z_bz x_6 ∧ r = (.inl (some (.int x_6)), h_5))) else (z_kd h_1 x0 = 23 ∧ (z_kd h_1 x0 = 23 ∧ (z_kd (z_poi h_1 x0 7 (z_oi h_1 x0 5)) x0 = 23 ∧ ∃ x_8 h_7, z_Ev G d k_X7_readClose [.ref x0] (z_poi h_1 x0 7 (z_oi h_1 x0 5)) (.inl (some (.int x_8)), h_7) ∧ (z_bz x_8 ∧ r = (.inl (some (.int x_8)), h_7))))))))))) else (z_kd h x0 = 23 ∧ ∃ x_10 h_9, z_Ev G d k_X7_fail [.ref x0, .int (nI 4)] h (.inl (some (.int x_10)), h_9) ∧ (z_bz x_10 ∧ r = (.inl (some (.int x_10)), h_9)))))) : (z_J G (d + 1) (m_X7_readPoints z_pu0) r) 0 [some (.ref x0)] [] h := z_bq (v_X7 z_pu0 (vP_X7_readPoints z_pu0) hPu) hd_X7_readPoints 23 hT
theorem en_X7_readClause {pu : Nat → Option ((List Value → z_H → Prop) × (List Value → z_H → Int32))} {G : z_G} {d : Nat} {r : z_Res} {h : z_H} {x0 : Nat} (hJ : z_J G d (m_X7_readClause pu) r 0 [some (.ref x0)] [] h) : z_Ev G d k_X7_readClause [.ref x0] h r := z_enter (μ := m_X7_readClause pu) rfl (by decide) rfl rfl (fun q => by cases q) (Nat.le_of_ble_eq_true rfl) hJ
def hd_X7_readClause : Nat → Option (List Bool) := (fun k => none)
set_option maxRecDepth 20000 in
theorem b_X7_readClause_0 {G : z_G} {d : Nat} {r : z_Res} (hPu : z_PuV G d (t_X7 z_pu0)) {h : z_H} {x0 : Nat} (hT : (z_kd h x0 = 23 ∧ (if (z_oi h x0 3) = (nI 1) then (z_kd h x0 = 23 ∧ ∃ x_2 h_1, z_Ev G d k_X7_readPoints [.ref x0] h (.inl (some (.int x_2)), h_1) ∧ (z_bz x_2 ∧ r = (.inl (some (.int x_2)), h_1))) else (if (z_oi h x0 3) = (nI 2) then (z_kd h x0 = 23 ∧ ∃ x_4 h_3, z_Ev G d k_X7_readLine [.ref x0] h (.inl (some (.int x_4)), h_3) ∧ (z_bz x_4 ∧ r = (.inl (some (.int x_4)), h_3))) else (if (z_oi h x0 3) = (nI 3) then (z_kd h x0 = 23 ∧ ∃ x_6 h_5, z_Ev G d k_X7_readAt [.ref x0] h (.inl (some (.int x_6)), h_5) ∧ (z_bz x_6 ∧ r = (.inl (some (.int x_6)), h_5))) else (z_kd h x0 = 23 ∧ ∃ x_8 h_7, z_Ev G d k_X7_fail [.ref x0, .int (nI 1)] h (.inl (some (.int x_8)), h_7) ∧ (z_bz x_8 ∧ r = (.inl (some (.int x_8)), h_7)))))))) : (z_J G (d + 1) (m_X7_readClause z_pu0) r) 0 [some (.ref x0)] [] h := z_bq (v_X7 z_pu0 (vP_X7_readClause z_pu0) hPu) hd_X7_readClause 9 hT
theorem en_X7_read {pu : Nat → Option ((List Value → z_H → Prop) × (List Value → z_H → Int32))} {G : z_G} {d : Nat} {r : z_Res} {h : z_H} {x0 : Nat} {x1 : Nat} {x2 : Int32} (hJ : z_J G d (m_X7_read pu) r 0 [some (.ref x0), some (.ref x1), some (.int x2), none] [] h) : z_Ev G d k_X7_read [.ref x0, .ref x1, .int x2] h r := z_enter (μ := m_X7_read pu) rfl (by decide) rfl rfl (fun q => by cases q) (Nat.le_of_ble_eq_true rfl) hJ
def hd_X7_read : Nat → Option (List Bool) := (fun k => (cond (Nat.blt k 100) (cond (Nat.blt k 26) (cond (Nat.blt k 15) (cond (Nat.blt k 10) (cond (Nat.beq k 5) (some [true, false, true, false]) none) (cond (Nat.beq k 10) (some [true, false, false, false]) none)) (cond (Nat.blt k 20) (cond (Nat.beq k 15) (some [true, false, false, false]) none) (cond (Nat.beq k 20) (some [true, false, false, false]) none))) (cond (Nat.blt k 36) (cond (Nat.blt k 31) (cond (Nat.beq k 26) (some [true, false, false, false]) none) (cond (Nat.beq k 31) (some [true, false, false, false]) none)) (cond (Nat.blt k 54) (cond (Nat.beq k 36) (some [true, false, false, false]) none) (cond (Nat.beq k 54) (some [true, false, false, true]) none)))) none))
set_option maxRecDepth 20000 in
theorem b_X7_read_0 {G : z_G} {d : Nat} {r : z_Res} (hPu : z_PuV G d (t_X7 z_pu0)) {h : z_H} {x0 : Nat} {x1 : Nat} {x2 : Int32} (hT : (z_kd h x0 = 23 ∧ (z_J G (d + 1) (m_X7_read z_pu0) r) 5 [some (.ref x0), none, some (.int x2), none] [] (z_por h x0 0 (some x1)))) : (z_J G (d + 1) (m_X7_read z_pu0) r) 0 [some (.ref x0), some (.ref x1), some (.int x2), none] [] h := z_bq (v_X7 z_pu0 (vP_X7_read z_pu0) hPu) hd_X7_read 6 hT
set_option maxRecDepth 20000 in
theorem b_X7_read_5 {G : z_G} {d : Nat} {r : z_Res} (hPu : z_PuV G d (t_X7 z_pu0)) {h : z_H} {x0 : Nat} {x2 : Int32} (hT : (z_kd h x0 = 23 ∧ (z_J G (d + 1) (m_X7_read z_pu0) r) 10 [some (.ref x0), none, none, none] [] (z_poi h x0 1 x2))) : (z_J G (d + 1) (m_X7_read z_pu0) r) 5 [some (.ref x0), none, some (.int x2), none] [] h := z_bq (v_X7 z_pu0 (vP_X7_read z_pu0) hPu) hd_X7_read 6 hT
set_option maxRecDepth 20000 in
theorem b_X7_read_10 {G : z_G} {d : Nat} {r : z_Res} (hPu : z_PuV G d (t_X7 z_pu0)) {h : z_H} {x0 : Nat} (hT : (z_kd h x0 = 23 ∧ (z_J G (d + 1) (m_X7_read z_pu0) r) 15 [some (.ref x0), none, none, none] [] (z_poi h x0 2 (nI 0)))) : (z_J G (d + 1) (m_X7_read z_pu0) r) 10 [some (.ref x0), none, none, none] [] h := z_bq (v_X7 z_pu0 (vP_X7_read z_pu0) hPu) hd_X7_read 6 hT
set_option maxRecDepth 20000 in
theorem b_X7_read_15 {G : z_G} {d : Nat} {r : z_Res} (hPu : z_PuV G d (t_X7 z_pu0)) {h : z_H} {x0 : Nat} (hT : (z_kd h x0 = 23 ∧ z_bz (nI 0) ∧ (z_J G (d + 1) (m_X7_read z_pu0) r) 20 [some (.ref x0), none, none, none] [] (z_poi h x0 6 (nI 0)))) : (z_J G (d + 1) (m_X7_read z_pu0) r) 15 [some (.ref x0), none, none, none] [] h := z_bq (v_X7 z_pu0 (vP_X7_read z_pu0) hPu) hd_X7_read 6 hT
set_option maxRecDepth 20000 in
theorem b_X7_read_20 {G : z_G} {d : Nat} {r : z_Res} (hPu : z_PuV G d (t_X7 z_pu0)) {h : z_H} {x0 : Nat} (hT : (z_kd h x0 = 23 ∧ (z_J G (d + 1) (m_X7_read z_pu0) r) 26 [some (.ref x0), none, none, none] [] (z_poi h x0 7 (nI 7)))) : (z_J G (d + 1) (m_X7_read z_pu0) r) 20 [some (.ref x0), none, none, none] [] h := z_bq (v_X7 z_pu0 (vP_X7_read z_pu0) hPu) hd_X7_read 6 hT
set_option maxRecDepth 20000 in
theorem b_X7_read_26 {G : z_G} {d : Nat} {r : z_Res} (hPu : z_PuV G d (t_X7 z_pu0)) {h : z_H} {x0 : Nat} (hT : (z_kd h x0 = 23 ∧ (z_J G (d + 1) (m_X7_read z_pu0) r) 31 [some (.ref x0), none, none, none] [] (z_poi h x0 8 (nI 0)))) : (z_J G (d + 1) (m_X7_read z_pu0) r) 26 [some (.ref x0), none, none, none] [] h := z_bq (v_X7 z_pu0 (vP_X7_read z_pu0) hPu) hd_X7_read 6 hT
set_option maxRecDepth 20000 in
theorem b_X7_read_31 {G : z_G} {d : Nat} {r : z_Res} (hPu : z_PuV G d (t_X7 z_pu0)) {h : z_H} {x0 : Nat} (hT : (z_kd h x0 = 23 ∧ (z_J G (d + 1) (m_X7_read z_pu0) r) 36 [some (.ref x0), none, none, none] [] (z_poi h x0 12 (nI 0)))) : (z_J G (d + 1) (m_X7_read z_pu0) r) 31 [some (.ref x0), none, none, none] [] h := z_bq (v_X7 z_pu0 (vP_X7_read z_pu0) hPu) hd_X7_read 6 hT
set_option maxRecDepth 20000 in
theorem b_X7_read_36 {G : z_G} {d : Nat} {r : z_Res} (hPu : z_PuV G d (t_X7 z_pu0)) {h : z_H} {x0 : Nat} (hT : (z_kd h x0 = 23 ∧ (z_rc (z_or h x0 10) (∃ h_2, z_Ev G d k_J7_fill_53178 [.null, .int (nI 0)] h (.inl none, h_2) ∧ (z_kd h_2 x0 = 23 ∧ (z_rc (z_or h_2 x0 11) (∃ h_4, z_Ev G d k_J7_fill_53178 [.null, .int (nI 0)] h_2 (.inl none, h_4) ∧ (z_J G (d + 1) (m_X7_read z_pu0) r) 54 [some (.ref x0), none, none, some (.int (nI 0))] [] h_4) (fun x_3 => (∃ h_5, z_Ev G d k_J7_fill_53178 [.ref x_3, .int (nI 0)] h_2 (.inl none, h_5) ∧ (z_J G (d + 1) (m_X7_read z_pu0) r) 54 [some (.ref x0), none, none, some (.int (nI 0))] [] h_5))))) (fun x_1 => (∃ h_6, z_Ev G d k_J7_fill_53178 [.ref x_1, .int (nI 0)] h (.inl none, h_6) ∧ (z_kd h_6 x0 = 23 ∧ (z_rc (z_or h_6 x0 11) (∃ h_8, z_Ev G d k_J7_fill_53178 [.null, .int (nI 0)] h_6 (.inl none, h_8) ∧ (z_J G (d + 1) (m_X7_read z_pu0) r) 54 [some (.ref x0), none, none, some (.int (nI 0))] [] h_8) (fun x_7 => (∃ h_9, z_Ev G d k_J7_fill_53178 [.ref x_7, .int (nI 0)] h_6 (.inl none, h_9) ∧ (z_J G (d + 1) (m_X7_read z_pu0) r) 54 [some (.ref x0), none, none, some (.int (nI 0))] [] h_9))))))))) : (z_J G (d + 1) (m_X7_read z_pu0) r) 36 [some (.ref x0), none, none, none] [] h := z_bq (v_X7 z_pu0 (vP_X7_read z_pu0) hPu) hd_X7_read 13 hT
set_option maxRecDepth 20000 in
theorem b_X7_read_54 {G : z_G} {d : Nat} {r : z_Res} (hPu : z_PuV G d (t_X7 z_pu0)) {h : z_H} {x0 : Nat} {x3 : Int32} (hT : (if (nI 400) < x3 then (z_kd h x0 = 23 ∧ r = (.inl (some (.int (z_oi h x0 12))), h)) else (z_kd h x0 = 23 ∧ ∃ h_1, z_Ev G d k_X7_step [.ref x0] h (.inl none, h_1) ∧ (z_kd h_1 x0 = 23 ∧ (if (z_oi h_1 x0 3) = (nI 0) then (z_kd h_1 x0 = 23 ∧ r = (.inl (some (.int (z_oi h_1 x0 12))), h_1)) else (z_kd h_1 x0 = 23 ∧ ∃ x_3 h_2, z_Ev G d k_X7_readClause [.ref x0] h_1 (.inl (some (.int x_3)), h_2) ∧ (if x_3 = (nI 0) then (z_kd h_2 x0 = 23 ∧ r = (.inl (some (.int (z_oi h_2 x0 12))), h_2)) else (z_kd h_2 x0 = 23 ∧ z_bz (nI 1) ∧ (z_J G (d + 1) (m_X7_read z_pu0) r) 54 [some (.ref x0), none, none, some (.int (x3 + (nI 1)))] [] (z_poi h_2 x0 6 (nI 1)))))))))) : (z_J G (d + 1) (m_X7_read z_pu0) r) 54 [some (.ref x0), none, none, some (.int x3)] [] h := z_bq (v_X7 z_pu0 (vP_X7_read z_pu0) hPu) hd_X7_read 19 hT
theorem en_X7_told {pu : Nat → Option ((List Value → z_H → Prop) × (List Value → z_H → Int32))} {G : z_G} {d : Nat} {r : z_Res} {h : z_H} {x0 : Nat} (hJ : z_J G d (m_X7_told pu) r 0 [some (.ref x0)] [] h) : z_Ev G d k_X7_told [.ref x0] h r := z_enter (μ := m_X7_told pu) rfl (by decide) rfl rfl (fun q => by cases q) (Nat.le_of_ble_eq_true rfl) hJ
def hd_X7_told : Nat → Option (List Bool) := (fun k => none)
set_option maxRecDepth 20000 in
theorem b_X7_told_0 {G : z_G} {d : Nat} {r : z_Res} (hPu : z_PuV G d (t_X7 z_pu0)) {h : z_H} {x0 : Nat} (hT : (z_kd (z_nwo (z_nwo h 1 3) 8 15) x0 = 23 ∧ (z_kd (z_nwo (z_nwo h 1 3) 8 15) x0 = 23 ∧ (z_rc (z_or (z_nwo (z_nwo h 1 3) 8 15) x0 9) (z_kd (z_nwo (z_nwo h 1 3) 8 15) x0 = 23 ∧ (∃ h_2, z_Ev G d k_X8_init [.ref (z_n (z_nwo h 1 3)), .int (z_oi (z_nwo (z_nwo h 1 3) 8 15) x0 7), .null, .int (z_oi (z_nwo (z_nwo h 1 3) 8 15) x0 8)] (z_nwo (z_nwo h 1 3) 8 15) (.inl none, h_2) ∧ (z_kd h_2 x0 = 23 ∧ (z_rc (z_or h_2 x0 10) False (fun x_3 => (z_kd h_2 x_3 = 1 ∧ (z_kd (z_nwi h_2 1 (z_ln h_2 x_3) (z_ai h_2 x_3)) (z_n h_2) = 1 ∧ (z_kd (z_nwi h_2 1 (z_ln h_2 x_3) (z_ai h_2 x_3)) x0 = 23 ∧ (z_rc (z_or (z_nwi h_2 1 (z_ln h_2 x_3) (z_ai h_2 x_3)) x0 11) False (fun x_4 => (z_kd (z_nwi h_2 1 (z_ln h_2 x_3) (z_ai h_2 x_3)) x_4 = 1 ∧ (z_kd (z_nwi (z_nwi h_2 1 (z_ln h_2 x_3) (z_ai h_2 x_3)) 1 (z_ln (z_nwi h_2 1 (z_ln h_2 x_3) (z_ai h_2 x_3)) x_4) (z_ai (z_nwi h_2 1 (z_ln h_2 x_3) (z_ai h_2 x_3)) x_4)) (z_n (z_nwi h_2 1 (z_ln h_2 x_3) (z_ai h_2 x_3))) = 1 ∧ (∃ h_5, z_Ev G d k_X1_init [.ref (z_n h), .ref (z_n (z_nwo h 1 3)), .ref (z_n h_2), .ref (z_n (z_nwi h_2 1 (z_ln h_2 x_3) (z_ai h_2 x_3)))] (z_nwi (z_nwi h_2 1 (z_ln h_2 x_3) (z_ai h_2 x_3)) 1 (z_ln (z_nwi h_2 1 (z_ln h_2 x_3) (z_ai h_2 x_3)) x_4) (z_ai (z_nwi h_2 1 (z_ln h_2 x_3) (z_ai h_2 x_3)) x_4)) (.inl none, h_5) ∧ r = (.inl (some (va_rf (some (z_n h)))), h_5)))))))))))))) (fun x_1 => (z_kd (z_nwo (z_nwo h 1 3) 8 15) x0 = 23 ∧ (∃ h_6, z_Ev G d k_X8_init [.ref (z_n (z_nwo h 1 3)), .int (z_oi (z_nwo (z_nwo h 1 3) 8 15) x0 7), .ref x_1, .int (z_oi (z_nwo (z_nwo h 1 3) 8 15) x0 8)] (z_nwo (z_nwo h 1 3) 8 15) (.inl none, h_6) ∧ (z_kd h_6 x0 = 23 ∧ (z_rc (z_or h_6 x0 10) False (fun x_7 => (z_kd h_6 x_7 = 1 ∧ (z_kd (z_nwi h_6 1 (z_ln h_6 x_7) (z_ai h_6 x_7)) (z_n h_6) = 1 ∧ (z_kd (z_nwi h_6 1 (z_ln h_6 x_7) (z_ai h_6 x_7)) x0 = 23 ∧ (z_rc (z_or (z_nwi h_6 1 (z_ln h_6 x_7) (z_ai h_6 x_7)) x0 11) False (fun x_8 => (z_kd (z_nwi h_6 1 (z_ln h_6 x_7) (z_ai h_6 x_7)) x_8 = 1 ∧ (z_kd (z_nwi (z_nwi h_6 1 (z_ln h_6 x_7) (z_ai h_6 x_7)) 1 (z_ln (z_nwi h_6 1 (z_ln h_6 x_7) (z_ai h_6 x_7)) x_8) (z_ai (z_nwi h_6 1 (z_ln h_6 x_7) (z_ai h_6 x_7)) x_8)) (z_n (z_nwi h_6 1 (z_ln h_6 x_7) (z_ai h_6 x_7))) = 1 ∧ (∃ h_9, z_Ev G d k_X1_init [.ref (z_n h), .ref (z_n (z_nwo h 1 3)), .ref (z_n h_6), .ref (z_n (z_nwi h_6 1 (z_ln h_6 x_7) (z_ai h_6 x_7)))] (z_nwi (z_nwi h_6 1 (z_ln h_6 x_7) (z_ai h_6 x_7)) 1 (z_ln (z_nwi h_6 1 (z_ln h_6 x_7) (z_ai h_6 x_7)) x_8) (z_ai (z_nwi h_6 1 (z_ln h_6 x_7) (z_ai h_6 x_7)) x_8)) (.inl none, h_9) ∧ r = (.inl (some (va_rf (some (z_n h)))), h_9))))))))))))))))))) : (z_J G (d + 1) (m_X7_told z_pu0) r) 0 [some (.ref x0)] [] h := z_bq (v_X7 z_pu0 (vP_X7_told z_pu0) hPu) hd_X7_told 23 hT
/-! THE READER: its words -/
section HH
variable {G : z_G} {d x tp n : Nat} {h : z_H} {T : Nat → Nat}
theorem tk_k4 (T : Nat → Nat) (n i : Nat) : tk_k T n i ≤ 4 := by unfold tk_k; split; omega; split; omega; split; omega; split <;> omega
theorem kd_lt (T : Nat → Nat) (n i : Nat) : g_kd T n i < 8 := by
  unfold g_kd
  split; omega; split
  · split; omega; split; omega; split <;> omega
  · split; omega; split
    · split <;> omega
    · omega
theorem k3_s {i : Nat} (hk : tk_k T n i = 3) : T (tk_b T n i) = 59 ∨ T (tk_b T n i) = 45 := by
  unfold tk_k at hk
  split at hk
  · omega
  · split at hk
    · omega
    · split at hk
      · omega
      · split at hk
        · assumption
        · omega
theorem kd0 {i : Nat} : g_kd T n i = 0 ↔ tk_k T n i = 0 := by
  unfold g_kd
  constructor
  · intro e
    split at e
    · assumption
    · split at e
      · split at e
        · omega
        · split at e
          · omega
          · split at e <;> omega
      · split at e
        · omega
        · split at e
          · split at e <;> omega
          · omega
  · intro e; rw [if_pos e]
theorem kd4 {i : Nat} : g_kd T n i = 4 ↔ tk_k T n i = 2 := by
  unfold g_kd
  constructor
  · intro e
    split at e
    · omega
    · split at e
      · split at e
        · omega
        · split at e
          · omega
          · split at e <;> omega
      · split at e
        · assumption
        · split at e
          · split at e <;> omega
          · omega
  · intro e; rw [e]; rfl
theorem kd5 {i : Nat} : g_kd T n i = 5 ↔ tk_k T n i = 3 ∧ T (tk_b T n i) = 59 := by
  unfold g_kd
  constructor
  · intro e
    split at e
    · omega
    · split at e
      · split at e
        · omega
        · split at e
          · omega
          · split at e <;> omega
      · split at e
        · omega
        · split at e
          · rename_i k3
            split at e
            · rename_i e59; exact ⟨k3, e59⟩
            · omega
          · omega
  · intro e; rw [e.1, if_neg (by decide), if_neg (by decide), if_neg (by decide), if_pos rfl, if_pos e.2]
theorem kd6 {i : Nat} : g_kd T n i = 6 ↔ tk_k T n i = 3 ∧ T (tk_b T n i) = 45 := by
  constructor
  · intro e
    unfold g_kd at e
    split at e
    · omega
    · split at e
      · split at e
        · omega
        · split at e
          · omega
          · split at e <;> omega
      · split at e
        · omega
        · split at e
          · rename_i k3
            split at e
            · omega
            · rename_i e59; exact ⟨k3, (k3_s k3).resolve_left e59⟩
          · omega
  · intro e; unfold g_kd; rw [e.1, if_neg (by decide), if_neg (by decide), if_neg (by decide), if_pos rfl, if_neg (by rw [e.2]; decide)]
theorem kdI {i k : Nat} (hk : k < 8) : (nI (g_kd T n i) = nI k) ↔ g_kd T n i = k := nI_eq (by have := kd_lt T n i; omega) (by omega)
theorem e7_fail (hs : rsh x tp h) {F : Nat → Int32} {A : Nat → Nat → Int32} (c : Nat) : z_Ev G (d + 4) k_X7_fail [.ref x, .int (nI c)] (z_hb h x 4 F A) (.inl (some (.int (nI 0))), z_hb h x 4 (z_u (z_u F 12 (nI c)) 13 (F 4)) A) := by
  refine en_X7_fail (b_X7_fail_0 (z_pu0V rfl) ⟨hs.1, hs.1, hs.1, Or.inl rfl, ?_⟩)
  rw [hb_poi, hb_oi, hb_poi, u_ne _ _ (by decide)]
/-- what a reading method does: one word for good, one for a fault -/
def rOut (α : Type) (G : z_G) (d x : Nat) (h : z_H) (κ : z_Key) (As : List Value) (F : Nat → Int32) (A : Nat → Nat → Int32) (o : α ⊕ pE) (P : α → (Nat → Int32) → (Nat → Nat → Int32) → Prop) : Prop := match o with
  | .inl v => ∃ F' A', z_Ev G d κ (.ref x :: As) (z_hb h x 4 F A) (.inl (some (.int (nI 1))), z_hb h x 4 F' A') ∧ P v F' A'
  | .inr e => ∃ F' A', z_Ev G d κ (.ref x :: As) (z_hb h x 4 F A) (.inl (some (.int (nI 0))), z_hb h x 4 F' A') ∧ F' 12 = nI e.1 ∧ F' 13 = nI e.2
/-- behind a fault -/
theorem r_no {κ : z_Key} {As : List Value} {F F' : Nat → Int32} {A A' : Nat → Nat → Int32} {α : Type} {o : α ⊕ pE} {P : α → (Nat → Int32) → (Nat → Nat → Int32) → Prop} {e : pE} (ho : o = .inr e) (hev : z_Ev G d κ (.ref x :: As) (z_hb h x 4 F A) (.inl (some (.int (nI 0))), z_hb h x 4 F' A')) (h12 : F' 12 = nI e.1) (h13 : F' 13 = nI e.2) : rOut α G d x h κ As F A o P := by
  subst ho; exact ⟨F', A', hev, h12, h13⟩
theorem r_yes {κ : z_Key} {As : List Value} {F F' : Nat → Int32} {A A' : Nat → Nat → Int32} {α : Type} {o : α ⊕ pE} {P : α → (Nat → Int32) → (Nat → Nat → Int32) → Prop} {v : α} (ho : o = .inl v) (hev : z_Ev G d κ (.ref x :: As) (z_hb h x 4 F A) (.inl (some (.int (nI 1))), z_hb h x 4 F' A')) (hp : P v F' A') : rOut α G d x h κ As F A o P := by
  subst ho; exact ⟨F', A', hev, hp⟩
def errK (T : Nat → Nat) (n i : Nat) (o : (Nat × Nat) ⊕ Nat) : (Nat × Nat) ⊕ pE := match o with
  | .inl v => .inl v
  | .inr c => .inr (c, tk_b T n i)
theorem e7_isNumber (hs : rsh x tp h) {F : Nat → Int32} {A : Nat → Nat → Int32} {i : Nat} (hc : tokC T n i F) (ht : rtx tp T n h) (hi : i ≤ n) : rOut (Nat × Nat) G (d + 5) x h k_X7_isNumber [] F A (errK T n i (p_num T n i 0 9)) (fun v F' A' => F' = F ∧ A' = A ∧ F 5 = nI v.1 ∧ F 2 = nI v.2 ∧ v.1 ≤ 9) := by
  obtain ⟨c1, c2, c3, c4, c5⟩ := hc
  have h12 : ∀ c, z_u (z_u F 12 (nI c)) 13 (F 4) 12 = nI c := fun c => by rw [u_ne _ _ (by decide), u_eq]
  have h13 : ∀ c, z_u (z_u F 12 (nI c)) 13 (F 4) 13 = nI (tk_b T n i) := fun c => by rw [u_eq, c4]
  by_cases k2 : tk_k T n i = 2
  · have d9 : T (tk_b T n i) - 48 ≤ 9 := by
      unfold tk_k at k2
      split at k2
      · omega
      · split at k2
        · omega
        · split at k2
          · rename_i hd; unfold k_di at hd; have := of_decide_eq_true hd; omega
          · split at k2 <;> omega
    have f5 := c5 k2
    by_cases ce : tk_e T n i = tk_b T n i + 1
    · rw [if_pos ce] at f5
      refine r_yes (v := (T (tk_b T n i) - 48, tk_e T n i)) ?_ (F' := F) (A' := A) (en_X7_isNumber (b_X7_isNumber_0 (z_pu0V rfl) ⟨hs.1, ?_⟩)) ⟨rfl, rfl, f5, c2, d9⟩
      · unfold p_num; rw [if_pos k2, if_pos ⟨ce, Nat.zero_le _, d9⟩]; rfl
      · rw [hb_oi, c3, if_pos ((kdI (by decide)).mpr (kd4.mpr k2)), f5, if_pos (nI_lt (by omega) (by decide))]
        exact ⟨hs.1, Or.inr rfl, rfl⟩
    · rw [if_neg ce] at f5
      refine r_no (e := (2, tk_b T n i)) ?_ (F' := z_u (z_u F 12 (nI 2)) 13 (F 4)) (A' := A) (en_X7_isNumber (b_X7_isNumber_0 (z_pu0V rfl) ⟨hs.1, ?_⟩)) (h12 2) (h13 2)
      · unfold p_num; rw [if_pos k2, if_neg (fun e => ce e.1)]; rfl
      · rw [hb_oi, c3, if_pos ((kdI (by decide)).mpr (kd4.mpr k2)), f5, if_neg (show ¬ nI 10 < nI 10 by decide)]
        refine ⟨hs.1, hs.1, _, _, e7_fail hs 2, ?_⟩
        rw [if_pos rfl]
        exact ⟨Or.inl rfl, rfl⟩
  · refine r_no (e := (1, tk_b T n i)) ?_ (F' := z_u (z_u F 12 (nI 1)) 13 (F 4)) (A' := A) (en_X7_isNumber (b_X7_isNumber_0 (z_pu0V rfl) ⟨hs.1, ?_⟩)) (h12 1) (h13 1)
    · unfold p_num; rw [if_neg k2]; rfl
    · rw [hb_oi, c3, if_neg (fun e => k2 (kd4.mp ((kdI (by decide)).mp e)))]
      exact ⟨hs.1, _, _, e7_fail hs 1, Or.inl rfl, rfl⟩
/-- the reader stands at i -/
def rS (n i : Nat) (F : Nat → Int32) : Prop := F 1 = nI n ∧ F 2 = nI i ∧ i ≤ n
theorem e7_readNumber (hs : rsh x tp h) (ht : rtx tp T n h) {F : Nat → Int32} {A : Nat → Nat → Int32} {i : Nat} (hr : rS n i F) : rOut (Nat × Nat) G (d + 7) x h k_X7_readNumber [] F A (errK T n i (p_num T n i 0 9)) (fun v F' A' => tokC T n i F' ∧ F' 5 = nI v.1 ∧ v.1 ≤ 9 ∧ rS n v.2 F' ∧ agrF [2, 3, 4, 5] F F' ∧ A' = A) := by
  obtain ⟨F1, e1, tc, ag⟩ := e7_step (G := G) (d := d) (A := A) hs ht hr.1 hr.2.2 hr.2.1
  have hnum := e7_isNumber (G := G) (d := d + 1) (A := A) hs tc ht hr.2.2
  cases hp : p_num T n i 0 9 with
  | inl v =>
    rw [hp] at hnum
    obtain ⟨F', A', ev, hF, hA, f5, f2, v9⟩ := hnum
    subst hF; subst hA
    have hv := p_num_9 hr.2.2 hp
    refine r_yes (v := v) rfl (en_X7_readNumber (b_X7_readNumber_0 (z_pu0V rfl) ⟨hs.1, _, e1, hs.1, _, _, ev, Or.inr rfl, rfl⟩)) ⟨tc, f5, v9, ⟨tc.1, f2, ?_⟩, ag, rfl⟩
    rw [hv.2.2.2.1]; exact (tk_en hr.2.2).2
  | inr c =>
    rw [hp] at hnum
    obtain ⟨F', A', ev, q12, q13⟩ := hnum
    exact r_no (e := (c, tk_b T n i)) rfl (en_X7_readNumber (b_X7_readNumber_0 (z_pu0V rfl) ⟨hs.1, _, e1, hs.1, _, _, ev, Or.inl rfl, rfl⟩)) q12 q13
theorem e7_isPointThere (hs : rsh x tp h) {F : Nat → Int32} {A : Nat → Nat → Int32} {np v : Nat} (h5 : F 5 = nI v) (hv : v ≤ 9) (h7 : F 7 = nI np) (hnp : np ≤ 8) : z_Ev G (d + 5) k_X7_isPointThere [.ref x] (z_hb h x 4 F A) (if v < np then (.inl (some (.int (nI 1))), z_hb h x 4 F A) else (.inl (some (.int (nI 0))), z_hb h x 4 (z_u (z_u F 12 (nI 3)) 13 (F 4)) A)) := by
  refine en_X7_isPointThere (b_X7_isPointThere_0 (z_pu0V rfl) ⟨hs.1, hs.1, ?_⟩)
  rw [hb_oi, h5, h7]
  by_cases c : v < np
  · rw [if_pos (nI_lt c (by omega)), if_pos c]
    exact ⟨Or.inr rfl, rfl⟩
  · rw [if_neg (nI_nlt (by omega) (by omega)), if_neg c]
    refine ⟨hs.1, _, _, e7_fail hs 3, ?_⟩
    rw [if_pos rfl]
    exact ⟨Or.inl rfl, rfl⟩
theorem e7_readClose (hs : rsh x tp h) (ht : rtx tp T n h) {F : Nat → Int32} {A : Nat → Nat → Int32} {i : Nat} (hr : rS n i F) : rOut Nat G (d + 7) x h k_X7_readClose [] F A (if tk_k T n i = 3 ∧ T (tk_b T n i) = 59 then .inl (tk_e T n i) else .inr (1, tk_b T n i)) (fun j F' A' => tokC T n i F' ∧ rS n j F' ∧ agrF [2, 3, 4, 5] F F' ∧ A' = A) := by
  obtain ⟨F1, e1, tc, ag⟩ := e7_step (G := G) (d := d) (A := A) hs ht hr.1 hr.2.2 hr.2.1
  by_cases c : tk_k T n i = 3 ∧ T (tk_b T n i) = 59
  · rw [if_pos c]
    refine r_yes rfl (en_X7_readClose (b_X7_readClose_0 (z_pu0V rfl) ⟨hs.1, _, e1, hs.1, ?_⟩)) ⟨tc, ⟨tc.1, tc.2.1, (tk_en hr.2.2).2⟩, ag, rfl⟩
    rw [hb_oi, tc.2.2.1, if_pos ((kdI (by decide)).mpr (kd5.mpr c))]
    exact ⟨Or.inr rfl, rfl⟩
  · rw [if_neg c]
    refine r_no rfl (F' := z_u (z_u F1 12 (nI 1)) 13 (F1 4)) (A' := A) (en_X7_readClose (b_X7_readClose_0 (z_pu0V rfl) ⟨hs.1, _, e1, hs.1, ?_⟩)) (by rw [u_ne _ _ (by decide), u_eq]) (by rw [u_eq, tc.2.2.2.1])
    rw [hb_oi, tc.2.2.1, if_neg (fun e => c (kd5.mp ((kdI (by decide)).mp e)))]
    refine ⟨hs.1, _, _, e7_fail hs 1, ?_⟩
    rw [if_pos rfl]
    exact ⟨Or.inl rfl, rfl⟩
theorem e7_readSigned (hs : rsh x tp h) (ht : rtx tp T n h) {F : Nat → Int32} {A : Nat → Nat → Int32} {i : Nat} (hr : rS n i F) : rOut (Int32 × Nat) G (d + 7) x h k_X7_readSigned [] F A (p_sg T n i) (fun v F' A' => F' 5 = v.1 ∧ rS n v.2 F' ∧ agrF [2, 3, 4, 5] F F' ∧ A' = A) := by
  obtain ⟨F1, e1, tc, ag⟩ := e7_step (G := G) (d := d) (A := A) hs ht hr.1 hr.2.2 hr.2.1
  have hen := (tk_en (T := T) hr.2.2).2
  by_cases c : tk_k T n i = 3 ∧ T (tk_b T n i) = 45
  · obtain ⟨F2, e2, tc2, ag2⟩ := e7_step (G := G) (d := d) (F := F1) (A := A) hs ht tc.1 hen tc.2.1
    have hnum := e7_isNumber (G := G) (d := d + 1) (A := A) hs tc2 ht hen
    have blk : ∀ R, (∃ x_4 h_3, z_Ev G (d + 6) k_X7_isNumber [.ref x] (z_hb h x 4 F2 A) (.inl (some (.int x_4)), h_3) ∧ (if x_4 = nI 0 then (z_bz (nI 0) ∧ R = (.inl (some (.int (nI 0))), h_3)) else (z_kd h_3 x = 23 ∧ (z_kd h_3 x = 23 ∧ (z_bz (nI 1) ∧ R = (.inl (some (.int (nI 1))), z_poi h_3 x 5 (-(z_oi h_3 x 5)))))))) → z_Ev G (d + 7) k_X7_readSigned [.ref x] (z_hb h x 4 F A) R := by
      intro R hh
      refine en_X7_readSigned (b_X7_readSigned_0 (z_pu0V rfl) ⟨hs.1, _, e1, hs.1, ?_⟩)
      rw [hb_oi, tc.2.2.1, if_pos ((kdI (by decide)).mpr (kd6.mpr c))]
      exact ⟨hs.1, _, e2, hs.1, hh⟩
    unfold p_sg
    rw [if_pos c]
    cases hp : p_num T n (tk_e T n i) 0 9 with
    | inl v =>
      rw [hp] at hnum
      obtain ⟨F', A', ev, hF, hA, f5, f2, v9⟩ := hnum
      subst hF; subst hA
      have hv := p_num_9 hen hp
      refine r_yes (v := (-(nI v.1), v.2)) rfl (F' := z_u F' 5 (-(nI v.1))) (A' := A') (blk _ ⟨_, _, ev, ?_⟩) ⟨u_eq _ _ _, ⟨by rw [u_ne _ _ (by decide)]; exact tc2.1, by rw [u_ne _ _ (by decide)]; exact f2, by rw [hv.2.2.2.1]; exact (tk_en hen).2⟩, agF_u (agrF_tr ag ag2) (by decide), rfl⟩
      rw [if_neg (by decide), hb_oi, f5, hb_poi]
      exact ⟨hs.1, hs.1, Or.inr rfl, rfl⟩
    | inr k =>
      rw [hp] at hnum
      obtain ⟨F', A', ev, q12, q13⟩ := hnum
      refine r_no (e := (k, tk_b T n (tk_e T n i))) (F' := F') (A' := A') rfl (blk _ ⟨_, _, ev, ?_⟩) q12 q13
      rw [if_pos rfl]
      exact ⟨Or.inl rfl, rfl⟩
  · have hnum := e7_isNumber (G := G) (d := d + 1) (A := A) hs tc ht hr.2.2
    have blk : ∀ R, (∃ x_6 h_5, z_Ev G (d + 6) k_X7_isNumber [.ref x] (z_hb h x 4 F1 A) (.inl (some (.int x_6)), h_5) ∧ (z_bz x_6 ∧ R = (.inl (some (.int x_6)), h_5))) → z_Ev G (d + 7) k_X7_readSigned [.ref x] (z_hb h x 4 F A) R := by
      intro R hh
      refine en_X7_readSigned (b_X7_readSigned_0 (z_pu0V rfl) ⟨hs.1, _, e1, hs.1, ?_⟩)
      rw [hb_oi, tc.2.2.1, if_neg (fun e => c (kd6.mp ((kdI (by decide)).mp e)))]
      exact ⟨hs.1, hh⟩
    unfold p_sg
    rw [if_neg c]
    cases hp : p_num T n i 0 9 with
    | inl v =>
      rw [hp] at hnum
      obtain ⟨F', A', ev, hF, hA, f5, f2, v9⟩ := hnum
      subst hF; subst hA
      have hv := p_num_9 hr.2.2 hp
      exact r_yes (v := (nI v.1, v.2)) rfl (blk _ ⟨_, _, ev, Or.inr rfl, rfl⟩) ⟨f5, ⟨tc.1, f2, by rw [hv.2.2.2.1]; exact hen⟩, ag, rfl⟩
    | inr k =>
      rw [hp] at hnum
      obtain ⟨F', A', ev, q12, q13⟩ := hnum
      exact r_no (e := (k, tk_b T n i)) rfl (blk _ ⟨_, _, ev, Or.inl rfl, rfl⟩) q12 q13
end HH
