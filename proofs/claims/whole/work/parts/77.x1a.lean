theorem en_X1_inLine {pu : Nat → Option ((List Value → z_H → Prop) × (List Value → z_H → Int32))} {G : z_G} {d : Nat} {r : z_Res} {h : z_H} {x0 : Nat} {x1 : Int32} {x2 : Int32} {x3 : Int32} (hJ : z_J G d (m_X1_inLine pu) r 0 [some (.ref x0), some (.int x1), some (.int x2), some (.int x3)] [] h) : z_Ev G d k_X1_inLine [.ref x0, .int x1, .int x2, .int x3] h r := z_enter (μ := m_X1_inLine pu) rfl (by decide) rfl rfl (fun q => by cases q) (Nat.le_of_ble_eq_true rfl) hJ
def hd_X1_inLine : Nat → Option (List Bool) := (fun k => none)
set_option maxRecDepth 20000 in
theorem b_X1_inLine_0 {G : z_G} {d : Nat} {r : z_Res} (hPu : z_PuV G d (t_X1 z_pu0)) {h : z_H} {x0 : Nat} {x1 : Int32} {x2 : Int32} {x3 : Int32} (hT : (z_kd h x0 = 17 ∧ (z_rc (z_or h x0 1) False (fun x_1 => (z_kd h x_1 = 1 ∧ vp_in x2 (z_ln h x_1) ∧ (z_kd h x0 = 17 ∧ (z_rc (z_or h x0 1) False (fun x_2 => (z_kd h x_2 = 1 ∧ vp_in x1 (z_ln h x_2) ∧ (z_kd h x0 = 17 ∧ (z_rc (z_or h x0 2) False (fun x_3 => (z_kd h x_3 = 1 ∧ vp_in x3 (z_ln h x_3) ∧ (z_kd h x0 = 17 ∧ (z_rc (z_or h x0 2) False (fun x_4 => (z_kd h x_4 = 1 ∧ vp_in x1 (z_ln h x_4) ∧ (z_kd h x0 = 17 ∧ (z_rc (z_or h x0 1) False (fun x_5 => (z_kd h x_5 = 1 ∧ vp_in x3 (z_ln h x_5) ∧ (z_kd h x0 = 17 ∧ (z_rc (z_or h x0 1) False (fun x_6 => (z_kd h x_6 = 1 ∧ vp_in x1 (z_ln h x_6) ∧ (z_kd h x0 = 17 ∧ (z_rc (z_or h x0 2) False (fun x_7 => (z_kd h x_7 = 1 ∧ vp_in x2 (z_ln h x_7) ∧ (z_kd h x0 = 17 ∧ (z_rc (z_or h x0 2) False (fun x_8 => (z_kd h x_8 = 1 ∧ vp_in x1 (z_ln h x_8) ∧ (if (((z_ai h x_1 (Int32.toNatClampNeg x2)) - (z_ai h x_2 (Int32.toNatClampNeg x1))) * ((z_ai h x_3 (Int32.toNatClampNeg x3)) - (z_ai h x_4 (Int32.toNatClampNeg x1)))) = (((z_ai h x_5 (Int32.toNatClampNeg x3)) - (z_ai h x_6 (Int32.toNatClampNeg x1))) * ((z_ai h x_7 (Int32.toNatClampNeg x2)) - (z_ai h x_8 (Int32.toNatClampNeg x1)))) then (z_bz (nI 1) ∧ r = (.inl (some (.int (nI 1))), h)) else (z_bz (nI 0) ∧ r = (.inl (some (.int (nI 0))), h)))))))))))))))))))))))))))))))))))) : (z_J G (d + 1) (m_X1_inLine z_pu0) r) 0 [some (.ref x0), some (.int x1), some (.int x2), some (.int x3)] [] h := z_bq (v_X1 z_pu0 (vP_X1_inLine z_pu0) hPu) hd_X1_inLine 44 hT
theorem en_X1_sameAt {pu : Nat → Option ((List Value → z_H → Prop) × (List Value → z_H → Int32))} {G : z_G} {d : Nat} {r : z_Res} {h : z_H} {x0 : Nat} {x1 : Int32} {x2 : Int32} (hJ : z_J G d (m_X1_sameAt pu) r 0 [some (.ref x0), some (.int x1), some (.int x2)] [] h) : z_Ev G d k_X1_sameAt [.ref x0, .int x1, .int x2] h r := z_enter (μ := m_X1_sameAt pu) rfl (by decide) rfl rfl (fun q => by cases q) (Nat.le_of_ble_eq_true rfl) hJ
def hd_X1_sameAt : Nat → Option (List Bool) := (fun k => none)
set_option maxRecDepth 20000 in
theorem b_X1_sameAt_0 {G : z_G} {d : Nat} {r : z_Res} (hPu : z_PuV G d (t_X1 z_pu0)) {h : z_H} {x0 : Nat} {x1 : Int32} {x2 : Int32} (hT : (z_kd h x0 = 17 ∧ (z_rc (z_or h x0 1) False (fun x_1 => (z_kd h x_1 = 1 ∧ vp_in x1 (z_ln h x_1) ∧ (z_kd h x0 = 17 ∧ (z_rc (z_or h x0 1) False (fun x_2 => (z_kd h x_2 = 1 ∧ vp_in x2 (z_ln h x_2) ∧ (if (z_ai h x_1 (Int32.toNatClampNeg x1)) = (z_ai h x_2 (Int32.toNatClampNeg x2)) then (z_kd h x0 = 17 ∧ (z_rc (z_or h x0 2) False (fun x_3 => (z_kd h x_3 = 1 ∧ vp_in x1 (z_ln h x_3) ∧ (z_kd h x0 = 17 ∧ (z_rc (z_or h x0 2) False (fun x_4 => (z_kd h x_4 = 1 ∧ vp_in x2 (z_ln h x_4) ∧ (if (z_ai h x_3 (Int32.toNatClampNeg x1)) = (z_ai h x_4 (Int32.toNatClampNeg x2)) then (z_bz (nI 1) ∧ r = (.inl (some (.int (nI 1))), h)) else (z_bz (nI 0) ∧ r = (.inl (some (.int (nI 0))), h))))))))))) else (z_bz (nI 0) ∧ r = (.inl (some (.int (nI 0))), h)))))))))))) : (z_J G (d + 1) (m_X1_sameAt z_pu0) r) 0 [some (.ref x0), some (.int x1), some (.int x2)] [] h := z_bq (v_X1 z_pu0 (vP_X1_sameAt z_pu0) hPu) hd_X1_sameAt 23 hT
theorem en_X1_leavesOut {pu : Nat → Option ((List Value → z_H → Prop) × (List Value → z_H → Int32))} {G : z_G} {d : Nat} {r : z_Res} {h : z_H} {x0 : Nat} {x1 : Int32} {x2 : Int32} {x3 : Int32} (hJ : z_J G d (m_X1_leavesOut pu) r 0 [some (.ref x0), some (.int x1), some (.int x2), some (.int x3), none] [] h) : z_Ev G d k_X1_leavesOut [.ref x0, .int x1, .int x2, .int x3] h r := z_enter (μ := m_X1_leavesOut pu) rfl (by decide) rfl rfl (fun q => by cases q) (Nat.le_of_ble_eq_true rfl) hJ
def hd_X1_leavesOut : Nat → Option (List Bool) := (fun k => (cond (Nat.blt k 39) (cond (Nat.beq k 3) (some [true, true, true, true, true]) none) none))
set_option maxRecDepth 20000 in
theorem b_X1_leavesOut_0 {G : z_G} {d : Nat} {r : z_Res} (hPu : z_PuV G d (t_X1 z_pu0)) {h : z_H} {x0 : Nat} {x1 : Int32} {x2 : Int32} {x3 : Int32} (hT : (z_J G (d + 1) (m_X1_leavesOut z_pu0) r) 3 [some (.ref x0), some (.int x1), some (.int x2), some (.int x3), some (.int (nI 0))] [] h) : (z_J G (d + 1) (m_X1_leavesOut z_pu0) r) 0 [some (.ref x0), some (.int x1), some (.int x2), some (.int x3), none] [] h := z_bq (v_X1 z_pu0 (vP_X1_leavesOut z_pu0) hPu) hd_X1_leavesOut 5 hT
set_option maxRecDepth 20000 in
theorem b_X1_leavesOut_3 {G : z_G} {d : Nat} {r : z_Res} (hPu : z_PuV G d (t_X1 z_pu0)) {h : z_H} {x0 : Nat} {x1 : Int32} {x2 : Int32} {x3 : Int32} {x4 : Int32} (hT : (if x4 < x3 then (if ((x1 >>> (x4 &&& (nI 31))) &&& (nI 1)) = (nI 0) then (z_J G (d + 1) (m_X1_leavesOut z_pu0) r) 3 [some (.ref x0), some (.int x1), some (.int x2), some (.int x3), some (.int (x4 + (nI 1)))] [] h else (z_kd h x0 = 17 ∧ ∃ x_2 h_1, z_Ev G d k_X1_inLine [.ref x0, .int x2, .int x3, .int x4] h (.inl (some (.int x_2)), h_1) ∧ (if x_2 = (nI 0) then (z_bz (nI 1) ∧ r = (.inl (some (.int (nI 1))), h_1)) else (z_J G (d + 1) (m_X1_leavesOut z_pu0) r) 3 [some (.ref x0), some (.int x1), some (.int x2), some (.int x3), some (.int (x4 + (nI 1)))] [] h_1))) else (z_bz (nI 0) ∧ r = (.inl (some (.int (nI 0))), h)))) : (z_J G (d + 1) (m_X1_leavesOut z_pu0) r) 3 [some (.ref x0), some (.int x1), some (.int x2), some (.int x3), some (.int x4)] [] h := z_bq (v_X1 z_pu0 (vP_X1_leavesOut z_pu0) hPu) hd_X1_leavesOut 20 hT
theorem en_X1_isSlip {pu : Nat → Option ((List Value → z_H → Prop) × (List Value → z_H → Int32))} {G : z_G} {d : Nat} {r : z_Res} {h : z_H} {x0 : Nat} {x1 : Int32} (hJ : z_J G d (m_X1_isSlip pu) r 0 [some (.ref x0), some (.int x1), none, none] [] h) : z_Ev G d k_X1_isSlip [.ref x0, .int x1] h r := z_enter (μ := m_X1_isSlip pu) rfl (by decide) rfl rfl (fun q => by cases q) (Nat.le_of_ble_eq_true rfl) hJ
def hd_X1_isSlip : Nat → Option (List Bool) := (fun k => (cond (Nat.blt k 67) (cond (Nat.blt k 15) (cond (Nat.beq k 2) (some [true, true, true, false]) none) (cond (Nat.beq k 15) (some [true, true, true, true]) none)) none))
set_option maxRecDepth 20000 in
theorem b_X1_isSlip_0 {G : z_G} {d : Nat} {r : z_Res} (hPu : z_PuV G d (t_X1 z_pu0)) {h : z_H} {x0 : Nat} {x1 : Int32} (hT : (z_J G (d + 1) (m_X1_isSlip z_pu0) r) 2 [some (.ref x0), some (.int x1), some (.int (nI 0)), none] [] h) : (z_J G (d + 1) (m_X1_isSlip z_pu0) r) 0 [some (.ref x0), some (.int x1), none, none] [] h := z_bq (v_X1 z_pu0 (vP_X1_isSlip z_pu0) hPu) hd_X1_isSlip 5 hT
set_option maxRecDepth 20000 in
theorem b_X1_isSlip_2 {G : z_G} {d : Nat} {r : z_Res} (hPu : z_PuV G d (t_X1 z_pu0)) {h : z_H} {x0 : Nat} {x1 : Int32} {x2 : Int32} (hT : (z_kd h x0 = 17 ∧ (z_rc (z_or h x0 0) False (fun x_1 => (z_kd h x_1 = 24 ∧ (if x2 < (z_oi h x_1 0) then (z_J G (d + 1) (m_X1_isSlip z_pu0) r) 15 [some (.ref x0), some (.int x1), some (.int x2), some (.int (nI 0))] [] h else (z_bz (nI 0) ∧ r = (.inl (some (.int (nI 0))), h)))))))) : (z_J G (d + 1) (m_X1_isSlip z_pu0) r) 2 [some (.ref x0), some (.int x1), some (.int x2), none] [] h := z_bq (v_X1 z_pu0 (vP_X1_isSlip z_pu0) hPu) hd_X1_isSlip 10 hT
set_option maxRecDepth 20000 in
theorem b_X1_isSlip_15 {G : z_G} {d : Nat} {r : z_Res} (hPu : z_PuV G d (t_X1 z_pu0)) {h : z_H} {x0 : Nat} {x1 : Int32} {x2 : Int32} {x3 : Int32} (hT : (if x3 < x2 then (if (((x1 >>> (x2 &&& (nI 31))) &&& (x1 >>> (x3 &&& (nI 31)))) &&& (nI 1)) = (nI 0) then (z_J G (d + 1) (m_X1_isSlip z_pu0) r) 15 [some (.ref x0), some (.int x1), some (.int x2), some (.int (x3 + (nI 1)))] [] h else (z_kd h x0 = 17 ∧ ∃ x_2 h_1, z_Ev G d k_X1_sameAt [.ref x0, .int x2, .int x3] h (.inl (some (.int x_2)), h_1) ∧ (if x_2 = (nI 0) then (z_kd h_1 x0 = 17 ∧ ∃ x_4 h_3, z_Ev G d k_X1_leavesOut [.ref x0, .int x1, .int x2, .int x3] h_1 (.inl (some (.int x_4)), h_3) ∧ (if x_4 = (nI 0) then (z_J G (d + 1) (m_X1_isSlip z_pu0) r) 15 [some (.ref x0), some (.int x1), some (.int x2), some (.int (x3 + (nI 1)))] [] h_3 else (z_bz (nI 1) ∧ r = (.inl (some (.int (nI 1))), h_3)))) else (z_bz (nI 1) ∧ r = (.inl (some (.int (nI 1))), h_1))))) else (z_J G (d + 1) (m_X1_isSlip z_pu0) r) 2 [some (.ref x0), some (.int x1), some (.int (x2 + (nI 1))), none] [] h)) : (z_J G (d + 1) (m_X1_isSlip z_pu0) r) 15 [some (.ref x0), some (.int x1), some (.int x2), some (.int x3)] [] h := z_bq (v_X1 z_pu0 (vP_X1_isSlip z_pu0) hPu) hd_X1_isSlip 29 hT
theorem en_X1_slips {pu : Nat → Option ((List Value → z_H → Prop) × (List Value → z_H → Int32))} {G : z_G} {d : Nat} {r : z_Res} {h : z_H} {x0 : Nat} (hJ : z_J G d (m_X1_slips pu) r 0 [some (.ref x0), none, none] [] h) : z_Ev G d k_X1_slips [.ref x0] h r := z_enter (μ := m_X1_slips pu) rfl (by decide) rfl rfl (fun q => by cases q) (Nat.le_of_ble_eq_true rfl) hJ
def hd_X1_slips : Nat → Option (List Bool) := (fun k => (cond (Nat.blt k 42) (cond (Nat.beq k 4) (some [true, true, true]) none) none))
set_option maxRecDepth 20000 in
theorem b_X1_slips_0 {G : z_G} {d : Nat} {r : z_Res} (hPu : z_PuV G d (t_X1 z_pu0)) {h : z_H} {x0 : Nat} (hT : (z_J G (d + 1) (m_X1_slips z_pu0) r) 4 [some (.ref x0), some (.int (nI 0)), some (.int (nI 0))] [] h) : (z_J G (d + 1) (m_X1_slips z_pu0) r) 0 [some (.ref x0), none, none] [] h := z_bq (v_X1 z_pu0 (vP_X1_slips z_pu0) hPu) hd_X1_slips 7 hT
set_option maxRecDepth 20000 in
theorem b_X1_slips_4 {G : z_G} {d : Nat} {r : z_Res} (hPu : z_PuV G d (t_X1 z_pu0)) {h : z_H} {x0 : Nat} {x1 : Int32} {x2 : Int32} (hT : (z_kd h x0 = 17 ∧ (z_rc (z_or h x0 0) False (fun x_1 => (z_kd h x_1 = 24 ∧ (if x2 < (z_oi h x_1 1) then (z_kd h x0 = 17 ∧ (z_rc (z_or h x0 0) False (fun x_2 => (z_kd h x_2 = 24 ∧ (z_rc (z_or h x_2 2) False (fun x_3 => (z_kd h x_3 = 1 ∧ vp_in x2 (z_ln h x_3) ∧ (z_kd h x0 = 17 ∧ ∃ x_5 h_4, z_Ev G d k_X1_isSlip [.ref x0, .int (z_ai h x_3 (Int32.toNatClampNeg x2))] h (.inl (some (.int x_5)), h_4) ∧ (if x_5 = (nI 0) then (z_J G (d + 1) (m_X1_slips z_pu0) r) 4 [some (.ref x0), some (.int x1), some (.int (x2 + (nI 1)))] [] h_4 else (z_J G (d + 1) (m_X1_slips z_pu0) r) 4 [some (.ref x0), some (.int (x1 + (nI 1))), some (.int (x2 + (nI 1)))] [] h_4))))))))) else r = (.inl (some (.int x1)), h))))))) : (z_J G (d + 1) (m_X1_slips z_pu0) r) 4 [some (.ref x0), some (.int x1), some (.int x2)] [] h := z_bq (v_X1 z_pu0 (vP_X1_slips z_pu0) hPu) hd_X1_slips 19 hT
theorem en_X1_strays {pu : Nat → Option ((List Value → z_H → Prop) × (List Value → z_H → Int32))} {G : z_G} {d : Nat} {r : z_Res} {h : z_H} {x0 : Nat} (hJ : z_J G d (m_X1_strays pu) r 0 [some (.ref x0), none, none, none, none, none, none] [] h) : z_Ev G d k_X1_strays [.ref x0] h r := z_enter (μ := m_X1_strays pu) rfl (by decide) rfl rfl (fun q => by cases q) (Nat.le_of_ble_eq_true rfl) hJ
def hd_X1_strays : Nat → Option (List Bool) := (fun k => (cond (Nat.blt k 113) (cond (Nat.blt k 17) (cond (Nat.beq k 4) (some [true, true, true, false, false, false, false]) none) (cond (Nat.blt k 63) (cond (Nat.beq k 17) (some [true, true, true, true, false, false, false]) none) (cond (Nat.beq k 63) (some [true, true, true, true, false, true, true]) none))) none))
set_option maxRecDepth 20000 in
theorem b_X1_strays_0 {G : z_G} {d : Nat} {r : z_Res} (hPu : z_PuV G d (t_X1 z_pu0)) {h : z_H} {x0 : Nat} (hT : (z_J G (d + 1) (m_X1_strays z_pu0) r) 4 [some (.ref x0), some (.int (nI 0)), some (.int (nI 0)), none, none, none, none] [] h) : (z_J G (d + 1) (m_X1_strays z_pu0) r) 0 [some (.ref x0), none, none, none, none, none, none] [] h := z_bq (v_X1 z_pu0 (vP_X1_strays z_pu0) hPu) hd_X1_strays 7 hT
set_option maxRecDepth 20000 in
theorem b_X1_strays_4 {G : z_G} {d : Nat} {r : z_Res} (hPu : z_PuV G d (t_X1 z_pu0)) {h : z_H} {x0 : Nat} {x1 : Int32} {x2 : Int32} (hT : (z_kd h x0 = 17 ∧ (z_rc (z_or h x0 0) False (fun x_1 => (z_kd h x_1 = 24 ∧ (if x2 < (z_oi h x_1 0) then (z_J G (d + 1) (m_X1_strays z_pu0) r) 17 [some (.ref x0), some (.int x1), some (.int x2), some (.int (nI 0)), none, none, none] [] h else r = (.inl (some (.int x1)), h))))))) : (z_J G (d + 1) (m_X1_strays z_pu0) r) 4 [some (.ref x0), some (.int x1), some (.int x2), none, none, none, none] [] h := z_bq (v_X1 z_pu0 (vP_X1_strays z_pu0) hPu) hd_X1_strays 10 hT
set_option maxRecDepth 20000 in
theorem b_X1_strays_17 {G : z_G} {d : Nat} {r : z_Res} (hPu : z_PuV G d (t_X1 z_pu0)) {h : z_H} {x0 : Nat} {x1 : Int32} {x2 : Int32} {x3 : Int32} (hT : (if x3 < x2 then (z_kd h x0 = 17 ∧ (z_rc (z_or h x0 0) False (fun x_1 => (z_kd h x_1 = 24 ∧ (z_rc (z_or h x_1 7) False (fun x_2 => (z_kd h x_2 = 1 ∧ vp_in ((x2 * (nI 8)) + x3) (z_ln h x_2) ∧ (if (z_ai h x_2 (Int32.toNatClampNeg ((x2 * (nI 8)) + x3))) = mI then (z_J G (d + 1) (m_X1_strays z_pu0) r) 63 [some (.ref x0), some (.int x1), some (.int x2), some (.int x3), none, some (.int (nI 0)), some (.int (nI 0))] [] h else (z_kd h x0 = 17 ∧ (z_rc (z_or h x0 0) False (fun x_3 => (z_kd h x_3 = 24 ∧ (z_rc (z_or h x_3 2) False (fun x_4 => (z_kd h x_4 = 1 ∧ vp_in (z_ai h x_2 (Int32.toNatClampNeg ((x2 * (nI 8)) + x3))) (z_ln h x_4) ∧ (z_J G (d + 1) (m_X1_strays z_pu0) r) 63 [some (.ref x0), some (.int x1), some (.int x2), some (.int x3), none, some (.int (z_ai h x_4 (Int32.toNatClampNeg (z_ai h x_2 (Int32.toNatClampNeg ((x2 * (nI 8)) + x3)))))), some (.int (nI 0))] [] h))))))))))))))) else (z_J G (d + 1) (m_X1_strays z_pu0) r) 4 [some (.ref x0), some (.int x1), some (.int (x2 + (nI 1))), none, none, none, none] [] h)) : (z_J G (d + 1) (m_X1_strays z_pu0) r) 17 [some (.ref x0), some (.int x1), some (.int x2), some (.int x3), none, none, none] [] h := z_bq (v_X1 z_pu0 (vP_X1_strays z_pu0) hPu) hd_X1_strays 27 hT
set_option maxRecDepth 20000 in
theorem b_X1_strays_63 {G : z_G} {d : Nat} {r : z_Res} (hPu : z_PuV G d (t_X1 z_pu0)) {h : z_H} {x0 : Nat} {x1 : Int32} {x2 : Int32} {x3 : Int32} {x5 : Int32} {x6 : Int32} (hT : (if x6 < x3 then (if ((x5 >>> (x6 &&& (nI 31))) &&& (nI 1)) = (nI 0) then (z_kd h x0 = 17 ∧ ∃ x_2 h_1, z_Ev G d k_X1_inLine [.ref x0, .int x2, .int x3, .int x6] h (.inl (some (.int x_2)), h_1) ∧ (if x_2 = (nI 0) then (z_J G (d + 1) (m_X1_strays z_pu0) r) 63 [some (.ref x0), some (.int x1), some (.int x2), some (.int x3), none, some (.int x5), some (.int (x6 + (nI 1)))] [] h_1 else (z_J G (d + 1) (m_X1_strays z_pu0) r) 63 [some (.ref x0), some (.int (x1 + (nI 1))), some (.int x2), some (.int x3), none, some (.int x5), some (.int (x6 + (nI 1)))] [] h_1)) else (z_J G (d + 1) (m_X1_strays z_pu0) r) 63 [some (.ref x0), some (.int x1), some (.int x2), some (.int x3), none, some (.int x5), some (.int (x6 + (nI 1)))] [] h) else (z_J G (d + 1) (m_X1_strays z_pu0) r) 17 [some (.ref x0), some (.int x1), some (.int x2), some (.int (x3 + (nI 1))), none, none, none] [] h)) : (z_J G (d + 1) (m_X1_strays z_pu0) r) 63 [some (.ref x0), some (.int x1), some (.int x2), some (.int x3), none, some (.int x5), some (.int x6)] [] h := z_bq (v_X1 z_pu0 (vP_X1_strays z_pu0) hPu) hd_X1_strays 21 hT
/-! the class: a card at c: its scheme at q, b; its places at u, v -/
def cd_at (c q b u v : Nat) (h : z_H) (cd : Cd) : Prop := z_kd h c = 17 ∧ z_or h c 0 = some q ∧ (z_or h c 1 = some u ∧ z_kd h u = 1 ∧ z_ln h u = 8) ∧ (z_or h c 2 = some v ∧ z_kd h v = 1 ∧ z_ln h v = 8) ∧ sc_at q b h cd.1 ∧ ∀ p, p < 8 → z_ai h u p = cd.2.1 p ∧ z_ai h v p = cd.2.2 p
theorem rowC_x (cd : Cd) {p : Nat} (hp : p < 8) : rowC cd (14 + p) = cd.2.1 p := by
  unfold rowC
  rw [if_neg (by omega), if_neg (by omega), if_neg (by omega), if_pos (by omega), Nat.add_sub_cancel_left]
theorem rowC_y (cd : Cd) {p : Nat} (hp : p < 8) : rowC cd (22 + p) = cd.2.2 p := by
  unfold rowC
  rw [if_neg (by omega), if_neg (by omega), if_neg (by omega), if_neg (by omega), Nat.add_sub_cancel_left]
section EE
variable {G : z_G} {d c q b u v : Nat} {h : z_H} {cd : Cd}
theorem k_kd (hC : cd_at c q b u v h cd) : z_kd h c = 17 := hC.1
theorem k_sc (hC : cd_at c q b u v h cd) : z_or h c 0 = some q := hC.2.1
theorem k_xs (hC : cd_at c q b u v h cd) : z_or h c 1 = some u ∧ z_kd h u = 1 ∧ z_ln h u = 8 := hC.2.2.1
theorem k_ys (hC : cd_at c q b u v h cd) : z_or h c 2 = some v ∧ z_kd h v = 1 ∧ z_ln h v = 8 := hC.2.2.2.1
theorem k_S (hC : cd_at c q b u v h cd) : sc_at q b h cd.1 := hC.2.2.2.2.1
theorem k_x (hC : cd_at c q b u v h cd) {p : Nat} (hp : p < 8) : z_ai h u p = rowC cd (14 + p) := by rw [rowC_x cd hp]; exact (hC.2.2.2.2.2 p hp).1
theorem k_y (hC : cd_at c q b u v h cd) {p : Nat} (hp : p < 8) : z_ai h v p = rowC cd (22 + p) := by rw [rowC_y cd hp]; exact (hC.2.2.2.2.2 p hp).2
theorem e1_inLine (hC : cd_at c q b u v h cd) {x y z : Nat} (hx : x < 8) (hy : y < 8) (hz : z < 8) : z_Ev G (d + 4) k_X1_inLine [.ref c, .int (nI x), .int (nI y), .int (nI z)] h (.inl (some (.int (nI (c_l3 (rowC cd) x y z).toNat))), h) := by
  have vu : ∀ p, p < 8 → vp_in (nI p) (z_ln h u) := fun p hp => by rw [(k_xs hC).2.2]; exact vp_in_nI hp (by decide)
  have vv : ∀ p, p < 8 → vp_in (nI p) (z_ln h v) := fun p hp => by rw [(k_ys hC).2.2]; exact vp_in_nI hp (by decide)
  refine en_X1_inLine (b_X1_inLine_0 (z_pu0V rfl) ?_)
  rw [(k_xs hC).1, (k_ys hC).1, z_rcs, z_rcs, z_rcs, z_rcs, z_rcs, z_rcs, z_rcs, z_rcs, nI_clamp (show x < 2 ^ 31 by omega), nI_clamp (show y < 2 ^ 31 by omega), nI_clamp (show z < 2 ^ 31 by omega), k_x hC hx, k_x hC hy, k_x hC hz, k_y hC hx, k_y hC hy, k_y hC hz]
  refine ⟨k_kd hC, (k_xs hC).2.1, vu y hy, k_kd hC, (k_xs hC).2.1, vu x hx, k_kd hC, (k_ys hC).2.1, vv z hz, k_kd hC, (k_ys hC).2.1, vv x hx, k_kd hC, (k_xs hC).2.1, vu z hz, k_kd hC, (k_xs hC).2.1, vu x hx, k_kd hC, (k_ys hC).2.1, vv y hy, k_kd hC, (k_ys hC).2.1, vv x hx, ?_⟩
  unfold c_l3
  by_cases e : (rowC cd (14 + y) - rowC cd (14 + x)) * (rowC cd (22 + z) - rowC cd (22 + x)) = (rowC cd (14 + z) - rowC cd (14 + x)) * (rowC cd (22 + y) - rowC cd (22 + x))
  · rw [if_pos e, decide_eq_true e]; exact ⟨Or.inr rfl, rfl⟩
  · rw [if_neg e, decide_eq_false e]; exact ⟨Or.inl rfl, rfl⟩
theorem e1_sameAt (hC : cd_at c q b u v h cd) {x y : Nat} (hx : x < 8) (hy : y < 8) : z_Ev G (d + 4) k_X1_sameAt [.ref c, .int (nI x), .int (nI y)] h (.inl (some (.int (nI (c_p2 (rowC cd) x y).toNat))), h) := by
  have vu : ∀ p, p < 8 → vp_in (nI p) (z_ln h u) := fun p hp => by rw [(k_xs hC).2.2]; exact vp_in_nI hp (by decide)
  have vv : ∀ p, p < 8 → vp_in (nI p) (z_ln h v) := fun p hp => by rw [(k_ys hC).2.2]; exact vp_in_nI hp (by decide)
  refine en_X1_sameAt (b_X1_sameAt_0 (z_pu0V rfl) ?_)
  rw [(k_xs hC).1, (k_ys hC).1, z_rcs, z_rcs, z_rcs, z_rcs, nI_clamp (show x < 2 ^ 31 by omega), nI_clamp (show y < 2 ^ 31 by omega), k_x hC hx, k_x hC hy, k_y hC hx, k_y hC hy]
  refine ⟨k_kd hC, (k_xs hC).2.1, vu x hx, k_kd hC, (k_xs hC).2.1, vu y hy, ?_⟩
  unfold c_p2
  by_cases e : rowC cd (14 + x) = rowC cd (14 + y)
  · rw [if_pos e]
    refine ⟨k_kd hC, (k_ys hC).2.1, vv x hx, k_kd hC, (k_ys hC).2.1, vv y hy, ?_⟩
    by_cases e2 : rowC cd (22 + x) = rowC cd (22 + y)
    · rw [if_pos e2, decide_eq_true ⟨e, e2⟩]; exact ⟨Or.inr rfl, rfl⟩
    · rw [if_neg e2, decide_eq_false (fun t => e2 t.2)]; exact ⟨Or.inl rfl, rfl⟩
  · rw [if_neg e, decide_eq_false (fun t => e t.1)]; exact ⟨Or.inl rfl, rfl⟩
def g_lo (R : Nat → Int32) (x p r : Nat) : Bool := c_any (fun s => x.testBit s && !c_l3 R p r s) r
theorem e1_leavesOut (hC : cd_at c q b u v h cd) {x p r : Nat} (hx : x < 256) (hp : p < 8) (hr : r < 8) : z_Ev G (d + 5) k_X1_leavesOut [.ref c, .int (nI x), .int (nI p), .int (nI r)] h (.inl (some (.int (nI (g_lo (rowC cd) x p r).toNat))), h) := by
  refine en_X1_leavesOut (b_X1_leavesOut_0 (z_pu0V rfl) ?_)
  unfold g_lo
  refine z_fnd (fun k => [some (.ref c), some (.int (nI x)), some (.int (nI p)), some (.int (nI r)), some (.int (nI k))]) (fun s => x.testBit s && !c_l3 (rowC cd) p r s) r ?_ ?_
  · intro s hs hno hJ
    refine b_X1_leavesOut_3 (z_pu0V rfl) ?_
    rw [if_pos (nI_lt hs (by omega)), nI_add]
    cases c1 : x.testBit s
    · rw [if_pos (show (nI x >>> (nI s &&& nI 31)) &&& nI 1 = nI 0 by simp (disch := omega) only [l0, l1, l2, l3, l4, l5, l6, l7, l8, l9, l10, l11, l12, l13, l14, l15, l16, l18, l20, l22, l24, l30, l31, l39, l40, l48, l60, l154, l255, l256, l400, l2000, l6160, l14000, lm1, q_lt, q_le, q_eq, q_mI, q_mI', q_ltmI, q_in, q_bz0, q_bz1, q_bzn0, q_bzn1, q_bzb, q_bn0, q_bn1, q_shr, q_shl, q_1s, b_one, b_two, fa_and, fa_or, nI_add, n_mul, nI_clamp, z_rcs, true_and, and_true, if_true, if_false, c1])]
      exact hJ (by rw [c1]; rfl)
    · rw [if_neg (show ¬ (nI x >>> (nI s &&& nI 31)) &&& nI 1 = nI 0 by simp (disch := omega) only [l0, l1, l2, l3, l4, l5, l6, l7, l8, l9, l10, l11, l12, l13, l14, l15, l16, l18, l20, l22, l24, l30, l31, l39, l40, l48, l60, l154, l255, l256, l400, l2000, l6160, l14000, lm1, q_lt, q_le, q_eq, q_mI, q_mI', q_ltmI, q_in, q_bz0, q_bz1, q_bzn0, q_bzn1, q_bzb, q_bn0, q_bn1, q_shr, q_shl, q_1s, b_one, b_two, fa_and, fa_or, nI_add, n_mul, nI_clamp, z_rcs, true_and, and_true, if_true, if_false, c1]; decide)]
      refine ⟨k_kd hC, _, _, e1_inLine hC hp hr (by omega), ?_⟩
      cases c2 : c_l3 (rowC cd) p r s
      · rw [if_pos (by rfl), any_t hs (by rw [c1, c2]; rfl)]; exact ⟨Or.inr rfl, rfl⟩
      · rw [if_neg (by decide)]
        exact hJ (by rw [c1, c2]; rfl)
  · intro hno
    refine b_X1_leavesOut_3 (z_pu0V rfl) ?_
    rw [if_neg (nI_nlt (Nat.le_refl _) (by omega)), any_f hno]
    exact ⟨Or.inl rfl, rfl⟩
def g_slB (R : Nat → Int32) (x p r : Nat) : Bool := (x.testBit p && x.testBit r) && (c_p2 R p r || g_lo R x p r)
def g_slip (n : Nat) (R : Nat → Int32) (x : Nat) : Bool := c_any (fun p => c_any (g_slB R x p) p) n
theorem e1_isSlip (hC : cd_at c q b u v h cd) {x : Nat} (hx : x < 256) : z_Ev G (d + 6) k_X1_isSlip [.ref c, .int (nI x)] h (.inl (some (.int (nI (g_slip cd.1.1 (rowC cd) x).toNat))), h) := by
  have hA := k_S hC
  have hn := y_n8 hA
  refine en_X1_isSlip (b_X1_isSlip_0 (z_pu0V rfl) ?_)
  unfold g_slip
  refine z_fnd (fun k => [some (.ref c), some (.int (nI x)), some (.int (nI k)), none]) (fun p => c_any (g_slB (rowC cd) x p) p) cd.1.1 ?_ ?_
  · intro p hp hno hJ
    refine b_X1_isSlip_2 (z_pu0V rfl) ⟨k_kd hC, ?_⟩
    rw [k_sc hC, z_rcs, y_n hA, if_pos (nI_lt hp (by omega))]
    refine ⟨y_kd hA, ?_⟩
    refine z_fnd (fun k => [some (.ref c), some (.int (nI x)), some (.int (nI p)), some (.int (nI k))]) (g_slB (rowC cd) x p) p ?_ ?_
    · intro r hr hno2 hJ2
      refine b_X1_isSlip_15 (z_pu0V rfl) ?_
      rw [if_pos (nI_lt hr (by omega)), nI_add]
      have yes : g_slB (rowC cd) x p r = true → c_any (fun p => c_any (g_slB (rowC cd) x p) p) cd.1.1 = true := fun e => any_t hp (any_t hr e)
      cases c1 : (x.testBit p && x.testBit r)
      · rw [if_pos (show ((nI x >>> (nI p &&& nI 31)) &&& (nI x >>> (nI r &&& nI 31))) &&& nI 1 = nI 0 by simp (disch := omega) only [l0, l1, l2, l3, l4, l5, l6, l7, l8, l9, l10, l11, l12, l13, l14, l15, l16, l18, l20, l22, l24, l30, l31, l39, l40, l48, l60, l154, l255, l256, l400, l2000, l6160, l14000, lm1, q_lt, q_le, q_eq, q_mI, q_mI', q_ltmI, q_in, q_bz0, q_bz1, q_bzn0, q_bzn1, q_bzb, q_bn0, q_bn1, q_shr, q_shl, q_1s, b_one, b_two, fa_and, fa_or, nI_add, n_mul, nI_clamp, z_rcs, true_and, and_true, if_true, if_false, c1])]
        exact hJ2 (by unfold g_slB; rw [c1]; rfl)
      · rw [if_neg (show ¬ ((nI x >>> (nI p &&& nI 31)) &&& (nI x >>> (nI r &&& nI 31))) &&& nI 1 = nI 0 by simp (disch := omega) only [l0, l1, l2, l3, l4, l5, l6, l7, l8, l9, l10, l11, l12, l13, l14, l15, l16, l18, l20, l22, l24, l30, l31, l39, l40, l48, l60, l154, l255, l256, l400, l2000, l6160, l14000, lm1, q_lt, q_le, q_eq, q_mI, q_mI', q_ltmI, q_in, q_bz0, q_bz1, q_bzn0, q_bzn1, q_bzb, q_bn0, q_bn1, q_shr, q_shl, q_1s, b_one, b_two, fa_and, fa_or, nI_add, n_mul, nI_clamp, z_rcs, true_and, and_true, if_true, if_false, c1]; decide)]
        refine ⟨k_kd hC, _, _, e1_sameAt hC (by omega) (by omega), ?_⟩
        cases c2 : c_p2 (rowC cd) p r
        · rw [if_pos (by rfl)]
          refine ⟨k_kd hC, _, _, e1_leavesOut hC hx (by omega) (by omega), ?_⟩
          cases c3 : g_lo (rowC cd) x p r
          · rw [if_pos (by rfl)]
            exact hJ2 (by unfold g_slB; rw [c1, c2, c3]; rfl)
          · rw [if_neg (by decide), yes (by unfold g_slB; rw [c1, c2, c3]; rfl)]
            exact ⟨Or.inr rfl, rfl⟩
        · rw [if_neg (by decide), yes (by unfold g_slB; rw [c1, c2]; rfl)]
          exact ⟨Or.inr rfl, rfl⟩
    · intro hno2
      refine b_X1_isSlip_15 (z_pu0V rfl) ?_
      rw [if_neg (nI_nlt (Nat.le_refl _) (by omega)), nI_add]
      exact hJ (any_f hno2)
  · intro hno
    refine b_X1_isSlip_2 (z_pu0V rfl) ⟨k_kd hC, ?_⟩
    rw [k_sc hC, z_rcs, y_n hA, if_neg (nI_nlt (Nat.le_refl _) (by omega)), any_f hno]
    exact ⟨y_kd hA, Or.inl rfl, rfl⟩
def g_slips (S : Sc) (R : Nat → Int32) : Nat := it (fun l n => n + (g_slip S.1 R (S.2.2 l)).toNat) 0 S.2.1
theorem e1_slips (hC : cd_at c q b u v h cd) : z_Ev G (d + 7) k_X1_slips [.ref c] h (.inl (some (.int (nI (g_slips cd.1 (rowC cd))))), h) := by
  have hA := k_S hC
  have hm := y_m12 hA
  refine en_X1_slips (b_X1_slips_0 (z_pu0V rfl) ?_)
  refine z_for (fun l x => [some (.ref c), some (.int (nI x)), some (.int (nI l))]) (fun l n => n + (g_slip cd.1.1 (rowC cd) (cd.1.2.2 l)).toNat) 0 cd.1.2.1 ?_ ?_
  · intro l hl hJ
    refine b_X1_slips_4 (z_pu0V rfl) ⟨k_kd hC, ?_⟩
    rw [k_sc hC, z_rcs, y_m hA, if_pos (nI_lt hl (by omega)), z_rcs, (y_row hA).1, z_rcs, nI_clamp (by omega), y_Ln hA hl]
    refine ⟨y_kd hA, k_kd hC, y_kd hA, (y_row hA).2.1, by rw [(y_row hA).2.2]; exact vp_in_nI hl (by omega), k_kd hC, _, _, e1_isSlip hC (y_256 hA l), ?_⟩
    cases c1 : g_slip cd.1.1 (rowC cd) (cd.1.2.2 l)
    · rw [c1] at hJ
      rw [if_pos (by rfl), nI_add]; exact hJ
    · rw [c1] at hJ
      rw [if_neg (by decide), nI_add, nI_add]; exact hJ
  · refine b_X1_slips_4 (z_pu0V rfl) ⟨k_kd hC, ?_⟩
    rw [k_sc hC, z_rcs, y_m hA, if_neg (nI_nlt (Nat.le_refl _) (by omega))]
    exact ⟨y_kd hA, rfl⟩
end EE
