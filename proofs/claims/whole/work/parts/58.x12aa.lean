theorem en_X12_isLeast {pu : Nat → Option ((List Value → z_H → Prop) × (List Value → z_H → Int32))} {G : z_G} {d : Nat} {r : z_Res} {h : z_H} {x0 : Nat} {x1 : Int32} (hJ : z_J G d (m_X12_isLeast pu) r 0 [some (.ref x0), some (.int x1), none, none] [] h) : z_Ev G d k_X12_isLeast [.ref x0, .int x1] h r := z_enter (μ := m_X12_isLeast pu) rfl (by decide) rfl rfl (fun q => by cases q) (Nat.le_of_ble_eq_true rfl) hJ
def hd_X12_isLeast : Nat → Option (List Bool) := (fun k => (cond (Nat.blt k 73) (cond (Nat.blt k 16) (cond (Nat.beq k 10) (some [true, true, true, false]) none) (cond (Nat.beq k 16) (some [true, true, false, true]) none)) none))
set_option maxRecDepth 20000 in
theorem b_X12_isLeast_0 {G : z_G} {d : Nat} {r : z_Res} (hPu : z_PuV G d (t_X12 z_puC)) {h : z_H} {x0 : Nat} {x1 : Int32} (hT : (z_kd h x0 = 28 ∧ (z_kd h x0 = 28 ∧ ∃ h_1, z_Ev G d k_X12_beginNaming [.ref x0, .int (z_oi h x0 27)] h (.inl none, h_1) ∧ (z_J G (d + 1) (m_X12_isLeast z_puC) r) 10 [some (.ref x0), some (.int x1), some (.int (nI 1)), none] [] h_1))) : (z_J G (d + 1) (m_X12_isLeast z_puC) r) 0 [some (.ref x0), some (.int x1), none, none] [] h := z_bq (v_X12 z_puC (vP_X12_isLeast z_puC) hPu) hd_X12_isLeast 9 hT
set_option maxRecDepth 20000 in
theorem b_X12_isLeast_10 {G : z_G} {d : Nat} {r : z_Res} (hPu : z_PuV G d (t_X12 z_puC)) {h : z_H} {x0 : Nat} {x1 : Int32} {x2 : Int32} (hT : (if x2 = (nI 0) then (z_bz (nI 1) ∧ r = (.inl (some (.int (nI 1))), h)) else (z_J G (d + 1) (m_X12_isLeast z_puC) r) 16 [some (.ref x0), some (.int x1), none, some (.int (nI 0))] [] h)) : (z_J G (d + 1) (m_X12_isLeast z_puC) r) 10 [some (.ref x0), some (.int x1), some (.int x2), none] [] h := z_bq (v_X12 z_puC (vP_X12_isLeast z_puC) hPu) hd_X12_isLeast 7 hT
set_option maxRecDepth 20000 in
theorem b_X12_isLeast_16 {G : z_G} {d : Nat} {r : z_Res} (hPu : z_PuV G d (t_X12 z_puC)) {h : z_H} {x0 : Nat} {x1 : Int32} {x3 : Int32} (hT : (if x3 < x1 then (z_kd h x0 = 28 ∧ (z_rc (z_or h x0 31) False (fun x_1 => (z_kd h x_1 = 1 ∧ vp_in x3 (z_ln h x_1) ∧ (z_kd h x0 = 28 ∧ s_X12_named x0 (z_ai h x_1 (Int32.toNatClampNeg x3)) h ∧ (z_kd h x0 = 28 ∧ ∃ h_2, z_Ev G d k_X12_putSorted [.ref x0, .int x3, .int (f_X12_named x0 (z_ai h x_1 (Int32.toNatClampNeg x3)) h)] h (.inl none, h_2) ∧ (z_J G (d + 1) (m_X12_isLeast z_puC) r) 16 [some (.ref x0), some (.int x1), none, some (.int (x3 + (nI 1)))] [] h_2)))))) else (z_kd h x0 = 28 ∧ (z_rc (z_or h x0 21) (z_kd h x0 = 28 ∧ (z_rc (z_or h x0 31) (∃ x_6 h_5, z_Ev G d k_X12_compare [.null, .null, .int x1] h (.inl (some (.int x_6)), h_5) ∧ (if x_6 < (nI 0) then (z_bz (nI 0) ∧ r = (.inl (some (.int (nI 0))), h_5)) else (z_kd h_5 x0 = 28 ∧ (z_kd h_5 x0 = 28 ∧ ∃ x_8 h_7, z_Ev G d k_X12_nextNaming [.ref x0, .int (z_oi h_5 x0 27)] h_5 (.inl (some (.int x_8)), h_7) ∧ (z_J G (d + 1) (m_X12_isLeast z_puC) r) 10 [some (.ref x0), some (.int x1), some (.int x_8), none] [] h_7)))) (fun x_4 => (∃ x_10 h_9, z_Ev G d k_X12_compare [.null, .ref x_4, .int x1] h (.inl (some (.int x_10)), h_9) ∧ (if x_10 < (nI 0) then (z_bz (nI 0) ∧ r = (.inl (some (.int (nI 0))), h_9)) else (z_kd h_9 x0 = 28 ∧ (z_kd h_9 x0 = 28 ∧ ∃ x_12 h_11, z_Ev G d k_X12_nextNaming [.ref x0, .int (z_oi h_9 x0 27)] h_9 (.inl (some (.int x_12)), h_11) ∧ (z_J G (d + 1) (m_X12_isLeast z_puC) r) 10 [some (.ref x0), some (.int x1), some (.int x_12), none] [] h_11))))))) (fun x_3 => (z_kd h x0 = 28 ∧ (z_rc (z_or h x0 31) (∃ x_15 h_14, z_Ev G d k_X12_compare [.ref x_3, .null, .int x1] h (.inl (some (.int x_15)), h_14) ∧ (if x_15 < (nI 0) then (z_bz (nI 0) ∧ r = (.inl (some (.int (nI 0))), h_14)) else (z_kd h_14 x0 = 28 ∧ (z_kd h_14 x0 = 28 ∧ ∃ x_17 h_16, z_Ev G d k_X12_nextNaming [.ref x0, .int (z_oi h_14 x0 27)] h_14 (.inl (some (.int x_17)), h_16) ∧ (z_J G (d + 1) (m_X12_isLeast z_puC) r) 10 [some (.ref x0), some (.int x1), some (.int x_17), none] [] h_16)))) (fun x_13 => (∃ x_19 h_18, z_Ev G d k_X12_compare [.ref x_3, .ref x_13, .int x1] h (.inl (some (.int x_19)), h_18) ∧ (if x_19 < (nI 0) then (z_bz (nI 0) ∧ r = (.inl (some (.int (nI 0))), h_18)) else (z_kd h_18 x0 = 28 ∧ (z_kd h_18 x0 = 28 ∧ ∃ x_21 h_20, z_Ev G d k_X12_nextNaming [.ref x0, .int (z_oi h_18 x0 27)] h_18 (.inl (some (.int x_21)), h_20) ∧ (z_J G (d + 1) (m_X12_isLeast z_puC) r) 10 [some (.ref x0), some (.int x1), some (.int x_21), none] [] h_20)))))))))))) : (z_J G (d + 1) (m_X12_isLeast z_puC) r) 16 [some (.ref x0), some (.int x1), none, some (.int x3)] [] h := z_bq (v_X12 z_puC (vP_X12_isLeast z_puC) hPu) hd_X12_isLeast 19 hT
theorem en_X12_listFrom {pu : Nat → Option ((List Value → z_H → Prop) × (List Value → z_H → Int32))} {G : z_G} {d : Nat} {r : z_Res} {h : z_H} {x0 : Nat} {x1 : Int32} (hJ : z_J G d (m_X12_listFrom pu) r 0 [some (.ref x0), some (.int x1), none, none, none] [] h) : z_Ev G d k_X12_listFrom [.ref x0, .int x1] h r := z_enter (μ := m_X12_listFrom pu) rfl (by decide) rfl rfl (fun q => by cases q) (Nat.le_of_ble_eq_true rfl) hJ
def hd_X12_listFrom : Nat → Option (List Bool) := (fun k => (cond (Nat.blt k 175) (cond (Nat.blt k 72) (cond (Nat.beq k 10) (some [true, true, true, false, false]) none) (cond (Nat.blt k 99) (cond (Nat.beq k 72) (some [true, true, true, false, false]) none) (cond (Nat.beq k 99) (some [true, true, true, true, true]) none))) none))
set_option maxRecDepth 20000 in
theorem b_X12_listFrom_0 {G : z_G} {d : Nat} {r : z_Res} (hPu : z_PuV G d (t_X12 z_puC)) {h : z_H} {x0 : Nat} {x1 : Int32} (hT : (z_kd h x0 = 28 ∧ (if x1 = (z_oi h x0 28) then (z_J G (d + 1) (m_X12_listFrom z_puC) r) 10 [some (.ref x0), some (.int x1), some (.int (nI 0)), none, none] [] h else (if x1 = (nI 0) then (z_J G (d + 1) (m_X12_listFrom z_puC) r) 72 [some (.ref x0), some (.int x1), some (.int (nI 7)), none, none] [] h else (z_kd h x0 = 28 ∧ (z_rc (z_or h x0 31) False (fun x_1 => (z_kd h x_1 = 1 ∧ vp_in (x1 - (nI 1)) (z_ln h x_1) ∧ (z_J G (d + 1) (m_X12_listFrom z_puC) r) 72 [some (.ref x0), some (.int x1), some (.int ((z_ai h x_1 (Int32.toNatClampNeg (x1 - (nI 1)))) + (nI 1))), none, none] [] h)))))))) : (z_J G (d + 1) (m_X12_listFrom z_puC) r) 0 [some (.ref x0), some (.int x1), none, none, none] [] h := z_bq (v_X12 z_puC (vP_X12_listFrom z_puC) hPu) hd_X12_listFrom 18 hT
set_option maxRecDepth 20000 in
theorem b_X12_listFrom_10 {G : z_G} {d : Nat} {r : z_Res} (hPu : z_PuV G d (t_X12 z_puC)) {h : z_H} {x0 : Nat} {x1 : Int32} {x2 : Int32} (hT : (if x2 < x1 then (z_kd h x0 = 28 ∧ (z_rc (z_or h x0 30) (z_kd h x0 = 28 ∧ (z_kd h x0 = 28 ∧ (z_rc (z_or h x0 31) False (fun x_2 => (z_kd h x_2 = 1 ∧ vp_in x2 (z_ln h x_2) ∧ False))))) (fun x_1 => (z_kd h x0 = 28 ∧ (z_kd h x0 = 28 ∧ (z_rc (z_or h x0 31) False (fun x_3 => (z_kd h x_3 = 1 ∧ vp_in x2 (z_ln h x_3) ∧ (z_kd h x_1 = 1 ∧ vp_in (((nI 7) * (z_oi h x0 29)) + x2) (z_ln h x_1) ∧ (z_J G (d + 1) (m_X12_listFrom z_puC) r) 10 [some (.ref x0), some (.int x1), some (.int (x2 + (nI 1))), none, none] [] (z_pai h x_1 (Int32.toNatClampNeg (((nI 7) * (z_oi h x0 29)) + x2)) (z_ai h x_3 (Int32.toNatClampNeg x2)))))))))))) else (z_kd h x0 = 28 ∧ (z_kd h x0 = 28 ∧ r = (.inl none, z_poi h x0 29 ((z_oi h x0 29) + (nI 1))))))) : (z_J G (d + 1) (m_X12_listFrom z_puC) r) 10 [some (.ref x0), some (.int x1), some (.int x2), none, none] [] h := z_bq (v_X12 z_puC (vP_X12_listFrom z_puC) hPu) hd_X12_listFrom 21 hT
set_option maxRecDepth 20000 in
theorem b_X12_listFrom_72 {G : z_G} {d : Nat} {r : z_Res} (hPu : z_PuV G d (t_X12 z_puC)) {h : z_H} {x0 : Nat} {x1 : Int32} {x2 : Int32} (hT : (z_kd h x0 = 28 ∧ (if x2 < ((nI 1) <<< ((z_oi h x0 27) &&& (nI 31))) then (s_X12_bits x2 h ∧ (if (f_X12_bits x2 h) = (nI 3) then (z_J G (d + 1) (m_X12_listFrom z_puC) r) 99 [some (.ref x0), some (.int x1), some (.int x2), some (.int (nI 1)), some (.int (nI 0))] [] h else (z_J G (d + 1) (m_X12_listFrom z_puC) r) 99 [some (.ref x0), some (.int x1), some (.int x2), some (.int (nI 0)), some (.int (nI 0))] [] h)) else r = (.inl none, h)))) : (z_J G (d + 1) (m_X12_listFrom z_puC) r) 72 [some (.ref x0), some (.int x1), some (.int x2), none, none] [] h := z_bq (v_X12 z_puC (vP_X12_listFrom z_puC) hPu) hd_X12_listFrom 18 hT
set_option maxRecDepth 20000 in
theorem b_X12_listFrom_99 {G : z_G} {d : Nat} {r : z_Res} (hPu : z_PuV G d (t_X12 z_puC)) {h : z_H} {x0 : Nat} {x1 : Int32} {x2 : Int32} {x3 : Int32} {x4 : Int32} (hT : (if x4 < x1 then (if x3 = (nI 0) then (if x3 = (nI 0) then (z_J G (d + 1) (m_X12_listFrom z_puC) r) 72 [some (.ref x0), some (.int x1), some (.int (x2 + (nI 1))), none, none] [] h else (z_kd h x0 = 28 ∧ (z_rc (z_or h x0 31) False (fun x_1 => (z_kd h x_1 = 1 ∧ vp_in x1 (z_ln h x_1) ∧ (z_kd (z_pai h x_1 (Int32.toNatClampNeg x1) x2) x0 = 28 ∧ ∃ x_3 h_2, z_Ev G d k_X12_isLeast [.ref x0, .int (x1 + (nI 1))] (z_pai h x_1 (Int32.toNatClampNeg x1) x2) (.inl (some (.int x_3)), h_2) ∧ (if x_3 = (nI 0) then (z_J G (d + 1) (m_X12_listFrom z_puC) r) 72 [some (.ref x0), some (.int x1), some (.int (x2 + (nI 1))), none, none] [] h_2 else (z_kd h_2 x0 = 28 ∧ ∃ h_4, z_Ev G d k_X12_listFrom [.ref x0, .int (x1 + (nI 1))] h_2 (.inl none, h_4) ∧ (z_J G (d + 1) (m_X12_listFrom z_puC) r) 72 [some (.ref x0), some (.int x1), some (.int (x2 + (nI 1))), none, none] [] h_4)))))))) else (z_kd h x0 = 28 ∧ (z_rc (z_or h x0 31) False (fun x_5 => (z_kd h x_5 = 1 ∧ vp_in x4 (z_ln h x_5) ∧ (s_X12_bits ((z_ai h x_5 (Int32.toNatClampNeg x4)) &&& x2) h ∧ (if (f_X12_bits ((z_ai h x_5 (Int32.toNatClampNeg x4)) &&& x2) h) < (nI 2) then (z_J G (d + 1) (m_X12_listFrom z_puC) r) 99 [some (.ref x0), some (.int x1), some (.int x2), some (.int (nI 1)), some (.int (x4 + (nI 1)))] [] h else (z_J G (d + 1) (m_X12_listFrom z_puC) r) 99 [some (.ref x0), some (.int x1), some (.int x2), some (.int (nI 0)), some (.int (x4 + (nI 1)))] [] h))))))) else (if x3 = (nI 0) then (z_J G (d + 1) (m_X12_listFrom z_puC) r) 72 [some (.ref x0), some (.int x1), some (.int (x2 + (nI 1))), none, none] [] h else (z_kd h x0 = 28 ∧ (z_rc (z_or h x0 31) False (fun x_6 => (z_kd h x_6 = 1 ∧ vp_in x1 (z_ln h x_6) ∧ (z_kd (z_pai h x_6 (Int32.toNatClampNeg x1) x2) x0 = 28 ∧ ∃ x_8 h_7, z_Ev G d k_X12_isLeast [.ref x0, .int (x1 + (nI 1))] (z_pai h x_6 (Int32.toNatClampNeg x1) x2) (.inl (some (.int x_8)), h_7) ∧ (if x_8 = (nI 0) then (z_J G (d + 1) (m_X12_listFrom z_puC) r) 72 [some (.ref x0), some (.int x1), some (.int (x2 + (nI 1))), none, none] [] h_7 else (z_kd h_7 x0 = 28 ∧ ∃ h_9, z_Ev G d k_X12_listFrom [.ref x0, .int (x1 + (nI 1))] h_7 (.inl none, h_9) ∧ (z_J G (d + 1) (m_X12_listFrom z_puC) r) 72 [some (.ref x0), some (.int x1), some (.int (x2 + (nI 1))), none, none] [] h_9)))))))))) : (z_J G (d + 1) (m_X12_listFrom z_puC) r) 99 [some (.ref x0), some (.int x1), some (.int x2), some (.int x3), some (.int x4)] [] h := z_bq (v_X12 z_puC (vP_X12_listFrom z_puC) hPu) hd_X12_listFrom 28 hT
theorem en_X12_list {pu : Nat → Option ((List Value → z_H → Prop) × (List Value → z_H → Int32))} {G : z_G} {d : Nat} {r : z_Res} {h : z_H} {x0 : Nat} {x1 : Int32} {x2 : Int32} {x3 : Int32} {x4 : Int32} (hJ : z_J G d (m_X12_list pu) r 0 [some (.ref x0), some (.int x1), some (.int x2), some (.int x3), some (.int x4)] [] h) : z_Ev G d k_X12_list [.ref x0, .int x1, .int x2, .int x3, .int x4] h r := z_enter (μ := m_X12_list pu) rfl (by decide) rfl rfl (fun q => by cases q) (Nat.le_of_ble_eq_true rfl) hJ
def hd_X12_list : Nat → Option (List Bool) := (fun k => none)
set_option maxRecDepth 20000 in
theorem b_X12_list_0 {G : z_G} {d : Nat} {r : z_Res} (hPu : z_PuV G d (t_X12 z_puC)) {h : z_H} {x0 : Nat} {x1 : Int32} {x2 : Int32} {x3 : Int32} {x4 : Int32} (hT : (z_kd h x0 = 28 ∧ (s_X12_isIn x1 (nI 3) (nI 7) (z_poi h x0 0 (nI 0)) ∧ (if (f_X12_isIn x1 (nI 3) (nI 7) (z_poi h x0 0 (nI 0))) = (nI 0) then (z_kd (z_poi h x0 0 (nI 0)) x0 = 28 ∧ ∃ x_2 h_1, z_Ev G d k_X12_fail [.ref x0, .int (nI 1)] (z_poi h x0 0 (nI 0)) (.inl (some (.int x_2)), h_1) ∧ r = (.inl (some (.int x_2)), h_1)) else (s_X12_isIn x2 (nI 0) (nI 7) (z_poi h x0 0 (nI 0)) ∧ (if (f_X12_isIn x2 (nI 0) (nI 7) (z_poi h x0 0 (nI 0))) = (nI 0) then (z_kd (z_poi h x0 0 (nI 0)) x0 = 28 ∧ ∃ x_4 h_3, z_Ev G d k_X12_fail [.ref x0, .int (nI 1)] (z_poi h x0 0 (nI 0)) (.inl (some (.int x_4)), h_3) ∧ r = (.inl (some (.int x_4)), h_3)) else (z_kd (z_poi h x0 0 (nI 0)) x0 = 28 ∧ (if x1 = (z_oi (z_poi h x0 0 (nI 0)) x0 27) then (z_kd (z_poi h x0 0 (nI 0)) x0 = 28 ∧ (if x2 = (z_oi (z_poi h x0 0 (nI 0)) x0 28) then (if x3 = mI then (z_kd (z_poi h x0 0 (nI 0)) x0 = 28 ∧ r = (.inl (some (.int (z_oi (z_poi h x0 0 (nI 0)) x0 29))), z_poi h x0 0 (nI 0))) else (z_kd (z_poi h x0 0 (nI 0)) x0 = 28 ∧ (s_X12_isIn x3 (nI 0) ((z_oi (z_poi h x0 0 (nI 0)) x0 29) - (nI 1)) (z_poi h x0 0 (nI 0)) ∧ (if (f_X12_isIn x3 (nI 0) ((z_oi (z_poi h x0 0 (nI 0)) x0 29) - (nI 1)) (z_poi h x0 0 (nI 0))) = (nI 0) then (z_kd (z_poi h x0 0 (nI 0)) x0 = 28 ∧ ∃ x_6 h_5, z_Ev G d k_X12_fail [.ref x0, .int (nI 2)] (z_poi h x0 0 (nI 0)) (.inl (some (.int x_6)), h_5) ∧ r = (.inl (some (.int x_6)), h_5)) else (s_X12_isIn x4 (nI 0) (x2 - (nI 1)) (z_poi h x0 0 (nI 0)) ∧ (if (f_X12_isIn x4 (nI 0) (x2 - (nI 1)) (z_poi h x0 0 (nI 0))) = (nI 0) then (z_kd (z_poi h x0 0 (nI 0)) x0 = 28 ∧ ∃ x_8 h_7, z_Ev G d k_X12_fail [.ref x0, .int (nI 2)] (z_poi h x0 0 (nI 0)) (.inl (some (.int x_8)), h_7) ∧ r = (.inl (some (.int x_8)), h_7)) else (z_kd (z_poi h x0 0 (nI 0)) x0 = 28 ∧ (z_rc (z_or (z_poi h x0 0 (nI 0)) x0 30) False (fun x_9 => (z_kd (z_poi h x0 0 (nI 0)) x_9 = 1 ∧ vp_in (((nI 7) * x3) + x4) (z_ln (z_poi h x0 0 (nI 0)) x_9) ∧ r = (.inl (some (.int (z_ai (z_poi h x0 0 (nI 0)) x_9 (Int32.toNatClampNeg (((nI 7) * x3) + x4))))), z_poi h x0 0 (nI 0)))))))))))) else (z_kd (z_poi h x0 0 (nI 0)) x0 = 28 ∧ (z_kd (z_poi (z_poi h x0 0 (nI 0)) x0 27 x1) x0 = 28 ∧ (z_kd (z_poi (z_poi (z_poi h x0 0 (nI 0)) x0 27 x1) x0 28 x2) x0 = 28 ∧ (z_kd (z_poi (z_poi (z_poi (z_poi h x0 0 (nI 0)) x0 27 x1) x0 28 x2) x0 29 (nI 0)) x0 = 28 ∧ ∃ h_10, z_Ev G d k_X12_listFrom [.ref x0, .int (nI 0)] (z_poi (z_poi (z_poi (z_poi h x0 0 (nI 0)) x0 27 x1) x0 28 x2) x0 29 (nI 0)) (.inl none, h_10) ∧ (if x3 = mI then (z_kd h_10 x0 = 28 ∧ r = (.inl (some (.int (z_oi h_10 x0 29))), h_10)) else (z_kd h_10 x0 = 28 ∧ (s_X12_isIn x3 (nI 0) ((z_oi h_10 x0 29) - (nI 1)) h_10 ∧ (if (f_X12_isIn x3 (nI 0) ((z_oi h_10 x0 29) - (nI 1)) h_10) = (nI 0) then (z_kd h_10 x0 = 28 ∧ ∃ x_12 h_11, z_Ev G d k_X12_fail [.ref x0, .int (nI 2)] h_10 (.inl (some (.int x_12)), h_11) ∧ r = (.inl (some (.int x_12)), h_11)) else (s_X12_isIn x4 (nI 0) (x2 - (nI 1)) h_10 ∧ (if (f_X12_isIn x4 (nI 0) (x2 - (nI 1)) h_10) = (nI 0) then (z_kd h_10 x0 = 28 ∧ ∃ x_14 h_13, z_Ev G d k_X12_fail [.ref x0, .int (nI 2)] h_10 (.inl (some (.int x_14)), h_13) ∧ r = (.inl (some (.int x_14)), h_13)) else (z_kd h_10 x0 = 28 ∧ (z_rc (z_or h_10 x0 30) False (fun x_15 => (z_kd h_10 x_15 = 1 ∧ vp_in (((nI 7) * x3) + x4) (z_ln h_10 x_15) ∧ r = (.inl (some (.int (z_ai h_10 x_15 (Int32.toNatClampNeg (((nI 7) * x3) + x4))))), h_10))))))))))))))))) else (z_kd (z_poi h x0 0 (nI 0)) x0 = 28 ∧ (z_kd (z_poi (z_poi h x0 0 (nI 0)) x0 27 x1) x0 = 28 ∧ (z_kd (z_poi (z_poi (z_poi h x0 0 (nI 0)) x0 27 x1) x0 28 x2) x0 = 28 ∧ (z_kd (z_poi (z_poi (z_poi (z_poi h x0 0 (nI 0)) x0 27 x1) x0 28 x2) x0 29 (nI 0)) x0 = 28 ∧ ∃ h_16, z_Ev G d k_X12_listFrom [.ref x0, .int (nI 0)] (z_poi (z_poi (z_poi (z_poi h x0 0 (nI 0)) x0 27 x1) x0 28 x2) x0 29 (nI 0)) (.inl none, h_16) ∧ (if x3 = mI then (z_kd h_16 x0 = 28 ∧ r = (.inl (some (.int (z_oi h_16 x0 29))), h_16)) else (z_kd h_16 x0 = 28 ∧ (s_X12_isIn x3 (nI 0) ((z_oi h_16 x0 29) - (nI 1)) h_16 ∧ (if (f_X12_isIn x3 (nI 0) ((z_oi h_16 x0 29) - (nI 1)) h_16) = (nI 0) then (z_kd h_16 x0 = 28 ∧ ∃ x_18 h_17, z_Ev G d k_X12_fail [.ref x0, .int (nI 2)] h_16 (.inl (some (.int x_18)), h_17) ∧ r = (.inl (some (.int x_18)), h_17)) else (s_X12_isIn x4 (nI 0) (x2 - (nI 1)) h_16 ∧ (if (f_X12_isIn x4 (nI 0) (x2 - (nI 1)) h_16) = (nI 0) then (z_kd h_16 x0 = 28 ∧ ∃ x_20 h_19, z_Ev G d k_X12_fail [.ref x0, .int (nI 2)] h_16 (.inl (some (.int x_20)), h_19) ∧ r = (.inl (some (.int x_20)), h_19)) else (z_kd h_16 x0 = 28 ∧ (z_rc (z_or h_16 x0 30) False (fun x_21 => (z_kd h_16 x_21 = 1 ∧ vp_in (((nI 7) * x3) + x4) (z_ln h_16 x_21) ∧ r = (.inl (some (.int (z_ai h_16 x_21 (Int32.toNatClampNeg (((nI 7) * x3) + x4))))), h_16))))))))))))))))))))))) : (z_J G (d + 1) (m_X12_list z_puC) r) 0 [some (.ref x0), some (.int x1), some (.int x2), some (.int x3), some (.int x4)] [] h := z_bq (v_X12 z_puC (vP_X12_list z_puC) hPu) hd_X12_list 63 hT
/-! the list of least rows -/
theorem put_cg (v : Int32) (K : Nat) : ∀ k (f f' : Nat → Int32), k ≤ K → (∀ i, i ≤ K → i ≠ k → f i = f' i) → ∀ i, i ≤ K → c_put v k f i = c_put v k f' i := by
  intro k
  induction k with
  | zero =>
    intro f f' _ h i hi
    show z_u f 0 v i = z_u f' 0 v i
    unfold z_u
    split
    · rfl
    · exact h i hi (by assumption)
  | succ k ih =>
    intro f f' hk h i hi
    unfold c_put
    rw [h k (by omega) (by omega)]
    split
    · refine ih _ _ (by omega) (fun j hj hjk => ?_) i hi
      unfold z_u
      split
      · rfl
      · exact h j hj (by assumption)
    · unfold z_u
      split
      · rfl
      · exact h i hi (by assumption)
def c_rwP (f : Nat → Nat) (N : Nat → Nat) (R : Nat → Int32) (k : Nat) : Nat → Int32 := it (fun l R => c_put (nI (c_nm N (f l))) l R) R k
theorem rwP_cg (f N : Nat → Nat) (R R' : Nat → Int32) : ∀ k i, i < k → c_rwP f N R k i = c_rwP f N R' k i := by
  intro k
  induction k with
  | zero => intro i hi; omega
  | succ k ih =>
    intro i hi
    show c_put (nI (c_nm N (f k))) k (c_rwP f N R k) i = c_put (nI (c_nm N (f k))) k (c_rwP f N R' k) i
    exact put_cg _ k k _ _ (Nat.le_refl _) (fun j hj hjk => ih j (by omega)) i (by omega)
theorem first_cg {p q : Nat → Bool} : ∀ n, (∀ i, i < n → p i = q i) → fa_first p n = fa_first q n := by
  intro n h
  by_cases h1 : fa_first p n < n
  · exact (fa_first_at h1 (by rw [← h _ h1]; exact fa_first_yes p n h1) (fun i hi => by rw [← h i (by omega)]; exact fa_first_no p n i hi)).symm
  · have hle := fa_first_le p n
    rw [show fa_first p n = n by omega]
    exact (fa_first_n (fun i hi => by rw [← h i hi]; exact fa_first_no p n i (by omega))).symm
theorem cmp_cg {P Q P' Q' : Nat → Int32} {k : Nat} (h1 : ∀ i, i < k → P i = P' i) (h2 : ∀ i, i < k → Q i = Q' i) : c_cmp P Q k = c_cmp P' Q' k := by
  have e : fa_first (fun i => decide (P i ≠ Q i)) k = fa_first (fun i => decide (P' i ≠ Q' i)) k := first_cg k (fun i hi => by rw [h1 i hi, h2 i hi])
  unfold c_cmp
  rw [e]
  split
  · rename_i hq
    rw [h1 _ hq, h2 _ hq]
  · rfl
def c_lsN (f N : Nat → Nat) (k : Nat) : Bool := decide (¬ c_cmp (c_rwP f N (fun _ => nI 0) k) (fun l => nI (f l)) k < nI 0)
def c_isLst (n : Nat) (f : Nat → Nat) (k : Nat) : Bool := (pms n).all (fun N => c_lsN f N k)
def c_okS (f : Nat → Nat) (k s : Nat) : Bool := decide (n_pc s = 3) && !c_any (fun i => !decide (n_pc (f i &&& s) < 2)) k
def c_cat {α : Type} (g : Nat → List α) : Nat → Nat → List α
  | 0, _ => []
  | c + 1, s => g s ++ c_cat g c (s + 1)
def c_st (f : Nat → Nat) (k : Nat) : Nat := if k = 0 then 7 else f (k - 1) + 1
def c_lf (n : Nat) : Nat → Nat → (Nat → Nat) → List (Nat → Nat)
  | 0, _, f => [f]
  | j + 1, k, f => c_cat (fun s => if c_okS f k s && c_isLst n (z_u f k s) (k + 1) then c_lf n j (k + 1) (z_u f k s) else []) (2 ^ n - c_st f k) (c_st f k)
def c_lst (n m : Nat) : List (Nat → Nat) := c_lf n m 0 (fun _ => 0)
def c_wrs (m : Nat) : List (Nat → Nat) → Nat → (Nat → Int32) → (Nat → Int32)
  | [], _, L => L
  | f :: t, c, L => c_wrs m t (c + 1) (c_ovl L (7 * c) m (fun k => nI (f k)))
theorem wrs_app (m : Nat) : ∀ (l1 l2 : List (Nat → Nat)) (c : Nat) (L : Nat → Int32), c_wrs m (l1 ++ l2) c L = c_wrs m l2 (c + l1.length) (c_wrs m l1 c L)
  | [], l2, c, L => rfl
  | f :: t, l2, c, L => by
    show c_wrs m (t ++ l2) (c + 1) _ = c_wrs m l2 (c + (t.length + 1)) (c_wrs m t (c + 1) _)
    rw [wrs_app m t l2, show c + 1 + t.length = c + (t.length + 1) by omega]
/-- what was written -/
theorem wrs_in {m : Nat} (hm : m ≤ 7) : ∀ (l : List (Nat → Nat)) (c : Nat) (L : Nat → Int32), (∀ q, q < 7 * c → c_wrs m l c L q = L q) ∧ ∀ i f, l[i]? = some f → ∀ k, k < m → c_wrs m l c L (7 * (c + i) + k) = nI (f k) := by
  intro l
  induction l with
  | nil => intro c L; exact ⟨fun q _ => rfl, fun i f hi => by cases hi⟩
  | cons f t ih =>
    intro c L
    obtain ⟨h1, h2⟩ := ih (c + 1) (c_ovl L (7 * c) m (fun k => nI (f k)))
    refine ⟨fun q hq => ?_, fun i g hi k hk => ?_⟩
    · show c_wrs m t (c + 1) _ q = L q
      rw [h1 q (by omega)]
      exact if_neg (by omega)
    · show c_wrs m t (c + 1) _ (7 * (c + i) + k) = nI (g k)
      cases i with
      | zero =>
        have e : f = g := by simpa using hi
        subst e
        rw [h1 _ (by omega)]
        unfold c_ovl
        rw [if_pos (by omega)]
        congr 2; omega
      | succ i =>
        have h3 := h2 i g (by simpa using hi) k hk
        rw [show c + (i + 1) = c + 1 + i by omega]; exact h3
section DA
variable {G : z_G} {d : Nat} {h : z_H} {M : Nat} {F : Nat → Int32} {A : Nat → Nat → Int32}
def c_ilG (f : Nat → Nat) (k : Nat) (N : Nat → Nat) (R : Nat → Int32) : (Nat → Int32) ⊕ ((Nat → Int32) × (Nat → Nat)) := if c_lsN f N k then .inl (c_rwP f N R k) else .inr (c_rwP f N R k, N)
theorem ilG_fds (f : Nat → Nat) (k : Nat) : ∀ (L : List (Nat → Nat)) (R : Nat → Int32), (L.all (fun N => c_lsN f N k) = true → ∃ R', fds (c_ilG f k) L R = .inl R') ∧ (L.all (fun N => c_lsN f N k) = false → ∃ v, v.2 ∈ L ∧ fds (c_ilG f k) L R = .inr v) := by
  intro L
  induction L with
  | nil => intro R; exact ⟨fun _ => ⟨R, rfl⟩, fun h => by cases h⟩
  | cons N L ih =>
    intro R
    unfold fds c_ilG
    cases hc : c_lsN f N k
    · rw [if_neg (by decide)]
      refine ⟨fun h => ?_, fun _ => ⟨_, List.mem_cons_self, rfl⟩⟩
      rw [List.all_cons, hc] at h; cases h
    · rw [if_pos rfl, List.all_cons, hc, Bool.true_and]
      refine ⟨(ih _).1, fun h => ?_⟩
      obtain ⟨v, h1, h2⟩ := (ih (c_rwP f N R k)).2 h
      exact ⟨v, List.mem_cons_of_mem _ h1, h2⟩
theorem e_isLeast (hM : z_sh M h) {n k : Nat} {f : Nat → Nat} (hn : 1 ≤ n ∧ n ≤ 8) (hk : k ≤ 7) (h27 : F 27 = nI n) (hf : ∀ l, l < k → f l < 2 ^ n) (hp : ∀ l, l < k → A 15 l = nI (f l)) (h5 : r_nm (A 5)) : ∃ A', agr [5, 10] A A' ∧ z_Ev G (d + 6) k_X12_isLeast [.ref M, .int (nI k)] (z_rs h M F A) (.inl (some (.int (nI (c_isLst n f k).toNat))), z_rs h M F A') := by
  have hp8 := n_p8 hn.2
  have cmpE : ∀ N R, c_cmp (c_rwP f N R k) (A 15) k = c_cmp (c_rwP f N (fun _ => nI 0) k) (fun l => nI (f l)) k := fun N R => cmp_cg (rwP_cg f N R _ k) hp
  -- one naming
  have body : ∀ (r : z_Res) (N : Nat → Nat) (R : Nat → Int32), N ∈ pms n → (if c_lsN f N k then ∃ N' m, nxM n N N' m ∧ z_J G (d + 6) (m_X12_isLeast z_puC) r 10 [some (.ref M), some (.int (nI k)), some (.int m), none] [] (z_rs h M F (z_u (z_u A 10 (c_rwP f N R k)) 5 (arrI n N' (A 5)))) else r = (.inl (some (.int (nI 0))), z_rs h M F (z_u (z_u A 10 (c_rwP f N R k)) 5 (arrI n N (A 5))))) → z_J G (d + 6) (m_X12_isLeast z_puC) r 10 [some (.ref M), some (.int (nI k)), some (.int (nI 1)), none] [] (z_rs h M F (z_u (z_u A 10 R) 5 (arrI n N (A 5)))) := by
    intro r N R hN hx
    have hN8 := pms_lt8 hn.2 hN
    refine b_X12_isLeast_10 z_puCV ?_
    rw [if_neg (show ¬ nI 1 = nI 0 by decide)]
    refine z_forI (α := Unit) (fun l _ => [some (.ref M), some (.int (nI k)), none, some (.int (nI l))]) (fun l _ => z_rs h M F (z_u (z_u A 10 (c_rwP f N R l)) 5 (arrI n N (A 5)))) (fun _ _ => True) (fun _ x => x) () k trivial ?_ ?_
    · intro l _ hl _
      refine ⟨trivial, fun hJ => b_X12_isLeast_16 z_puCV ?_⟩
      have hfl := hf l hl
      have hM' : z_sh M (z_rs h M F (z_u (z_u A 10 (c_rwP f N R l)) 5 (arrI n N (A 5)))) := hM
      have e15 : z_ai (z_rs h M F (z_u (z_u A 10 (c_rwP f N R l)) 5 (arrI n N (A 5)))) (M + 15) l = nI (f l) := by
        rw [rs_ai _ _ _ _ (by omega) (by omega), u_ne _ _ (by decide), u_ne _ _ (by decide)]; exact hp l hl
      have sn : s_X12_named M (nI (f l)) (z_rs h M F (z_u (z_u A 10 (c_rwP f N R l)) 5 (arrI n N (A 5)))) := ⟨hM, by rw [rs_ai _ _ _ _ (by omega) (by omega), u_eq]; exact nm_arr hN8 h5, f l, by omega, rfl⟩
      have fn : f_X12_named M (nI (f l)) (z_rs h M F (z_u (z_u A 10 (c_rwP f N R l)) 5 (arrI n N (A 5)))) = nI (c_nm N (f l)) := by
        rw [t_nm (by omega), rs_ai _ _ _ _ (by omega) (by omega), u_eq, rN_nm hN8 hfl]
      rw [if_pos (nI_lt hl (by omega)), (sh_path hM').1, z_rcs, nI_clamp (by omega), e15, fn, nI_add]
      have ep := e_putS (G := G) (d := d + 1) (F := F) (A := z_u (z_u A 10 (c_rwP f N R l)) 5 (arrI n N (A 5))) hM (nI (c_nm N (f l))) (show l < 12 by omega)
      rw [u_ne _ (a := 5) _ (show 10 ≠ 5 by decide), u_eq, u_mid _ _ _ _ (show 10 ≠ 5 by decide)] at ep
      exact ⟨sh_kd hM, (sh_path hM').2.1, by rw [(sh_path hM').2.2]; exact vp_in_nI (by omega) (by omega), sh_kd hM, sn, sh_kd hM, _, ep, hJ⟩
    · intro _
      refine b_X12_isLeast_16 z_puCV ?_
      have hM' : z_sh M (z_rs h M F (z_u (z_u A 10 (c_rwP f N R k)) 5 (arrI n N (A 5)))) := hM
      rw [if_neg (show ¬ nI k < nI k from nI_nlt (Nat.le_refl _) (by omega)), (sh_rowNow hM').1, z_rcs, (sh_path hM').1, z_rcs]
      have ec := e_cmpM (G := G) (d := d + 1) (F := F) (A := z_u (z_u A 10 (c_rwP f N R k)) 5 (arrI n N (A 5))) (i := 10) (j := 15) (k := k) hM (by omega) ⟨by decide, by decide⟩ ⟨by decide, by decide⟩ ⟨(sh_rowNow hM).2.1, by rw [(sh_rowNow hM).2.2]; omega, by rw [(sh_rowNow hM).2.2]; decide⟩ ⟨(sh_path hM).2.1, by rw [(sh_path hM).2.2]; exact hk, by rw [(sh_path hM).2.2]; decide⟩
      rw [u_ne _ (a := 5) _ (show 10 ≠ 5 by decide), u_eq, u_ne _ (a := 5) _ (show 15 ≠ 5 by decide), u_ne _ (a := 10) _ (show 15 ≠ 10 by decide), cmpE] at ec
      refine ⟨sh_kd hM, sh_kd hM, _, _, ec, ?_⟩
      unfold c_lsN at hx
      by_cases hc : c_cmp (c_rwP f N (fun _ => nI 0) k) (fun l => nI (f l)) k < nI 0
      · rw [decide_eq_false (fun q => q hc), if_neg (by decide)] at hx
        rw [if_pos hc, hx]
        exact ⟨Or.inl rfl, rfl⟩
      · rw [decide_eq_true hc, if_pos rfl] at hx
        obtain ⟨N', m, hx1, hJ⟩ := hx
        rw [if_neg hc, rs_oi, h27]
        exact ⟨sh_kd hM, sh_kd hM, _, _, e_nextM hM hn.1 hn.2 hN8 hx1, hJ⟩
  have start : ∀ r, z_J G (d + 6) (m_X12_isLeast z_puC) r 10 [some (.ref M), some (.int (nI k)), some (.int (nI 1)), none] [] (z_rs h M F (z_u (z_u A 10 (A 10)) 5 (arrI n (fun i => if i < n then i else 0) (A 5)))) → z_Ev G (d + 6) k_X12_isLeast [.ref M, .int (nI k)] (z_rs h M F A) r := by
    intro r hJ
    refine en_X12_isLeast (b_X12_isLeast_0 z_puCV ⟨sh_kd hM, sh_kd hM, ?_⟩)
    rw [rs_oi, h27]
    rw [u_self] at hJ
    exact ⟨_, e_begM (d := d + 1) hM hn.2, hJ⟩
  cases hl : c_isLst n f k
  · obtain ⟨v, hv, hfd⟩ := (ilG_fds f k (pms n) (A 10)).2 hl
    refine ⟨z_u (z_u A 10 v.1) 5 (arrI n v.2 (A 5)), agr_5 (agr_u (agr_rf h5) (by decide) (by decide) _) (by decide) (nm_arr (pms_lt8 hn.2 hv) h5), start _ ?_⟩
    refine z_nmx (fun m (_ : Nat → Int32) => [some (.ref M), some (.int (nI k)), some (.int m), none]) (fun N R => z_rs h M F (z_u (z_u A 10 R) 5 (arrI n N (A 5)))) (fun _ => True) (c_ilG f k) (A 10) trivial ?_ ?_ ?_
    · intro N R w hN _ hf2 hw
      rw [hfd] at hw
      cases hw
      refine body _ N R hN ?_
      unfold c_ilG at hf2
      split at hf2
      · cases hf2
      · rename_i hc
        cases hf2
        rw [if_neg hc]
        rfl
    · intro N R b hN _ hf2
      refine ⟨trivial, fun N' m hx hJ => body _ N R hN ?_⟩
      unfold c_ilG at hf2
      split at hf2
      · rename_i hc
        cases hf2
        rw [if_pos hc]
        exact ⟨N', m, hx, hJ⟩
      · cases hf2
    · intro R _ hw
      rw [hfd] at hw; cases hw
  · obtain ⟨R', hfd⟩ := (ilG_fds f k (pms n) (A 10)).1 hl
    refine ⟨z_u (z_u A 10 R') 5 (arrI n (plast n) (A 5)), agr_5 (agr_u (agr_rf h5) (by decide) (by decide) _) (by decide) (nm_arr (pms_lt8 hn.2 (plast_in _)) h5), start _ ?_⟩
    refine z_nmx (fun m (_ : Nat → Int32) => [some (.ref M), some (.int (nI k)), some (.int m), none]) (fun N R => z_rs h M F (z_u (z_u A 10 R) 5 (arrI n N (A 5)))) (fun _ => True) (c_ilG f k) (A 10) trivial ?_ ?_ ?_
    · intro N R w hN _ hf2 hw
      rw [hfd] at hw; cases hw
    · intro N R b hN _ hf2
      refine ⟨trivial, fun N' m hx hJ => body _ N R hN ?_⟩
      unfold c_ilG at hf2
      split at hf2
      · rename_i hc
        cases hf2
        rw [if_pos hc]
        exact ⟨N', m, hx, hJ⟩
      · cases hf2
    · intro R _ hw
      rw [hfd] at hw
      cases hw
      refine b_X12_isLeast_10 z_puCV ?_
      rw [if_pos rfl]
      exact ⟨Or.inr rfl, rfl⟩
end DA
