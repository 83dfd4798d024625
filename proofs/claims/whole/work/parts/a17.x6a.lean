theorem en_X6_solved {pu : Nat → Option ((List Value → z_H → Prop) × (List Value → z_H → Int32))} {G : z_G} {d : Nat} {r : z_Res} {h : z_H} {x0 : Nat} {x1 : Nat} (hJ : z_J G d (m_X6_solved pu) r 0 [some (.ref x0), some (.ref x1), none, none, none, none] [] h) : z_Ev G d k_X6_solved [.ref x0, .ref x1] h r := z_enter (μ := m_X6_solved pu) rfl (by decide) rfl rfl (fun q => by cases q) (Nat.le_of_ble_eq_true rfl) hJ
def hd_X6_solved : Nat → Option (List Bool) := (fun k => (cond (Nat.blt k 85) (cond (Nat.blt k 65) (cond (Nat.beq k 20) (some [true, true, true, true, true, false]) none) (cond (Nat.beq k 65) (some [false, true, true, true, false, false]) none)) none))
set_option maxRecDepth 20000 in
theorem b_X6_solved_0 {G : z_G} {d : Nat} {r : z_Res} (hPu : z_PuV G d (t_X6 z_pu0)) {h : z_H} {x0 : Nat} {x1 : Nat} (hT : (z_kd h x1 = 24 ∧ (z_rc (z_or h x1 11) (z_kd h x0 = 22 ∧ ∃ h_2, z_Ev G d k_X6_prepare [.ref x0, .ref x1] h (.inl none, h_2) ∧ (z_J G (d + 1) (m_X6_solved z_pu0) r) 20 [some (.ref x0), some (.ref x1), some (.int (-(nI 2))), some (.int (nI 0)), some (.int (nI 0)), none] [] h_2) (fun x_1 => (z_kd h x1 = 24 ∧ (z_rc (z_or h x1 11) (r = (.inl (some (va_rf none)), h)) (fun x_3 => r = (.inl (some (va_rf (some x_3))), h)))))))) : (z_J G (d + 1) (m_X6_solved z_pu0) r) 0 [some (.ref x0), some (.ref x1), none, none, none, none] [] h := z_bq (v_X6 z_pu0 (vP_X6_solved z_pu0) hPu) hd_X6_solved 15 hT
set_option maxRecDepth 20000 in
theorem b_X6_solved_20 {G : z_G} {d : Nat} {r : z_Res} (hPu : z_PuV G d (t_X6 z_pu0)) {h : z_H} {x0 : Nat} {x1 : Nat} {x2 : Int32} {x3 : Int32} {x4 : Int32} (hT : (z_kd h x0 = 22 ∧ (if x4 < (z_oi h x0 3) then (if x2 < (nI 1) then (z_kd h x0 = 22 ∧ ∃ x_2 h_1, z_Ev G d k_X6_worth [.ref x0, .int (nI 0), .int ((nI 1) <<< (x4 &&& (nI 31))), .int (nI 1)] h (.inl (some (.int x_2)), h_1) ∧ (if x2 < (-x_2) then (z_J G (d + 1) (m_X6_solved z_pu0) r) 20 [some (.ref x0), some (.ref x1), some (.int (-x_2)), some (.int x4), some (.int (x4 + (nI 1))), none] [] h_1 else (z_J G (d + 1) (m_X6_solved z_pu0) r) 20 [some (.ref x0), some (.ref x1), some (.int x2), some (.int x3), some (.int (x4 + (nI 1))), none] [] h_1)) else (z_J G (d + 1) (m_X6_solved z_pu0) r) 65 [none, some (.ref x1), some (.int x2), some (.int x3), none, none] [] h) else (z_J G (d + 1) (m_X6_solved z_pu0) r) 65 [none, some (.ref x1), some (.int x2), some (.int x3), none, none] [] h))) : (z_J G (d + 1) (m_X6_solved z_pu0) r) 20 [some (.ref x0), some (.ref x1), some (.int x2), some (.int x3), some (.int x4), none] [] h := z_bq (v_X6 z_pu0 (vP_X6_solved z_pu0) hPu) hd_X6_solved 28 hT
set_option maxRecDepth 20000 in
theorem b_X6_solved_65 {G : z_G} {d : Nat} {r : z_Res} (hPu : z_PuV G d (t_X6 z_pu0)) {h : z_H} {x1 : Nat} {x2 : Int32} {x3 : Int32} (hT : (¬ (nI 2) < 0 ∧ Int32.toNatClampNeg (nI 2) ≤ 1000000 ∧ (z_kd (z_nwi h 1 (Int32.toNatClampNeg (nI 2)) (fun _ => 0)) (z_n h) = 1 ∧ vp_in (nI 0) (z_ln (z_nwi h 1 (Int32.toNatClampNeg (nI 2)) (fun _ => 0)) (z_n h)) ∧ (z_kd (z_pai (z_nwi h 1 (Int32.toNatClampNeg (nI 2)) (fun _ => 0)) (z_n h) (Int32.toNatClampNeg (nI 0)) x2) (z_n h) = 1 ∧ vp_in (nI 1) (z_ln (z_pai (z_nwi h 1 (Int32.toNatClampNeg (nI 2)) (fun _ => 0)) (z_n h) (Int32.toNatClampNeg (nI 0)) x2) (z_n h)) ∧ (z_kd (z_pai (z_pai (z_nwi h 1 (Int32.toNatClampNeg (nI 2)) (fun _ => 0)) (z_n h) (Int32.toNatClampNeg (nI 0)) x2) (z_n h) (Int32.toNatClampNeg (nI 1)) x3) x1 = 24 ∧ (z_kd (z_por (z_pai (z_pai (z_nwi h 1 (Int32.toNatClampNeg (nI 2)) (fun _ => 0)) (z_n h) (Int32.toNatClampNeg (nI 0)) x2) (z_n h) (Int32.toNatClampNeg (nI 1)) x3) x1 11 (some (z_n h))) x1 = 24 ∧ (z_rc (z_or (z_por (z_pai (z_pai (z_nwi h 1 (Int32.toNatClampNeg (nI 2)) (fun _ => 0)) (z_n h) (Int32.toNatClampNeg (nI 0)) x2) (z_n h) (Int32.toNatClampNeg (nI 1)) x3) x1 11 (some (z_n h))) x1 11) (r = (.inl (some (va_rf none)), z_por (z_pai (z_pai (z_nwi h 1 (Int32.toNatClampNeg (nI 2)) (fun _ => 0)) (z_n h) (Int32.toNatClampNeg (nI 0)) x2) (z_n h) (Int32.toNatClampNeg (nI 1)) x3) x1 11 (some (z_n h)))) (fun x_1 => r = (.inl (some (va_rf (some x_1))), z_por (z_pai (z_pai (z_nwi h 1 (Int32.toNatClampNeg (nI 2)) (fun _ => 0)) (z_n h) (Int32.toNatClampNeg (nI 0)) x2) (z_n h) (Int32.toNatClampNeg (nI 1)) x3) x1 11 (some (z_n h))))))))))) : (z_J G (d + 1) (m_X6_solved z_pu0) r) 65 [none, some (.ref x1), some (.int x2), some (.int x3), none, none] [] h := z_bq (v_X6 z_pu0 (vP_X6_solved z_pu0) hPu) hd_X6_solved 17 hT
theorem en_X6_prepare {pu : Nat → Option ((List Value → z_H → Prop) × (List Value → z_H → Int32))} {G : z_G} {d : Nat} {r : z_Res} {h : z_H} {x0 : Nat} {x1 : Nat} (hJ : z_J G d (m_X6_prepare pu) r 0 [some (.ref x0), some (.ref x1), none] [] h) : z_Ev G d k_X6_prepare [.ref x0, .ref x1] h r := z_enter (μ := m_X6_prepare pu) rfl (by decide) rfl rfl (fun q => by cases q) (Nat.le_of_ble_eq_true rfl) hJ
def hd_X6_prepare : Nat → Option (List Bool) := (fun k => (cond (Nat.blt k 66) (cond (Nat.beq k 18) (some [true, true, true]) none) none))
set_option maxRecDepth 20000 in
theorem b_X6_prepare_0 {G : z_G} {d : Nat} {r : z_Res} (hPu : z_PuV G d (t_X6 z_pu0)) {h : z_H} {x0 : Nat} {x1 : Nat} (hT : (z_kd h x1 = 24 ∧ (z_kd h x0 = 22 ∧ (z_kd (z_poi h x0 3 (z_oi h x1 0)) x0 = 22 ∧ (z_rc (z_or (z_poi h x0 3 (z_oi h x1 0)) x0 2) (∃ h_2, z_Ev G d k_J7_fill_031fb [.null, .int (nI 0)] (z_poi h x0 3 (z_oi h x1 0)) (.inl none, h_2) ∧ (z_J G (d + 1) (m_X6_prepare z_pu0) r) 18 [some (.ref x0), some (.ref x1), some (.int (nI 1))] [] h_2) (fun x_1 => (∃ h_3, z_Ev G d k_J7_fill_031fb [.ref x_1, .int (nI 0)] (z_poi h x0 3 (z_oi h x1 0)) (.inl none, h_3) ∧ (z_J G (d + 1) (m_X6_prepare z_pu0) r) 18 [some (.ref x0), some (.ref x1), some (.int (nI 1))] [] h_3))))))) : (z_J G (d + 1) (m_X6_prepare z_pu0) r) 0 [some (.ref x0), some (.ref x1), none] [] h := z_bq (v_X6 z_pu0 (vP_X6_prepare z_pu0) hPu) hd_X6_prepare 13 hT
set_option maxRecDepth 20000 in
theorem b_X6_prepare_18 {G : z_G} {d : Nat} {r : z_Res} (hPu : z_PuV G d (t_X6 z_pu0)) {h : z_H} {x0 : Nat} {x1 : Nat} {x2 : Int32} (hT : (z_kd h x0 = 22 ∧ (if x2 < ((nI 1) <<< ((z_oi h x0 3) &&& (nI 31))) then (z_kd h x0 = 22 ∧ (z_rc (z_or h x0 1) (z_kd h x0 = 22 ∧ (z_rc (z_or h x0 1) False (fun x_2 => (z_kd h x_2 = 1 ∧ vp_in (x2 >>> ((nI 1) &&& (nI 31))) (z_ln h x_2) ∧ False)))) (fun x_1 => (z_kd h x0 = 22 ∧ (z_rc (z_or h x0 1) False (fun x_3 => (z_kd h x_3 = 1 ∧ vp_in (x2 >>> ((nI 1) &&& (nI 31))) (z_ln h x_3) ∧ (z_kd h x_1 = 1 ∧ vp_in x2 (z_ln h x_1) ∧ (z_kd (z_pai h x_1 (Int32.toNatClampNeg x2) (((nI 3) * (z_ai h x_3 (Int32.toNatClampNeg (x2 >>> ((nI 1) &&& (nI 31)))))) + (x2 &&& (nI 1)))) x0 = 22 ∧ (z_rc (z_or (z_pai h x_1 (Int32.toNatClampNeg x2) (((nI 3) * (z_ai h x_3 (Int32.toNatClampNeg (x2 >>> ((nI 1) &&& (nI 31)))))) + (x2 &&& (nI 1)))) x0 0) (∃ x_6 h_5, z_Ev G d k_X9_holdsLine [.ref x1, .int x2] (z_pai h x_1 (Int32.toNatClampNeg x2) (((nI 3) * (z_ai h x_3 (Int32.toNatClampNeg (x2 >>> ((nI 1) &&& (nI 31)))))) + (x2 &&& (nI 1)))) (.inl (some (.int x_6)), h_5) ∧ False) (fun x_4 => (∃ x_8 h_7, z_Ev G d k_X9_holdsLine [.ref x1, .int x2] (z_pai h x_1 (Int32.toNatClampNeg x2) (((nI 3) * (z_ai h x_3 (Int32.toNatClampNeg (x2 >>> ((nI 1) &&& (nI 31)))))) + (x2 &&& (nI 1)))) (.inl (some (.int x_8)), h_7) ∧ (((z_kd h_7 x_4 = 3 ∧ Int8.toInt32 (Int32.toInt8 (x_8)) = x_8) ∨ (z_kd h_7 x_4 = 4 ∧ z_bz x_8)) ∧ vp_in x2 (z_ln h_7 x_4) ∧ (z_J G (d + 1) (m_X6_prepare z_pu0) r) 18 [some (.ref x0), some (.ref x1), some (.int (x2 + (nI 1)))] [] (z_pai h_7 x_4 (Int32.toNatClampNeg x2) x_8)))))))))))))) else r = (.inl none, h)))) : (z_J G (d + 1) (m_X6_prepare z_pu0) r) 18 [some (.ref x0), some (.ref x1), some (.int x2)] [] h := z_bq (v_X6 z_pu0 (vP_X6_prepare z_pu0) hPu) hd_X6_prepare 34 hT
theorem en_X6_worth {pu : Nat → Option ((List Value → z_H → Prop) × (List Value → z_H → Int32))} {G : z_G} {d : Nat} {r : z_Res} {h : z_H} {x0 : Nat} {x1 : Int32} {x2 : Int32} {x3 : Int32} (hJ : z_J G d (m_X6_worth pu) r 0 [some (.ref x0), some (.int x1), some (.int x2), some (.int x3), none] [] h) : z_Ev G d k_X6_worth [.ref x0, .int x1, .int x2, .int x3] h r := z_enter (μ := m_X6_worth pu) rfl (by decide) rfl rfl (fun q => by cases q) (Nat.le_of_ble_eq_true rfl) hJ
def hd_X6_worth : Nat → Option (List Bool) := (fun k => none)
set_option maxRecDepth 20000 in
theorem b_X6_worth_0 {G : z_G} {d : Nat} {r : z_Res} (hPu : z_PuV G d (t_X6 z_pu0)) {h : z_H} {x0 : Nat} {x1 : Int32} {x2 : Int32} {x3 : Int32} (hT : (z_kd h x0 = 22 ∧ (if x3 < (z_oi h x0 3) then (z_kd h x0 = 22 ∧ (z_rc (z_or h x0 1) False (fun x_1 => (z_kd h x_1 = 1 ∧ vp_in x1 (z_ln h x_1) ∧ (z_kd h x0 = 22 ∧ (z_rc (z_or h x0 1) False (fun x_2 => (z_kd h x_2 = 1 ∧ vp_in x2 (z_ln h x_2) ∧ (z_kd h x0 = 22 ∧ (z_rc (z_or h x0 2) False (fun x_3 => ((z_kd h x_3 = 3 ∨ z_kd h x_3 = 4) ∧ vp_in ((z_ai h x_1 (Int32.toNatClampNeg x1)) + ((nI 2) * (z_ai h x_2 (Int32.toNatClampNeg x2)))) (z_ln h x_3) ∧ (if (z_ai h x_3 (Int32.toNatClampNeg ((z_ai h x_1 (Int32.toNatClampNeg x1)) + ((nI 2) * (z_ai h x_2 (Int32.toNatClampNeg x2)))))) = (nI 0) then (z_kd h x0 = 22 ∧ (z_rc (z_or h x0 2) (z_kd h x0 = 22 ∧ ∃ x_6 h_5, z_Ev G d k_X6_findWorth [.ref x0, .int x1, .int x2, .int x3] h (.inl (some (.int x_6)), h_5) ∧ False) (fun x_4 => (z_kd h x0 = 22 ∧ ∃ x_8 h_7, z_Ev G d k_X6_findWorth [.ref x0, .int x1, .int x2, .int x3] h (.inl (some (.int x_8)), h_7) ∧ (((z_kd h_7 x_4 = 3 ∧ Int8.toInt32 (Int32.toInt8 ((Int8.toInt32 (Int32.toInt8 ((nI 2) + x_8))))) = (Int8.toInt32 (Int32.toInt8 ((nI 2) + x_8)))) ∨ (z_kd h_7 x_4 = 4 ∧ z_bz (Int8.toInt32 (Int32.toInt8 ((nI 2) + x_8))))) ∧ vp_in ((z_ai h x_1 (Int32.toNatClampNeg x1)) + ((nI 2) * (z_ai h x_2 (Int32.toNatClampNeg x2)))) (z_ln h_7 x_4) ∧ (z_kd (z_pai h_7 x_4 (Int32.toNatClampNeg ((z_ai h x_1 (Int32.toNatClampNeg x1)) + ((nI 2) * (z_ai h x_2 (Int32.toNatClampNeg x2))))) (Int8.toInt32 (Int32.toInt8 ((nI 2) + x_8)))) x0 = 22 ∧ (z_rc (z_or (z_pai h_7 x_4 (Int32.toNatClampNeg ((z_ai h x_1 (Int32.toNatClampNeg x1)) + ((nI 2) * (z_ai h x_2 (Int32.toNatClampNeg x2))))) (Int8.toInt32 (Int32.toInt8 ((nI 2) + x_8)))) x0 2) False (fun x_9 => ((z_kd (z_pai h_7 x_4 (Int32.toNatClampNeg ((z_ai h x_1 (Int32.toNatClampNeg x1)) + ((nI 2) * (z_ai h x_2 (Int32.toNatClampNeg x2))))) (Int8.toInt32 (Int32.toInt8 ((nI 2) + x_8)))) x_9 = 3 ∨ z_kd (z_pai h_7 x_4 (Int32.toNatClampNeg ((z_ai h x_1 (Int32.toNatClampNeg x1)) + ((nI 2) * (z_ai h x_2 (Int32.toNatClampNeg x2))))) (Int8.toInt32 (Int32.toInt8 ((nI 2) + x_8)))) x_9 = 4) ∧ vp_in ((z_ai h x_1 (Int32.toNatClampNeg x1)) + ((nI 2) * (z_ai h x_2 (Int32.toNatClampNeg x2)))) (z_ln (z_pai h_7 x_4 (Int32.toNatClampNeg ((z_ai h x_1 (Int32.toNatClampNeg x1)) + ((nI 2) * (z_ai h x_2 (Int32.toNatClampNeg x2))))) (Int8.toInt32 (Int32.toInt8 ((nI 2) + x_8)))) x_9) ∧ r = (.inl (some (.int ((z_ai (z_pai h_7 x_4 (Int32.toNatClampNeg ((z_ai h x_1 (Int32.toNatClampNeg x1)) + ((nI 2) * (z_ai h x_2 (Int32.toNatClampNeg x2))))) (Int8.toInt32 (Int32.toInt8 ((nI 2) + x_8)))) x_9 (Int32.toNatClampNeg ((z_ai h x_1 (Int32.toNatClampNeg x1)) + ((nI 2) * (z_ai h x_2 (Int32.toNatClampNeg x2)))))) - (nI 2)))), z_pai h_7 x_4 (Int32.toNatClampNeg ((z_ai h x_1 (Int32.toNatClampNeg x1)) + ((nI 2) * (z_ai h x_2 (Int32.toNatClampNeg x2))))) (Int8.toInt32 (Int32.toInt8 ((nI 2) + x_8))))))))))))) else (z_kd h x0 = 22 ∧ (z_rc (z_or h x0 2) False (fun x_10 => ((z_kd h x_10 = 3 ∨ z_kd h x_10 = 4) ∧ vp_in ((z_ai h x_1 (Int32.toNatClampNeg x1)) + ((nI 2) * (z_ai h x_2 (Int32.toNatClampNeg x2)))) (z_ln h x_10) ∧ r = (.inl (some (.int ((z_ai h x_10 (Int32.toNatClampNeg ((z_ai h x_1 (Int32.toNatClampNeg x1)) + ((nI 2) * (z_ai h x_2 (Int32.toNatClampNeg x2)))))) - (nI 2)))), h)))))))))))))))))) else r = (.inl (some (.int (nI 0))), h)))) : (z_J G (d + 1) (m_X6_worth z_pu0) r) 0 [some (.ref x0), some (.int x1), some (.int x2), some (.int x3), none] [] h := z_bq (v_X6 z_pu0 (vP_X6_worth z_pu0) hPu) hd_X6_worth 42 hT
theorem en_X6_findWorth {pu : Nat → Option ((List Value → z_H → Prop) × (List Value → z_H → Int32))} {G : z_G} {d : Nat} {r : z_Res} {h : z_H} {x0 : Nat} {x1 : Int32} {x2 : Int32} {x3 : Int32} (hJ : z_J G d (m_X6_findWorth pu) r 0 [some (.ref x0), some (.int x1), some (.int x2), some (.int x3), none, none, none] [] h) : z_Ev G d k_X6_findWorth [.ref x0, .int x1, .int x2, .int x3] h r := z_enter (μ := m_X6_findWorth pu) rfl (by decide) rfl rfl (fun q => by cases q) (Nat.le_of_ble_eq_true rfl) hJ
def hd_X6_findWorth : Nat → Option (List Bool) := (fun k => (cond (Nat.blt k 109) (cond (Nat.beq k 52) (some [true, true, true, true, false, true, true]) none) none))
set_option maxRecDepth 20000 in
theorem b_X6_findWorth_0 {G : z_G} {d : Nat} {r : z_Res} (hPu : z_PuV G d (t_X6 z_pu0)) {h : z_H} {x0 : Nat} {x1 : Int32} {x2 : Int32} {x3 : Int32} (hT : (z_kd h x0 = 22 ∧ ∃ x_2 h_1, z_Ev G d k_X6_ends [.ref x0, .int x1, .int (x1 ||| x2)] h (.inl (some (.int x_2)), h_1) ∧ (if x_2 = mI then (z_kd h_1 x0 = 22 ∧ ∃ x_4 h_3, z_Ev G d k_X6_ends [.ref x0, .int x2, .int (x1 ||| x2)] h_1 (.inl (some (.int x_4)), h_3) ∧ (if x_4 = mI then (z_J G (d + 1) (m_X6_findWorth z_pu0) r) 52 [some (.ref x0), some (.int x1), some (.int x2), some (.int x3), none, some (.int mI), some (.int (nI 0))] [] h_3 else (z_kd h_3 x0 = 22 ∧ ∃ x_6 h_5, z_Ev G d k_X6_worth [.ref x0, .int x2, .int (x1 ||| ((nI 1) <<< (x_4 &&& (nI 31)))), .int (x3 + (nI 1))] h_3 (.inl (some (.int x_6)), h_5) ∧ r = (.inl (some (.int (-x_6))), h_5)))) else r = (.inl (some (.int (nI 1))), h_1)))) : (z_J G (d + 1) (m_X6_findWorth z_pu0) r) 0 [some (.ref x0), some (.int x1), some (.int x2), some (.int x3), none, none, none] [] h := z_bq (v_X6 z_pu0 (vP_X6_findWorth z_pu0) hPu) hd_X6_findWorth 33 hT
set_option maxRecDepth 20000 in
theorem b_X6_findWorth_52 {G : z_G} {d : Nat} {r : z_Res} (hPu : z_PuV G d (t_X6 z_pu0)) {h : z_H} {x0 : Nat} {x1 : Int32} {x2 : Int32} {x3 : Int32} {x5 : Int32} {x6 : Int32} (hT : (z_kd h x0 = 22 ∧ (if x6 < (z_oi h x0 3) then (if x5 < (nI 1) then (if (((x1 ||| x2) >>> (x6 &&& (nI 31))) &&& (nI 1)) = (nI 0) then (z_kd h x0 = 22 ∧ ∃ x_2 h_1, z_Ev G d k_X6_worth [.ref x0, .int x2, .int (x1 ||| ((nI 1) <<< (x6 &&& (nI 31)))), .int (x3 + (nI 1))] h (.inl (some (.int x_2)), h_1) ∧ (∃ x_4 h_3, z_Ev G d k_J9_max_7cf53 [.int x5, .int (-x_2)] h_1 (.inl (some (.int x_4)), h_3) ∧ (z_J G (d + 1) (m_X6_findWorth z_pu0) r) 52 [some (.ref x0), some (.int x1), some (.int x2), some (.int x3), none, some (.int x_4), some (.int (x6 + (nI 1)))] [] h_3)) else (z_J G (d + 1) (m_X6_findWorth z_pu0) r) 52 [some (.ref x0), some (.int x1), some (.int x2), some (.int x3), none, some (.int x5), some (.int (x6 + (nI 1)))] [] h) else r = (.inl (some (.int x5)), h)) else r = (.inl (some (.int x5)), h)))) : (z_J G (d + 1) (m_X6_findWorth z_pu0) r) 52 [some (.ref x0), some (.int x1), some (.int x2), some (.int x3), none, some (.int x5), some (.int x6)] [] h := z_bq (v_X6 z_pu0 (vP_X6_findWorth z_pu0) hPu) hd_X6_findWorth 35 hT
theorem en_X6_ends {pu : Nat → Option ((List Value → z_H → Prop) × (List Value → z_H → Int32))} {G : z_G} {d : Nat} {r : z_Res} {h : z_H} {x0 : Nat} {x1 : Int32} {x2 : Int32} (hJ : z_J G d (m_X6_ends pu) r 0 [some (.ref x0), some (.int x1), some (.int x2), none] [] h) : z_Ev G d k_X6_ends [.ref x0, .int x1, .int x2] h r := z_enter (μ := m_X6_ends pu) rfl (by decide) rfl rfl (fun q => by cases q) (Nat.le_of_ble_eq_true rfl) hJ
def hd_X6_ends : Nat → Option (List Bool) := (fun k => (cond (Nat.blt k 41) (cond (Nat.beq k 2) (some [true, true, true, true]) none) none))
set_option maxRecDepth 20000 in
theorem b_X6_ends_0 {G : z_G} {d : Nat} {r : z_Res} (hPu : z_PuV G d (t_X6 z_pu0)) {h : z_H} {x0 : Nat} {x1 : Int32} {x2 : Int32} (hT : (z_J G (d + 1) (m_X6_ends z_pu0) r) 2 [some (.ref x0), some (.int x1), some (.int x2), some (.int (nI 0))] [] h) : (z_J G (d + 1) (m_X6_ends z_pu0) r) 0 [some (.ref x0), some (.int x1), some (.int x2), none] [] h := z_bq (v_X6 z_pu0 (vP_X6_ends z_pu0) hPu) hd_X6_ends 5 hT
set_option maxRecDepth 20000 in
theorem b_X6_ends_2 {G : z_G} {d : Nat} {r : z_Res} (hPu : z_PuV G d (t_X6 z_pu0)) {h : z_H} {x0 : Nat} {x1 : Int32} {x2 : Int32} {x3 : Int32} (hT : (z_kd h x0 = 22 ∧ (if x3 < (z_oi h x0 3) then (if ((x2 >>> (x3 &&& (nI 31))) &&& (nI 1)) = (nI 0) then (z_kd h x0 = 22 ∧ (z_rc (z_or h x0 0) False (fun x_1 => ((z_kd h x_1 = 3 ∨ z_kd h x_1 = 4) ∧ vp_in (x1 ||| ((nI 1) <<< (x3 &&& (nI 31)))) (z_ln h x_1) ∧ (if (z_ai h x_1 (Int32.toNatClampNeg (x1 ||| ((nI 1) <<< (x3 &&& (nI 31)))))) = (nI 0) then (z_J G (d + 1) (m_X6_ends z_pu0) r) 2 [some (.ref x0), some (.int x1), some (.int x2), some (.int (x3 + (nI 1)))] [] h else r = (.inl (some (.int x3)), h)))))) else (z_J G (d + 1) (m_X6_ends z_pu0) r) 2 [some (.ref x0), some (.int x1), some (.int x2), some (.int (x3 + (nI 1)))] [] h) else r = (.inl (some (.int mI)), h)))) : (z_J G (d + 1) (m_X6_ends z_pu0) r) 2 [some (.ref x0), some (.int x1), some (.int x2), some (.int x3)] [] h := z_bq (v_X6 z_pu0 (vP_X6_ends z_pu0) hPu) hd_X6_ends 24 hT
/-! THE PLAYER -/
theorem e_fillB {G : z_G} {d : Nat} {h : z_H} {a : Nat} {v : Int32} (ha : z_kd h a = 3) (hl : z_ln h a < 2 ^ 31) (hv : Int8.toInt32 (Int32.toInt8 v) = v) : z_Ev G (d + 1) k_J7_fill_031fb [.ref a, .int v] h (.inl none, z_pax h a (fa_fill (fun _ => v) (z_ai h a) (z_ln h a))) := by
  have loop : ∀ k i, i + k = z_ln h a → z_J G (d + 1) (m_J7_fill_031fb z_pu0) (.inl none, z_pax h a (fa_fill (fun _ => v) (z_ai h a) (z_ln h a))) 5 [some (.ref a), some (.int v), some (.int (nI i)), some (.int (nI (z_ln h a)))] [] (z_pax h a (fa_fill (fun _ => v) (z_ai h a) i)) := by
    intro k
    induction k with
    | zero =>
      intro i hi
      refine b_J7_fill_031fb_5 (z_pu0V rfl) ?_
      rw [if_neg (nI_nlt (by omega) (by omega)), show i = z_ln h a by omega]
    | succ k ih =>
      intro i hi
      refine b_J7_fill_031fb_5 (z_pu0V rfl) ?_
      rw [if_pos (nI_lt (by omega) (by omega))]
      refine ⟨Or.inl ⟨ha, hv⟩, vp_in_nI (by show i < z_ln h a; omega) (by show z_ln h a < 2 ^ 31; omega), ?_⟩
      have := ih (i + 1) (by omega)
      rw [nI_1, nI_clamp (by omega), h_pai, h_pax_pax, h_pax_ai, h_fill_u (fun _ => v)]
      exact this
  refine en_J7_fill_031fb (b_J7_fill_031fb_0 (z_pu0V rfl) ⟨⟨by omega, by omega⟩, ?_⟩)
  have := loop (z_ln h a) 0 (by omega)
  rw [fa_fill_0, h_pax_self] at this
  exact this
/-- sets as numbers of base 3 -/
def trn (n m : Nat) : Nat := it (fun i v => v + (m.testBit i).toNat * 3 ^ i) 0 n
theorem trn_half : ∀ m, m < 256 → trn 8 m = 3 * trn 8 (m >>> 1) + m % 2 := by decide +kernel
theorem trn_le : ∀ m, m < 256 → trn 8 m ≤ 3280 := by decide +kernel
theorem trn_lt {a b : Nat} : ∀ n, (∀ i, i < n → a.testBit i = true → b.testBit i = false) → trn n a + 2 * trn n b < 3 ^ n := by
  intro n
  induction n with
  | zero => intro _; show 0 + 2 * 0 < 1; decide
  | succ n ih =>
    intro hd
    have ih' := ih (fun i hi => hd i (by omega))
    have e1 : trn (n + 1) a = trn n a + (a.testBit n).toNat * 3 ^ n := rfl
    have e2 : trn (n + 1) b = trn n b + (b.testBit n).toNat * 3 ^ n := rfl
    rw [e1, e2, Nat.pow_succ]
    have hn := hd n (by omega)
    cases c1 : a.testBit n <;> cases c2 : b.testBit n
    · simp only [Bool.toNat_false, Nat.zero_mul]; omega
    · simp only [Bool.toNat_false, Bool.toNat_true, Nat.zero_mul, Nat.one_mul]; omega
    · simp only [Bool.toNat_false, Bool.toNat_true, Nat.zero_mul, Nat.one_mul]; omega
    · rw [hn c1] at c2; cases c2
theorem trn_inj {a b a' b' : Nat} : ∀ n, (∀ i, i < n → a.testBit i = true → b.testBit i = false) → (∀ i, i < n → a'.testBit i = true → b'.testBit i = false) → trn n a + 2 * trn n b = trn n a' + 2 * trn n b' → ∀ i, i < n → a.testBit i = a'.testBit i ∧ b.testBit i = b'.testBit i := by
  intro n
  induction n with
  | zero => intro _ _ _ i hi; exact absurd hi (Nat.not_lt_zero _)
  | succ n ih =>
    intro hd hd' he i hi
    have l1 := trn_lt n (fun i hi => hd i (by omega))
    have l2 := trn_lt n (fun i hi => hd' i (by omega))
    have e1 : trn (n + 1) a = trn n a + (a.testBit n).toNat * 3 ^ n := rfl
    have e2 : trn (n + 1) b = trn n b + (b.testBit n).toNat * 3 ^ n := rfl
    have e3 : trn (n + 1) a' = trn n a' + (a'.testBit n).toNat * 3 ^ n := rfl
    have e4 : trn (n + 1) b' = trn n b' + (b'.testBit n).toNat * 3 ^ n := rfl
    rw [e1, e2, e3, e4] at he
    have hn := hd n (by omega)
    have hn' := hd' n (by omega)
    have key : (a.testBit n = a'.testBit n ∧ b.testBit n = b'.testBit n) ∧ trn n a + 2 * trn n b = trn n a' + 2 * trn n b' := by
      obtain ⟨P, eP⟩ : ∃ P, P = 3 ^ n := ⟨_, rfl⟩
      rw [← eP] at he l1 l2
      cases c1 : a.testBit n <;> cases c2 : b.testBit n <;> cases c3 : a'.testBit n <;> cases c4 : b'.testBit n <;> rw [c1, c2, c3, c4] at he <;> simp only [Bool.toNat_false, Bool.toNat_true, Nat.zero_mul, Nat.one_mul] at he <;> first
        | (refine ⟨⟨rfl, rfl⟩, ?_⟩; omega)
        | (exfalso; omega)
        | (exact absurd (hn c1) (by rw [c2]; decide))
        | (exact absurd (hn' c3) (by rw [c4]; decide))
    by_cases e : i = n
    · rw [e]; exact key.1
    · exact ih (fun i hi => hd i (by omega)) (fun i hi => hd' i (by omega)) key.2 i (by omega)
/-- the least free point that ends a line -/
def gE (S : Sc) (a u : Nat) : Option Nat := if fa_first (fun p => !u.testBit p && c_has S (a ||| 2 ^ p)) S.1 < S.1 then some (fa_first (fun p => !u.testBit p && c_has S (a ||| 2 ^ p)) S.1) else none
def gL (f : Nat → Int32) (u : Nat) : Nat → Nat → Int32 → Int32
  | 0, _, b => b
  | r + 1, p, b => if b < nI 1 then (if u.testBit p = false then gL f u r (p + 1) (if b < -(f p) then -(f p) else b) else gL f u r (p + 1) b) else b
def gF (S : Sc) (f : Nat → Nat → Int32) (a b : Nat) : Int32 := if gE S a (a ||| b) ≠ none then nI 1 else match gE S b (a ||| b) with
  | some t => -(f b (a ||| 2 ^ t))
  | none => gL (fun p => f b (a ||| 2 ^ p)) (a ||| b) S.1 0 mI
def gW (S : Sc) : Nat → Nat → Nat → Int32
  | 0, _, _ => nI 0
  | k + 1, a, b => gF S (gW S k) a b
def w3 (v : Int32) : Prop := v = mI ∨ v = nI 0 ∨ v = nI 1
theorem w3_neg {v : Int32} (h : w3 v) : w3 (-v) := by
  rcases h with rfl | rfl | rfl
  · right; right; decide
  · right; left; decide
  · left; decide
theorem gL_w3 {f : Nat → Int32} {u : Nat} (hf : ∀ p, w3 (f p)) : ∀ r p b, w3 b → w3 (gL f u r p b) := by
  intro r
  induction r with
  | zero => intro p b hb; exact hb
  | succ r ih =>
    intro p b hb
    unfold gL
    split
    · split
      · refine ih _ _ ?_
        split
        · exact w3_neg (hf p)
        · exact hb
      · exact ih _ _ hb
    · exact hb
theorem gW_w3 (S : Sc) : ∀ k a b, w3 (gW S k a b) := by
  intro k
  induction k with
  | zero => intro a b; right; left; rfl
  | succ k ih =>
    intro a b
    show w3 (gF S (gW S k) a b)
    unfold gF
    split
    · right; right; rfl
    · split
      · exact w3_neg (ih _ _)
      · exact gL_w3 (fun p => ih _ _) _ _ _ (Or.inl rfl)
theorem w3_B {v : Int32} (h : w3 v) : Int8.toInt32 (Int32.toInt8 (nI 2 + v)) = nI 2 + v ∧ nI 2 + v ≠ nI 0 ∧ nI 2 + v - nI 2 = v := by
  rcases h with rfl | rfl | rfl <;> decide
/-- the player's shape; its rows for a scheme -/
def psh (x : Nat) (h : z_H) : Prop := z_kd h x = 22 ∧ (z_or h x 0 = some (x + 1) ∧ z_kd h (x + 1) = 4 ∧ z_ln h (x + 1) = 256) ∧ (z_or h x 1 = some (x + 2) ∧ z_kd h (x + 2) = 1 ∧ z_ln h (x + 2) = 256) ∧ (z_or h x 2 = some (x + 3) ∧ z_kd h (x + 3) = 3 ∧ z_ln h (x + 3) = 6561)
def prw (S : Sc) (F : Nat → Int32) (A : Nat → Nat → Int32) : Prop := F 3 = nI S.1 ∧ (∀ m, 0 < m → m < 2 ^ S.1 → A 0 m = nI (c_has S m).toNat) ∧ ∀ m, m < 2 ^ S.1 → A 1 m = nI (trn 8 m)
def dsj (a b : Nat) : Prop := a &&& b = 0
/-- what is known is true -/
def mem (S : Sc) (K : Nat → Int32) : Prop := ∀ a b, a < 2 ^ S.1 → b < 2 ^ S.1 → dsj a b → K (trn 8 a + 2 * trn 8 b) = nI 0 ∨ K (trn 8 a + 2 * trn 8 b) = nI 2 + gW S (S.1 - (n_pc a + n_pc b)) a b
section HL
variable {G : z_G} {d x : Nat} {h : z_H} {S : Sc} {F : Nat → Int32} {A : Nat → Nat → Int32}
theorem dsj_bit {a b : Nat} (h : dsj a b) (i : Nat) : a.testBit i = true → b.testBit i = false := fun ha => by
  have e := congrArg (fun z => z.testBit i) h
  simp only [Nat.testBit_and, Nat.zero_testBit, ha, Bool.true_and] at e
  exact e
theorem dsj_eq {a b a' b' : Nat} (ha : a < 256) (hb : b < 256) (ha' : a' < 256) (hb' : b' < 256) (h1 : dsj a b) (h2 : dsj a' b') (e : trn 8 a + 2 * trn 8 b = trn 8 a' + 2 * trn 8 b') : a = a' ∧ b = b' := by
  have key := trn_inj 8 (fun i _ => dsj_bit h1 i) (fun i _ => dsj_bit h2 i) e
  have big : ∀ x, x < 256 → ∀ i, 8 ≤ i → x.testBit i = false := fun x hx i hi => Nat.testBit_lt_two_pow (Nat.lt_of_lt_of_le hx (show 2 ^ 8 ≤ 2 ^ i from Nat.pow_le_pow_right (by decide) hi))
  constructor
  · apply Nat.eq_of_testBit_eq
    intro i
    by_cases hi : i < 8
    · exact (key i hi).1
    · rw [big a ha i (by omega), big a' ha' i (by omega)]
  · apply Nat.eq_of_testBit_eq
    intro i
    by_cases hi : i < 8
    · exact (key i hi).2
    · rw [big b hb i (by omega), big b' hb' i (by omega)]
theorem e6_ends (hs : psh x h) (hr : prw S F A) (hn : S.1 ≤ 8) {a u : Nat} (ha : a < 2 ^ S.1) (hu : u < 256) : z_Ev G (d + 4) k_X6_ends [.ref x, .int (nI a), .int (nI u)] (z_hb h x 3 F A) (.inl (some (.int (oI (gE S a u)))), z_hb h x 3 F A) := by
  have p9 := p2_9 hn
  refine en_X6_ends (b_X6_ends_0 (z_pu0V rfl) ?_)
  refine z_fnd (fun p => [some (.ref x), some (.int (nI a)), some (.int (nI u)), some (.int (nI p))]) (fun p => !u.testBit p && c_has S (a ||| 2 ^ p)) S.1 ?_ ?_
  · intro p hp hno hJ
    have pp : a ||| 2 ^ p < 2 ^ S.1 := Nat.or_lt_two_pow ha (Nat.pow_lt_pow_right (by decide) hp)
    have p0 : 0 < a ||| 2 ^ p := Nat.lt_of_lt_of_le (Nat.two_pow_pos p) Nat.right_le_or
    have rows : z_ai (z_hb h x 3 F A) (x + 1) = A 0 := hb_ai h x 3 F A (j := 0) (by decide)
    refine b_X6_ends_2 (z_pu0V rfl) ⟨hs.1, ?_⟩
    rw [hb_oi, hr.1, if_pos (nI_lt hp (by omega)), show (nI u >>> (nI p &&& nI 31)) &&& nI 1 = nI (u.testBit p).toNat from n_bit (by omega) (by omega), show nI 1 <<< (nI p &&& nI 31) = nI (2 ^ p) from n_one (by omega), fa_or, nI_add, hb_or, hs.2.1.1, z_rcs, nI_clamp (show a ||| 2 ^ p < 2 ^ 31 by omega), rows, hr.2.1 _ p0 pp]
    cases c1 : u.testBit p
    · rw [if_pos (by rfl)]
      refine ⟨hs.1, Or.inr hs.2.1.2.1, by rw [hb_ln, hs.2.1.2.2]; exact vp_in_nI (by omega) (by decide), ?_⟩
      cases c2 : c_has S (a ||| 2 ^ p)
      · rw [if_pos (by rfl)]
        exact hJ (by rw [c1, c2]; rfl)
      · rw [if_neg (by decide)]
        have e := fa_first_at (p := fun p => !u.testBit p && c_has S (a ||| 2 ^ p)) hp (by show (_ && _) = true; rw [c1, c2]; rfl) hno
        unfold gE
        rw [e, if_pos hp]
        rfl
    · rw [if_neg (by decide)]
      exact hJ (by rw [c1]; rfl)
  · intro hno
    refine b_X6_ends_2 (z_pu0V rfl) ⟨hs.1, ?_⟩
    rw [hb_oi, hr.1, if_neg (nI_nlt (Nat.le_refl _) (by omega))]
    unfold gE
    rw [fa_first_n hno, if_neg (Nat.lt_irrefl _)]
    rfl
theorem gE_free {a u t : Nat} (e : gE S a u = some t) : t < S.1 ∧ u.testBit t = false := by
  unfold gE at e
  split at e
  · rename_i hlt
    cases e
    have y := fa_first_yes _ _ hlt
    rw [Bool.and_eq_true] at y
    refine ⟨hlt, ?_⟩
    have := y.1
    revert this
    cases u.testBit _ <;> decide
  · cases e
theorem or_bit {a b p : Nat} (h : (a ||| b).testBit p = false) : a.testBit p = false ∧ b.testBit p = false := by
  rw [Nat.testBit_or, Bool.or_eq_false_iff] at h
  exact h
theorem dsj_add {a b p : Nat} (h : dsj a b) (hp : (a ||| b).testBit p = false) : dsj b (a ||| 2 ^ p) := by
  obtain ⟨ha, hb⟩ := or_bit hp
  apply Nat.eq_of_testBit_eq
  intro i
  rw [Nat.testBit_and, Nat.testBit_or, Nat.testBit_two_pow, Nat.zero_testBit]
  by_cases e : p = i
  · rw [← e, hb]; rfl
  · rw [decide_eq_false e, Bool.or_false]
    cases c : a.testBit i
    · rw [Bool.and_false]
    · rw [dsj_bit h i c]; rfl
/-- heaps that differ in what is known -/
def pK (h : z_H) (x : Nat) (F : Nat → Int32) (A : Nat → Nat → Int32) (K : Nat → Int32) : z_H := z_hb h x 3 F (z_u A 2 K)
theorem prw_K {K : Nat → Int32} (hr : prw S F A) : prw S F (z_u A 2 K) := ⟨hr.1, fun m h0 hm => by rw [u_ne _ _ (by decide)]; exact hr.2.1 m h0 hm, fun m hm => by rw [u_ne _ _ (by decide)]; exact hr.2.2 m hm⟩
theorem e6_worth (hs : psh x h) (hr : prw S F A) (hn : 1 ≤ S.1 ∧ S.1 ≤ 8) : ∀ k a b K, n_pc a + n_pc b + k = S.1 → a < 2 ^ S.1 → b < 2 ^ S.1 → dsj a b → mem S K → ∃ K', z_Ev G (d + 2 * k + 5) k_X6_worth [.ref x, .int (nI a), .int (nI b), .int (nI (n_pc a + n_pc b))] (pK h x F A K) (.inl (some (.int (gW S k a b))), pK h x F A K') ∧ mem S K' := by
  have p9 := p2_9 hn.2
  intro k
  induction k with
  | zero =>
    intro a b K hk ha hb hd hm
    refine ⟨K, en_X6_worth (b_X6_worth_0 (z_pu0V rfl) ⟨hs.1, ?_⟩), hm⟩
    unfold pK
    rw [hb_oi, hr.1, if_neg (nI_nlt (by omega) (by omega))]
    rfl
  | succ k ih =>
    intro a b K hk ha hb hd hm
    have a256 : a < 256 := by omega
    have b256 : b < 256 := by omega
    have ta := trn_le a a256
    have tb := trn_le b b256
    obtain ⟨s, es⟩ : ∃ s, s = trn 8 a + 2 * trn 8 b := ⟨_, rfl⟩
    have s6561 : s < 6561 := by rw [es]; exact trn_lt 8 (fun i _ => dsj_bit hd i)
    have hW := w3_B (gW_w3 S (k + 1) a b)
    have hkk : S.1 - (n_pc a + n_pc b) = k + 1 := by omega
    have r1 : ∀ K, z_ai (pK h x F A K) (x + 2) = A 1 := fun K => by
      have := hb_ai h x 3 F (z_u A 2 K) (j := 1) (by decide)
      rw [u_ne _ _ (by decide)] at this
      exact this
    have r2 : ∀ K, z_ai (pK h x F A K) (x + 3) = K := fun K => by
      have := hb_ai h x 3 F (z_u A 2 K) (j := 2) (by decide)
      rw [u_eq] at this
      exact this
    have x2 : ∀ K v, z_pai (pK h x F A K) (x + 3) s v = pK h x F A (z_u K s v) := fun K v => by
      have := hb_pai h x 3 F (z_u A 2 K) (j := 2) (by decide) s v
      rw [u_eq, u_u] at this
      exact this
    have vi : ∀ K, vp_in (nI s) (z_ln (pK h x F A K) (x + 3)) := fun K => by
      show vp_in (nI s) (z_ln h (x + 3))
      rw [hs.2.2.2.2.2]; exact vp_in_nI s6561 (by decide)
    have vt : ∀ K m, m < 256 → vp_in (nI m) (z_ln (pK h x F A K) (x + 2)) := fun K m hm => by
      show vp_in (nI m) (z_ln h (x + 2))
      rw [hs.2.2.1.2.2]; exact vp_in_nI hm (by decide)
    have or1 : ∀ K, z_or (pK h x F A K) x 1 = some (x + 2) := fun K => hs.2.2.1.1
    have or2 : ∀ K, z_or (pK h x F A K) x 2 = some (x + 3) := fun K => hs.2.2.2.1
    have oi3 : ∀ K, z_oi (pK h x F A K) x 3 = nI S.1 := fun K => by unfold pK; rw [hb_oi]; exact hr.1
    have ke : ∀ K, z_kd (pK h x F A K) x = 22 := fun K => hs.1
    have k3 : ∀ K, z_kd (pK h x F A K) (x + 3) = 3 := fun K => hs.2.2.2.2.1
    have k2 : ∀ K, z_kd (pK h x F A K) (x + 2) = 1 := fun K => hs.2.2.1.2.1
    -- the finding, at the depth below
    have find : ∀ K, mem S K → ∃ K', z_Ev G (d + 2 * (k + 1) + 4) k_X6_findWorth [.ref x, .int (nI a), .int (nI b), .int (nI (n_pc a + n_pc b))] (pK h x F A K) (.inl (some (.int (gW S (k + 1) a b))), pK h x F A K') ∧ mem S K' := by
      intro K hm
      have ee : ∀ K c, c < 2 ^ S.1 → z_Ev G (d + 2 * (k + 1) + 3) k_X6_ends [.ref x, .int (nI c), .int (nI a ||| nI b)] (pK h x F A K) (.inl (some (.int (oI (gE S c (a ||| b))))), pK h x F A K) := fun K c hc => by
        rw [fa_or]
        exact e6_ends (d := d + 2 * (k + 1) - 1) hs (prw_K hr) hn.2 hc (or_lt256 a256 b256)
      have gEl : ∀ c l, gE S c (a ||| b) = some l → l < 2 ^ 31 := fun c l e => by have := (gE_free e).1; omega
      have call : ∀ K t, mem S K → t < S.1 → (a ||| b).testBit t = false → ∃ K', z_Ev G (d + 2 * (k + 1) + 3) k_X6_worth [.ref x, .int (nI b), .int (nI (a ||| 2 ^ t)), .int (nI (n_pc a + n_pc b + 1))] (pK h x F A K) (.inl (some (.int (gW S k b (a ||| 2 ^ t)))), pK h x F A K') ∧ mem S K' := by
        intro K t hmK ht hfree
        have hpc := pc_add1 a a256 t (by omega) (or_bit hfree).1
        obtain ⟨K', ev, hm'⟩ := ih b (a ||| 2 ^ t) K (by omega) hb (Nat.or_lt_two_pow ha (Nat.pow_lt_pow_right (by decide) ht)) (dsj_add hd hfree) hmK
        rw [hpc, show n_pc b + (n_pc a + 1) = n_pc a + n_pc b + 1 by omega] at ev
        exact ⟨K', ev, hm'⟩
      show ∃ K', z_Ev G (d + 2 * (k + 1) + 4) k_X6_findWorth _ _ (.inl (some (.int (gF S (gW S k) a b))), _) ∧ _
      unfold gF
      cases c1 : gE S a (a ||| b) with
      | some t =>
        rw [if_pos (by intro e; cases e)]
        refine ⟨K, en_X6_findWorth (b_X6_findWorth_0 (z_pu0V rfl) ⟨ke K, _, _, ee K a ha, ?_⟩), hm⟩
        rw [c1, if_neg (show ¬ oI (some t) = mI from t_ne1 (gEl a t c1))]
      | none =>
        rw [if_neg (by intro e; exact e rfl)]
        cases c2 : gE S b (a ||| b) with
        | some t =>
          obtain ⟨ht, hfree⟩ := gE_free c2
          obtain ⟨K', ev, hm'⟩ := call K t hm ht hfree
          refine ⟨K', en_X6_findWorth (b_X6_findWorth_0 (z_pu0V rfl) ⟨ke K, _, _, ee K a ha, ?_⟩), hm'⟩
          rw [c1, if_pos (show oI none = mI from rfl)]
          refine ⟨ke K, _, _, ee K b hb, ?_⟩
          rw [c2, if_neg (show ¬ oI (some t) = mI from t_ne1 (by omega)), show oI (some t) = nI t from rfl, show nI 1 <<< (nI t &&& nI 31) = nI (2 ^ t) from n_one (by omega), fa_or, nI_add]
          exact ⟨ke K, _, _, ev, rfl⟩
        | none =>
          have loop : ∀ r p bst K, p + r = S.1 → mem S K → ∃ K', z_J G (d + 2 * (k + 1) + 4) (m_X6_findWorth z_pu0) (.inl (some (.int (gL (fun p => gW S k b (a ||| 2 ^ p)) (a ||| b) r p bst))), pK h x F A K') 52 [some (.ref x), some (.int (nI a)), some (.int (nI b)), some (.int (nI (n_pc a + n_pc b))), none, some (.int bst), some (.int (nI p))] [] (pK h x F A K) ∧ mem S K' := by
            intro r
            induction r with
            | zero =>
              intro p bst K hp hmK
              refine ⟨K, b_X6_findWorth_52 (z_pu0V rfl) ⟨ke K, ?_⟩, hmK⟩
              rw [oi3, if_neg (nI_nlt (by omega) (by omega))]
              rfl
            | succ r ihr =>
              intro p bst K hp hmK
              unfold gL
              by_cases d1 : bst < nI 1
              · rw [if_pos d1]
                cases d2 : (a ||| b).testBit p
                · rw [if_pos rfl]
                  obtain ⟨K1, ev, hm1⟩ := call K p hmK (by omega) d2
                  obtain ⟨K', hJ, hm'⟩ := ihr (p + 1) (if bst < -(gW S k b (a ||| 2 ^ p)) then -(gW S k b (a ||| 2 ^ p)) else bst) K1 (by omega) hm1
                  refine ⟨K', b_X6_findWorth_52 (z_pu0V rfl) ⟨ke K, ?_⟩, hm'⟩
                  rw [oi3, if_pos (nI_lt (by omega) (by omega)), if_pos d1, fa_or, show (nI (a ||| b) >>> (nI p &&& nI 31)) &&& nI 1 = nI ((a ||| b).testBit p).toNat from n_bit (by have := or_lt256 a256 b256; omega) (by omega), d2, if_pos (by rfl), show nI 1 <<< (nI p &&& nI 31) = nI (2 ^ p) from n_one (by omega), fa_or, nI_add, nI_add]
                  exact ⟨ke K, _, _, ev, _, _, e_max, hJ⟩
                · rw [if_neg (by decide)]
                  obtain ⟨K', hJ, hm'⟩ := ihr (p + 1) bst K (by omega) hmK
                  refine ⟨K', b_X6_findWorth_52 (z_pu0V rfl) ⟨ke K, ?_⟩, hm'⟩
                  rw [oi3, if_pos (nI_lt (by omega) (by omega)), if_pos d1, fa_or, show (nI (a ||| b) >>> (nI p &&& nI 31)) &&& nI 1 = nI ((a ||| b).testBit p).toNat from n_bit (by have := or_lt256 a256 b256; omega) (by omega), d2, if_neg (by decide), nI_add]
                  exact hJ
              · rw [if_neg d1]
                refine ⟨K, b_X6_findWorth_52 (z_pu0V rfl) ⟨ke K, ?_⟩, hmK⟩
                rw [oi3, if_pos (nI_lt (by omega) (by omega)), if_neg d1]
          obtain ⟨K', hJ, hm'⟩ := loop S.1 0 mI K (by omega) hm
          refine ⟨K', en_X6_findWorth (b_X6_findWorth_0 (z_pu0V rfl) ⟨ke K, _, _, ee K a ha, ?_⟩), hm'⟩
          rw [c1, if_pos (show oI none = mI from rfl)]
          refine ⟨ke K, _, _, ee K b hb, ?_⟩
          rw [c2, if_pos (show oI none = mI from rfl)]
          exact hJ
    have start : ∀ R, (if K s = nI 0 then (∃ x_8 h_7, z_Ev G (d + 2 * (k + 1) + 4) k_X6_findWorth [.ref x, .int (nI a), .int (nI b), .int (nI (n_pc a + n_pc b))] (pK h x F A K) (.inl (some (.int x_8)), h_7) ∧ (((z_kd h_7 (x + 3) = 3 ∧ Int8.toInt32 (Int32.toInt8 ((Int8.toInt32 (Int32.toInt8 ((nI 2) + x_8))))) = (Int8.toInt32 (Int32.toInt8 ((nI 2) + x_8)))) ∨ (z_kd h_7 (x + 3) = 4 ∧ z_bz (Int8.toInt32 (Int32.toInt8 ((nI 2) + x_8))))) ∧ vp_in (nI s) (z_ln h_7 (x + 3)) ∧ (z_kd (z_pai h_7 (x + 3) s (Int8.toInt32 (Int32.toInt8 ((nI 2) + x_8)))) x = 22 ∧ (z_rc (z_or (z_pai h_7 (x + 3) s (Int8.toInt32 (Int32.toInt8 ((nI 2) + x_8)))) x 2) False (fun x_9 => ((z_kd (z_pai h_7 (x + 3) s (Int8.toInt32 (Int32.toInt8 ((nI 2) + x_8)))) x_9 = 3 ∨ z_kd (z_pai h_7 (x + 3) s (Int8.toInt32 (Int32.toInt8 ((nI 2) + x_8)))) x_9 = 4) ∧ vp_in (nI s) (z_ln (z_pai h_7 (x + 3) s (Int8.toInt32 (Int32.toInt8 ((nI 2) + x_8)))) x_9) ∧ R = (.inl (some (.int ((z_ai (z_pai h_7 (x + 3) s (Int8.toInt32 (Int32.toInt8 ((nI 2) + x_8)))) x_9 s) - (nI 2)))), z_pai h_7 (x + 3) s (Int8.toInt32 (Int32.toInt8 ((nI 2) + x_8)))))))))) else R = (.inl (some (.int (K s - nI 2))), pK h x F A K)) → z_Ev G (d + 2 * (k + 1) + 5) k_X6_worth [.ref x, .int (nI a), .int (nI b), .int (nI (n_pc a + n_pc b))] (pK h x F A K) R := by
      intro R hh
      refine en_X6_worth (b_X6_worth_0 (z_pu0V rfl) ⟨ke K, ?_⟩)
      rw [oi3, if_pos (nI_lt (by omega) (by omega)), or1, z_rcs, z_rcs, or2, z_rcs, z_rcs, z_rcs, nI_clamp (show a < 2 ^ 31 by omega), nI_clamp (show b < 2 ^ 31 by omega), r1, hr.2.2 a ha, hr.2.2 b hb, n_mul, nI_add, ← es, nI_clamp (show s < 2 ^ 31 by omega), r2]
      refine ⟨ke K, k2 K, vt K a a256, ke K, k2 K, vt K b b256, ke K, Or.inl (k3 K), vi K, ?_⟩
      by_cases c : K s = nI 0
      · rw [if_pos c] at hh ⊢
        exact ⟨ke K, ke K, hh⟩
      · rw [if_neg c] at hh ⊢
        exact ⟨ke K, Or.inl (k3 K), vi K, hh⟩
    by_cases c : K s = nI 0
    · obtain ⟨K1, ev, hm1⟩ := find K hm
      refine ⟨z_u K1 s (nI 2 + gW S (k + 1) a b), start _ ?_, fun a' b' ha' hb' hd' => ?_⟩
      · rw [if_pos c]
        refine ⟨_, _, ev, Or.inl ⟨k3 K1, ?_⟩, vi K1, ?_⟩
        · rw [hW.1, hW.1]
        · rw [hW.1, x2, or2, z_rcs, r2, u_eq, hW.2.2]
          exact ⟨ke _, Or.inl (k3 _), vi _, rfl⟩
      · by_cases e : trn 8 a' + 2 * trn 8 b' = s
        · obtain ⟨e1, e2⟩ := dsj_eq (by omega) (by omega) a256 b256 hd' hd (e.trans es)
          subst e1; subst e2
          right
          rw [e, u_eq, hkk]
        · rw [u_ne _ _ e]
          exact hm1 a' b' ha' hb' hd'
    · refine ⟨K, start _ ?_, hm⟩
      rw [if_neg c]
      have := (hm a b ha hb hd).resolve_left (by rw [← es]; exact c)
      rw [← es, hkk] at this
      rw [this, hW.2.2]
end HL
