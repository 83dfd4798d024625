theorem en_X2_onSquare {pu : Nat → Option ((List Value → z_H → Prop) × (List Value → z_H → Int32))} {G : z_G} {d : Nat} {r : z_Res} {h : z_H} {x0 : Nat} {x1 : Nat} {x2 : Int32} (hJ : z_J G d (m_X2_onSquare pu) r 0 [some (.ref x0), some (.ref x1), some (.int x2), none, none] [] h) : z_Ev G d k_X2_onSquare [.ref x0, .ref x1, .int x2] h r := z_enter (μ := m_X2_onSquare pu) rfl (by decide) rfl rfl (fun q => by cases q) (Nat.le_of_ble_eq_true rfl) hJ
def hd_X2_onSquare : Nat → Option (List Bool) := (fun k => (cond (Nat.blt k 109) (cond (Nat.blt k 61) (cond (Nat.blt k 50) (cond (Nat.beq k 18) (some [true, true, true, true, false]) none) (cond (Nat.beq k 50) (some [true, true, true, true, false]) none)) (cond (Nat.blt k 92) (cond (Nat.beq k 61) (some [true, true, true, true, false]) none) (cond (Nat.beq k 92) (some [true, true, false, true, false]) none))) none))
set_option maxRecDepth 20000 in
theorem b_X2_onSquare_0 {G : z_G} {d : Nat} {r : z_Res} (hPu : z_PuV G d (t_X2 z_pu0)) {h : z_H} {x0 : Nat} {x1 : Nat} {x2 : Int32} (hT : (z_kd h x1 = 24 ∧ (z_rc (z_or h x1 12) False (fun x_1 => ((z_kd h x_1 = 5 ∨ z_kd h x_1 = 6) ∧ vp_in (x2 + (-(nI 2))) (z_ln h x_1) ∧ (z_rc (z_ar h x_1 (Int32.toNatClampNeg (x2 + (-(nI 2))))) ((z_J G (d + 1) (m_X2_onSquare z_pu0) r) 18 [some (.ref x0), some (.ref x1), some (.int x2), some (.int (x2 + (-(nI 2)))), none] [] h) (fun x_2 => r = (.inl (some (va_rf (some x_2))), h)))))))) : (z_J G (d + 1) (m_X2_onSquare z_pu0) r) 0 [some (.ref x0), some (.ref x1), some (.int x2), none, none] [] h := z_bq (v_X2 z_pu0 (vP_X2_onSquare z_pu0) hPu) hd_X2_onSquare 15 hT
set_option maxRecDepth 20000 in
theorem b_X2_onSquare_18 {G : z_G} {d : Nat} {r : z_Res} (hPu : z_PuV G d (t_X2 z_pu0)) {h : z_H} {x0 : Nat} {x1 : Nat} {x2 : Int32} {x3 : Int32} (hT : (z_kd h x0 = 18 ∧ (z_kd (z_poi h x0 4 (x2 * x2)) x0 = 18 ∧ (z_rc (z_or (z_poi h x0 4 (x2 * x2)) x0 0) False (fun x_1 => ((z_kd (z_poi h x0 4 (x2 * x2)) x_1 = 5 ∨ z_kd (z_poi h x0 4 (x2 * x2)) x_1 = 6) ∧ vp_in x3 (z_ln (z_poi h x0 4 (x2 * x2)) x_1) ∧ (z_rc (z_ar (z_poi h x0 4 (x2 * x2)) x_1 (Int32.toNatClampNeg x3)) (z_kd (z_poi h x0 4 (x2 * x2)) x0 = 18 ∧ ∃ h_3, z_Ev G d k_X2_markSquare [.ref x0, .int x2] (z_poi h x0 4 (x2 * x2)) (.inl none, h_3) ∧ (z_kd h_3 x0 = 18 ∧ (z_rc (z_or h_3 x0 0) (z_kd h_3 x0 = 18 ∧ ∃ o_6 h_5, z_Ev G d k_X2_linesOfPlaces [.ref x0, .int (nI 0)] h_3 (.inl (some (va_rf o_6)), h_5) ∧ (z_rc o_6 False (fun x_7 => False))) (fun x_4 => (z_kd h_3 x0 = 18 ∧ ∃ o_9 h_8, z_Ev G d k_X2_linesOfPlaces [.ref x0, .int (nI 0)] h_3 (.inl (some (va_rf o_9)), h_8) ∧ (z_rc o_9 (((z_kd h_8 x_4 = 5 ∧ z_rc none True (fun b => z_kd h_8 b = 17)) ∨ (z_kd h_8 x_4 = 6 ∧ z_rc none False (fun b => z_kd h_8 b = 1))) ∧ vp_in x3 (z_ln h_8 x_4) ∧ (z_J G (d + 1) (m_X2_onSquare z_pu0) r) 50 [some (.ref x0), some (.ref x1), some (.int x2), some (.int x3), none] [] (z_par h_8 x_4 (Int32.toNatClampNeg x3) none)) (fun x_10 => (((z_kd h_8 x_4 = 5 ∧ z_rc (some x_10) True (fun b => z_kd h_8 b = 17)) ∨ (z_kd h_8 x_4 = 6 ∧ z_rc (some x_10) False (fun b => z_kd h_8 b = 1))) ∧ vp_in x3 (z_ln h_8 x_4) ∧ (z_J G (d + 1) (m_X2_onSquare z_pu0) r) 50 [some (.ref x0), some (.ref x1), some (.int x2), some (.int x3), none] [] (z_par h_8 x_4 (Int32.toNatClampNeg x3) (some x_10)))))))))) (fun x_2 => (z_J G (d + 1) (m_X2_onSquare z_pu0) r) 50 [some (.ref x0), some (.ref x1), some (.int x2), some (.int x3), none] [] (z_poi h x0 4 (x2 * x2)))))))))) : (z_J G (d + 1) (m_X2_onSquare z_pu0) r) 18 [some (.ref x0), some (.ref x1), some (.int x2), some (.int x3), none] [] h := z_bq (v_X2 z_pu0 (vP_X2_onSquare z_pu0) hPu) hd_X2_onSquare 23 hT
set_option maxRecDepth 20000 in
theorem b_X2_onSquare_50 {G : z_G} {d : Nat} {r : z_Res} (hPu : z_PuV G d (t_X2 z_pu0)) {h : z_H} {x0 : Nat} {x1 : Nat} {x2 : Int32} {x3 : Int32} (hT : (z_kd h x0 = 18 ∧ (z_rc (z_or h x0 0) False (fun x_1 => ((z_kd h x_1 = 5 ∨ z_kd h x_1 = 6) ∧ vp_in x3 (z_ln h x_1) ∧ (z_rc (z_ar h x_1 (Int32.toNatClampNeg x3)) (z_kd h x0 = 18 ∧ ∃ h_3, z_Ev G d k_X2_prepare [.ref x0, .ref x1, .null] h (.inl none, h_3) ∧ (z_J G (d + 1) (m_X2_onSquare z_pu0) r) 61 [some (.ref x0), some (.ref x1), some (.int x2), some (.int x3), none] [] h_3) (fun x_2 => (z_kd h x0 = 18 ∧ ∃ h_4, z_Ev G d k_X2_prepare [.ref x0, .ref x1, .ref x_2] h (.inl none, h_4) ∧ (z_J G (d + 1) (m_X2_onSquare z_pu0) r) 61 [some (.ref x0), some (.ref x1), some (.int x2), some (.int x3), none] [] h_4)))))))) : (z_J G (d + 1) (m_X2_onSquare z_pu0) r) 50 [some (.ref x0), some (.ref x1), some (.int x2), some (.int x3), none] [] h := z_bq (v_X2 z_pu0 (vP_X2_onSquare z_pu0) hPu) hd_X2_onSquare 10 hT
set_option maxRecDepth 20000 in
theorem b_X2_onSquare_61 {G : z_G} {d : Nat} {r : z_Res} (hPu : z_PuV G d (t_X2 z_pu0)) {h : z_H} {x0 : Nat} {x1 : Nat} {x2 : Int32} {x3 : Int32} (hT : (z_kd h x0 = 18 ∧ (z_kd (z_poi h x0 8 (nI 0)) x0 = 18 ∧ z_bz (nI 0) ∧ (z_kd (z_poi (z_poi h x0 8 (nI 0)) x0 9 (nI 0)) x0 = 18 ∧ (z_rc (z_or (z_poi (z_poi h x0 8 (nI 0)) x0 9 (nI 0)) x0 12) (∃ x_3 h_2, z_Ev G d k_X2_cornerPart [.int x2] (z_poi (z_poi h x0 8 (nI 0)) x0 9 (nI 0)) (.inl (some (.int x_3)), h_2) ∧ False) (fun x_1 => (∃ x_5 h_4, z_Ev G d k_X2_cornerPart [.int x2] (z_poi (z_poi h x0 8 (nI 0)) x0 9 (nI 0)) (.inl (some (.int x_5)), h_4) ∧ (z_kd h_4 x_1 = 1 ∧ vp_in (nI 0) (z_ln h_4 x_1) ∧ (z_kd (z_pai h_4 x_1 (Int32.toNatClampNeg (nI 0)) x_5) x0 = 18 ∧ (z_rc (z_or (z_pai h_4 x_1 (Int32.toNatClampNeg (nI 0)) x_5) x0 13) (z_kd (z_pai h_4 x_1 (Int32.toNatClampNeg (nI 0)) x_5) x0 = 18 ∧ ∃ x_8 h_7, z_Ev G d k_X2_seatFrom [.ref x0, .int (nI 0)] (z_pai h_4 x_1 (Int32.toNatClampNeg (nI 0)) x_5) (.inl (some (.int x_8)), h_7) ∧ False) (fun x_6 => (z_kd (z_pai h_4 x_1 (Int32.toNatClampNeg (nI 0)) x_5) x0 = 18 ∧ ∃ x_10 h_9, z_Ev G d k_X2_seatFrom [.ref x0, .int (nI 0)] (z_pai h_4 x_1 (Int32.toNatClampNeg (nI 0)) x_5) (.inl (some (.int x_10)), h_9) ∧ (z_kd h_9 x_6 = 1 ∧ vp_in (nI 0) (z_ln h_9 x_6) ∧ (z_J G (d + 1) (m_X2_onSquare z_pu0) r) 92 [some (.ref x0), some (.ref x1), none, some (.int x3), none] [] (z_pai h_9 x_6 (Int32.toNatClampNeg (nI 0)) x_10)))))))))))))) : (z_J G (d + 1) (m_X2_onSquare z_pu0) r) 61 [some (.ref x0), some (.ref x1), some (.int x2), some (.int x3), none] [] h := z_bq (v_X2 z_pu0 (vP_X2_onSquare z_pu0) hPu) hd_X2_onSquare 22 hT
set_option maxRecDepth 20000 in
theorem b_X2_onSquare_92 {G : z_G} {d : Nat} {r : z_Res} (hPu : z_PuV G d (t_X2 z_pu0)) {h : z_H} {x0 : Nat} {x1 : Nat} {x3 : Int32} (hT : (z_kd h x0 = 18 ∧ (z_rc (z_or h x0 13) (z_kd h x1 = 24 ∧ (z_rc (z_or h x1 12) False (fun x_2 => (((z_kd h x_2 = 5 ∧ z_rc none True (fun b => z_kd h b = 17)) ∨ (z_kd h x_2 = 6 ∧ z_rc none False (fun b => z_kd h b = 1))) ∧ vp_in x3 (z_ln h x_2) ∧ r = (.inl (some (va_rf none)), z_par h x_2 (Int32.toNatClampNeg x3) none))))) (fun x_1 => (z_kd h x1 = 24 ∧ (z_rc (z_or h x1 12) False (fun x_3 => (((z_kd h x_3 = 5 ∧ z_rc (some x_1) True (fun b => z_kd h b = 17)) ∨ (z_kd h x_3 = 6 ∧ z_rc (some x_1) False (fun b => z_kd h b = 1))) ∧ vp_in x3 (z_ln h x_3) ∧ r = (.inl (some (va_rf (some x_1))), z_par h x_3 (Int32.toNatClampNeg x3) (some x_1)))))))))) : (z_J G (d + 1) (m_X2_onSquare z_pu0) r) 92 [some (.ref x0), some (.ref x1), none, some (.int x3), none] [] h := z_bq (v_X2 z_pu0 (vP_X2_onSquare z_pu0) hPu) hd_X2_onSquare 12 hT
theorem en_X2_inPlane {pu : Nat → Option ((List Value → z_H → Prop) × (List Value → z_H → Int32))} {G : z_G} {d : Nat} {r : z_Res} {h : z_H} {x0 : Nat} {x1 : Nat} {x2 : Int32} (hJ : z_J G d (m_X2_inPlane pu) r 0 [some (.ref x0), some (.ref x1), some (.int x2), none, none] [] h) : z_Ev G d k_X2_inPlane [.ref x0, .ref x1, .int x2] h r := z_enter (μ := m_X2_inPlane pu) rfl (by decide) rfl rfl (fun q => by cases q) (Nat.le_of_ble_eq_true rfl) hJ
def hd_X2_inPlane : Nat → Option (List Bool) := (fun k => (cond (Nat.blt k 121) (cond (Nat.blt k 64) (cond (Nat.blt k 53) (cond (Nat.beq k 17) (some [true, true, true, true, false]) none) (cond (Nat.beq k 53) (some [true, true, false, true, false]) none)) (cond (Nat.blt k 104) (cond (Nat.beq k 64) (some [true, true, false, true, false]) none) (cond (Nat.beq k 104) (some [true, true, false, true, false]) none))) none))
set_option maxRecDepth 20000 in
theorem b_X2_inPlane_0 {G : z_G} {d : Nat} {r : z_Res} (hPu : z_PuV G d (t_X2 z_pu0)) {h : z_H} {x0 : Nat} {x1 : Nat} {x2 : Int32} (hT : (z_kd h x1 = 24 ∧ (z_rc (z_or h x1 12) False (fun x_1 => ((z_kd h x_1 = 5 ∨ z_kd h x_1 = 6) ∧ vp_in (x2 + (nI 1)) (z_ln h x_1) ∧ (z_rc (z_ar h x_1 (Int32.toNatClampNeg (x2 + (nI 1)))) ((z_J G (d + 1) (m_X2_inPlane z_pu0) r) 17 [some (.ref x0), some (.ref x1), some (.int x2), some (.int (x2 + (nI 1))), none] [] h) (fun x_2 => r = (.inl (some (va_rf (some x_2))), h)))))))) : (z_J G (d + 1) (m_X2_inPlane z_pu0) r) 0 [some (.ref x0), some (.ref x1), some (.int x2), none, none] [] h := z_bq (v_X2 z_pu0 (vP_X2_inPlane z_pu0) hPu) hd_X2_inPlane 15 hT
set_option maxRecDepth 20000 in
theorem b_X2_inPlane_17 {G : z_G} {d : Nat} {r : z_Res} (hPu : z_PuV G d (t_X2 z_pu0)) {h : z_H} {x0 : Nat} {x1 : Nat} {x2 : Int32} {x3 : Int32} (hT : (z_kd h x0 = 18 ∧ (z_kd (z_poi h x0 4 (((x2 * x2) + x2) + (nI 1))) x0 = 18 ∧ (z_rc (z_or (z_poi h x0 4 (((x2 * x2) + x2) + (nI 1))) x0 0) False (fun x_1 => ((z_kd (z_poi h x0 4 (((x2 * x2) + x2) + (nI 1))) x_1 = 5 ∨ z_kd (z_poi h x0 4 (((x2 * x2) + x2) + (nI 1))) x_1 = 6) ∧ vp_in x3 (z_ln (z_poi h x0 4 (((x2 * x2) + x2) + (nI 1))) x_1) ∧ (z_rc (z_ar (z_poi h x0 4 (((x2 * x2) + x2) + (nI 1))) x_1 (Int32.toNatClampNeg x3)) (z_kd (z_poi h x0 4 (((x2 * x2) + x2) + (nI 1))) x0 = 18 ∧ ∃ h_3, z_Ev G d k_X2_markPlane [.ref x0, .int x2] (z_poi h x0 4 (((x2 * x2) + x2) + (nI 1))) (.inl none, h_3) ∧ (z_kd h_3 x0 = 18 ∧ (z_rc (z_or h_3 x0 0) (z_kd h_3 x0 = 18 ∧ ∃ o_6 h_5, z_Ev G d k_X2_linesOfPlaces [.ref x0, .int x2] h_3 (.inl (some (va_rf o_6)), h_5) ∧ (z_rc o_6 False (fun x_7 => False))) (fun x_4 => (z_kd h_3 x0 = 18 ∧ ∃ o_9 h_8, z_Ev G d k_X2_linesOfPlaces [.ref x0, .int x2] h_3 (.inl (some (va_rf o_9)), h_8) ∧ (z_rc o_9 (((z_kd h_8 x_4 = 5 ∧ z_rc none True (fun b => z_kd h_8 b = 17)) ∨ (z_kd h_8 x_4 = 6 ∧ z_rc none False (fun b => z_kd h_8 b = 1))) ∧ vp_in x3 (z_ln h_8 x_4) ∧ (z_J G (d + 1) (m_X2_inPlane z_pu0) r) 53 [some (.ref x0), some (.ref x1), none, some (.int x3), none] [] (z_par h_8 x_4 (Int32.toNatClampNeg x3) none)) (fun x_10 => (((z_kd h_8 x_4 = 5 ∧ z_rc (some x_10) True (fun b => z_kd h_8 b = 17)) ∨ (z_kd h_8 x_4 = 6 ∧ z_rc (some x_10) False (fun b => z_kd h_8 b = 1))) ∧ vp_in x3 (z_ln h_8 x_4) ∧ (z_J G (d + 1) (m_X2_inPlane z_pu0) r) 53 [some (.ref x0), some (.ref x1), none, some (.int x3), none] [] (z_par h_8 x_4 (Int32.toNatClampNeg x3) (some x_10)))))))))) (fun x_2 => (z_J G (d + 1) (m_X2_inPlane z_pu0) r) 53 [some (.ref x0), some (.ref x1), none, some (.int x3), none] [] (z_poi h x0 4 (((x2 * x2) + x2) + (nI 1))))))))))) : (z_J G (d + 1) (m_X2_inPlane z_pu0) r) 17 [some (.ref x0), some (.ref x1), some (.int x2), some (.int x3), none] [] h := z_bq (v_X2 z_pu0 (vP_X2_inPlane z_pu0) hPu) hd_X2_inPlane 27 hT
set_option maxRecDepth 20000 in
theorem b_X2_inPlane_53 {G : z_G} {d : Nat} {r : z_Res} (hPu : z_PuV G d (t_X2 z_pu0)) {h : z_H} {x0 : Nat} {x1 : Nat} {x3 : Int32} (hT : (z_kd h x0 = 18 ∧ (z_rc (z_or h x0 0) False (fun x_1 => ((z_kd h x_1 = 5 ∨ z_kd h x_1 = 6) ∧ vp_in x3 (z_ln h x_1) ∧ (z_rc (z_ar h x_1 (Int32.toNatClampNeg x3)) (z_kd h x0 = 18 ∧ ∃ h_3, z_Ev G d k_X2_prepare [.ref x0, .ref x1, .null] h (.inl none, h_3) ∧ (z_J G (d + 1) (m_X2_inPlane z_pu0) r) 64 [some (.ref x0), some (.ref x1), none, some (.int x3), none] [] h_3) (fun x_2 => (z_kd h x0 = 18 ∧ ∃ h_4, z_Ev G d k_X2_prepare [.ref x0, .ref x1, .ref x_2] h (.inl none, h_4) ∧ (z_J G (d + 1) (m_X2_inPlane z_pu0) r) 64 [some (.ref x0), some (.ref x1), none, some (.int x3), none] [] h_4)))))))) : (z_J G (d + 1) (m_X2_inPlane z_pu0) r) 53 [some (.ref x0), some (.ref x1), none, some (.int x3), none] [] h := z_bq (v_X2 z_pu0 (vP_X2_inPlane z_pu0) hPu) hd_X2_inPlane 10 hT
set_option maxRecDepth 20000 in
theorem b_X2_inPlane_64 {G : z_G} {d : Nat} {r : z_Res} (hPu : z_PuV G d (t_X2 z_pu0)) {h : z_H} {x0 : Nat} {x1 : Nat} {x3 : Int32} (hT : (z_kd h x0 = 18 ∧ (z_kd (z_poi h x0 8 (nI 2)) x0 = 18 ∧ z_bz (nI 1) ∧ (z_kd (z_poi (z_poi h x0 8 (nI 2)) x0 9 (nI 1)) x0 = 18 ∧ (z_rc (z_or (z_poi (z_poi h x0 8 (nI 2)) x0 9 (nI 1)) x0 12) False (fun x_1 => (z_kd (z_poi (z_poi h x0 8 (nI 2)) x0 9 (nI 1)) x_1 = 1 ∧ vp_in (nI 0) (z_ln (z_poi (z_poi h x0 8 (nI 2)) x0 9 (nI 1)) x_1) ∧ (z_kd (z_pai (z_poi (z_poi h x0 8 (nI 2)) x0 9 (nI 1)) x_1 (Int32.toNatClampNeg (nI 0)) (nI 1)) x0 = 18 ∧ (z_rc (z_or (z_pai (z_poi (z_poi h x0 8 (nI 2)) x0 9 (nI 1)) x_1 (Int32.toNatClampNeg (nI 0)) (nI 1)) x0 12) False (fun x_2 => (z_kd (z_pai (z_poi (z_poi h x0 8 (nI 2)) x0 9 (nI 1)) x_1 (Int32.toNatClampNeg (nI 0)) (nI 1)) x_2 = 1 ∧ vp_in (nI 1) (z_ln (z_pai (z_poi (z_poi h x0 8 (nI 2)) x0 9 (nI 1)) x_1 (Int32.toNatClampNeg (nI 0)) (nI 1)) x_2) ∧ (z_kd (z_pai (z_pai (z_poi (z_poi h x0 8 (nI 2)) x0 9 (nI 1)) x_1 (Int32.toNatClampNeg (nI 0)) (nI 1)) x_2 (Int32.toNatClampNeg (nI 1)) (nI 2)) x0 = 18 ∧ (z_rc (z_or (z_pai (z_pai (z_poi (z_poi h x0 8 (nI 2)) x0 9 (nI 1)) x_1 (Int32.toNatClampNeg (nI 0)) (nI 1)) x_2 (Int32.toNatClampNeg (nI 1)) (nI 2)) x0 13) (z_kd (z_pai (z_pai (z_poi (z_poi h x0 8 (nI 2)) x0 9 (nI 1)) x_1 (Int32.toNatClampNeg (nI 0)) (nI 1)) x_2 (Int32.toNatClampNeg (nI 1)) (nI 2)) x0 = 18 ∧ ∃ x_5 h_4, z_Ev G d k_X2_seatFrom [.ref x0, .int (nI 0)] (z_pai (z_pai (z_poi (z_poi h x0 8 (nI 2)) x0 9 (nI 1)) x_1 (Int32.toNatClampNeg (nI 0)) (nI 1)) x_2 (Int32.toNatClampNeg (nI 1)) (nI 2)) (.inl (some (.int x_5)), h_4) ∧ (z_kd h_4 x0 = 18 ∧ ∃ x_7 h_6, z_Ev G d k_X2_sameWays [.ref x0] h_4 (.inl (some (.int x_7)), h_6) ∧ False)) (fun x_3 => (z_kd (z_pai (z_pai (z_poi (z_poi h x0 8 (nI 2)) x0 9 (nI 1)) x_1 (Int32.toNatClampNeg (nI 0)) (nI 1)) x_2 (Int32.toNatClampNeg (nI 1)) (nI 2)) x0 = 18 ∧ ∃ x_9 h_8, z_Ev G d k_X2_seatFrom [.ref x0, .int (nI 0)] (z_pai (z_pai (z_poi (z_poi h x0 8 (nI 2)) x0 9 (nI 1)) x_1 (Int32.toNatClampNeg (nI 0)) (nI 1)) x_2 (Int32.toNatClampNeg (nI 1)) (nI 2)) (.inl (some (.int x_9)), h_8) ∧ (z_kd h_8 x0 = 18 ∧ ∃ x_11 h_10, z_Ev G d k_X2_sameWays [.ref x0] h_8 (.inl (some (.int x_11)), h_10) ∧ (z_kd h_10 x_3 = 1 ∧ vp_in (nI 0) (z_ln h_10 x_3) ∧ (z_J G (d + 1) (m_X2_inPlane z_pu0) r) 104 [some (.ref x0), some (.ref x1), none, some (.int x3), none] [] (z_pai h_10 x_3 (Int32.toNatClampNeg (nI 0)) (x_9 * x_11))))))))))))))))))) : (z_J G (d + 1) (m_X2_inPlane z_pu0) r) 64 [some (.ref x0), some (.ref x1), none, some (.int x3), none] [] h := z_bq (v_X2 z_pu0 (vP_X2_inPlane z_pu0) hPu) hd_X2_inPlane 29 hT
set_option maxRecDepth 20000 in
theorem b_X2_inPlane_104 {G : z_G} {d : Nat} {r : z_Res} (hPu : z_PuV G d (t_X2 z_pu0)) {h : z_H} {x0 : Nat} {x1 : Nat} {x3 : Int32} (hT : (z_kd h x0 = 18 ∧ (z_rc (z_or h x0 13) (z_kd h x1 = 24 ∧ (z_rc (z_or h x1 12) False (fun x_2 => (((z_kd h x_2 = 5 ∧ z_rc none True (fun b => z_kd h b = 17)) ∨ (z_kd h x_2 = 6 ∧ z_rc none False (fun b => z_kd h b = 1))) ∧ vp_in x3 (z_ln h x_2) ∧ r = (.inl (some (va_rf none)), z_par h x_2 (Int32.toNatClampNeg x3) none))))) (fun x_1 => (z_kd h x1 = 24 ∧ (z_rc (z_or h x1 12) False (fun x_3 => (((z_kd h x_3 = 5 ∧ z_rc (some x_1) True (fun b => z_kd h b = 17)) ∨ (z_kd h x_3 = 6 ∧ z_rc (some x_1) False (fun b => z_kd h b = 1))) ∧ vp_in x3 (z_ln h x_3) ∧ r = (.inl (some (va_rf (some x_1))), z_par h x_3 (Int32.toNatClampNeg x3) (some x_1)))))))))) : (z_J G (d + 1) (m_X2_inPlane z_pu0) r) 104 [some (.ref x0), some (.ref x1), none, some (.int x3), none] [] h := z_bq (v_X2 z_pu0 (vP_X2_inPlane z_pu0) hPu) hd_X2_inPlane 12 hT
/-! THE DRAWER: on a square, in a plane -/
def d_sqR (i r : Nat) : Nat := if r = 0 then g_cor (i + 2) else 2 ^ d_pl i - 1
def d_plR (i r : Nat) : Nat := if r = 0 then 1 else if r = 1 then 2 else 2 ^ d_pl i - 1
def d_sq (S : Sc) (i : Nat) : Nat × Option (Nat → Nat) := d_gs (d_TL (wpS S)) (d_LI i) (g_twT (wpS S)) 0 S.1 (d_pl i) false (d_sqR i) S.1 0 (fun _ => 0) none
def d_pn (S : Sc) (i : Nat) : Nat × Option (Nat → Nat) := d_gs (d_TL (wpS S)) (d_LI i) (g_twT (wpS S)) 2 S.1 (d_pl i) true (d_plR i) S.1 0 (fun _ => 0) none
def d_sqv (S : Sc) (i j : Nat) : Int32 := if j = 0 then nI (d_sq S i).1 else fdv S.1 (d_sq S i).2 j
def d_pnv (S : Sc) (i j : Nat) : Int32 := if j = 0 then nI ((d_pn S i).1 * g_same (g_twT (wpS S)) (d_pl i) S.1) else fdv S.1 (d_pn S i).2 j
def vD (V : CV) : Prop := ∀ S, c_sok S → (∀ p, p < 8 → V 13 S p = nI (g_twT S p)) ∧ (∀ i, i < 3 → ∀ j, j < 9 → V (20 + i) S j = d_sqv S i j) ∧ ∀ i, 3 ≤ i ∧ i < 5 → ∀ j, j < 9 → V (20 + i) S j = d_pnv S i j
theorem cor16 : ∀ i, i < 3 → g_cor (i + 2) < 2 ^ 16 := by decide
section HN1
variable {V : CV} {G : z_G} {d L q b i : Nat} {h : z_H} {S : Sc}
theorem e2_onSquare (hV : vD V) (hI : inv V L h) (hL : L + 75 ≤ z_n h) (hk : dk L h) (hA : sc_at q b h S) (hi : i < 3) : ∃ h' a, z_Ev G (d + 11) k_X2_onSquare [.ref (L + 33), .ref q, .int (nI (i + 2))] h (.inl (some (va_rf (some a))), h') ∧ inv V L h' ∧ ex (dX L) 13 429 h h' ∧ dk L h' ∧ fr L h' a ∧ z_kd h' a = 1 ∧ z_ln h' a = 9 ∧ ∀ j, j < 9 → z_ai h' a j = V (20 + i) S j := by
  have hX : ∀ a, dX L a → hl L a := fun _ hx => dX_hl hx
  have hi5 : i < 5 := by omega
  have hS := hA.2.1
  have hn := hS.1
  have vS := hV S hS
  have p16 := d_pl16 i hi5
  have epl : nI (i + 2) * nI (i + 2) = nI (d_pl i) := by
    rw [n_mul]
    unfold d_pl
    rw [if_pos hi]
  have ebd : nI (i + 2) + -(nI 2) = nI i := by
    rw [← Int32.sub_eq_add_neg, q_sub (by omega), Nat.add_sub_cancel]
  obtain ⟨r1, r2, r3⟩ := (inv_k hI hA).2.2.1
  have vi5 : ∀ n, n = 5 → vp_in (nI i) n := fun n hn => by rw [hn]; exact vp_in_nI hi5 (by decide)
  cases hd : z_ar h (b + 4) i with
  | some a =>
    obtain ⟨c1, c2, c3, c4⟩ := (inv_k hI hA).2.2.2.2.1 i hi5 a hd
    have ecl : cl (20 + i) S = 9 := by
      unfold cl
      rw [if_neg (by omega), if_neg (by omega), if_neg (by omega), if_neg (by omega)]
    rw [ecl] at c3 c4
    refine ⟨h, a, en_X2_onSquare (b_X2_onSquare_0 (z_pu0V rfl) ⟨y_kd hA, ?_⟩), hI, ex_mono (ex_refl h) (by omega) (by omega), hk, c1, c2, c3, c4⟩
    rw [r1, z_rcs, ebd, nI_clamp (show i < 2 ^ 31 by omega), hd, z_rcs]
    exact ⟨Or.inr r2, vi5 _ r3, rfl⟩
  | none =>
    obtain ⟨h0, eh0⟩ : ∃ h0, h0 = z_poi h (L + 33) 4 (nI (d_pl i)) := ⟨_, rfl⟩
    obtain ⟨A, eA⟩ : ∃ A : Nat → Nat → Int32, A = fun j => z_ai h (L + 33 + 1 + j) := ⟨_, rfl⟩
    obtain ⟨F, eF⟩ : ∃ F, F = z_u (z_oi h (L + 33)) 4 (nI (d_pl i)) := ⟨_, rfl⟩
    have eh0' : h0 = z_hb h (L + 33) 7 F A := by
      rw [eh0, eF, eA, ← hb_poi, hb_self]
    have t0 : xt (dX L) h h0 := by rw [eh0]; exact xt_poi _ _ ⟨by omega, by omega⟩
    -- the board's lines
    have ready : ∃ h1 li, inv V L h1 ∧ ex (dX L) 1 256 h h1 ∧ dk L h1 ∧ z_oi h1 (L + 33) 4 = nI (d_pl i) ∧ z_ar h1 (L + 33 + 1 + 0) i = some li ∧ ∀ R, z_J G (d + 11) (m_X2_onSquare z_pu0) R 50 [some (.ref (L + 33)), some (.ref q), some (.int (nI (i + 2))), some (.int (nI i)), none] [] h1 → z_J G (d + 11) (m_X2_onSquare z_pu0) R 18 [some (.ref (L + 33)), some (.ref q), some (.int (nI (i + 2))), some (.int (nI i)), none] [] h := by
      have o40 : z_oi h0 (L + 33) 4 = nI (d_pl i) := by rw [eh0', hb_oi, eF, u_eq]
      have k0 : z_kd h0 (L + 33) = 18 := by rw [eh0]; exact hk.1.1
      have l0 : z_or h0 (L + 33) 0 = some (L + 33 + 1 + 0) ∧ z_kd h0 (L + 33 + 1 + 0) = 6 ∧ z_ln h0 (L + 33 + 1 + 0) = 5 := by rw [eh0]; exact hk.1.2.1
      have a0 : z_ar h0 = z_ar h := by rw [eh0]; rfl
      cases hb : z_ar h (L + 33 + 1 + 0) i with
      | some li =>
        have I0 : inv V L h0 := inv_xt hI hX t0
        refine ⟨h0, li, I0, xt_ex t0 (by rw [eh0]; exact Nat.le_succ _) (by rw [eh0]; exact Nat.le_add_right _ _), by rw [eh0]; exact hk, o40, by rw [a0]; exact hb, fun R hR => b_X2_onSquare_18 (z_pu0V rfl) ⟨hk.1.1, ?_⟩⟩
        rw [(show nI (i + 2) * nI (i + 2) = nI (d_pl i) from epl), ← eh0, l0.1, z_rcs, nI_clamp (show i < 2 ^ 31 by omega), a0, hb, z_rcs]
        exact ⟨k0, Or.inr l0.2.1, vi5 _ l0.2.2, hR⟩
      | none =>
        have hq : eqv (d_pl i) (g_mkS (i + 2) A) (d_CA i) := by
          unfold d_pl d_CA
          rw [if_pos hi, if_pos hi]
          exact eqv_S _ _ _
        obtain ⟨h5, eh5⟩ : ∃ h5, h5 = z_hb h (L + 33) 7 F (g_mkS (i + 2) A) := ⟨_, rfl⟩
        obtain ⟨h6, eh6, I6, x6, k6, o6, ar6⟩ := d_board hI hL hk hi5 hq eh5
        have ev5 := e2_markSquare (G := G) (d := d + 8) (F := F) (A := A) hk.1 (g := i + 2) (by omega)
        rw [← eh0', ← eh5] at ev5
        have n5 : z_n h5 = z_n h := by rw [eh5]; rfl
        have d5 : dsh (L + 33) h5 := by rw [eh5]; exact hk.1
        have ev6 := e2_linesOfPlaces (G := G) (d := d + 8) (x := L + 33) (pl := d_pl i) (mod := d_md i) (h := h5) (fun f => dsh_nwi (by omega) d5) (by rw [eh5, hb_oi, eF, u_eq]) p16.2 (by unfold d_md; split <;> omega) (by omega)
        have k7 : z_kd (z_nwi h5 1 256 (fun k => nI (g_lop (fun j => z_ai h5 (L + 33 + 1 + j)) (d_md i) (d_pl i) k))) (L + 33 + 1 + 0) = 6 ∧ z_ln (z_nwi h5 1 256 (fun k => nI (g_lop (fun j => z_ai h5 (L + 33 + 1 + j)) (d_md i) (d_pl i) k))) (L + 33 + 1 + 0) = 5 := (dsh_nwi (f := fun k => nI (g_lop (fun j => z_ai h5 (L + 33 + 1 + j)) (d_md i) (d_pl i) k)) (m := 256) (by omega) d5).2.1.2
        refine ⟨h6, z_n h5, I6, x6, k6, by rw [o6, eF, u_eq], ar6, fun R hR => b_X2_onSquare_18 (z_pu0V rfl) ⟨hk.1.1, ?_⟩⟩
        rw [(show nI (i + 2) * nI (i + 2) = nI (d_pl i) from epl), ← eh0, l0.1, z_rcs, nI_clamp (show i < 2 ^ 31 by omega), a0, hb, z_rcn]
        refine ⟨k0, Or.inr l0.2.1, vi5 _ l0.2.2, k0, _, ev5, d5.1, ?_⟩
        rw [d5.2.1.1, z_rcs, show nI 0 = nI (d_md i) from by unfold d_md; rw [if_pos hi]]
        refine ⟨d5.1, _, _, ev6, ?_⟩
        rw [z_rcs, z_rcs, ← eh6]
        exact ⟨Or.inr ⟨k7.1, nwi_kd _ _ _ _⟩, vi5 _ k7.2, hR⟩
    obtain ⟨h1, li, I1, x1, k1, o41, ar1, jmp⟩ := ready
    have L1 : L + 75 ≤ z_n h1 := Nat.le_trans hL x1.1.1
    have A1 : sc_at q b h1 S := ex_sc hI hX x1 hA
    have fl1 := (k1.2 i hi5 li ar1).1
    obtain ⟨hp, a, tw, evp, Ip, xp, D⟩ := e2_prepare (G := G) (d := d + 2) (hV (wpS S) (wp_sok hS)).1 I1 L1 k1.1 o41 p16.2 A1 fl1
    obtain ⟨m0, em0⟩ : ∃ m0, m0 = z_u (z_ai hp (L + 33 + 1 + 6)) 0 (nI (g_cor (i + 2))) := ⟨_, rfl⟩
    have c := d_dcf I1 k1 hi5 o41 A1 ar1 xp D (tf := 0) (by decide) false m0
    obtain ⟨gg, egg⟩ : ∃ gg, gg = d_gg hp (L + 33) (nI 0) (nI (Bool.toNat false)) m0 := ⟨_, rfl⟩
    rw [← egg] at c
    have D' := D
    obtain ⟨d1, ⟨d2, d3⟩, ⟨d4, d5, d6⟩, ⟨d7, d8, d9, d10⟩, ⟨d11, d12, d13, d14⟩, d15, d16, d17, d18⟩ := D'
    have an6 : a ≠ L + 33 + 1 + 6 := fr_ne d11.1 (j := 7) (by decide)
    have R0b : ∀ r, r < 8 → d_sqR i r < 2 ^ 16 := fun r _ => by unfold d_sqR; split; exact cor16 i hi; exact Nat.lt_of_lt_of_le (Nat.sub_lt (Nat.two_pow_pos _) (by decide)) (Nat.pow_le_pow_right (by decide) p16.2)
    obtain ⟨s', m', fd, evs, hfd⟩ := d_seat (G := G) (d := d) c R0b (fun r hr => by
      rw [egg, gg_m, em0]
      unfold d_sqR
      by_cases e : r = 0
      · rw [e, u_eq, if_pos rfl]
      · rw [u_ne _ _ e, if_neg e]; exact d16 r hr) (fun j hj => by rw [egg, gg_ai _ _ _ _ _ an6]; exact d14 j hj)
    have emod : d_gs (d_TL (wpS S)) (d_LI i) (g_twT (wpS S)) 0 S.1 (d_pl i) false (d_sqR i) S.1 0 (fun _ => 0) none = d_sq S i := rfl
    rw [emod] at evs hfd
    obtain ⟨hz, ez⟩ : ∃ hz, hz = dw gg (L + 33) a s' m' (z_u fd 0 (nI (d_sq S i).1)) := ⟨_, rfl⟩
    have ez' := ez
    rw [egg] at ez'
    obtain ⟨Az, dz, kz, oz, kx, If, xf, kf, ff, lz, vf⟩ := d_fin I1 L1 k1 hi5 A1 Ip xp D _ _ m0 s' m' _ (fun j hj => by
      rw [vS.2.1 i hi j hj]
      unfold d_sqv
      by_cases e : j = 0
      · rw [e, u_eq, if_pos rfl]
      · rw [u_ne _ _ e, if_neg e]; exact hfd.1 j hj) ez'
    refine ⟨z_par hz (b + 4) i (some a), a, en_X2_onSquare (b_X2_onSquare_0 (z_pu0V rfl) ⟨y_kd hA, ?_⟩), If, ex_trans hI I1 hX x1 xf, kf, ff, kz, lz, vf⟩
    rw [r1, z_rcs, ebd, nI_clamp (show i < 2 ^ 31 by omega), hd, z_rcn]
    refine ⟨Or.inr r2, vi5 _ r3, jmp _ (b_X2_onSquare_50 (z_pu0V rfl) ⟨k1.1.1, ?_⟩)⟩
    rw [k1.1.2.1.1, z_rcs, nI_clamp (show i < 2 ^ 31 by omega), ar1, z_rcs]
    refine ⟨Or.inr k1.1.2.1.2.1, vi5 _ k1.1.2.1.2.2, k1.1.1, _, evp, b_X2_onSquare_61 (z_pu0V rfl) ?_⟩
    have egg' : z_pai (z_poi (z_poi hp (L + 33) 8 (nI 0)) (L + 33) 9 (nI 0)) (L + 33 + 1 + 6) 0 (nI (g_cor (i + 2))) = gg := by rw [egg, em0]; rfl
    have w := d1.2.2.2.2.2.2.2
    refine ⟨d1.1, d1.1, Or.inl rfl, d1.1, ?_⟩
    rw [show z_or (z_poi (z_poi hp (L + 33) 8 (nI 0)) (L + 33) 9 (nI 0)) (L + 33) 12 = some (L + 33 + 1 + 6) from w.1, z_rcs]
    refine ⟨_, _, e2_cornerPart (G := G) (d := d + 9) (by omega), w.2.1, ?_, ?_⟩
    · rw [show z_ln (z_poi (z_poi hp (L + 33) 8 (nI 0)) (L + 33) 9 (nI 0)) (L + 33 + 1 + 6) = 72 from w.2.2]; exact vp_in_nI (by decide) (by decide)
    rw [nI_clamp (show 0 < 2 ^ 31 by decide), egg', show z_or gg (L + 33) 13 = some a from c.2.2.2.2.1.1, z_rcs]
    refine ⟨c.1.1.1, c.1.1.1, _, _, evs, c.2.2.2.2.1.2.1, ?_, ?_⟩
    · rw [show z_ln (dw gg (L + 33) a s' m' fd) a = 9 from c.2.2.2.2.1.2.2]; exact vp_in_nI (by decide) (by decide)
    rw [pai_pax, dw_f, dw_xf, ← ez]
    refine b_X2_onSquare_92 (z_pu0V rfl) ⟨kx, ?_⟩
    rw [oz, z_rcs, dz.1, z_rcs, nI_clamp (show i < 2 ^ 31 by omega)]
    exact ⟨y_kd Az, Or.inr ⟨dz.2.1, kz⟩, vi5 _ dz.2.2, rfl⟩
theorem e2_inPlane (hV : vD V) (hI : inv V L h) (hL : L + 75 ≤ z_n h) (hk : dk L h) (hA : sc_at q b h S) (hi : 3 ≤ i ∧ i < 5) : ∃ h' a, z_Ev G (d + 11) k_X2_inPlane [.ref (L + 33), .ref q, .int (nI (i - 1))] h (.inl (some (va_rf (some a))), h') ∧ inv V L h' ∧ ex (dX L) 13 429 h h' ∧ dk L h' ∧ fr L h' a ∧ z_kd h' a = 1 ∧ z_ln h' a = 9 ∧ ∀ j, j < 9 → z_ai h' a j = V (20 + i) S j := by
  have hX : ∀ a, dX L a → hl L a := fun _ hx => dX_hl hx
  have hi5 : i < 5 := by omega
  have hS := hA.2.1
  have hn := hS.1
  have vS := hV S hS
  have p16 := d_pl16 i hi5
  have epl : nI (i - 1) * nI (i - 1) + nI (i - 1) + nI 1 = nI (d_pl i) := by
    rw [n_mul, nI_add, nI_add]
    unfold d_pl
    rw [if_neg (by omega)]
  have ebd : nI (i - 1) + nI 1 = nI i := by
    rw [nI_add, show i - 1 + 1 = i by omega]
  obtain ⟨r1, r2, r3⟩ := (inv_k hI hA).2.2.1
  have vi5 : ∀ n, n = 5 → vp_in (nI i) n := fun n hn => by rw [hn]; exact vp_in_nI hi5 (by decide)
  cases hd : z_ar h (b + 4) i with
  | some a =>
    obtain ⟨c1, c2, c3, c4⟩ := (inv_k hI hA).2.2.2.2.1 i hi5 a hd
    have ecl : cl (20 + i) S = 9 := by
      unfold cl
      rw [if_neg (by omega), if_neg (by omega), if_neg (by omega), if_neg (by omega)]
    rw [ecl] at c3 c4
    refine ⟨h, a, en_X2_inPlane (b_X2_inPlane_0 (z_pu0V rfl) ⟨y_kd hA, ?_⟩), hI, ex_mono (ex_refl h) (by omega) (by omega), hk, c1, c2, c3, c4⟩
    rw [r1, z_rcs, ebd, nI_clamp (show i < 2 ^ 31 by omega), hd, z_rcs]
    exact ⟨Or.inr r2, vi5 _ r3, rfl⟩
  | none =>
    obtain ⟨h0, eh0⟩ : ∃ h0, h0 = z_poi h (L + 33) 4 (nI (d_pl i)) := ⟨_, rfl⟩
    obtain ⟨A, eA⟩ : ∃ A : Nat → Nat → Int32, A = fun j => z_ai h (L + 33 + 1 + j) := ⟨_, rfl⟩
    obtain ⟨F, eF⟩ : ∃ F, F = z_u (z_oi h (L + 33)) 4 (nI (d_pl i)) := ⟨_, rfl⟩
    have eh0' : h0 = z_hb h (L + 33) 7 F A := by
      rw [eh0, eF, eA, ← hb_poi, hb_self]
    have t0 : xt (dX L) h h0 := by rw [eh0]; exact xt_poi _ _ ⟨by omega, by omega⟩
    -- the board's lines
    have ready : ∃ h1 li, inv V L h1 ∧ ex (dX L) 1 256 h h1 ∧ dk L h1 ∧ z_oi h1 (L + 33) 4 = nI (d_pl i) ∧ z_ar h1 (L + 33 + 1 + 0) i = some li ∧ ∀ R, z_J G (d + 11) (m_X2_inPlane z_pu0) R 53 [some (.ref (L + 33)), some (.ref q), none, some (.int (nI i)), none] [] h1 → z_J G (d + 11) (m_X2_inPlane z_pu0) R 17 [some (.ref (L + 33)), some (.ref q), some (.int (nI (i - 1))), some (.int (nI i)), none] [] h := by
      have o40 : z_oi h0 (L + 33) 4 = nI (d_pl i) := by rw [eh0', hb_oi, eF, u_eq]
      have k0 : z_kd h0 (L + 33) = 18 := by rw [eh0]; exact hk.1.1
      have l0 : z_or h0 (L + 33) 0 = some (L + 33 + 1 + 0) ∧ z_kd h0 (L + 33 + 1 + 0) = 6 ∧ z_ln h0 (L + 33 + 1 + 0) = 5 := by rw [eh0]; exact hk.1.2.1
      have a0 : z_ar h0 = z_ar h := by rw [eh0]; rfl
      cases hb : z_ar h (L + 33 + 1 + 0) i with
      | some li =>
        have I0 : inv V L h0 := inv_xt hI hX t0
        refine ⟨h0, li, I0, xt_ex t0 (by rw [eh0]; exact Nat.le_succ _) (by rw [eh0]; exact Nat.le_add_right _ _), by rw [eh0]; exact hk, o40, by rw [a0]; exact hb, fun R hR => b_X2_inPlane_17 (z_pu0V rfl) ⟨hk.1.1, ?_⟩⟩
        rw [(show nI (i - 1) * nI (i - 1) + nI (i - 1) + nI 1 = nI (d_pl i) from epl), ← eh0, l0.1, z_rcs, nI_clamp (show i < 2 ^ 31 by omega), a0, hb, z_rcs]
        exact ⟨k0, Or.inr l0.2.1, vi5 _ l0.2.2, hR⟩
      | none =>
        have hq : eqv (d_pl i) (g_mkP (i - 1) A) (d_CA i) := by
          have hc : i = 3 ∨ i = 4 := by omega
          rcases hc with rfl | rfl
          · have := eqv_P 2 A (fun _ _ => 0)
            rw [show (2 * 2 * 2 - 1 : Nat) = 7 from rfl, plN_2.1] at this
            exact this
          · have := eqv_P 3 A (fun _ _ => 0)
            rw [show (3 * 3 * 3 - 1 : Nat) = 26 from rfl, plN_2.2] at this
            exact this
        obtain ⟨h5, eh5⟩ : ∃ h5, h5 = z_hb h (L + 33) 7 F (g_mkP (i - 1) A) := ⟨_, rfl⟩
        obtain ⟨h6, eh6, I6, x6, k6, o6, ar6⟩ := d_board hI hL hk hi5 hq eh5
        have ev5 := e2_markPlane (G := G) (d := d + 8) (F := F) (A := A) hk.1 (q := i - 1) (by omega) (by omega)
        rw [← eh0', ← eh5] at ev5
        have n5 : z_n h5 = z_n h := by rw [eh5]; rfl
        have d5 : dsh (L + 33) h5 := by rw [eh5]; exact hk.1
        have ev6 := e2_linesOfPlaces (G := G) (d := d + 8) (x := L + 33) (pl := d_pl i) (mod := d_md i) (h := h5) (fun f => dsh_nwi (by omega) d5) (by rw [eh5, hb_oi, eF, u_eq]) p16.2 (by unfold d_md; split <;> omega) (by omega)
        have k7 : z_kd (z_nwi h5 1 256 (fun k => nI (g_lop (fun j => z_ai h5 (L + 33 + 1 + j)) (d_md i) (d_pl i) k))) (L + 33 + 1 + 0) = 6 ∧ z_ln (z_nwi h5 1 256 (fun k => nI (g_lop (fun j => z_ai h5 (L + 33 + 1 + j)) (d_md i) (d_pl i) k))) (L + 33 + 1 + 0) = 5 := (dsh_nwi (f := fun k => nI (g_lop (fun j => z_ai h5 (L + 33 + 1 + j)) (d_md i) (d_pl i) k)) (m := 256) (by omega) d5).2.1.2
        refine ⟨h6, z_n h5, I6, x6, k6, by rw [o6, eF, u_eq], ar6, fun R hR => b_X2_inPlane_17 (z_pu0V rfl) ⟨hk.1.1, ?_⟩⟩
        rw [(show nI (i - 1) * nI (i - 1) + nI (i - 1) + nI 1 = nI (d_pl i) from epl), ← eh0, l0.1, z_rcs, nI_clamp (show i < 2 ^ 31 by omega), a0, hb, z_rcn]
        refine ⟨k0, Or.inr l0.2.1, vi5 _ l0.2.2, k0, _, ev5, d5.1, ?_⟩
        rw [d5.2.1.1, z_rcs, show nI (i - 1) = nI (d_md i) from by unfold d_md; rw [if_neg (by omega)]]
        refine ⟨d5.1, _, _, ev6, ?_⟩
        rw [z_rcs, z_rcs, ← eh6]
        exact ⟨Or.inr ⟨k7.1, nwi_kd _ _ _ _⟩, vi5 _ k7.2, hR⟩
    obtain ⟨h1, li, I1, x1, k1, o41, ar1, jmp⟩ := ready
    have L1 : L + 75 ≤ z_n h1 := Nat.le_trans hL x1.1.1
    have A1 : sc_at q b h1 S := ex_sc hI hX x1 hA
    have fl1 := (k1.2 i hi5 li ar1).1
    obtain ⟨hp, a, tw, evp, Ip, xp, D⟩ := e2_prepare (G := G) (d := d + 2) (hV (wpS S) (wp_sok hS)).1 I1 L1 k1.1 o41 p16.2 A1 fl1
    obtain ⟨m0, em0⟩ : ∃ m0, m0 = z_u (z_u (z_ai hp (L + 33 + 1 + 6)) 0 (nI 1)) 1 (nI 2) := ⟨_, rfl⟩
    have c := d_dcf I1 k1 hi5 o41 A1 ar1 xp D (tf := 2) (by decide) true m0
    obtain ⟨gg, egg⟩ : ∃ gg, gg = d_gg hp (L + 33) (nI 2) (nI (Bool.toNat true)) m0 := ⟨_, rfl⟩
    rw [← egg] at c
    have D' := D
    obtain ⟨d1, ⟨d2, d3⟩, ⟨d4, d5, d6⟩, ⟨d7, d8, d9, d10⟩, ⟨d11, d12, d13, d14⟩, d15, d16, d17, d18⟩ := D'
    have an6 : a ≠ L + 33 + 1 + 6 := fr_ne d11.1 (j := 7) (by decide)
    have R0b : ∀ r, r < 8 → d_plR i r < 2 ^ 16 := fun r _ => by unfold d_plR; split; decide; split; decide; exact Nat.lt_of_lt_of_le (Nat.sub_lt (Nat.two_pow_pos _) (by decide)) (Nat.pow_le_pow_right (by decide) p16.2)
    obtain ⟨s', m', fd, evs, hfd⟩ := d_seat (G := G) (d := d) c R0b (fun r hr => by
      rw [egg, gg_m, em0]
      unfold d_plR
      by_cases e1 : r = 1
      · rw [e1, u_eq, if_neg (by decide), if_pos rfl]
      · rw [u_ne _ _ e1]
        by_cases e : r = 0
        · rw [e, u_eq, if_pos rfl]
        · rw [u_ne _ _ e, if_neg e, if_neg e1]; exact d16 r hr) (fun j hj => by rw [egg, gg_ai _ _ _ _ _ an6]; exact d14 j hj)
    have emod : d_gs (d_TL (wpS S)) (d_LI i) (g_twT (wpS S)) 2 S.1 (d_pl i) true (d_plR i) S.1 0 (fun _ => 0) none = d_pn S i := rfl
    rw [emod] at evs hfd
    obtain ⟨hz, ez⟩ : ∃ hz, hz = dw gg (L + 33) a s' m' (z_u fd 0 (nI ((d_pn S i).1 * g_same (g_twT (wpS S)) (d_pl i) S.1))) := ⟨_, rfl⟩
    have ez' := ez
    rw [egg] at ez'
    obtain ⟨Az, dz, kz, oz, kx, If, xf, kf, ff, lz, vf⟩ := d_fin I1 L1 k1 hi5 A1 Ip xp D _ _ m0 s' m' _ (fun j hj => by
      rw [vS.2.2 i hi j hj]
      unfold d_pnv
      by_cases e : j = 0
      · rw [e, u_eq, if_pos rfl]
      · rw [u_ne _ _ e, if_neg e]; exact hfd.1 j hj) ez'
    refine ⟨z_par hz (b + 4) i (some a), a, en_X2_inPlane (b_X2_inPlane_0 (z_pu0V rfl) ⟨y_kd hA, ?_⟩), If, ex_trans hI I1 hX x1 xf, kf, ff, kz, lz, vf⟩
    rw [r1, z_rcs, ebd, nI_clamp (show i < 2 ^ 31 by omega), hd, z_rcn]
    refine ⟨Or.inr r2, vi5 _ r3, jmp _ (b_X2_inPlane_53 (z_pu0V rfl) ⟨k1.1.1, ?_⟩)⟩
    rw [k1.1.2.1.1, z_rcs, nI_clamp (show i < 2 ^ 31 by omega), ar1, z_rcs]
    refine ⟨Or.inr k1.1.2.1.2.1, vi5 _ k1.1.2.1.2.2, k1.1.1, _, evp, b_X2_inPlane_64 (z_pu0V rfl) ?_⟩
    have egg' : z_pai (z_pai (z_poi (z_poi hp (L + 33) 8 (nI 2)) (L + 33) 9 (nI 1)) (L + 33 + 1 + 6) 0 (nI 1)) (L + 33 + 1 + 6) 1 (nI 2) = gg := by
      rw [egg, em0, pai_pax, pai_pax, pax2]
      unfold d_gg
      congr 2
      exact u_eq _ _ _
    have w := d1.2.2.2.2.2.2.2
    have vw : ∀ k n, k < 72 → n = 72 → vp_in (nI k) n := fun k n hk hn => by rw [hn]; exact vp_in_nI hk (by decide)
    refine ⟨d1.1, d1.1, Or.inr rfl, d1.1, ?_⟩
    rw [show z_or (z_poi (z_poi hp (L + 33) 8 (nI 2)) (L + 33) 9 (nI 1)) (L + 33) 12 = some (L + 33 + 1 + 6) from w.1, z_rcs, nI_clamp (show 0 < 2 ^ 31 by decide), nI_clamp (show 1 < 2 ^ 31 by decide)]
    refine ⟨w.2.1, vw _ _ (by decide) w.2.2, d1.1, ?_⟩
    rw [show z_or (z_pai (z_poi (z_poi hp (L + 33) 8 (nI 2)) (L + 33) 9 (nI 1)) (L + 33 + 1 + 6) 0 (nI 1)) (L + 33) 12 = some (L + 33 + 1 + 6) from w.1, z_rcs]
    refine ⟨w.2.1, vw _ _ (by decide) w.2.2, d1.1, ?_⟩
    rw [egg', show z_or gg (L + 33) 13 = some a from c.2.2.2.2.1.1, z_rcs]
    obtain ⟨tw', q1, q2, q3, q4, q5, q6, q7⟩ := c.2.2.1
    have evw := e2_sameWays (G := G) (d := d + 8) (x := L + 33) (tw := tw') (pl := d_pl i) (n := S.1) (h := dw gg (L + 33) a s' m' fd) (T := g_twT (wpS S)) c.1.1.1 c.1.2.1 c.1.2.2.1 c.1.2.2.2.1 p16.1 hn.2 q1 q2 q3 (fun p hp => by rw [dw_o _ _ _ _ _ _ q5 q6 q7]; exact q4 p hp)
    refine ⟨c.1.1.1, _, _, evs, c.1.1.1, _, _, evw, c.2.2.2.2.1.2.1, ?_, ?_⟩
    · rw [show z_ln (dw gg (L + 33) a s' m' fd) a = 9 from c.2.2.2.2.1.2.2]; exact vp_in_nI (by decide) (by decide)
    rw [n_mul, pai_pax, dw_f, dw_xf, ← ez]
    refine b_X2_inPlane_104 (z_pu0V rfl) ⟨kx, ?_⟩
    rw [oz, z_rcs, dz.1, z_rcs, nI_clamp (show i < 2 ^ 31 by omega)]
    exact ⟨y_kd Az, Or.inr ⟨dz.2.1, kz⟩, vi5 _ dz.2.2, rfl⟩
end HN1
