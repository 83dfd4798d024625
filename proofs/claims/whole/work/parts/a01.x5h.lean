theorem en_X5_begin {pu : Nat → Option ((List Value → z_H → Prop) × (List Value → z_H → Int32))} {G : z_G} {d : Nat} {r : z_Res} {h : z_H} {x0 : Nat} {x1 : Nat} {x2 : Nat} {x3 : Int32} (hJ : z_J G d (m_X5_begin pu) r 0 [some (.ref x0), some (.ref x1), some (.ref x2), some (.int x3)] [] h) : z_Ev G d k_X5_begin [.ref x0, .ref x1, .ref x2, .int x3] h r := z_enter (μ := m_X5_begin pu) rfl (by decide) rfl rfl (fun q => by cases q) (Nat.le_of_ble_eq_true rfl) hJ
def hd_X5_begin : Nat → Option (List Bool) := (fun k => none)
set_option maxRecDepth 20000 in
theorem b_X5_begin_0 {G : z_G} {d : Nat} {r : z_Res} (hPu : z_PuV G d (t_X5 z_pu0)) {h : z_H} {x0 : Nat} {x1 : Nat} {x2 : Nat} {x3 : Int32} (hT : (z_kd h x0 = 21 ∧ (z_kd (z_por h x0 0 (some x1)) x0 = 21 ∧ (z_kd (z_por (z_por h x0 0 (some x1)) x0 1 (some x2)) x1 = 24 ∧ ∃ o_2 h_1, z_Ev G d k_X8_twins [.ref x1] (z_por (z_por h x0 0 (some x1)) x0 1 (some x2)) (.inl (some (va_rf o_2)), h_1) ∧ (z_rc o_2 (z_kd h_1 x0 = 21 ∧ (z_kd (z_por h_1 x0 2 none) x2 = 24 ∧ ∃ o_5 h_4, z_Ev G d k_X8_twins [.ref x2] (z_por h_1 x0 2 none) (.inl (some (va_rf o_5)), h_4) ∧ (z_rc o_5 (z_kd h_4 x0 = 21 ∧ (z_kd (z_por h_4 x0 3 none) x0 = 21 ∧ z_bz x3 ∧ r = (.inl none, z_poi (z_por h_4 x0 3 none) x0 4 x3))) (fun x_6 => (z_kd h_4 x0 = 21 ∧ (z_kd (z_por h_4 x0 3 (some x_6)) x0 = 21 ∧ z_bz x3 ∧ r = (.inl none, z_poi (z_por h_4 x0 3 (some x_6)) x0 4 x3))))))) (fun x_3 => (z_kd h_1 x0 = 21 ∧ (z_kd (z_por h_1 x0 2 (some x_3)) x2 = 24 ∧ ∃ o_8 h_7, z_Ev G d k_X8_twins [.ref x2] (z_por h_1 x0 2 (some x_3)) (.inl (some (va_rf o_8)), h_7) ∧ (z_rc o_8 (z_kd h_7 x0 = 21 ∧ (z_kd (z_por h_7 x0 3 none) x0 = 21 ∧ z_bz x3 ∧ r = (.inl none, z_poi (z_por h_7 x0 3 none) x0 4 x3))) (fun x_9 => (z_kd h_7 x0 = 21 ∧ (z_kd (z_por h_7 x0 3 (some x_9)) x0 = 21 ∧ z_bz x3 ∧ r = (.inl none, z_poi (z_por h_7 x0 3 (some x_9)) x0 4 x3))))))))))))) : (z_J G (d + 1) (m_X5_begin z_pu0) r) 0 [some (.ref x0), some (.ref x1), some (.ref x2), some (.int x3)] [] h := z_bq (v_X5 z_pu0 (vP_X5_begin z_pu0) hPu) hd_X5_begin 20 hT
theorem en_X5_measured {pu : Nat → Option ((List Value → z_H → Prop) × (List Value → z_H → Int32))} {G : z_G} {d : Nat} {r : z_Res} {h : z_H} {x0 : Nat} {x1 : Nat} (hJ : z_J G d (m_X5_measured pu) r 0 [some (.ref x0), some (.ref x1), none, none] [] h) : z_Ev G d k_X5_measured [.ref x0, .ref x1] h r := z_enter (μ := m_X5_measured pu) rfl (by decide) rfl rfl (fun q => by cases q) (Nat.le_of_ble_eq_true rfl) hJ
def hd_X5_measured : Nat → Option (List Bool) := (fun k => (cond (Nat.blt k 90) (cond (Nat.blt k 52) (cond (Nat.beq k 19) (some [true, true, true, true]) none) (cond (Nat.beq k 52) (some [true, true, true, true]) none)) none))
set_option maxRecDepth 20000 in
theorem b_X5_measured_0 {G : z_G} {d : Nat} {r : z_Res} (hPu : z_PuV G d (t_X5 z_pu0)) {h : z_H} {x0 : Nat} {x1 : Nat} (hT : (z_kd h x1 = 24 ∧ (z_rc (z_or h x1 8) (¬ (nI 9) < 0 ∧ Int32.toNatClampNeg (nI 9) ≤ 1000000 ∧ (∃ h_2, z_Ev G d k_J7_fill_53178 [.ref (z_n h), .int (nI 1)] (z_nwi h 1 (Int32.toNatClampNeg (nI 9)) (fun _ => 0)) (.inl none, h_2) ∧ (z_J G (d + 1) (m_X5_measured z_pu0) r) 19 [some (.ref x0), some (.ref x1), some (.ref (z_n h)), some (.int (nI 0))] [] h_2)) (fun x_1 => (z_kd h x1 = 24 ∧ (z_rc (z_or h x1 8) (r = (.inl (some (va_rf none)), h)) (fun x_3 => r = (.inl (some (va_rf (some x_3))), h)))))))) : (z_J G (d + 1) (m_X5_measured z_pu0) r) 0 [some (.ref x0), some (.ref x1), none, none] [] h := z_bq (v_X5 z_pu0 (vP_X5_measured z_pu0) hPu) hd_X5_measured 14 hT
set_option maxRecDepth 20000 in
theorem b_X5_measured_19 {G : z_G} {d : Nat} {r : z_Res} (hPu : z_PuV G d (t_X5 z_pu0)) {h : z_H} {x0 : Nat} {x1 : Nat} {x2 : Nat} {x3 : Int32} (hT : (if x3 < (nI 8) then (z_kd h x1 = 24 ∧ (z_rc (z_or h x1 9) False (fun x_1 => (z_kd h x_1 = 1 ∧ vp_in x3 (z_ln h x_1) ∧ (z_J G (d + 1) (m_X5_measured z_pu0) r) 19 [some (.ref x0), some (.ref x1), some (.ref x2), some (.int (x3 + (nI 1)))] [] (z_pai h x_1 (Int32.toNatClampNeg x3) x3))))) else (z_kd h x0 = 21 ∧ ∃ h_2, z_Ev G d k_X5_begin [.ref x0, .ref x1, .ref x1, .int (nI 1)] h (.inl none, h_2) ∧ (z_kd h_2 x1 = 24 ∧ (z_J G (d + 1) (m_X5_measured z_pu0) r) 52 [some (.ref x0), some (.ref x1), some (.ref x2), some (.int ((z_oi h_2 x1 0) - (nI 1)))] [] h_2)))) : (z_J G (d + 1) (m_X5_measured z_pu0) r) 19 [some (.ref x0), some (.ref x1), some (.ref x2), some (.int x3)] [] h := z_bq (v_X5 z_pu0 (vP_X5_measured z_pu0) hPu) hd_X5_measured 16 hT
set_option maxRecDepth 20000 in
theorem b_X5_measured_52 {G : z_G} {d : Nat} {r : z_Res} (hPu : z_PuV G d (t_X5 z_pu0)) {h : z_H} {x0 : Nat} {x1 : Nat} {x2 : Nat} {x3 : Int32} (hT : (if x3 < (nI 0) then (z_kd h x1 = 24 ∧ (z_kd (z_por h x1 8 (some x2)) x1 = 24 ∧ (z_rc (z_or (z_por h x1 8 (some x2)) x1 8) (r = (.inl (some (va_rf none)), z_por h x1 8 (some x2))) (fun x_1 => r = (.inl (some (va_rf (some x_1))), z_por h x1 8 (some x2)))))) else (z_kd h x2 = 1 ∧ vp_in (x3 + (nI 1)) (z_ln h x2) ∧ (z_kd h x1 = 24 ∧ (z_rc (z_or h x1 9) (z_kd h x0 = 21 ∧ ∃ x_4 h_3, z_Ev G d k_X5_moves [.ref x0, .int x3, .null] h (.inl (some (.int x_4)), h_3) ∧ (z_kd h_3 x2 = 1 ∧ vp_in x3 (z_ln h_3 x2) ∧ (z_J G (d + 1) (m_X5_measured z_pu0) r) 52 [some (.ref x0), some (.ref x1), some (.ref x2), some (.int (x3 + mI))] [] (z_pai h_3 x2 (Int32.toNatClampNeg x3) ((z_ai h x2 (Int32.toNatClampNeg (x3 + (nI 1)))) * x_4)))) (fun x_2 => (z_kd h x0 = 21 ∧ ∃ x_6 h_5, z_Ev G d k_X5_moves [.ref x0, .int x3, .ref x_2] h (.inl (some (.int x_6)), h_5) ∧ (z_kd h_5 x2 = 1 ∧ vp_in x3 (z_ln h_5 x2) ∧ (z_J G (d + 1) (m_X5_measured z_pu0) r) 52 [some (.ref x0), some (.ref x1), some (.ref x2), some (.int (x3 + mI))] [] (z_pai h_5 x2 (Int32.toNatClampNeg x3) ((z_ai h x2 (Int32.toNatClampNeg (x3 + (nI 1)))) * x_6)))))))))) : (z_J G (d + 1) (m_X5_measured z_pu0) r) 52 [some (.ref x0), some (.ref x1), some (.ref x2), some (.int x3)] [] h := z_bq (v_X5 z_pu0 (vP_X5_measured z_pu0) hPu) hd_X5_measured 21 hT
theorem en_X5_orbitsOf {pu : Nat → Option ((List Value → z_H → Prop) × (List Value → z_H → Int32))} {G : z_G} {d : Nat} {r : z_Res} {h : z_H} {x0 : Nat} {x1 : Nat} (hJ : z_J G d (m_X5_orbitsOf pu) r 0 [some (.ref x0), some (.ref x1)] [] h) : z_Ev G d k_X5_orbitsOf [.ref x0, .ref x1] h r := z_enter (μ := m_X5_orbitsOf pu) rfl (by decide) rfl rfl (fun q => by cases q) (Nat.le_of_ble_eq_true rfl) hJ
def hd_X5_orbitsOf : Nat → Option (List Bool) := (fun k => none)
set_option maxRecDepth 20000 in
theorem b_X5_orbitsOf_0 {G : z_G} {d : Nat} {r : z_Res} (hPu : z_PuV G d (t_X5 z_pu0)) {h : z_H} {x0 : Nat} {x1 : Nat} (hT : (z_kd h x0 = 21 ∧ ∃ o_2 h_1, z_Ev G d k_X5_measured [.ref x0, .ref x1] h (.inl (some (va_rf o_2)), h_1) ∧ (z_rc o_2 (z_kd h_1 x1 = 24 ∧ (z_rc (z_or h_1 x1 9) (r = (.inl (some (va_rf none)), h_1)) (fun x_4 => r = (.inl (some (va_rf (some x_4))), h_1)))) (fun x_3 => (z_kd h_1 x1 = 24 ∧ (z_rc (z_or h_1 x1 9) (r = (.inl (some (va_rf none)), h_1)) (fun x_5 => r = (.inl (some (va_rf (some x_5))), h_1)))))))) : (z_J G (d + 1) (m_X5_orbitsOf z_pu0) r) 0 [some (.ref x0), some (.ref x1)] [] h := z_bq (v_X5 z_pu0 (vP_X5_orbitsOf z_pu0) hPu) hd_X5_orbitsOf 9 hT
theorem en_X5_orbits {pu : Nat → Option ((List Value → z_H → Prop) × (List Value → z_H → Int32))} {G : z_G} {d : Nat} {r : z_Res} {h : z_H} {x0 : Nat} {x1 : Nat} (hJ : z_J G d (m_X5_orbits pu) r 0 [some (.ref x0), some (.ref x1), none, none, none] [] h) : z_Ev G d k_X5_orbits [.ref x0, .ref x1] h r := z_enter (μ := m_X5_orbits pu) rfl (by decide) rfl rfl (fun q => by cases q) (Nat.le_of_ble_eq_true rfl) hJ
def hd_X5_orbits : Nat → Option (List Bool) := (fun k => (cond (Nat.blt k 40) (cond (Nat.beq k 11) (some [false, true, true, true, true]) none) none))
set_option maxRecDepth 20000 in
theorem b_X5_orbits_0 {G : z_G} {d : Nat} {r : z_Res} (hPu : z_PuV G d (t_X5 z_pu0)) {h : z_H} {x0 : Nat} {x1 : Nat} (hT : (z_kd h x0 = 21 ∧ ∃ o_2 h_1, z_Ev G d k_X5_orbitsOf [.ref x0, .ref x1] h (.inl (some (va_rf o_2)), h_1) ∧ (z_rc o_2 ((z_J G (d + 1) (m_X5_orbits z_pu0) r) 11 [none, some (.ref x1), some (.null), some (.int (nI 0)), some (.int (nI 0))] [] h_1) (fun x_3 => (z_J G (d + 1) (m_X5_orbits z_pu0) r) 11 [none, some (.ref x1), some (.ref x_3), some (.int (nI 0)), some (.int (nI 0))] [] h_1)))) : (z_J G (d + 1) (m_X5_orbits z_pu0) r) 0 [some (.ref x0), some (.ref x1), none, none, none] [] h := z_bq (v_X5 z_pu0 (vP_X5_orbits z_pu0) hPu) hd_X5_orbits 11 hT
set_option maxRecDepth 20000 in
theorem b_X5_orbits_11 {G : z_G} {d : Nat} {r : z_Res} (hPu : z_PuV G d (t_X5 z_pu0)) {h : z_H} {x1 : Nat} {x3 : Int32} {x4 : Int32} (hT : (z_kd h x1 = 24 ∧ (if x4 < (z_oi h x1 0) then False else r = (.inl (some (.int x3)), h)))) : (z_J G (d + 1) (m_X5_orbits z_pu0) r) 11 [none, some (.ref x1), some (.null), some (.int x3), some (.int x4)] [] h := z_bq (v_X5 z_pu0 (vP_X5_orbits z_pu0) hPu) hd_X5_orbits 9 hT
set_option maxRecDepth 20000 in
theorem b_X5_orbits_11b {G : z_G} {d : Nat} {r : z_Res} (hPu : z_PuV G d (t_X5 z_pu0)) {h : z_H} {x1 : Nat} {x2 : Nat} {x3 : Int32} {x4 : Int32} (hT : (z_kd h x1 = 24 ∧ (if x4 < (z_oi h x1 0) then (z_kd h x2 = 1 ∧ vp_in x4 (z_ln h x2) ∧ (if (z_ai h x2 (Int32.toNatClampNeg x4)) = x4 then (z_J G (d + 1) (m_X5_orbits z_pu0) r) 11 [none, some (.ref x1), some (.ref x2), some (.int (x3 + (nI 1))), some (.int (x4 + (nI 1)))] [] h else (z_J G (d + 1) (m_X5_orbits z_pu0) r) 11 [none, some (.ref x1), some (.ref x2), some (.int x3), some (.int (x4 + (nI 1)))] [] h)) else r = (.inl (some (.int x3)), h)))) : (z_J G (d + 1) (m_X5_orbits z_pu0) r) 11 [none, some (.ref x1), some (.ref x2), some (.int x3), some (.int x4)] [] h := z_bq (v_X5 z_pu0 (vP_X5_orbits z_pu0) hPu) hd_X5_orbits 15 hT
theorem en_X5_findSymmetric {pu : Nat → Option ((List Value → z_H → Prop) × (List Value → z_H → Int32))} {G : z_G} {d : Nat} {r : z_Res} {h : z_H} {x0 : Nat} {x1 : Nat} {x2 : Nat} {x3 : Int32} (hJ : z_J G d (m_X5_findSymmetric pu) r 0 [some (.ref x0), some (.ref x1), some (.ref x2), some (.int x3), none, none, none, none, none] [] h) : z_Ev G d k_X5_findSymmetric [.ref x0, .ref x1, .ref x2, .int x3] h r := z_enter (μ := m_X5_findSymmetric pu) rfl (by decide) rfl rfl (fun q => by cases q) (Nat.le_of_ble_eq_true rfl) hJ
def hd_X5_findSymmetric : Nat → Option (List Bool) := (fun k => (cond (Nat.blt k 99) (cond (Nat.beq k 16) (some [true, true, true, false, true, true, true, false, false]) none) none))
set_option maxRecDepth 20000 in
theorem b_X5_findSymmetric_0 {G : z_G} {d : Nat} {r : z_Res} (hPu : z_PuV G d (t_X5 z_pu0)) {h : z_H} {x0 : Nat} {x1 : Nat} {x2 : Nat} {x3 : Int32} (hT : (z_kd h x0 = 21 ∧ ∃ h_1, z_Ev G d k_X5_begin [.ref x0, .ref x1, .ref x1, .int (nI 1)] h (.inl none, h_1) ∧ (z_J G (d + 1) (m_X5_findSymmetric z_pu0) r) 16 [some (.ref x0), some (.ref x1), some (.ref x2), none, some (.int x3), some (.int (nI 0)), some (.int (nI 0)), none, none] [] h_1)) : (z_J G (d + 1) (m_X5_findSymmetric z_pu0) r) 0 [some (.ref x0), some (.ref x1), some (.ref x2), some (.int x3), none, none, none, none, none] [] h := z_bq (v_X5 z_pu0 (vP_X5_findSymmetric z_pu0) hPu) hd_X5_findSymmetric 14 hT
set_option maxRecDepth 20000 in
theorem b_X5_findSymmetric_16 {G : z_G} {d : Nat} {r : z_Res} (hPu : z_PuV G d (t_X5 z_pu0)) {h : z_H} {x0 : Nat} {x1 : Nat} {x2 : Nat} {x4 : Int32} {x5 : Int32} {x6 : Int32} (hT : (z_kd h x1 = 24 ∧ (if x6 < (z_oi h x1 0) then (z_kd h x2 = 1 ∧ vp_in (x6 + (nI 1)) (z_ln h x2) ∧ (∃ x_2 h_1, z_Ev G d k_J9_max_7cf53 [.int (z_ai h x2 (Int32.toNatClampNeg (x6 + (nI 1)))), .int (nI 1)] h (.inl (some (.int x_2)), h_1) ∧ (¬ x_2 = (nI 0) ∧ (z_kd h_1 x0 = 21 ∧ ∃ x_4 h_3, z_Ev G d k_X5_nameAfter [.ref x0, .int x6, .int x5, .int (x4 / x_2)] h_1 (.inl (some (.int x_4)), h_3) ∧ (¬ x_2 = (nI 0) ∧ (z_kd h_3 x0 = 21 ∧ (z_rc (z_or h_3 x0 5) False (fun x_5 => (z_kd h_3 x_5 = 1 ∧ vp_in x6 (z_ln h_3 x_5) ∧ (z_J G (d + 1) (m_X5_findSymmetric z_pu0) r) 16 [some (.ref x0), some (.ref x1), some (.ref x2), none, some (.int (x4 - x4 / x_2 * x_2)), some (.int (x5 ||| ((nI 1) <<< (x_4 &&& (nI 31))))), some (.int (x6 + (nI 1))), none, none] [] (z_pai h_3 x_5 (Int32.toNatClampNeg x6) x_4)))))))))) else (z_kd h x0 = 21 ∧ (z_rc (z_or h x0 5) (z_kd h x0 = 21 ∧ (z_rc (z_or h x0 8) False (fun x_7 => False))) (fun x_6 => (z_kd h x0 = 21 ∧ (z_rc (z_or h x0 8) False (fun x_8 => ((¬ (nI 0) < 0 ∧ ¬ (nI 0) < 0 ∧ ¬ (nI 8) < 0 ∧ (Int32.toNatClampNeg (nI 0)) + (Int32.toNatClampNeg (nI 8)) ≤ z_ln h x_6 ∧ (Int32.toNatClampNeg (nI 0)) + (Int32.toNatClampNeg (nI 8)) ≤ z_ln h x_8) ∧ ((z_kd h x_6 = 1 ∧ z_kd h x_8 = 1 ∧ r = (.inl none, z_pax h x_8 (va_cpy (z_ai h x_6) (z_ai h x_8) (Int32.toNatClampNeg (nI 0)) (Int32.toNatClampNeg (nI 0)) (Int32.toNatClampNeg (nI 8))))) ∨ (z_kd h x_6 = 2 ∧ z_kd h x_8 = 2 ∧ r = (.inl none, z_plx h x_8 (va_cpy (z_al h x_6) (z_al h x_8) (Int32.toNatClampNeg (nI 0)) (Int32.toNatClampNeg (nI 0)) (Int32.toNatClampNeg (nI 8)))))))))))))))) : (z_J G (d + 1) (m_X5_findSymmetric z_pu0) r) 16 [some (.ref x0), some (.ref x1), some (.ref x2), none, some (.int x4), some (.int x5), some (.int x6), none, none] [] h := z_bq (v_X5 z_pu0 (vP_X5_findSymmetric z_pu0) hPu) hd_X5_findSymmetric 40 hT
theorem en_X5_likeWays {pu : Nat → Option ((List Value → z_H → Prop) × (List Value → z_H → Int32))} {G : z_G} {d : Nat} {r : z_Res} {h : z_H} {x0 : Nat} {x1 : Nat} {x2 : Nat} (hJ : z_J G d (m_X5_likeWays pu) r 0 [some (.ref x0), some (.ref x1), some (.ref x2)] [] h) : z_Ev G d k_X5_likeWays [.ref x0, .ref x1, .ref x2] h r := z_enter (μ := m_X5_likeWays pu) rfl (by decide) rfl rfl (fun q => by cases q) (Nat.le_of_ble_eq_true rfl) hJ
def hd_X5_likeWays : Nat → Option (List Bool) := (fun k => none)
set_option maxRecDepth 20000 in
theorem b_X5_likeWays_0 {G : z_G} {d : Nat} {r : z_Res} (hPu : z_PuV G d (t_X5 z_pu0)) {h : z_H} {x0 : Nat} {x1 : Nat} {x2 : Nat} (hT : (z_kd h x1 = 24 ∧ (z_kd h x2 = 24 ∧ (if (z_oi h x1 0) = (z_oi h x2 0) then (z_kd h x1 = 24 ∧ (z_kd h x2 = 24 ∧ (if (z_oi h x1 1) = (z_oi h x2 1) then (z_kd h x0 = 21 ∧ ∃ h_1, z_Ev G d k_X5_begin [.ref x0, .ref x1, .ref x2, .int (nI 1)] h (.inl none, h_1) ∧ (z_kd h_1 x0 = 21 ∧ ∃ x_3 h_2, z_Ev G d k_X5_finish [.ref x0, .int (nI 0), .int (nI 0), .int (nI 0)] h_1 (.inl (some (.int x_3)), h_2) ∧ (if x_3 = (nI 0) then r = (.inl (some (.int (nI 0))), h_2) else (z_kd h_2 x0 = 21 ∧ ∃ o_5 h_4, z_Ev G d k_X5_measured [.ref x0, .ref x2] h_2 (.inl (some (va_rf o_5)), h_4) ∧ (z_rc o_5 False (fun x_6 => (z_kd h_4 x_6 = 1 ∧ vp_in (nI 0) (z_ln h_4 x_6) ∧ r = (.inl (some (.int (z_ai h_4 x_6 (Int32.toNatClampNeg (nI 0))))), h_4)))))))) else r = (.inl (some (.int (nI 0))), h)))) else r = (.inl (some (.int (nI 0))), h))))) : (z_J G (d + 1) (m_X5_likeWays z_pu0) r) 0 [some (.ref x0), some (.ref x1), some (.ref x2)] [] h := z_bq (v_X5 z_pu0 (vP_X5_likeWays z_pu0) hPu) hd_X5_likeWays 30 hT
theorem en_X5_dualities {pu : Nat → Option ((List Value → z_H → Prop) × (List Value → z_H → Int32))} {G : z_G} {d : Nat} {r : z_Res} {h : z_H} {x0 : Nat} {x1 : Nat} (hJ : z_J G d (m_X5_dualities pu) r 0 [some (.ref x0), some (.ref x1), none] [] h) : z_Ev G d k_X5_dualities [.ref x0, .ref x1] h r := z_enter (μ := m_X5_dualities pu) rfl (by decide) rfl rfl (fun q => by cases q) (Nat.le_of_ble_eq_true rfl) hJ
def hd_X5_dualities : Nat → Option (List Bool) := (fun k => none)
set_option maxRecDepth 20000 in
theorem b_X5_dualities_0 {G : z_G} {d : Nat} {r : z_Res} (hPu : z_PuV G d (t_X5 z_pu0)) {h : z_H} {x0 : Nat} {x1 : Nat} (hT : (z_kd h x1 = 24 ∧ ∃ o_2 h_1, z_Ev G d k_X8_turned [.ref x1] h (.inl (some (va_rf o_2)), h_1) ∧ (z_rc o_2 (r = (.inl (some (.int (nI 0))), h_1)) (fun x_3 => (z_kd h_1 x1 = 24 ∧ (z_kd h_1 x1 = 24 ∧ (if (z_oi h_1 x1 0) = (z_oi h_1 x1 1) then (z_kd h_1 x0 = 21 ∧ ∃ x_5 h_4, z_Ev G d k_X5_likeWays [.ref x0, .ref x1, .ref x_3] h_1 (.inl (some (.int x_5)), h_4) ∧ r = (.inl (some (.int x_5)), h_4)) else r = (.inl (some (.int (nI 0))), h_1)))))))) : (z_J G (d + 1) (m_X5_dualities z_pu0) r) 0 [some (.ref x0), some (.ref x1), none] [] h := z_bq (v_X5 z_pu0 (vP_X5_dualities z_pu0) hPu) hd_X5_dualities 17 hT
theorem en_X5_polarities {pu : Nat → Option ((List Value → z_H → Prop) × (List Value → z_H → Int32))} {G : z_G} {d : Nat} {r : z_Res} {h : z_H} {x0 : Nat} {x1 : Nat} (hJ : z_J G d (m_X5_polarities pu) r 0 [some (.ref x0), some (.ref x1), none] [] h) : z_Ev G d k_X5_polarities [.ref x0, .ref x1] h r := z_enter (μ := m_X5_polarities pu) rfl (by decide) rfl rfl (fun q => by cases q) (Nat.le_of_ble_eq_true rfl) hJ
def hd_X5_polarities : Nat → Option (List Bool) := (fun k => none)
set_option maxRecDepth 20000 in
theorem b_X5_polarities_0 {G : z_G} {d : Nat} {r : z_Res} (hPu : z_PuV G d (t_X5 z_pu0)) {h : z_H} {x0 : Nat} {x1 : Nat} (hT : (z_kd h x1 = 24 ∧ ∃ o_2 h_1, z_Ev G d k_X8_turned [.ref x1] h (.inl (some (va_rf o_2)), h_1) ∧ (z_rc o_2 (r = (.inl (some (.int (nI 0))), h_1)) (fun x_3 => (z_kd h_1 x1 = 24 ∧ (z_kd h_1 x1 = 24 ∧ (if (z_oi h_1 x1 0) = (z_oi h_1 x1 1) then (z_kd h_1 x_3 = 24 ∧ (z_kd h_1 x1 = 24 ∧ (if (z_oi h_1 x_3 1) = (z_oi h_1 x1 1) then (z_kd h_1 x0 = 21 ∧ ∃ h_4, z_Ev G d k_X5_begin [.ref x0, .ref x1, .ref x_3, .int (nI 1)] h_1 (.inl none, h_4) ∧ (z_kd h_4 x0 = 21 ∧ ∃ x_6 h_5, z_Ev G d k_X5_polaritiesFrom [.ref x0, .int (nI 0), .int (nI 0)] h_4 (.inl (some (.int x_6)), h_5) ∧ r = (.inl (some (.int x_6)), h_5))) else r = (.inl (some (.int (nI 0))), h_1)))) else r = (.inl (some (.int (nI 0))), h_1)))))))) : (z_J G (d + 1) (m_X5_polarities z_pu0) r) 0 [some (.ref x0), some (.ref x1), none] [] h := z_bq (v_X5 z_pu0 (vP_X5_polarities z_pu0) hPu) hd_X5_polarities 27 hT
theorem en_X5_firstWithin {pu : Nat → Option ((List Value → z_H → Prop) × (List Value → z_H → Int32))} {G : z_G} {d : Nat} {r : z_Res} {h : z_H} {x0 : Nat} {x1 : Nat} {x2 : Nat} {x3 : Int32} (hJ : z_J G d (m_X5_firstWithin pu) r 0 [some (.ref x0), some (.ref x1), some (.ref x2), some (.int x3)] [] h) : z_Ev G d k_X5_firstWithin [.ref x0, .ref x1, .ref x2, .int x3] h r := z_enter (μ := m_X5_firstWithin pu) rfl (by decide) rfl rfl (fun q => by cases q) (Nat.le_of_ble_eq_true rfl) hJ
def hd_X5_firstWithin : Nat → Option (List Bool) := (fun k => none)
set_option maxRecDepth 20000 in
theorem b_X5_firstWithin_0 {G : z_G} {d : Nat} {r : z_Res} (hPu : z_PuV G d (t_X5 z_pu0)) {h : z_H} {x0 : Nat} {x1 : Nat} {x2 : Nat} {x3 : Int32} (hT : (z_kd h x0 = 21 ∧ ∃ x_2 h_1, z_Ev G d k_X5_withinWays [.ref x0, .ref x1, .ref x2] h (.inl (some (.int x_2)), h_1) ∧ (if x_2 = (nI 0) then r = (.inl (some (.int mI)), h_1) else (z_kd h_1 x0 = 21 ∧ (z_rc (z_or h_1 x0 12) False (fun x_3 => (z_kd h_1 x_3 = 1 ∧ vp_in x3 (z_ln h_1 x_3) ∧ r = (.inl (some (.int (z_ai h_1 x_3 (Int32.toNatClampNeg x3)))), h_1)))))))) : (z_J G (d + 1) (m_X5_firstWithin z_pu0) r) 0 [some (.ref x0), some (.ref x1), some (.ref x2), some (.int x3)] [] h := z_bq (v_X5 z_pu0 (vP_X5_firstWithin z_pu0) hPu) hd_X5_firstWithin 12 hT
/-! the matcher: its beginning -/
def mX (L a : Nat) : Prop := L + 21 ≤ a ∧ a < L + 25
theorem mX_hl {L a : Nat} (h : mX L a) : hl L a := by unfold mX at h; unfold hl; omega
/-- the matcher's shape -/
def ms (L : Nat) (h : z_H) : Prop := z_kd h (L + 21) = 21 ∧ (z_or h (L + 21) 5 = some (L + 22) ∧ z_kd h (L + 22) = 1 ∧ z_ln h (L + 22) = 8) ∧ (z_or h (L + 21) 8 = some (L + 23) ∧ z_kd h (L + 23) = 1 ∧ z_ln h (L + 23) = 8) ∧ (z_or h (L + 21) 12 = some (L + 24) ∧ z_kd h (L + 24) = 1 ∧ z_ln h (L + 24) = 8)
/-- what the beginning leaves -/
def tq (mt : Nat) (h h' : z_H) : Prop := (z_n h ≤ z_n h' ∧ ∀ x, z_n h ≤ x → z_kd h' x = 24 → z_kd h x = 24) ∧ ∀ x, x < z_n h → z_kd h' x = z_kd h x ∧ z_ln h' x = z_ln h x ∧ z_ai h' x = z_ai h x ∧ z_al h' x = z_al h x ∧ z_ar h' x = z_ar h x ∧ (∀ k, (x = mt ∧ k < 4) ∨ (x ≠ mt ∧ k = 13 ∧ ∃ a, z_or h' x k = some a ∧ z_n h ≤ a) ∨ z_or h' x k = z_or h x k) ∧ ∀ k, (x = mt ∧ k = 4) ∨ z_oi h' x k = z_oi h x k
section GD
variable {V : CV} {G : z_G} {d L mt q b q1 b1 q2 b2 : Nat} {h h' h'' : z_H} {S F T : Sc}
theorem tq_refl (h : z_H) : tq mt h h := ⟨⟨Nat.le_refl _, fun _ _ e => e⟩, fun x _ => ⟨rfl, rfl, rfl, rfl, rfl, fun k => Or.inr (Or.inr rfl), fun k => Or.inr rfl⟩⟩
theorem tq_trans (e1 : tq mt h h') (e2 : tq mt h' h'') : tq mt h h'' := by
  refine ⟨⟨Nat.le_trans e1.1.1 e2.1.1, fun x hx hk => ?_⟩, fun x hx => ?_⟩
  · rcases Nat.lt_or_ge x (z_n h') with c | c
    · exact e1.1.2 x hx ((e2.2 x c).1 ▸ hk)
    · exact e1.1.2 x hx (e2.1.2 x c hk)
  obtain ⟨a1, a2, a3, a4, a5, a6, a7⟩ := e1.2 x hx
  obtain ⟨c1, c2, c3, c4, c5, c6, c7⟩ := e2.2 x (Nat.lt_of_lt_of_le hx e1.1.1)
  refine ⟨c1.trans a1, c2.trans a2, c3.trans a3, c4.trans a4, c5.trans a5, fun k => ?_, fun k => ?_⟩
  · rcases a6 k with c | c | c
    · exact Or.inl c
    · rcases c6 k with e | e | e
      · exact Or.inl e
      · obtain ⟨f1, f2, y, f3, f4⟩ := e
        exact Or.inr (Or.inl ⟨f1, f2, y, f3, Nat.le_trans e1.1.1 f4⟩)
      · obtain ⟨f1, f2, y, f3, f4⟩ := c
        exact Or.inr (Or.inl ⟨f1, f2, y, e.trans f3, f4⟩)
    · rcases c6 k with e | e | e
      · exact Or.inl e
      · obtain ⟨f1, f2, y, f3, f4⟩ := e
        exact Or.inr (Or.inl ⟨f1, f2, y, f3, Nat.le_trans e1.1.1 f4⟩)
      · exact Or.inr (Or.inr (e.trans c))
  · rcases a7 k with c | c
    · exact Or.inl c
    · rcases c7 k with e | e
      · exact Or.inl e
      · exact Or.inr (e.trans c)
theorem tq_por {k : Nat} (hk : k < 4) (v : Option Nat) : tq mt h (z_por h mt k v) := ⟨⟨Nat.le_refl _, fun _ _ e => e⟩, fun x _ => ⟨rfl, rfl, rfl, rfl, rfl, fun j => by
  by_cases c : x = mt ∧ j = k
  · left; exact ⟨c.1, by omega⟩
  · right; right
    show z_u (z_or h) mt (z_u (z_or h mt) k v) x j = _
    by_cases e : x = mt
    · subst e; rw [u_eq, u_ne _ _ (fun f => c ⟨rfl, f⟩)]
    · rw [u_ne _ _ e], fun j => Or.inr rfl⟩⟩
theorem tq_poi (v : Int32) : tq mt h (z_poi h mt 4 v) := ⟨⟨Nat.le_refl _, fun _ _ e => e⟩, fun x _ => ⟨rfl, rfl, rfl, rfl, rfl, fun j => Or.inr (Or.inr rfl), fun j => by
  by_cases c : x = mt ∧ j = 4
  · left; exact c
  · right
    show z_u (z_oi h) mt (z_u (z_oi h mt) 4 v) x j = _
    by_cases e : x = mt
    · subst e; rw [u_eq, u_ne _ _ (fun f => c ⟨rfl, f⟩)]
    · rw [u_ne _ _ e]⟩⟩
theorem tq_tw {f : Nat → Int32} (hq : q ≠ mt) : tq mt h (z_por (z_nwi h 1 8 f) q 13 (some (z_n h))) := ⟨⟨Nat.le_succ _, fun _ _ e => u_new (by decide) e⟩, fun x hx => ⟨u_ne _ _ (by omega), u_ne _ _ (by omega), u_ne _ _ (by omega), rfl, rfl, fun j => by
  by_cases c : x = q ∧ j = 13
  · right; left; refine ⟨by rw [c.1]; exact hq, c.2, z_n h, ?_, Nat.le_refl _⟩
    show z_u (z_or h) q (z_u (z_or h q) 13 (some (z_n h))) x j = _
    rw [c.1, c.2, u_eq, u_eq]
  · right; right
    show z_u (z_or h) q (z_u (z_or h q) 13 (some (z_n h))) x j = _
    by_cases e : x = q
    · subst e; rw [u_eq, u_ne _ _ (fun f => c ⟨rfl, f⟩)]
    · rw [u_ne _ _ e], fun j => Or.inr rfl⟩⟩
theorem tq_ms (hL : L + 75 ≤ z_n h) (e : tq (L + 21) h h') (hm : ms L h) : ms L h' := by
  obtain ⟨m0, ⟨m1, m2, m3⟩, ⟨m4, m5, m6⟩, m7, m8, m9⟩ := hm
  have o : ∀ k, 4 ≤ k → z_or h' (L + 21) k = z_or h (L + 21) k := fun k hk => by
    rcases (e.2 (L + 21) (by omega)).2.2.2.2.2.1 k with c | c | c
    · omega
    · exact absurd rfl c.1
    · exact c
  exact ⟨by rw [(e.2 (L + 21) (by omega)).1]; exact m0, ⟨by rw [o 5 (by omega)]; exact m1, by rw [(e.2 (L + 22) (by omega)).1]; exact m2, by rw [(e.2 (L + 22) (by omega)).2.1]; exact m3⟩, ⟨by rw [o 8 (by omega)]; exact m4, by rw [(e.2 (L + 23) (by omega)).1]; exact m5, by rw [(e.2 (L + 23) (by omega)).2.1]; exact m6⟩, by rw [o 12 (by omega)]; exact m7, by rw [(e.2 (L + 24) (by omega)).1]; exact m8, by rw [(e.2 (L + 24) (by omega)).2.1]; exact m9⟩
/-- twins, as the beginning sees them -/
theorem b_tw (hI : inv V L h) (hL : L + 75 ≤ z_n h) (hV : ∀ p, p < 8 → V 13 S p = nI (g_twT S p)) (hA : sc_at q b h S) : ∃ h' a, z_Ev G (d + 6) k_X8_twins [.ref q] h (.inl (some (va_rf (some a))), h') ∧ inv V L h' ∧ ex (mX L) 1 8 h h' ∧ tq (L + 21) h h' ∧ fr L h' a ∧ z_kd h' a = 1 ∧ z_ln h' a = 8 ∧ (∀ p, p < 8 → z_ai h' a p = nI (g_twT S p)) ∧ (∀ k, z_or h' (L + 21) k = z_or h (L + 21) k) := by
  obtain ⟨h', a, ev, i', e', ea, hh⟩ := e8_twins (G := G) (d := d) (X := mX L) (fun _ hx => mX_hl hx) hI hL hV hA
  have hA' := ex_sc hI (fun _ hx => mX_hl hx) e' hA
  obtain ⟨c1, c2, c3, c4⟩ := (inv_k i' hA').2.2.2.1 13 (by omega) a ea
  have hq : q ≠ L + 21 := fun e => by
    have := (inv_k hI hA).2.1.2.2.2 q (Nat.le_refl _) (by have := (inv_k hI hA).2.1.1; omega)
    apply this
    unfold hl; omega
  refine ⟨h', a, ev, i', e', ?_, c1, c2, c3, fun p hp => by rw [c4 p hp]; exact hV p hp, fun k => ?_⟩
  · rcases hh with rfl | rfl
    · exact tq_refl _
    · exact tq_tw hq
  · rcases hh with rfl | rfl
    · rfl
    · show z_u (z_or h) q (z_u (z_or h q) 13 (some (z_n h))) (L + 21) k = _
      rw [u_ne _ _ (fun e => hq e.symm)]
theorem e5_begin (hI : inv V L h) (hL : L + 75 ≤ z_n h) (hm : ms L h) (hVF : ∀ p, p < 8 → V 13 F p = nI (g_twT F p)) (hVT : ∀ p, p < 8 → V 13 T p = nI (g_twT T p)) (hF : sc_at q1 b1 h F) (hT : sc_at q2 b2 h T) (ex0 : Bool) : ∃ h' af at', z_Ev G (d + 7) k_X5_begin [.ref (L + 21), .ref q1, .ref q2, .int (nI ex0.toNat)] h (.inl none, h') ∧ inv V L h' ∧ ex (mX L) 2 16 h h' ∧ tq (L + 21) h h' ∧ mw (L + 21) (L + 22) q1 b1 q2 b2 af at' ex0 h' F T ∧ fr L h' af ∧ fr L h' at' := by
  have hX : ∀ a, mX L a → hl L a := fun _ hx => mX_hl hx
  have mx : mX L (L + 21) := ⟨by omega, by omega⟩
  -- the two schemes are set
  obtain ⟨g1, eg1⟩ : ∃ g, g = z_por (z_por h (L + 21) 0 (some q1)) (L + 21) 1 (some q2) := ⟨_, rfl⟩
  have x1 : xt (mX L) h g1 := by rw [eg1]; exact xt_trans (xt_por 0 _ mx) (xt_por 1 _ mx)
  have I1 := inv_xt hI hX x1
  have e1 : ex (mX L) 0 0 h g1 := xt_ex x1 (by rw [eg1]; exact Nat.le_refl _) (by rw [eg1]; exact Nat.le_refl _)
  have t1 : tq (L + 21) h g1 := by rw [eg1]; exact tq_trans (tq_por (by omega) _) (tq_por (by omega) _)
  have F1 := ex_sc hI hX e1 hF
  have T1 := ex_sc hI hX e1 hT
  have L1 : L + 75 ≤ z_n g1 := Nat.le_trans hL e1.1.1
  obtain ⟨g2, a1, ev1, I2, e2, t2, f2, k2, l2, c2, s2⟩ := b_tw (G := G) (d := d) I1 L1 hVF F1
  have L2 : L + 75 ≤ z_n g2 := Nat.le_trans L1 e2.1.1
  -- its twins
  obtain ⟨g3, eg3⟩ : ∃ g, g = z_por g2 (L + 21) 2 (some a1) := ⟨_, rfl⟩
  have x3 : xt (mX L) g2 g3 := by rw [eg3]; exact xt_por 2 _ mx
  have I3 := inv_xt I2 hX x3
  have e3 : ex (mX L) 0 0 g2 g3 := xt_ex x3 (by rw [eg3]; exact Nat.le_refl _) (by rw [eg3]; exact Nat.le_refl _)
  have t3 : tq (L + 21) g2 g3 := by rw [eg3]; exact tq_por (by omega) _
  have L3 : L + 75 ≤ z_n g3 := Nat.le_trans L2 e3.1.1
  have T3 := ex_sc I2 hX e3 (ex_sc I1 hX e2 T1)
  obtain ⟨g4, a2, ev2, I4, e4, t4, f4, k4, l4, c4, s4⟩ := b_tw (G := G) (d := d) I3 L3 hVT T3
  have L4 : L + 75 ≤ z_n g4 := Nat.le_trans L3 e4.1.1
  obtain ⟨g5, eg5⟩ : ∃ g, g = z_poi (z_por g4 (L + 21) 3 (some a2)) (L + 21) 4 (nI ex0.toNat) := ⟨_, rfl⟩
  have x5 : xt (mX L) g4 g5 := by rw [eg5]; exact xt_trans (xt_por 3 _ mx) (xt_poi 4 _ mx)
  have I5 := inv_xt I4 hX x5
  have e5 : ex (mX L) 0 0 g4 g5 := xt_ex x5 (by rw [eg5]; exact Nat.le_refl _) (by rw [eg5]; exact Nat.le_refl _)
  have t5 : tq (L + 21) g4 g5 := by rw [eg5]; exact tq_trans (tq_por (by omega) _) (tq_poi _)
  have E2 := ex_trans hI I1 hX e1 e2
  have E3 := ex_trans hI I2 hX E2 e3
  have E4 := ex_trans hI I3 hX E3 e4
  have E5 := ex_trans hI I4 hX E4 e5
  have TQ := tq_trans t1 (tq_trans t2 (tq_trans t3 (tq_trans t4 t5)))
  have m5 := tq_ms hL TQ hm
  have F5 := ex_sc hI hX E5 hF
  have T5 := ex_sc hI hX E5 hT
  -- the twins' rows stay
  have fa := ex_fr I2 hX (ex_trans I2 I4 hX (ex_trans I2 I3 hX e3 e4) e5) f2
  have fb := ex_fr I4 hX e5 f4
  have kq1 : z_kd g1 (L + 21) = 21 := by rw [(t1.2 (L + 21) (by omega)).1]; exact hm.1
  have kq2 : z_kd g2 (L + 21) = 21 := by rw [(t2.2 (L + 21) (by omega)).1]; exact kq1
  have kq4 : z_kd g4 (L + 21) = 21 := by rw [(t4.2 (L + 21) (by omega)).1, (t3.2 (L + 21) (by omega)).1]; exact kq2
  have o4 : ∀ k, k < 3 → z_or g5 (L + 21) k = z_or g4 (L + 21) k := fun k hk => by
    rw [eg5]
    show z_u (z_or g4) (L + 21) (z_u (z_or g4 (L + 21)) 3 (some a2)) (L + 21) k = _
    rw [u_eq, u_ne _ _ (by omega)]
  have o2 : ∀ k, k < 2 → z_or g3 (L + 21) k = z_or g1 (L + 21) k := fun k hk => by
    rw [eg3]
    show z_u (z_or g2) (L + 21) (z_u (z_or g2 (L + 21)) 2 (some a1)) (L + 21) k = _
    rw [u_eq, u_ne _ _ (by omega), s2]
  have hk1 := inv_k I5 F5
  have hk2 := inv_k I5 T5
  have hh22 : hl L (L + 22) := by unfold hl; omega
  have b22 : ∀ q b, blk L q b g5 → L + 22 < b ∨ b + 8 ≤ L + 22 := fun q b hb => by
    apply Classical.byContradiction
    intro n
    exact hb.2.2.2 (L + 22) (by have := hb.1; omega) (by omega) hh22
  refine ⟨g5, a1, a2, en_X5_begin (b_X5_begin_0 (z_pu0V rfl) ?_), I5, ex_mono E5 (by omega) (by omega), TQ, ⟨⟨m5.1, ?_, ?_, ⟨?_, by rw [fa.2.1]; exact k2, by rw [fa.2.2.1]; exact l2, fun p hp => by rw [fa.2.2.2.2.2.1]; exact c2 p hp⟩, ⟨?_, by rw [fb.2.1]; exact k4, by rw [fb.2.2.1]; exact l4, fun p hp => by rw [fb.2.2.2.2.2.1]; exact c4 p hp⟩, ?_, m5.2.1⟩, F5, T5, ?_, ?_, ?_, ?_⟩, fa.1, fb.1⟩
  · rw [← eg1]
    refine ⟨hm.1, hm.1, y_kd F1, _, _, ev1, ?_⟩
    rw [z_rcs, ← eg3]
    refine ⟨kq2, by exact y_kd T3, _, _, ev2, ?_⟩
    rw [z_rcs, ← eg5]
    exact ⟨kq4, kq4, a_bz ex0, rfl⟩
  · rw [o4 0 (by omega), s4, o2 0 (by omega), eg1]
    show z_u (z_u (z_or h) (L + 21) (z_u (z_or h (L + 21)) 0 (some q1))) (L + 21) (z_u (z_u (z_or h) (L + 21) (z_u (z_or h (L + 21)) 0 (some q1)) (L + 21)) 1 (some q2)) (L + 21) 0 = _
    rw [u_eq, u_ne _ _ (by omega), u_eq, u_eq]
  · rw [o4 1 (by omega), s4, o2 1 (by omega), eg1]
    show z_u (z_u (z_or h) (L + 21) (z_u (z_or h (L + 21)) 0 (some q1))) (L + 21) (z_u (z_u (z_or h) (L + 21) (z_u (z_or h (L + 21)) 0 (some q1)) (L + 21)) 1 (some q2)) (L + 21) 1 = _
    rw [u_eq, u_eq]
  · rw [o4 2 (by omega), s4, eg3]
    show z_u (z_or g2) (L + 21) (z_u (z_or g2 (L + 21)) 2 (some a1)) (L + 21) 2 = _
    rw [u_eq, u_eq]
  · rw [eg5]
    show z_u (z_or g4) (L + 21) (z_u (z_or g4 (L + 21)) 3 (some a2)) (L + 21) 3 = _
    rw [u_eq, u_eq]
  · rw [eg5]
    show z_u (z_oi g4) (L + 21) (z_u (z_oi g4 (L + 21)) 4 (nI ex0.toNat)) (L + 21) 4 = _
    rw [u_eq, u_eq]
  · exact fun e => fa.1.2.1 (e ▸ hh22)
  · exact fun e => fb.1.2.1 (e ▸ hh22)
  · exact b22 _ _ hk1.2.1
  · exact b22 _ _ hk2.2.1
end GD
