theorem en_X12_draws {pu : Nat → Option ((List Value → z_H → Prop) × (List Value → z_H → Int32))} {G : z_G} {d : Nat} {r : z_Res} {h : z_H} {x0 : Nat} {x1 : Int32} {x2 : Int32} (hJ : z_J G d (m_X12_draws pu) r 0 [some (.ref x0), some (.int x1), some (.int x2), none] [] h) : z_Ev G d k_X12_draws [.ref x0, .int x1, .int x2] h r := z_enter (μ := m_X12_draws pu) rfl (by decide) rfl rfl (fun q => by cases q) (Nat.le_of_ble_eq_true rfl) hJ
def hd_X12_draws : Nat → Option (List Bool) := (fun k => (cond (Nat.blt k 102) (cond (Nat.blt k 53) (cond (Nat.beq k 10) (some [true, true, false, true]) none) (cond (Nat.beq k 53) (some [true, true, true, true]) none)) none))
set_option maxRecDepth 20000 in
theorem b_X12_draws_0 {G : z_G} {d : Nat} {r : z_Res} (hPu : z_PuV G d (t_X12 z_puC)) {h : z_H} {x0 : Nat} {x1 : Int32} {x2 : Int32} (hT : (z_kd h x0 = 28 ∧ s_X12_points x0 h ∧ (if x1 = (f_X12_points x0 h) then (z_J G (d + 1) (m_X12_draws z_puC) r) 10 [some (.ref x0), some (.int x1), none, some (.int (nI 0))] [] h else (z_J G (d + 1) (m_X12_draws z_puC) r) 53 [some (.ref x0), some (.int x1), some (.int x2), some (.int (nI 0))] [] h))) : (z_J G (d + 1) (m_X12_draws z_puC) r) 0 [some (.ref x0), some (.int x1), some (.int x2), none] [] h := z_bq (v_X12 z_puC (vP_X12_draws z_puC) hPu) hd_X12_draws 9 hT
set_option maxRecDepth 20000 in
theorem b_X12_draws_10 {G : z_G} {d : Nat} {r : z_Res} (hPu : z_PuV G d (t_X12 z_puC)) {h : z_H} {x0 : Nat} {x1 : Int32} {x3 : Int32} (hT : (if x3 < x1 then (z_kd h x0 = 28 ∧ (if (z_oi h x0 39) = (nI 0) then (z_kd h x0 = 28 ∧ (z_rc (z_or h x0 33) (z_kd h x0 = 28 ∧ (z_rc (z_or h x0 32) False (fun x_2 => (z_kd h x_2 = 1 ∧ vp_in x3 (z_ln h x_2) ∧ False)))) (fun x_1 => (z_kd h x0 = 28 ∧ (z_rc (z_or h x0 32) False (fun x_3 => (z_kd h x_3 = 1 ∧ vp_in x3 (z_ln h x_3) ∧ (z_kd h x_1 = 1 ∧ vp_in x3 (z_ln h x_1) ∧ (z_J G (d + 1) (m_X12_draws z_puC) r) 10 [some (.ref x0), some (.int x1), none, some (.int (x3 + (nI 1)))] [] (z_pai h x_1 (Int32.toNatClampNeg x3) (z_ai h x_3 (Int32.toNatClampNeg x3))))))))))) else (z_kd h x0 = 28 ∧ (z_kd h x0 = 28 ∧ r = (.inl none, z_poi h x0 39 ((z_oi h x0 39) + (nI 1))))))) else (z_kd h x0 = 28 ∧ (z_kd h x0 = 28 ∧ r = (.inl none, z_poi h x0 39 ((z_oi h x0 39) + (nI 1))))))) : (z_J G (d + 1) (m_X12_draws z_puC) r) 10 [some (.ref x0), some (.int x1), none, some (.int x3)] [] h := z_bq (v_X12 z_puC (vP_X12_draws z_puC) hPu) hd_X12_draws 19 hT
set_option maxRecDepth 20000 in
theorem b_X12_draws_53 {G : z_G} {d : Nat} {r : z_Res} (hPu : z_PuV G d (t_X12 z_puC)) {h : z_H} {x0 : Nat} {x1 : Int32} {x2 : Int32} {x3 : Int32} (hT : (z_kd h x0 = 28 ∧ (if x3 < (z_oi h x0 37) then (if x2 = (nI 0) then (z_kd h x0 = 28 ∧ (z_rc (z_or h x0 32) False (fun x_1 => (z_kd h x_1 = 1 ∧ vp_in x1 (z_ln h x_1) ∧ (z_kd (z_pai h x_1 (Int32.toNatClampNeg x1) x3) x0 = 28 ∧ ∃ x_3 h_2, z_Ev G d k_X12_fitsWith [.ref x0, .int x1] (z_pai h x_1 (Int32.toNatClampNeg x1) x3) (.inl (some (.int x_3)), h_2) ∧ (if x_3 = (nI 0) then (z_J G (d + 1) (m_X12_draws z_puC) r) 53 [some (.ref x0), some (.int x1), some (.int x2), some (.int (x3 + (nI 1)))] [] h_2 else (z_kd h_2 x0 = 28 ∧ ∃ h_4, z_Ev G d k_X12_draws [.ref x0, .int (x1 + (nI 1)), .int x2] h_2 (.inl none, h_4) ∧ (z_J G (d + 1) (m_X12_draws z_puC) r) 53 [some (.ref x0), some (.int x1), some (.int x2), some (.int (x3 + (nI 1)))] [] h_4))))))) else (z_kd h x0 = 28 ∧ (if (nI 0) < (z_oi h x0 39) then r = (.inl none, h) else (z_kd h x0 = 28 ∧ (z_rc (z_or h x0 32) False (fun x_5 => (z_kd h x_5 = 1 ∧ vp_in x1 (z_ln h x_5) ∧ (z_kd (z_pai h x_5 (Int32.toNatClampNeg x1) x3) x0 = 28 ∧ ∃ x_7 h_6, z_Ev G d k_X12_fitsWith [.ref x0, .int x1] (z_pai h x_5 (Int32.toNatClampNeg x1) x3) (.inl (some (.int x_7)), h_6) ∧ (if x_7 = (nI 0) then (z_J G (d + 1) (m_X12_draws z_puC) r) 53 [some (.ref x0), some (.int x1), some (.int x2), some (.int (x3 + (nI 1)))] [] h_6 else (z_kd h_6 x0 = 28 ∧ ∃ h_8, z_Ev G d k_X12_draws [.ref x0, .int (x1 + (nI 1)), .int x2] h_6 (.inl none, h_8) ∧ (z_J G (d + 1) (m_X12_draws z_puC) r) 53 [some (.ref x0), some (.int x1), some (.int x2), some (.int (x3 + (nI 1)))] [] h_8)))))))))) else r = (.inl none, h)))) : (z_J G (d + 1) (m_X12_draws z_puC) r) 53 [some (.ref x0), some (.int x1), some (.int x2), some (.int x3)] [] h := z_bq (v_X12 z_puC (vP_X12_draws z_puC) hPu) hd_X12_draws 29 hT
theorem en_X12_layPlace {pu : Nat → Option ((List Value → z_H → Prop) × (List Value → z_H → Int32))} {G : z_G} {d : Nat} {r : z_Res} {h : z_H} {x0 : Nat} {x1 : Int32} {x2 : Int32} {x3 : Int32} (hJ : z_J G d (m_X12_layPlace pu) r 0 [some (.ref x0), some (.int x1), some (.int x2), some (.int x3)] [] h) : z_Ev G d k_X12_layPlace [.ref x0, .int x1, .int x2, .int x3] h r := z_enter (μ := m_X12_layPlace pu) rfl (by decide) rfl rfl (fun q => by cases q) (Nat.le_of_ble_eq_true rfl) hJ
def hd_X12_layPlace : Nat → Option (List Bool) := (fun k => none)
set_option maxRecDepth 20000 in
theorem b_X12_layPlace_0 {G : z_G} {d : Nat} {r : z_Res} (hPu : z_PuV G d (t_X12 z_puC)) {h : z_H} {x0 : Nat} {x1 : Int32} {x2 : Int32} {x3 : Int32} (hT : (z_kd h x0 = 28 ∧ (z_rc (z_or h x0 34) (z_kd h x0 = 28 ∧ False) (fun x_1 => (z_kd h x0 = 28 ∧ (z_kd h x_1 = 1 ∧ vp_in (z_oi h x0 37) (z_ln h x_1) ∧ (z_kd (z_pai h x_1 (Int32.toNatClampNeg (z_oi h x0 37)) x1) x0 = 28 ∧ (z_rc (z_or (z_pai h x_1 (Int32.toNatClampNeg (z_oi h x0 37)) x1) x0 35) (z_kd (z_pai h x_1 (Int32.toNatClampNeg (z_oi h x0 37)) x1) x0 = 28 ∧ False) (fun x_2 => (z_kd (z_pai h x_1 (Int32.toNatClampNeg (z_oi h x0 37)) x1) x0 = 28 ∧ (z_kd (z_pai h x_1 (Int32.toNatClampNeg (z_oi h x0 37)) x1) x_2 = 1 ∧ vp_in (z_oi (z_pai h x_1 (Int32.toNatClampNeg (z_oi h x0 37)) x1) x0 37) (z_ln (z_pai h x_1 (Int32.toNatClampNeg (z_oi h x0 37)) x1) x_2) ∧ (z_kd (z_pai (z_pai h x_1 (Int32.toNatClampNeg (z_oi h x0 37)) x1) x_2 (Int32.toNatClampNeg (z_oi (z_pai h x_1 (Int32.toNatClampNeg (z_oi h x0 37)) x1) x0 37)) x2) x0 = 28 ∧ (z_rc (z_or (z_pai (z_pai h x_1 (Int32.toNatClampNeg (z_oi h x0 37)) x1) x_2 (Int32.toNatClampNeg (z_oi (z_pai h x_1 (Int32.toNatClampNeg (z_oi h x0 37)) x1) x0 37)) x2) x0 36) (z_kd (z_pai (z_pai h x_1 (Int32.toNatClampNeg (z_oi h x0 37)) x1) x_2 (Int32.toNatClampNeg (z_oi (z_pai h x_1 (Int32.toNatClampNeg (z_oi h x0 37)) x1) x0 37)) x2) x0 = 28 ∧ False) (fun x_3 => (z_kd (z_pai (z_pai h x_1 (Int32.toNatClampNeg (z_oi h x0 37)) x1) x_2 (Int32.toNatClampNeg (z_oi (z_pai h x_1 (Int32.toNatClampNeg (z_oi h x0 37)) x1) x0 37)) x2) x0 = 28 ∧ (z_kd (z_pai (z_pai h x_1 (Int32.toNatClampNeg (z_oi h x0 37)) x1) x_2 (Int32.toNatClampNeg (z_oi (z_pai h x_1 (Int32.toNatClampNeg (z_oi h x0 37)) x1) x0 37)) x2) x_3 = 1 ∧ vp_in (z_oi (z_pai (z_pai h x_1 (Int32.toNatClampNeg (z_oi h x0 37)) x1) x_2 (Int32.toNatClampNeg (z_oi (z_pai h x_1 (Int32.toNatClampNeg (z_oi h x0 37)) x1) x0 37)) x2) x0 37) (z_ln (z_pai (z_pai h x_1 (Int32.toNatClampNeg (z_oi h x0 37)) x1) x_2 (Int32.toNatClampNeg (z_oi (z_pai h x_1 (Int32.toNatClampNeg (z_oi h x0 37)) x1) x0 37)) x2) x_3) ∧ (z_kd (z_pai (z_pai (z_pai h x_1 (Int32.toNatClampNeg (z_oi h x0 37)) x1) x_2 (Int32.toNatClampNeg (z_oi (z_pai h x_1 (Int32.toNatClampNeg (z_oi h x0 37)) x1) x0 37)) x2) x_3 (Int32.toNatClampNeg (z_oi (z_pai (z_pai h x_1 (Int32.toNatClampNeg (z_oi h x0 37)) x1) x_2 (Int32.toNatClampNeg (z_oi (z_pai h x_1 (Int32.toNatClampNeg (z_oi h x0 37)) x1) x0 37)) x2) x0 37)) x3) x0 = 28 ∧ (z_kd (z_pai (z_pai (z_pai h x_1 (Int32.toNatClampNeg (z_oi h x0 37)) x1) x_2 (Int32.toNatClampNeg (z_oi (z_pai h x_1 (Int32.toNatClampNeg (z_oi h x0 37)) x1) x0 37)) x2) x_3 (Int32.toNatClampNeg (z_oi (z_pai (z_pai h x_1 (Int32.toNatClampNeg (z_oi h x0 37)) x1) x_2 (Int32.toNatClampNeg (z_oi (z_pai h x_1 (Int32.toNatClampNeg (z_oi h x0 37)) x1) x0 37)) x2) x0 37)) x3) x0 = 28 ∧ r = (.inl none, z_poi (z_pai (z_pai (z_pai h x_1 (Int32.toNatClampNeg (z_oi h x0 37)) x1) x_2 (Int32.toNatClampNeg (z_oi (z_pai h x_1 (Int32.toNatClampNeg (z_oi h x0 37)) x1) x0 37)) x2) x_3 (Int32.toNatClampNeg (z_oi (z_pai (z_pai h x_1 (Int32.toNatClampNeg (z_oi h x0 37)) x1) x_2 (Int32.toNatClampNeg (z_oi (z_pai h x_1 (Int32.toNatClampNeg (z_oi h x0 37)) x1) x0 37)) x2) x0 37)) x3) x0 37 ((z_oi (z_pai (z_pai (z_pai h x_1 (Int32.toNatClampNeg (z_oi h x0 37)) x1) x_2 (Int32.toNatClampNeg (z_oi (z_pai h x_1 (Int32.toNatClampNeg (z_oi h x0 37)) x1) x0 37)) x2) x_3 (Int32.toNatClampNeg (z_oi (z_pai (z_pai h x_1 (Int32.toNatClampNeg (z_oi h x0 37)) x1) x_2 (Int32.toNatClampNeg (z_oi (z_pai h x_1 (Int32.toNatClampNeg (z_oi h x0 37)) x1) x0 37)) x2) x0 37)) x3) x0 37) + (nI 1))))))))))))))))))))) : (z_J G (d + 1) (m_X12_layPlace z_puC) r) 0 [some (.ref x0), some (.int x1), some (.int x2), some (.int x3)] [] h := z_bq (v_X12 z_puC (vP_X12_layPlace z_puC) hPu) hd_X12_layPlace 27 hT
theorem en_X12_square {pu : Nat → Option ((List Value → z_H → Prop) × (List Value → z_H → Int32))} {G : z_G} {d : Nat} {r : z_Res} {h : z_H} {x0 : Nat} {x1 : Int32} {x2 : Int32} (hJ : z_J G d (m_X12_square pu) r 0 [some (.ref x0), some (.int x1), some (.int x2), none, none] [] h) : z_Ev G d k_X12_square [.ref x0, .int x1, .int x2] h r := z_enter (μ := m_X12_square pu) rfl (by decide) rfl rfl (fun q => by cases q) (Nat.le_of_ble_eq_true rfl) hJ
def hd_X12_square : Nat → Option (List Bool) := (fun k => (cond (Nat.blt k 109) (cond (Nat.blt k 54) (cond (Nat.beq k 46) (some [true, true, true, true, false]) none) (cond (Nat.beq k 54) (some [true, true, true, true, true]) none)) none))
set_option maxRecDepth 20000 in
theorem b_X12_square_0 {G : z_G} {d : Nat} {r : z_Res} (hPu : z_PuV G d (t_X12 z_puC)) {h : z_H} {x0 : Nat} {x1 : Int32} {x2 : Int32} (hT : (z_kd h x0 = 28 ∧ (z_kd (z_poi h x0 0 (nI 0)) x0 = 28 ∧ s_X12_isPoint x0 x2 (z_poi h x0 0 (nI 0)) ∧ (if (f_X12_isPoint x0 x2 (z_poi h x0 0 (nI 0))) = (nI 0) then (z_kd (z_poi h x0 0 (nI 0)) x0 = 28 ∧ ∃ x_2 h_1, z_Ev G d k_X12_fail [.ref x0, .int (nI 1)] (z_poi h x0 0 (nI 0)) (.inl (some (.int x_2)), h_1) ∧ r = (.inl (some (.int x_2)), h_1)) else (s_X12_isIn x1 (nI 2) (nI 4) (z_poi h x0 0 (nI 0)) ∧ (if (f_X12_isIn x1 (nI 2) (nI 4) (z_poi h x0 0 (nI 0))) = (nI 0) then (z_kd (z_poi h x0 0 (nI 0)) x0 = 28 ∧ ∃ x_4 h_3, z_Ev G d k_X12_fail [.ref x0, .int (nI 2)] (z_poi h x0 0 (nI 0)) (.inl (some (.int x_4)), h_3) ∧ r = (.inl (some (.int x_4)), h_3)) else (z_kd (z_poi h x0 0 (nI 0)) x0 = 28 ∧ (z_kd (z_poi (z_poi h x0 0 (nI 0)) x0 37 (nI 0)) x0 = 28 ∧ (z_J G (d + 1) (m_X12_square z_puC) r) 46 [some (.ref x0), some (.int x1), some (.int x2), some (.int (nI 0)), none] [] (z_poi (z_poi (z_poi h x0 0 (nI 0)) x0 37 (nI 0)) x0 38 (nI 0)))))))))) : (z_J G (d + 1) (m_X12_square z_puC) r) 0 [some (.ref x0), some (.int x1), some (.int x2), none, none] [] h := z_bq (v_X12 z_puC (vP_X12_square z_puC) hPu) hd_X12_square 23 hT
set_option maxRecDepth 20000 in
theorem b_X12_square_46 {G : z_G} {d : Nat} {r : z_Res} (hPu : z_PuV G d (t_X12 z_puC)) {h : z_H} {x0 : Nat} {x1 : Int32} {x2 : Int32} {x3 : Int32} (hT : (if x3 < x1 then (z_J G (d + 1) (m_X12_square z_puC) r) 54 [some (.ref x0), some (.int x1), some (.int x2), some (.int x3), some (.int (nI 0))] [] h else (z_kd h x0 = 28 ∧ (z_kd (z_poi h x0 39 (nI 0)) x0 = 28 ∧ ∃ h_1, z_Ev G d k_X12_draws [.ref x0, .int (nI 0), .int (nI 1)] (z_poi h x0 39 (nI 0)) (.inl none, h_1) ∧ (z_kd h_1 x0 = 28 ∧ (if (z_oi h_1 x0 39) = (nI 0) then r = (.inl (some (.int mI)), h_1) else (z_kd h_1 x0 = 28 ∧ (z_rc (z_or h_1 x0 33) False (fun x_2 => (z_kd h_1 x_2 = 1 ∧ vp_in x2 (z_ln h_1 x_2) ∧ r = (.inl (some (.int (z_ai h_1 x_2 (Int32.toNatClampNeg x2)))), h_1))))))))))) : (z_J G (d + 1) (m_X12_square z_puC) r) 46 [some (.ref x0), some (.int x1), some (.int x2), some (.int x3), none] [] h := z_bq (v_X12 z_puC (vP_X12_square z_puC) hPu) hd_X12_square 20 hT
set_option maxRecDepth 20000 in
theorem b_X12_square_54 {G : z_G} {d : Nat} {r : z_Res} (hPu : z_PuV G d (t_X12 z_puC)) {h : z_H} {x0 : Nat} {x1 : Int32} {x2 : Int32} {x3 : Int32} {x4 : Int32} (hT : (if x4 < x1 then (z_kd h x0 = 28 ∧ ∃ h_1, z_Ev G d k_X12_layPlace [.ref x0, .int x4, .int x3, .int (nI 0)] h (.inl none, h_1) ∧ (z_J G (d + 1) (m_X12_square z_puC) r) 54 [some (.ref x0), some (.int x1), some (.int x2), some (.int x3), some (.int (x4 + (nI 1)))] [] h_1) else (z_J G (d + 1) (m_X12_square z_puC) r) 46 [some (.ref x0), some (.int x1), some (.int x2), some (.int (x3 + (nI 1))), none] [] h)) : (z_J G (d + 1) (m_X12_square z_puC) r) 54 [some (.ref x0), some (.int x1), some (.int x2), some (.int x3), some (.int x4)] [] h := z_bq (v_X12 z_puC (vP_X12_square z_puC) hPu) hd_X12_square 13 hT
theorem en_X12_plane {pu : Nat → Option ((List Value → z_H → Prop) × (List Value → z_H → Int32))} {G : z_G} {d : Nat} {r : z_Res} {h : z_H} {x0 : Nat} {x1 : Int32} {x2 : Int32} (hJ : z_J G d (m_X12_plane pu) r 0 [some (.ref x0), some (.int x1), some (.int x2), none, none, none, none] [] h) : z_Ev G d k_X12_plane [.ref x0, .int x1, .int x2] h r := z_enter (μ := m_X12_plane pu) rfl (by decide) rfl rfl (fun q => by cases q) (Nat.le_of_ble_eq_true rfl) hJ
def hd_X12_plane : Nat → Option (List Bool) := (fun k => (cond (Nat.blt k 171) (cond (Nat.beq k 51) (some [true, true, true, true, false, false, false]) none) none))
set_option maxRecDepth 20000 in
theorem b_X12_plane_0 {G : z_G} {d : Nat} {r : z_Res} (hPu : z_PuV G d (t_X12 z_puC)) {h : z_H} {x0 : Nat} {x1 : Int32} {x2 : Int32} (hT : (z_kd h x0 = 28 ∧ (if x2 = mI then (s_X12_isIn x1 (nI 2) (nI 3) (z_poi h x0 0 (nI 0)) ∧ (if (f_X12_isIn x1 (nI 2) (nI 3) (z_poi h x0 0 (nI 0))) = (nI 0) then (z_kd (z_poi h x0 0 (nI 0)) x0 = 28 ∧ ∃ x_2 h_1, z_Ev G d k_X12_fail [.ref x0, .int (nI 2)] (z_poi h x0 0 (nI 0)) (.inl (some (.int x_2)), h_1) ∧ r = (.inl (some (.int x_2)), h_1)) else (z_kd (z_poi h x0 0 (nI 0)) x0 = 28 ∧ (z_kd (z_poi (z_poi h x0 0 (nI 0)) x0 37 (nI 0)) x0 = 28 ∧ (z_J G (d + 1) (m_X12_plane z_puC) r) 51 [some (.ref x0), some (.int x1), some (.int x2), some (.int (nI 1)), none, none, none] [] (z_poi (z_poi (z_poi h x0 0 (nI 0)) x0 37 (nI 0)) x0 38 x1))))) else (z_kd (z_poi h x0 0 (nI 0)) x0 = 28 ∧ s_X12_isPoint x0 x2 (z_poi h x0 0 (nI 0)) ∧ (if (f_X12_isPoint x0 x2 (z_poi h x0 0 (nI 0))) = (nI 0) then (z_kd (z_poi h x0 0 (nI 0)) x0 = 28 ∧ ∃ x_4 h_3, z_Ev G d k_X12_fail [.ref x0, .int (nI 1)] (z_poi h x0 0 (nI 0)) (.inl (some (.int x_4)), h_3) ∧ r = (.inl (some (.int x_4)), h_3)) else (s_X12_isIn x1 (nI 2) (nI 3) (z_poi h x0 0 (nI 0)) ∧ (if (f_X12_isIn x1 (nI 2) (nI 3) (z_poi h x0 0 (nI 0))) = (nI 0) then (z_kd (z_poi h x0 0 (nI 0)) x0 = 28 ∧ ∃ x_6 h_5, z_Ev G d k_X12_fail [.ref x0, .int (nI 2)] (z_poi h x0 0 (nI 0)) (.inl (some (.int x_6)), h_5) ∧ r = (.inl (some (.int x_6)), h_5)) else (z_kd (z_poi h x0 0 (nI 0)) x0 = 28 ∧ (z_kd (z_poi (z_poi h x0 0 (nI 0)) x0 37 (nI 0)) x0 = 28 ∧ (z_J G (d + 1) (m_X12_plane z_puC) r) 51 [some (.ref x0), some (.int x1), some (.int x2), some (.int (nI 1)), none, none, none] [] (z_poi (z_poi (z_poi h x0 0 (nI 0)) x0 37 (nI 0)) x0 38 x1)))))))))) : (z_J G (d + 1) (m_X12_plane z_puC) r) 0 [some (.ref x0), some (.int x1), some (.int x2), none, none, none, none] [] h := z_bq (v_X12 z_puC (vP_X12_plane z_puC) hPu) hd_X12_plane 26 hT
set_option maxRecDepth 20000 in
theorem b_X12_plane_51 {G : z_G} {d : Nat} {r : z_Res} (hPu : z_PuV G d (t_X12 z_puC)) {h : z_H} {x0 : Nat} {x1 : Int32} {x2 : Int32} {x3 : Int32} (hT : (if x3 < ((x1 * x1) * x1) then (¬ (x1 * x1) = (nI 0) ∧ (¬ x1 = (nI 0) ∧ (¬ x1 = (nI 0) ∧ (¬ x1 = (nI 0) ∧ (if (x3 / (x1 * x1)) = (nI 0) then (if ((x3 / x1) - (x3 / x1) / x1 * x1) = (nI 0) then (if (x3 - x3 / x1 * x1) = (nI 1) then (z_kd h x0 = 28 ∧ ∃ h_1, z_Ev G d k_X12_layPlace [.ref x0, .int (x3 / (x1 * x1)), .int ((x3 / x1) - (x3 / x1) / x1 * x1), .int (x3 - x3 / x1 * x1)] h (.inl none, h_1) ∧ (z_J G (d + 1) (m_X12_plane z_puC) r) 51 [some (.ref x0), some (.int x1), some (.int x2), some (.int (x3 + (nI 1))), none, none, none] [] h_1) else (z_J G (d + 1) (m_X12_plane z_puC) r) 51 [some (.ref x0), some (.int x1), some (.int x2), some (.int (x3 + (nI 1))), none, none, none] [] h) else (if ((x3 / x1) - (x3 / x1) / x1 * x1) = (nI 1) then (z_kd h x0 = 28 ∧ ∃ h_2, z_Ev G d k_X12_layPlace [.ref x0, .int (x3 / (x1 * x1)), .int ((x3 / x1) - (x3 / x1) / x1 * x1), .int (x3 - x3 / x1 * x1)] h (.inl none, h_2) ∧ (z_J G (d + 1) (m_X12_plane z_puC) r) 51 [some (.ref x0), some (.int x1), some (.int x2), some (.int (x3 + (nI 1))), none, none, none] [] h_2) else (z_J G (d + 1) (m_X12_plane z_puC) r) 51 [some (.ref x0), some (.int x1), some (.int x2), some (.int (x3 + (nI 1))), none, none, none] [] h)) else (if (x3 / (x1 * x1)) = (nI 1) then (z_kd h x0 = 28 ∧ ∃ h_3, z_Ev G d k_X12_layPlace [.ref x0, .int (x3 / (x1 * x1)), .int ((x3 / x1) - (x3 / x1) / x1 * x1), .int (x3 - x3 / x1 * x1)] h (.inl none, h_3) ∧ (z_J G (d + 1) (m_X12_plane z_puC) r) 51 [some (.ref x0), some (.int x1), some (.int x2), some (.int (x3 + (nI 1))), none, none, none] [] h_3) else (z_J G (d + 1) (m_X12_plane z_puC) r) 51 [some (.ref x0), some (.int x1), some (.int x2), some (.int (x3 + (nI 1))), none, none, none] [] h)))))) else (z_kd h x0 = 28 ∧ (if x2 = mI then (z_kd (z_poi h x0 39 (nI 0)) x0 = 28 ∧ ∃ h_4, z_Ev G d k_X12_draws [.ref x0, .int (nI 0), .int (nI 0)] (z_poi h x0 39 (nI 0)) (.inl none, h_4) ∧ (if x2 = mI then (z_kd h_4 x0 = 28 ∧ r = (.inl (some (.int (z_oi h_4 x0 39))), h_4)) else (z_kd h_4 x0 = 28 ∧ (if (z_oi h_4 x0 39) = (nI 0) then r = (.inl (some (.int mI)), h_4) else (z_kd h_4 x0 = 28 ∧ (z_rc (z_or h_4 x0 33) False (fun x_5 => (z_kd h_4 x_5 = 1 ∧ vp_in x2 (z_ln h_4 x_5) ∧ r = (.inl (some (.int (z_ai h_4 x_5 (Int32.toNatClampNeg x2)))), h_4))))))))) else (z_kd (z_poi h x0 39 (nI 0)) x0 = 28 ∧ ∃ h_6, z_Ev G d k_X12_draws [.ref x0, .int (nI 0), .int (nI 1)] (z_poi h x0 39 (nI 0)) (.inl none, h_6) ∧ (if x2 = mI then (z_kd h_6 x0 = 28 ∧ r = (.inl (some (.int (z_oi h_6 x0 39))), h_6)) else (z_kd h_6 x0 = 28 ∧ (if (z_oi h_6 x0 39) = (nI 0) then r = (.inl (some (.int mI)), h_6) else (z_kd h_6 x0 = 28 ∧ (z_rc (z_or h_6 x0 33) False (fun x_7 => (z_kd h_6 x_7 = 1 ∧ vp_in x2 (z_ln h_6 x_7) ∧ r = (.inl (some (.int (z_ai h_6 x_7 (Int32.toNatClampNeg x2)))), h_6))))))))))))) : (z_J G (d + 1) (m_X12_plane z_puC) r) 51 [some (.ref x0), some (.int x1), some (.int x2), some (.int x3), none, none, none] [] h := z_bq (v_X12 z_puC (vP_X12_plane z_puC) hPu) hd_X12_plane 41 hT
/-! drawn on places -/
theorem z_forS {G : z_G} {d : Nat} {μ : z_M} {r : z_Res} {pc : Nat} {α : Type} (mkl : Nat → α → List (Option Value)) (H : Nat → α → z_H) (I : Nat → α → Prop) (stop : α → Bool) (f : Nat → α → α) (a : α) (m : Nat) (h0 : I 0 a) (hst : ∀ l a, stop a = true → f l a = a)
    (hno : ∀ l a', l < m → I l a' → stop a' = true → it f a m = a' → z_J G d μ r pc (mkl l a') [] (H l a'))
    (hstep : ∀ l a, l < m → I l a → stop a = false → I (l + 1) (f l a) ∧ (z_J G d μ r pc (mkl (l + 1) (f l a)) [] (H (l + 1) (f l a)) → z_J G d μ r pc (mkl l a) [] (H l a)))
    (hend : I m (it f a m) → z_J G d μ r pc (mkl m (it f a m)) [] (H m (it f a m))) : z_J G d μ r pc (mkl 0 a) [] (H 0 a) := by
  have hall : ∀ l k, stop (it f a l) = true → it f a (l + k) = it f a l := by
    intro l k hl
    induction k with
    | zero => rfl
    | succ k ih => show f (l + k) (it f a (l + k)) = _; rw [ih]; exact hst _ _ hl
  have key : ∀ k l, l + k = m → I l (it f a l) → z_J G d μ r pc (mkl l (it f a l)) [] (H l (it f a l)) := by
    intro k
    induction k with
    | zero => intro l hl hI; rw [show l = m by omega] at hI ⊢; exact hend hI
    | succ k ih =>
      intro l hl hI
      cases hs : stop (it f a l)
      · have h2 := hstep l _ (by omega) hI hs
        exact h2.2 (ih (l + 1) (by omega) h2.1)
      · exact hno l _ (by omega) hI hs (by rw [← hl]; exact hall l (k + 1) hs)
  exact key m 0 (Nat.zero_add m) h0
def c_fwL (S : Sc) (il : Nat → Nat → Nat → Bool) (P : Nat → Nat) (k : Nat) : Bool := !c_any (fun a => decide (P a = P k) || c_any (fun b => il (P a) (P b) (P k) != decide (c_of S (2 ^ a ||| 2 ^ b ||| 2 ^ k) < S.2.1)) a) k
def c_dw (S : Sc) (il : Nat → Nat → Nat → Bool) (pm : Nat) (one : Bool) : Nat → Nat → tW → tW
  | 0, k, a => (a.1 + 1, (if a.1 = 0 then fa_fill a.2.2 a.2.1 k else a.2.1), a.2.2)
  | j + 1, k, a => it (fun v a => if one && decide (0 < a.1) then a else if c_fwL S il (r_N (z_u a.2.2 k (nI v))) k then c_dw S il pm one j (k + 1) (a.1, a.2.1, z_u a.2.2 k (nI v)) else (a.1, a.2.1, z_u a.2.2 k (nI v))) a pm
def r_pl (pm k : Nat) (f : Nat → Int32) : Prop := ∀ i, i < k → f i = nI (r_N f i) ∧ r_N f i < pm
theorem r_pl_u {pm k v : Nat} {f : Nat → Int32} (hpm : pm ≤ 16) (h : r_pl pm k f) (hv : v < pm) : r_pl pm (k + 1) (z_u f k (nI v)) := by
  intro i hi
  show z_u f k (nI v) i = nI (z_u f k (nI v) i).toNatClampNeg ∧ (z_u f k (nI v) i).toNatClampNeg < pm
  unfold z_u
  by_cases e : i = k
  · rw [if_pos e, nI_clamp (by omega)]; exact ⟨rfl, hv⟩
  · rw [if_neg e]; exact h i (by omega)
theorem r_pl_cg {pm k : Nat} {f f' : Nat → Int32} (h : r_pl pm k f) (e : ∀ i, i < k → f' i = f i) : r_pl pm k f' := by
  intro i hi
  show f' i = nI (f' i).toNatClampNeg ∧ (f' i).toNatClampNeg < pm
  rw [e i hi]; exact h i hi
theorem c_dw_keep {S : Sc} {il : Nat → Nat → Nat → Bool} {pm : Nat} {one : Bool} : ∀ j k a i, i < k → (c_dw S il pm one j k a).2.2 i = a.2.2 i := by
  intro j
  induction j with
  | zero => intro k a i _; rfl
  | succ j ih =>
    intro k a i hi
    unfold c_dw
    refine it_bd (P := fun b : tW => b.2.2 i = a.2.2 i) rfl (fun v b hb => ?_) pm
    split
    · exact hb
    · split
      · rw [ih (k + 1) _ i (by omega)]
        show z_u b.2.2 k (nI v) i = a.2.2 i
        rw [u_ne _ _ (by omega)]; exact hb
      · show z_u b.2.2 k (nI v) i = a.2.2 i
        rw [u_ne _ _ (by omega)]; exact hb
theorem it_cnt {α : Type} (w : α → Nat) {f : Nat → α → α} {B : Nat} (h : ∀ k x, w (f k x) ≤ w x + B) (a : α) : ∀ m, w (it f a m) ≤ w a + m * B
  | 0 => by show w a ≤ w a + 0 * B; omega
  | m + 1 => by
    have h1 := it_cnt w h a m
    have h2 := h m (it f a m)
    rw [Nat.succ_mul]
    show w (f m (it f a m)) ≤ _
    omega
theorem c_dw_cnt {S : Sc} {il : Nat → Nat → Nat → Bool} {pm : Nat} : ∀ j k a, (c_dw S il pm false j k a).1 ≤ a.1 + pm ^ j := by
  intro j
  induction j with
  | zero => intro k a; exact Nat.le_refl _
  | succ j ih =>
    intro k a
    unfold c_dw
    have h2 := it_cnt (fun b : tW => b.1) (f := fun v (a : tW) => if false && decide (0 < a.1) then a else if c_fwL S il (r_N (z_u a.2.2 k (nI v))) k then c_dw S il pm false j (k + 1) (a.1, a.2.1, z_u a.2.2 k (nI v)) else (a.1, a.2.1, z_u a.2.2 k (nI v))) (B := pm ^ j) (fun v b => by
      rw [if_neg (by simp)]
      split
      · exact ih (k + 1) (b.1, b.2.1, z_u b.2.2 k (nI v))
      · exact Nat.le_add_right _ _) a pm
    rw [Nat.pow_succ, Nat.mul_comm (pm ^ j) pm]
    exact h2
theorem c_dw_one {S : Sc} {il : Nat → Nat → Nat → Bool} {pm : Nat} : ∀ j k a, a.1 = 0 → (c_dw S il pm true j k a).1 ≤ 1 := by
  intro j
  induction j with
  | zero => intro k a h; show a.1 + 1 ≤ 1; omega
  | succ j ih =>
    intro k a h
    unfold c_dw
    refine it_bd (P := fun b : tW => b.1 ≤ 1) (by omega) (fun v b hb => ?_) pm
    by_cases h0 : b.1 = 0
    · rw [if_neg (by rw [h0]; decide)]
      split
      · exact ih _ _ h0
      · exact hb
    · rw [if_pos (by rw [decide_eq_true (by omega)]; rfl)]; exact hb
def c_bnd (pm : Nat) (one : Bool) (j w : Nat) : Prop := if one then w = 0 else w + pm ^ j < 2 ^ 30
section CX
variable {G : z_G} {d : Nat} {h : z_H} {M : Nat} {S : Sc} {F : Nat → Int32} {A : Nat → Nat → Int32}
theorem e_layPlace (hM : z_sh M h) {k : Nat} (hk : k < 16) (h37 : F 37 = nI k) (x y z : Int32) : z_Ev G (d + 4) k_X12_layPlace [.ref M, .int x, .int y, .int z] (z_rs h M F A) (.inl none, z_rs h M (z_u F 37 (nI (k + 1))) (z_u (z_u (z_u A 18 (z_u (A 18) k x)) 19 (z_u (A 19) k y)) 20 (z_u (A 20) k z))) := by
  refine en_X12_layPlace (b_X12_layPlace_0 z_puCV ?_)
  simp (disch := omega) only [l0, l1, l2, l3, l4, l5, l6, l7, l8, l9, l10, l11, l12, l13, l14, l15, l16, l18, l20, l22, l24, l30, l31, l39, l40, l48, l60, l154, l255, l256, l400, l2000, l6160, l14000, lm1, q_lt, q_le, q_eq, q_mI, q_mI', q_ltmI, q_in, q_bz0, q_bz1, q_bzn0, q_bzn1, q_bzb, q_bn0, q_bn1, q_shr, q_shl, q_1s, b_one, b_two, fa_and, fa_or, nI_add, n_mul, nI_clamp, z_rcs, true_and, and_true, if_true, if_false, rs_ai, rs_oi, rs_pai, rs_poi, rs_pax, rs_kd, rs_ln, rs_or, u_eq, u_ne, sh_kd hM, (sh_px hM).1, (sh_px hM).2.1, (sh_px hM).2.2, (sh_py hM).1, (sh_py hM).2.1, (sh_py hM).2.2, (sh_pz hM).1, (sh_pz hM).2.1, (sh_pz hM).2.2, h37]
theorem e_draws (hM : z_sh M h) (hR : r_ok (A 1)) (hS : r_S (A 1) = S) {pm : Nat} (hpm : pm ≤ 16) (h37 : F 37 = nI pm) {il : Nat → Nat → Nat → Bool} (hil : ∀ a b c, a < pm → b < pm → c < pm → c_ilo (F 38) (A 18) (A 19) (A 20) a b c = il a b c) (one : Bool) : ∀ j k (a : tW), k + j = S.1 → r_pl pm k a.2.2 → c_bnd pm one j a.1 → z_Ev G (j + d + 6) k_X12_draws [.ref M, .int (nI k), .int (nI one.toNat)] (z_rs h M (z_u F 39 (nI a.1)) (z_u (z_u A 17 a.2.1) 16 a.2.2)) (.inl none, z_rs h M (z_u F 39 (nI (c_dw S il pm one j k a).1)) (z_u (z_u A 17 (c_dw S il pm one j k a).2.1) 16 (c_dw S il pm one j k a).2.2)) := by
  have hn := t_n8 (at_rs (F := F) hM hR hS)
  have e1 : ∀ f g, z_u (z_u A 17 f) 16 g 1 = A 1 := fun f g => by rw [u_ne _ _ (by omega), u_ne _ _ (by omega)]
  have hAt : ∀ F0 f g, z_at M (z_rs h M F0 (z_u (z_u A 17 f) 16 g)) S := fun F0 f g => at_rs hM (by rw [e1]; exact hR) (by rw [e1]; exact hS)
  intro j
  induction j with
  | zero =>
    intro k a hk hp hb
    have hA := hAt (z_u F 39 (nI a.1)) a.2.1 a.2.2
    have hb' : a.1 + 1 < 2 ^ 31 := by
      unfold c_bnd at hb
      split at hb
      · omega
      · rw [Nat.pow_zero] at hb; omega
    refine z_Ev_eq (show d + 6 = 0 + d + 6 by omega) (en_X12_draws (b_X12_draws_0 z_puCV ⟨sh_kd hM, hM, ?_⟩))
    rw [t_n hA, show S.1 = k by omega, if_pos rfl]
    unfold c_dw
    by_cases hw : a.1 = 0
    · rw [if_pos hw]
      have key := z_forI (G := G) (d := d + 6) (μ := m_X12_draws z_puC) (r := (.inl none, z_rs h M (z_u F 39 (nI (a.1 + 1))) (z_u (z_u A 17 (fa_fill a.2.2 a.2.1 k)) 16 a.2.2))) (pc := 10) (α := Unit) (fun l _ => [some (.ref M), some (.int (nI k)), none, some (.int (nI l))]) (fun l _ => z_rs h M (z_u F 39 (nI a.1)) (z_u (z_u A 17 (fa_fill a.2.2 a.2.1 l)) 16 a.2.2)) (fun _ _ => True) (fun _ x => x) () k trivial ?_ ?_
      · rw [fa_fill_0] at key
        exact key
      · intro l _ hl _
        refine ⟨trivial, fun hJ => b_X12_draws_10 z_puCV ?_⟩
        simp (disch := omega) only [l0, l1, l2, l3, l4, l5, l6, l7, l8, l9, l10, l11, l12, l13, l14, l15, l16, l18, l20, l22, l24, l30, l31, l39, l40, l48, l60, l154, l255, l256, l400, l2000, l6160, l14000, lm1, q_lt, q_le, q_eq, q_mI, q_mI', q_ltmI, q_in, q_bz0, q_bz1, q_bzn0, q_bzn1, q_bzb, q_bn0, q_bn1, q_shr, q_shl, q_1s, b_one, b_two, fa_and, fa_or, nI_add, n_mul, nI_clamp, z_rcs, true_and, and_true, if_true, if_false, rs_ai, rs_oi, rs_pai, rs_poi, rs_pax, rs_kd, rs_ln, rs_or, u_eq, u_ne, hl, hw, sh_kd hM, (sh_places hM).1, (sh_places hM).2.1, (sh_places hM).2.2, (sh_firstPlaces hM).1, (sh_firstPlaces hM).2.1, (sh_firstPlaces hM).2.2]
        rw [u_mid _ _ _ _ (by decide), h_fill_u]
        rw [hw] at hJ
        exact hJ
      · intro _
        refine b_X12_draws_10 z_puCV ?_
        simp (disch := omega) only [l0, l1, l2, l3, l4, l5, l6, l7, l8, l9, l10, l11, l12, l13, l14, l15, l16, l18, l20, l22, l24, l30, l31, l39, l40, l48, l60, l154, l255, l256, l400, l2000, l6160, l14000, lm1, q_lt, q_le, q_eq, q_mI, q_mI', q_ltmI, q_in, q_bz0, q_bz1, q_bzn0, q_bzn1, q_bzb, q_bn0, q_bn1, q_shr, q_shl, q_1s, b_one, b_two, fa_and, fa_or, nI_add, n_mul, nI_clamp, z_rcs, true_and, and_true, if_true, if_false, rs_ai, rs_oi, rs_pai, rs_poi, rs_pax, rs_kd, rs_ln, rs_or, u_eq, u_ne, Nat.lt_irrefl, sh_kd hM, u_u]
    · rw [if_neg hw]
      refine b_X12_draws_10 z_puCV ?_
      simp (disch := omega) only [l0, l1, l2, l3, l4, l5, l6, l7, l8, l9, l10, l11, l12, l13, l14, l15, l16, l18, l20, l22, l24, l30, l31, l39, l40, l48, l60, l154, l255, l256, l400, l2000, l6160, l14000, lm1, q_lt, q_le, q_eq, q_mI, q_mI', q_ltmI, q_in, q_bz0, q_bz1, q_bzn0, q_bzn1, q_bzb, q_bn0, q_bn1, q_shr, q_shl, q_1s, b_one, b_two, fa_and, fa_or, nI_add, n_mul, nI_clamp, z_rcs, true_and, and_true, if_true, if_false, rs_ai, rs_oi, rs_pai, rs_poi, rs_pax, rs_kd, rs_ln, rs_or, u_eq, u_ne, hw, sh_kd hM, u_u]
      split <;> trivial
  | succ j ih =>
    intro k a hk hp hb
    have hA := hAt (z_u F 39 (nI a.1)) a.2.1 a.2.2
    refine z_Ev_eq (show j + d + 1 + 6 = j + 1 + d + 6 by omega) (en_X12_draws (b_X12_draws_0 z_puCV ⟨sh_kd hM, hM, ?_⟩))
    rw [t_n hA, if_neg (fun e => by have := (nI_eq (by omega) (by omega)).mp e; omega)]
    have step : ∀ (v : Nat) (b : tW) (r : z_Res), v < pm → r_pl pm k b.2.2 → b.1 < 2 ^ 31 → (one && decide (0 < b.1)) = false → c_bnd pm one j b.1 → (z_J G (j + d + 1 + 6) (m_X12_draws z_puC) r 53 [some (.ref M), some (.int (nI k)), some (.int (nI one.toNat)), some (.int (nI (v + 1)))] [] (z_rs h M (z_u F 39 (nI (if c_fwL S il (r_N (z_u b.2.2 k (nI v))) k then c_dw S il pm one j (k + 1) (b.1, b.2.1, z_u b.2.2 k (nI v)) else (b.1, b.2.1, z_u b.2.2 k (nI v))).1)) (z_u (z_u A 17 (if c_fwL S il (r_N (z_u b.2.2 k (nI v))) k then c_dw S il pm one j (k + 1) (b.1, b.2.1, z_u b.2.2 k (nI v)) else (b.1, b.2.1, z_u b.2.2 k (nI v))).2.1) 16 (if c_fwL S il (r_N (z_u b.2.2 k (nI v))) k then c_dw S il pm one j (k + 1) (b.1, b.2.1, z_u b.2.2 k (nI v)) else (b.1, b.2.1, z_u b.2.2 k (nI v))).2.2))) → z_J G (j + d + 1 + 6) (m_X12_draws z_puC) r 53 [some (.ref M), some (.int (nI k)), some (.int (nI one.toNat)), some (.int (nI v))] [] (z_rs h M (z_u F 39 (nI b.1)) (z_u (z_u A 17 b.2.1) 16 b.2.2)) := by
      intro v b r hv hpb hb31 hs hbj hJ
      have hp1 := r_pl_u hpm hpb hv
      have hA2 := hAt (z_u F 39 (nI b.1)) b.2.1 (z_u b.2.2 k (nI v))
      have hfw : z_Ev G (j + d + 6) k_X12_fitsWith [.ref M, .int (nI k)] (z_rs h M (z_u F 39 (nI b.1)) (z_u (z_u A 17 b.2.1) 16 (z_u b.2.2 k (nI v)))) (.inl (some (.int (nI (c_fwL S il (r_N (z_u b.2.2 k (nI v))) k).toNat))), z_rs h M (z_u F 39 (nI b.1)) (z_u (z_u A 17 b.2.1) 16 (z_u b.2.2 k (nI v)))) := by
        have e := e_fitsWith (G := G) (d := j + d + 1) hA2 (P := r_N (z_u b.2.2 k (nI v))) (k := k) (by omega) (fun i hi => by
          rw [rs_ai _ _ _ _ (by omega) (by omega), u_eq]
          have := hp1 i (by omega)
          exact ⟨this.1, by omega⟩)
        rw [rs_oi, u_ne _ _ (show 38 ≠ 39 by decide), rs_ai _ _ _ _ (show 0 < 18 by decide) (by decide), rs_ai _ _ _ _ (show 0 < 19 by decide) (by decide), rs_ai _ _ _ _ (show 0 < 20 by decide) (by decide), u_ne _ _ (show 18 ≠ 16 by decide), u_ne _ _ (show 18 ≠ 17 by decide), u_ne _ _ (show 19 ≠ 16 by decide), u_ne _ _ (show 19 ≠ 17 by decide), u_ne _ _ (show 20 ≠ 16 by decide), u_ne _ _ (show 20 ≠ 17 by decide)] at e
        have ec : c_fw S (F 38) (A 18) (A 19) (A 20) (r_N (z_u b.2.2 k (nI v))) k = c_fwL S il (r_N (z_u b.2.2 k (nI v))) k := by
          unfold c_fw c_fwL
          congr 1
          refine any_cg (fun x hx => ?_)
          congr 1
          refine any_cg (fun y hy => ?_)
          rw [hil _ _ _ (hp1 x (by omega)).2 (hp1 y (by omega)).2 (hp1 k (by omega)).2]
        rw [ec] at e
        exact z_Ev_eq (by omega) e
      have hcont : (if (nI (c_fwL S il (r_N (z_u b.2.2 k (nI v))) k).toNat) = nI 0 then z_J G (j + d + 1 + 6) (m_X12_draws z_puC) r 53 [some (.ref M), some (.int (nI k)), some (.int (nI one.toNat)), some (.int (nI v + nI 1))] [] (z_rs h M (z_u F 39 (nI b.1)) (z_u (z_u A 17 b.2.1) 16 (z_u b.2.2 k (nI v)))) else (z_kd (z_rs h M (z_u F 39 (nI b.1)) (z_u (z_u A 17 b.2.1) 16 (z_u b.2.2 k (nI v)))) M = 28 ∧ ∃ h_4, z_Ev G (j + d + 6) k_X12_draws [.ref M, .int (nI k + nI 1), .int (nI one.toNat)] (z_rs h M (z_u F 39 (nI b.1)) (z_u (z_u A 17 b.2.1) 16 (z_u b.2.2 k (nI v)))) (.inl none, h_4) ∧ z_J G (j + d + 1 + 6) (m_X12_draws z_puC) r 53 [some (.ref M), some (.int (nI k)), some (.int (nI one.toNat)), some (.int (nI v + nI 1))] [] h_4)) := by
        rw [nI_add, nI_add]
        cases hc : c_fwL S il (r_N (z_u b.2.2 k (nI v))) k
        · rw [hc, if_neg (by decide)] at hJ
          rw [if_pos (by decide)]; exact hJ
        · rw [hc, if_pos rfl] at hJ
          rw [if_neg (by decide)]
          exact ⟨sh_kd hM, _, ih (k + 1) (b.1, b.2.1, z_u b.2.2 k (nI v)) (by omega) hp1 hbj, hJ⟩
      refine b_X12_draws_53 z_puCV ⟨sh_kd hM, ?_⟩
      have e16 : z_pai (z_rs h M (z_u F 39 (nI b.1)) (z_u (z_u A 17 b.2.1) 16 b.2.2)) (M + 16) k (nI v) = z_rs h M (z_u F 39 (nI b.1)) (z_u (z_u A 17 b.2.1) 16 (z_u b.2.2 k (nI v))) := by
        rw [rs_pai _ _ _ _ (by omega) (by omega), u_eq, u_u]
      have body : z_kd (z_rs h M (z_u F 39 (nI b.1)) (z_u (z_u A 17 b.2.1) 16 b.2.2)) (M + 16) = 1 ∧ vp_in (nI k) (z_ln (z_rs h M (z_u F 39 (nI b.1)) (z_u (z_u A 17 b.2.1) 16 b.2.2)) (M + 16)) := ⟨(sh_places hM).2.1, by show vp_in (nI k) (z_ln h (M + 16)); rw [(sh_places hM).2.2]; exact vp_in_nI (by omega) (by omega)⟩
      rw [rs_oi, u_ne _ _ (show 37 ≠ 39 by decide), h37, if_pos (nI_lt hv (by omega)), show z_or (z_rs h M (z_u F 39 (nI b.1)) (z_u (z_u A 17 b.2.1) 16 b.2.2)) M 32 = some (M + 16) from (sh_places hM).1, z_rcs, nI_clamp (show k < 2 ^ 31 by omega), e16]
      cases one
      · rw [if_pos (show nI false.toNat = nI 0 from rfl)]
        exact ⟨sh_kd hM, body.1, body.2, sh_kd hM, _, _, hfw, hcont⟩
      · rw [if_neg (show ¬ nI true.toNat = nI 0 by decide)]
        have hz : ¬ 0 < b.1 := by
          intro q
          rw [decide_eq_true q] at hs; cases hs
        rw [u_eq, if_neg (fun e => hz ((nI_ltI (by omega) hb31).mp e))]
        exact ⟨sh_kd hM, sh_kd hM, body.1, body.2, sh_kd hM, _, _, hfw, hcont⟩
    unfold c_dw
    refine z_forS (fun v (_ : tW) => [some (.ref M), some (.int (nI k)), some (.int (nI one.toNat)), some (.int (nI v))]) (fun _ b => z_rs h M (z_u F 39 (nI b.1)) (z_u (z_u A 17 b.2.1) 16 b.2.2)) (fun v b => r_pl pm k b.2.2 ∧ (if one then b.1 ≤ 1 else b.1 ≤ a.1 + v * pm ^ j)) (fun b => one && decide (0 < b.1)) (fun v a => if one && decide (0 < a.1) then a else if c_fwL S il (r_N (z_u a.2.2 k (nI v))) k then c_dw S il pm one j (k + 1) (a.1, a.2.1, z_u a.2.2 k (nI v)) else (a.1, a.2.1, z_u a.2.2 k (nI v))) a pm ⟨hp, ?_⟩ ?_ ?_ ?_ ?_
    · unfold c_bnd at hb
      split
      · rename_i ho; rw [if_pos ho] at hb; omega
      · show a.1 ≤ a.1 + 0 * pm ^ j; omega
    · intro l b hs
      rw [if_pos hs]
    · intro v b hv hI hs hfin
      refine b_X12_draws_53 z_puCV ⟨sh_kd hM, ?_⟩
      cases one
      · cases hs
      · rw [rs_oi, u_ne _ _ (show 37 ≠ 39 by decide), h37, if_pos (nI_lt hv (by omega)), if_neg (show ¬ nI true.toNat = nI 0 by decide), u_eq]
        have hq : 0 < b.1 := by
          have : decide (0 < b.1) = true := hs
          exact of_decide_eq_true this
        have h1 := hI.2
        rw [if_pos rfl] at h1
        rw [if_pos (nI_lt hq (by omega)), hfin]
        exact ⟨sh_kd hM, rfl⟩
    · intro v b hv hI hs
      have hb2 := hI.2
      have hlt : b.1 < 2 ^ 31 ∧ c_bnd pm one j b.1 := by
        unfold c_bnd at hb ⊢
        cases one
        · rw [if_neg (by decide)] at hb hb2 ⊢
          have hmul : v * pm ^ j + pm ^ j ≤ pm * pm ^ j := by
            rw [← Nat.succ_mul]; exact Nat.mul_le_mul_right _ (by omega)
          rw [Nat.pow_succ, Nat.mul_comm (pm ^ j) pm] at hb
          omega
        · rw [if_pos rfl] at hb2 ⊢
          have hz : ¬ 0 < b.1 := by
            intro q
            rw [decide_eq_true q] at hs; cases hs
          omega
      refine ⟨⟨?_, ?_⟩, fun hJ => step v b _ hv hI.1 hlt.1 hs hlt.2 ?_⟩
      · rw [if_neg (by rw [hs]; decide)]
        refine r_pl_cg hI.1 (fun i hi => ?_)
        split
        · rw [c_dw_keep _ _ _ i (by omega)]; exact u_ne _ _ (by omega)
        · exact u_ne _ _ (by omega)
      · rw [if_neg (show ¬ (one && decide (0 < b.1)) = true by rw [hs]; decide)]
        cases one
        · rw [if_neg (by decide)] at hb2 ⊢
          rw [Nat.succ_mul]
          split
          · have h3 := c_dw_cnt (S := S) (il := il) (pm := pm) j (k + 1) (b.1, b.2.1, z_u b.2.2 k (nI v))
            have h4 : (c_dw S il pm false j (k + 1) (b.1, b.2.1, z_u b.2.2 k (nI v))).1 ≤ b.1 + pm ^ j := h3
            omega
          · show b.1 ≤ _; omega
        · rw [if_pos rfl] at hb2 ⊢
          have hz : b.1 = 0 := by
            have := hlt.2
            unfold c_bnd at this
            rw [if_pos rfl] at this; exact this
          split
          · exact c_dw_one _ _ _ hz
          · exact hb2
      · rw [if_neg (by rw [hs]; decide)] at hJ
        exact hJ
    · intro hI
      refine b_X12_draws_53 z_puCV ⟨sh_kd hM, ?_⟩
      rw [rs_oi, u_ne _ _ (show 37 ≠ 39 by decide), h37, if_neg (nI_nlt (Nat.le_refl _) (by omega))]
end CX
/-! squares and planes -/
def sq_il (g : Nat) : Nat → Nat → Nat → Bool := c_ilo (nI 0) (fun i => nI (i % g)) (fun i => nI (i / g)) (fun _ => nI 0)
def pl_is (q v : Nat) : Bool := (if v / (q * q) = 0 then (if v / q % q = 0 then v % q else v / q % q) else v / (q * q)) == 1
def pl_cd (q k : Nat) : Nat := (((List.range 27).filter (pl_is q))[k]?).getD 0
def pl_cn (q v : Nat) : Nat := fa_cnt (fun u => pl_is q (1 + u)) v
def pl_il (q : Nat) : Nat → Nat → Nat → Bool := c_ilo (nI q) (fun i => nI (pl_cd q i / (q * q))) (fun i => nI (pl_cd q i / q % q)) (fun i => nI (pl_cd q i % q))
theorem pl_at2 : ∀ v, v < 7 → pl_is 2 (1 + v) = true → pl_cd 2 (pl_cn 2 v) = 1 + v := by decide +kernel
theorem pl_at3 : ∀ v, v < 26 → pl_is 3 (1 + v) = true → pl_cd 3 (pl_cn 3 v) = 1 + v := by decide +kernel
theorem pl_n2 : pl_cn 2 7 = 7 := by decide +kernel
theorem pl_n3 : pl_cn 3 26 = 13 := by decide +kernel
theorem pl_le {q v : Nat} : pl_cn q v ≤ v := fa_cnt_le _ _
theorem pl_m3 : ∀ v, v < 27 → pl_cn 3 v ≤ 13 := by decide +kernel
theorem pl_m2 : ∀ v, v < 27 → pl_cn 2 v ≤ 13 := by decide +kernel
theorem pl_m {q v : Nat} (hq : q = 2 ∨ q = 3) (hv : v < 27) : pl_cn q v ≤ 13 := by
  rcases hq with rfl | rfl
  · exact pl_m2 v hv
  · exact pl_m3 v hv
def c_dwA (S : Sc) (il : Nat → Nat → Nat → Bool) (pm : Nat) (one : Bool) (W P : Nat → Int32) : tW := c_dw S il pm one S.1 0 (0, W, P)
def c_square (S : Sc) (W P : Nat → Int32) (g p : Int32) : Int32 × Int32 := if c_in p S.1 then (if g = nI 2 ∨ g = nI 3 ∨ g = nI 4 then (if (c_dwA S (sq_il g.toNatClampNeg) (g.toNatClampNeg * g.toNatClampNeg) true W P).1 = 0 then mI else (c_dwA S (sq_il g.toNatClampNeg) (g.toNatClampNeg * g.toNatClampNeg) true W P).2.1 p.toNatClampNeg, nI 0) else (nI 0, nI 2)) else (nI 0, nI 1)
def pl_pm (q : Nat) : Nat := q * q + q + 1
def c_plane (S : Sc) (W P : Nat → Int32) (q p : Int32) : Int32 × Int32 := if p = mI ∨ c_in p S.1 = true then (if q = nI 2 ∨ q = nI 3 then (if p = mI then nI (c_dwA S (pl_il q.toNatClampNeg) (pl_pm q.toNatClampNeg) false W P).1 else if (c_dwA S (pl_il q.toNatClampNeg) (pl_pm q.toNatClampNeg) true W P).1 = 0 then mI else (c_dwA S (pl_il q.toNatClampNeg) (pl_pm q.toNatClampNeg) true W P).2.1 p.toNatClampNeg, nI 0) else (nI 0, nI 2)) else (nI 0, nI 1)
theorem isIn_24 (g : Int32) (h : z_H) : f_X12_isIn g (nI 2) (nI 4) h = nI (decide (g = nI 2 ∨ g = nI 3 ∨ g = nI 4)).toNat := by
  unfold f_X12_isIn
  by_cases c1 : g < nI 2
  · rw [if_pos c1, decide_eq_false]; rfl
    rintro (rfl | rfl | rfl)
    · exact absurd c1 (by decide)
    · exact absurd c1 (by decide)
    · exact absurd c1 (by decide)
  · rw [if_neg c1]
    by_cases c2 : nI 4 < g
    · rw [if_pos c2, decide_eq_false]; rfl
      rintro (rfl | rfl | rfl)
      · exact absurd c2 (by decide)
      · exact absurd c2 (by decide)
      · exact absurd c2 (by decide)
    · rw [if_neg c2, decide_eq_true]; rfl
      have h0 : ¬ g < 0 := fun e => c1 (by
        rw [fa_lt] at e ⊢
        have e0 : (0 : Int32).toInt = 0 := by decide
        have e2 : (nI 2).toInt = 2 := by decide
        omega)
      obtain ⟨j, hj, rfl⟩ := nI_of h0
      rw [nI_ltI hj (by omega)] at c1
      rw [nI_ltI (by omega) hj] at c2
      have : j = 2 ∨ j = 3 ∨ j = 4 := by omega
      rcases this with rfl | rfl | rfl
      · exact Or.inl rfl
      · exact Or.inr (Or.inl rfl)
      · exact Or.inr (Or.inr rfl)
theorem isIn_23 (g : Int32) (h : z_H) : f_X12_isIn g (nI 2) (nI 3) h = nI (decide (g = nI 2 ∨ g = nI 3)).toNat := by
  unfold f_X12_isIn
  by_cases c1 : g < nI 2
  · rw [if_pos c1, decide_eq_false]; rfl
    rintro (rfl | rfl)
    · exact absurd c1 (by decide)
    · exact absurd c1 (by decide)
  · rw [if_neg c1]
    by_cases c2 : nI 3 < g
    · rw [if_pos c2, decide_eq_false]; rfl
      rintro (rfl | rfl)
      · exact absurd c2 (by decide)
      · exact absurd c2 (by decide)
    · rw [if_neg c2, decide_eq_true]; rfl
      have h0 : ¬ g < 0 := fun e => c1 (by
        rw [fa_lt] at e ⊢
        have e0 : (0 : Int32).toInt = 0 := by decide
        have e2 : (nI 2).toInt = 2 := by decide
        omega)
      obtain ⟨j, hj, rfl⟩ := nI_of h0
      rw [nI_ltI hj (by omega)] at c1
      rw [nI_ltI (by omega) hj] at c2
      have : j = 2 ∨ j = 3 := by omega
      rcases this with rfl | rfl
      · exact Or.inl rfl
      · exact Or.inr rfl
section CY
variable {G : z_G} {d : Nat} {h : z_H} {M : Nat} {S : Sc} {F : Nat → Int32} {A : Nat → Nat → Int32}
theorem lay3 {k : Nat} {P Q T : Nat → Nat} {x y z : Nat} (hx : P k = x) (hy : Q k = y) (hz : T k = z) : z_u (z_u (z_u (z_u (z_u (z_u A 18 (arrI k P (A 18))) 19 (arrI k Q (A 19))) 20 (arrI k T (A 20))) 18 (z_u (arrI k P (A 18)) k (nI x))) 19 (z_u (arrI k Q (A 19)) k (nI y))) 20 (z_u (arrI k T (A 20)) k (nI z)) = z_u (z_u (z_u A 18 (arrI (k + 1) P (A 18))) 19 (arrI (k + 1) Q (A 19))) 20 (arrI (k + 1) T (A 20)) := by
  rw [← hx, ← hy, ← hz, arrI_s, arrI_s, arrI_s]
  rw [u_comm _ _ _ (show 20 ≠ 18 by decide), u_comm _ _ _ (show 19 ≠ 18 by decide), u_u, u_comm _ _ _ (show 20 ≠ 19 by decide), u_u, u_u]
theorem e_layM (hM : z_sh M h) {k : Nat} (hk : k < 16) {P Q T : Nat → Nat} (h37 : F 37 = nI k) : z_Ev G (d + 4) k_X12_layPlace [.ref M, .int (nI (P k)), .int (nI (Q k)), .int (nI (T k))] (z_rs h M F (z_u (z_u (z_u A 18 (arrI k P (A 18))) 19 (arrI k Q (A 19))) 20 (arrI k T (A 20)))) (.inl none, z_rs h M (z_u F 37 (nI (k + 1))) (z_u (z_u (z_u A 18 (arrI (k + 1) P (A 18))) 19 (arrI (k + 1) Q (A 19))) 20 (arrI (k + 1) T (A 20)))) := by
  have e := e_layPlace (G := G) (d := d) (F := F) (A := z_u (z_u (z_u A 18 (arrI k P (A 18))) 19 (arrI k Q (A 19))) 20 (arrI k T (A 20))) hM hk h37 (nI (P k)) (nI (Q k)) (nI (T k))
  rw [u_ne _ (a := 20) _ (show 18 ≠ 20 by decide), u_ne _ (a := 19) _ (show 18 ≠ 19 by decide), u_eq, u_ne _ (a := 20) _ (show 19 ≠ 20 by decide), u_eq, u_eq, lay3 rfl rfl rfl] at e
  exact e
theorem e_squareP (hM : z_sh M h) (hR : r_ok (A 1)) (hS : r_S (A 1) = S) (h5 : r_nm (A 5)) (g p : Int32) : ∃ F' A', agr [16, 17, 18, 19, 20] A A' ∧ agrF [0, 37, 38, 39] F F' ∧ F' 0 = (c_square S (A 17) (A 16) g p).2 ∧ z_Ev G (d + 15) k_X12_square [.ref M, .int g, .int p] (z_rs h M F A) (.inl (some (.int (c_square S (A 17) (A 16) g p).1)), z_rs h M F' A') := by
  have hA := at_rs (F := z_u F 0 (nI 0)) hM hR hS
  have hn := t_n8 hA
  unfold c_square
  cases hp : c_in p S.1
  · refine ⟨z_u F 0 (nI 1), A, agr_rf h5, agrF_u agrF_rf (by decide) _, u_eq _ _ _, en_X12_square (b_X12_square_0 z_puCV ⟨sh_kd hM, ?_⟩)⟩
    rw [rs_poi, t_isP hA, hp, if_pos (by decide)]
    exact ⟨sh_kd hM, hM, sh_kd hM, _, _, e_failF (d := d + 10) hM, rfl⟩
  · rw [if_pos rfl]
    by_cases hg : g = nI 2 ∨ g = nI 3 ∨ g = nI 4
    · rw [if_pos hg]
      obtain ⟨i, hi, hi2, rfl⟩ := c_in_t hp
      have hgg : ∃ q, (q = 2 ∨ q = 3 ∨ q = 4) ∧ g = nI q := by
        rcases hg with e | e | e
        · exact ⟨2, Or.inl rfl, e⟩
        · exact ⟨3, Or.inr (Or.inl rfl), e⟩
        · exact ⟨4, Or.inr (Or.inr rfl), e⟩
      obtain ⟨q, hq, rfl⟩ := hgg
      have hq24 : 2 ≤ q ∧ q ≤ 4 := by omega
      have hqq : q * q ≤ 16 := by rcases hq with rfl | rfl | rfl <;> decide
      rw [nI_clamp hi2, nI_clamp (show q < 2 ^ 31 by omega)]
      refine ⟨z_u (z_u (z_u (z_u F 0 (nI 0)) 38 (nI 0)) 37 (nI (q * q))) 39 (nI (c_dwA S (sq_il q) (q * q) true (A 17) (A 16)).1), z_u (z_u (z_u (z_u (z_u A 18 (arrI (q * q) (fun i => i % q) (A 18))) 19 (arrI (q * q) (fun i => i / q) (A 19))) 20 (arrI (q * q) (fun _ => 0) (A 20))) 17 (c_dwA S (sq_il q) (q * q) true (A 17) (A 16)).2.1) 16 (c_dwA S (sq_il q) (q * q) true (A 17) (A 16)).2.2, agr_u (agr_u (agr_u (agr_u (agr_u (agr_rf h5) (by decide) (by decide) _) (by decide) (by decide) _) (by decide) (by decide) _) (by decide) (by decide) _) (by decide) (by decide) _, agrF_u (agrF_u (agrF_u (agrF_u agrF_rf (by decide) _) (by decide) _) (by decide) _) (by decide) _, by rw [u_ne _ _ (by decide), u_ne _ _ (by decide), u_ne _ _ (by decide), u_eq], en_X12_square (b_X12_square_0 z_puCV ⟨sh_kd hM, ?_⟩)⟩
      rw [rs_poi, t_isP hA, hp, if_neg (by decide), isIn_24, decide_eq_true hg, if_neg (by decide), rs_poi, rs_poi]
      refine ⟨sh_kd hM, hM, trivial, sh_kd hM, sh_kd hM, ?_⟩
      have key := z_forI (G := G) (d := d + 15) (μ := m_X12_square z_puC) (r := (.inl (some (.int (if (c_dwA S (sq_il q) (q * q) true (A 17) (A 16)).1 = 0 then mI else (c_dwA S (sq_il q) (q * q) true (A 17) (A 16)).2.1 i))), z_rs h M (z_u (z_u (z_u (z_u F 0 (nI 0)) 38 (nI 0)) 37 (nI (q * q))) 39 (nI (c_dwA S (sq_il q) (q * q) true (A 17) (A 16)).1)) (z_u (z_u (z_u (z_u (z_u A 18 (arrI (q * q) (fun i => i % q) (A 18))) 19 (arrI (q * q) (fun i => i / q) (A 19))) 20 (arrI (q * q) (fun _ => 0) (A 20))) 17 (c_dwA S (sq_il q) (q * q) true (A 17) (A 16)).2.1) 16 (c_dwA S (sq_il q) (q * q) true (A 17) (A 16)).2.2))) (pc := 46) (α := Unit) (fun y _ => [some (.ref M), some (.int (nI q)), some (.int (nI i)), some (.int (nI y)), none]) (fun y _ => z_rs h M (z_u (z_u (z_u F 0 (nI 0)) 38 (nI 0)) 37 (nI (q * y))) (z_u (z_u (z_u A 18 (arrI (q * y) (fun i => i % q) (A 18))) 19 (arrI (q * y) (fun i => i / q) (A 19))) 20 (arrI (q * y) (fun _ => 0) (A 20)))) (fun _ _ => True) (fun _ x => x) () q trivial ?_ ?_
      · rw [Nat.mul_zero, show arrI 0 (fun i => i % q) (A 18) = A 18 from rfl, show arrI 0 (fun i => i / q) (A 19) = A 19 from rfl, show arrI 0 (fun _ => 0) (A 20) = A 20 from rfl, u_self, u_self, u_self, u_comm (z_u F 0 (nI 0)) (nI 0) (nI 0) (show 38 ≠ 37 by decide)] at key
        exact key
      · intro y _ hy _
        refine ⟨trivial, fun hJ => b_X12_square_46 z_puCV ?_⟩
        rw [if_pos (nI_lt hy (by omega))]
        refine z_forI (α := Unit) (fun x _ => [some (.ref M), some (.int (nI q)), some (.int (nI i)), some (.int (nI y)), some (.int (nI x))]) (fun x _ => z_rs h M (z_u (z_u (z_u F 0 (nI 0)) 38 (nI 0)) 37 (nI (q * y + x))) (z_u (z_u (z_u A 18 (arrI (q * y + x) (fun i => i % q) (A 18))) 19 (arrI (q * y + x) (fun i => i / q) (A 19))) 20 (arrI (q * y + x) (fun _ => 0) (A 20)))) (fun _ _ => True) (fun _ x => x) () q trivial ?_ ?_
        · intro x _ hx _
          refine ⟨trivial, fun hJ2 => b_X12_square_54 z_puCV ?_⟩
          have hlt : q * y + x < q * q := by
            have : q * y + q ≤ q * q := by rw [← Nat.mul_succ]; exact Nat.mul_le_mul_left _ (by omega)
            omega
          have el := e_layM (G := G) (d := d + 10) (F := z_u (z_u (z_u F 0 (nI 0)) 38 (nI 0)) 37 (nI (q * y + x))) (A := A) (k := q * y + x) (P := fun i => i % q) (Q := fun i => i / q) (T := fun _ => 0) hM (by omega) (u_eq _ _ _)
          rw [show (q * y + x) % q = x from by rw [Nat.mul_add_mod]; exact Nat.mod_eq_of_lt hx, show (q * y + x) / q = y from by rw [Nat.mul_add_div (by omega), Nat.div_eq_of_lt hx, Nat.add_zero], u_u] at el
          rw [if_pos (nI_lt hx (by omega)), nI_add]
          exact ⟨sh_kd hM, _, el, hJ2⟩
        · intro _
          refine b_X12_square_54 z_puCV ?_
          rw [if_neg (nI_nlt (Nat.le_refl _) (by omega)), nI_add]
          rw [Nat.mul_succ] at hJ
          exact hJ
      · intro _
        refine b_X12_square_46 z_puCV ?_
        rw [if_neg (nI_nlt (Nat.le_refl _) (by omega)), rs_poi]
        have e1 : z_u (z_u (z_u A 18 (arrI (q * q) (fun i => i % q) (A 18))) 19 (arrI (q * q) (fun i => i / q) (A 19))) 20 (arrI (q * q) (fun _ => 0) (A 20)) 1 = A 1 := by rw [u_ne _ _ (by decide), u_ne _ _ (by decide), u_ne _ _ (by decide)]
        have e17 : z_u (z_u (z_u A 18 (arrI (q * q) (fun i => i % q) (A 18))) 19 (arrI (q * q) (fun i => i / q) (A 19))) 20 (arrI (q * q) (fun _ => 0) (A 20)) 17 = A 17 := by rw [u_ne _ _ (by decide), u_ne _ _ (by decide), u_ne _ _ (by decide)]
        have e16 : z_u (z_u (z_u A 18 (arrI (q * q) (fun i => i % q) (A 18))) 19 (arrI (q * q) (fun i => i / q) (A 19))) 20 (arrI (q * q) (fun _ => 0) (A 20)) 16 = A 16 := by rw [u_ne _ _ (by decide), u_ne _ _ (by decide), u_ne _ _ (by decide)]
        have ed := e_draws (G := G) (d := d + 8 - S.1) (F := z_u (z_u (z_u F 0 (nI 0)) 38 (nI 0)) 37 (nI (q * q))) (A := z_u (z_u (z_u A 18 (arrI (q * q) (fun i => i % q) (A 18))) 19 (arrI (q * q) (fun i => i / q) (A 19))) 20 (arrI (q * q) (fun _ => 0) (A 20))) (S := S) hM (by rw [e1]; exact hR) (by rw [e1]; exact hS) hqq (u_eq _ _ _) (il := sq_il q) (fun a b c ha hb hc => by
          rw [u_ne _ _ (show 38 ≠ 37 by decide), u_eq, u_ne _ _ (show 18 ≠ 20 by decide), u_ne _ _ (show 18 ≠ 19 by decide), u_eq, u_ne _ _ (show 19 ≠ 20 by decide), u_eq, u_eq]
          unfold sq_il c_ilo
          rw [if_pos rfl, if_pos rfl, arrI_in ha, arrI_in hb, arrI_in hc, arrI_in ha, arrI_in hb, arrI_in hc]) true S.1 0 (0, A 17, A 16) (Nat.zero_add _) (fun i hi => absurd hi (Nat.not_lt_zero i)) rfl
        dsimp only at ed
        have ex : z_u (z_u (z_u (z_u (z_u A 18 (arrI (q * q) (fun i => i % q) (A 18))) 19 (arrI (q * q) (fun i => i / q) (A 19))) 20 (arrI (q * q) (fun _ => 0) (A 20))) 17 (A 17)) 16 (A 16) = z_u (z_u (z_u A 18 (arrI (q * q) (fun i => i % q) (A 18))) 19 (arrI (q * q) (fun i => i / q) (A 19))) 20 (arrI (q * q) (fun _ => 0) (A 20)) := by
          have q1 := u_self (z_u (z_u (z_u A 18 (arrI (q * q) (fun i => i % q) (A 18))) 19 (arrI (q * q) (fun i => i / q) (A 19))) 20 (arrI (q * q) (fun _ => 0) (A 20))) 17
          have q2 := u_self (z_u (z_u (z_u A 18 (arrI (q * q) (fun i => i % q) (A 18))) 19 (arrI (q * q) (fun i => i / q) (A 19))) 20 (arrI (q * q) (fun _ => 0) (A 20))) 16
          rw [e17] at q1
          rw [e16] at q2
          rw [q1, q2]
        rw [ex] at ed
        refine ⟨sh_kd hM, sh_kd hM, _, z_Ev_eq (by omega) ed, ?_⟩
        have hle : (c_dwA S (sq_il q) (q * q) true (A 17) (A 16)).1 ≤ 1 := c_dw_one _ _ _ rfl
        show _ ∧ (if z_oi (z_rs h M (z_u (z_u (z_u (z_u F 0 (nI 0)) 38 (nI 0)) 37 (nI (q * q))) 39 (nI (c_dwA S (sq_il q) (q * q) true (A 17) (A 16)).1)) (z_u (z_u (z_u (z_u (z_u A 18 (arrI (q * q) (fun i => i % q) (A 18))) 19 (arrI (q * q) (fun i => i / q) (A 19))) 20 (arrI (q * q) (fun _ => 0) (A 20))) 17 (c_dwA S (sq_il q) (q * q) true (A 17) (A 16)).2.1) 16 (c_dwA S (sq_il q) (q * q) true (A 17) (A 16)).2.2)) M 39 = nI 0 then _ else _)
        rw [rs_oi, u_eq]
        refine ⟨sh_kd hM, ?_⟩
        by_cases hz : (c_dwA S (sq_il q) (q * q) true (A 17) (A 16)).1 = 0
        · rw [if_pos (by rw [hz]), if_pos hz]
          rfl
        · rw [if_neg (fun e => hz ((nI_eq (by omega) (by omega)).mp e)), if_neg hz]
          show z_kd h M = 28 ∧ z_rc (z_or h M 33) _ _
          rw [(sh_firstPlaces hM).1, z_rcs]
          refine ⟨sh_kd hM, (sh_firstPlaces hM).2.1, by show vp_in (nI i) (z_ln h (M + 17)); rw [(sh_firstPlaces hM).2.2]; exact vp_in_nI (by omega) (by omega), ?_⟩
          show _ = ((.inl (some (.int (z_ai (z_rs h M (z_u (z_u (z_u (z_u F 0 (nI 0)) 38 (nI 0)) 37 (nI (q * q))) 39 (nI (c_dwA S (sq_il q) (q * q) true (A 17) (A 16)).1)) (z_u (z_u (z_u (z_u (z_u A 18 (arrI (q * q) (fun i => i % q) (A 18))) 19 (arrI (q * q) (fun i => i / q) (A 19))) 20 (arrI (q * q) (fun _ => 0) (A 20))) 17 (c_dwA S (sq_il q) (q * q) true (A 17) (A 16)).2.1) 16 (c_dwA S (sq_il q) (q * q) true (A 17) (A 16)).2.2)) (M + 17) (nI i).toNatClampNeg))), _) : z_Res)
          rw [nI_clamp hi2, rs_ai _ _ _ _ (by omega) (by omega), u_ne _ _ (show 17 ≠ 16 by decide), u_eq]
          rfl
    · rw [if_neg hg]
      refine ⟨z_u F 0 (nI 2), A, agr_rf h5, agrF_u agrF_rf (by decide) _, u_eq _ _ _, en_X12_square (b_X12_square_0 z_puCV ⟨sh_kd hM, ?_⟩)⟩
      rw [rs_poi, t_isP hA, hp, if_neg (by decide), isIn_24, decide_eq_false hg, if_pos (by decide)]
      exact ⟨sh_kd hM, hM, trivial, sh_kd hM, _, _, e_failF (d := d + 10) hM, rfl⟩
theorem pl_step {q u : Nat} (hq : q = 2 ∨ q = 3) (hu : u < q * q * q - 1) (hi : pl_is q (1 + u) = true) : pl_cd q (pl_cn q u) = 1 + u := by
  rcases hq with rfl | rfl
  · exact pl_at2 u hu hi
  · exact pl_at3 u hu hi
theorem pl_end {q : Nat} (hq : q = 2 ∨ q = 3) : pl_cn q (q * q * q - 1) = pl_pm q := by
  rcases hq with rfl | rfl
  · exact pl_n2
  · exact pl_n3
theorem l_plane (hM : z_sh M h) {q : Nat} (hq : q = 2 ∨ q = 3) (p : Int32) (r : z_Res) (F0 : Nat → Int32) (K : z_J G (d + 15) (m_X12_plane z_puC) r 51 [some (.ref M), some (.int (nI q)), some (.int p), some (.int (nI (1 + (q * q * q - 1)))), none, none, none] [] (z_rs h M (z_u F0 37 (nI (pl_pm q))) (z_u (z_u (z_u A 18 (arrI (pl_pm q) (fun i => pl_cd q i / (q * q)) (A 18))) 19 (arrI (pl_pm q) (fun i => pl_cd q i / q % q) (A 19))) 20 (arrI (pl_pm q) (fun i => pl_cd q i % q) (A 20))))) : z_J G (d + 15) (m_X12_plane z_puC) r 51 [some (.ref M), some (.int (nI q)), some (.int p), some (.int (nI 1)), none, none, none] [] (z_rs h M (z_u F0 37 (nI 0)) A) := by
  have hq3 : 2 ≤ q ∧ q ≤ 3 := by omega
  have hqq : q * q * q ≤ 27 ∧ 8 ≤ q * q * q ∧ 4 ≤ q * q ∧ q * q ≤ 9 := by rcases hq with rfl | rfl <;> decide
  have key := z_forI (G := G) (d := d + 15) (μ := m_X12_plane z_puC) (r := r) (pc := 51) (α := Unit) (fun u _ => [some (.ref M), some (.int (nI q)), some (.int p), some (.int (nI (1 + u))), none, none, none]) (fun u _ => z_rs h M (z_u F0 37 (nI (pl_cn q u))) (z_u (z_u (z_u A 18 (arrI (pl_cn q u) (fun i => pl_cd q i / (q * q)) (A 18))) 19 (arrI (pl_cn q u) (fun i => pl_cd q i / q % q) (A 19))) 20 (arrI (pl_cn q u) (fun i => pl_cd q i % q) (A 20)))) (fun _ _ => True) (fun _ x => x) () (q * q * q - 1) trivial ?_ ?_
  · rw [show pl_cn q 0 = 0 from rfl, show arrI 0 (fun i => pl_cd q i / (q * q)) (A 18) = A 18 from rfl, show arrI 0 (fun i => pl_cd q i / q % q) (A 19) = A 19 from rfl, show arrI 0 (fun i => pl_cd q i % q) (A 20) = A 20 from rfl, u_self, u_self, u_self] at key
    exact key
  · intro u _ hu _
    refine ⟨trivial, fun hJ => b_X12_plane_51 z_puCV ?_⟩
    have hv : 1 + u < q * q * q := by omega
    have hcn := pl_m hq (show u < 27 by omega)
    have hne : ¬ nI (q * q) = nI 0 := fun e => by have := (nI_eq (by omega) (by omega)).mp e; omega
    have hne2 : ¬ nI q = nI 0 := fun e => by have := (nI_eq (by omega) (by omega)).mp e; omega
    rw [n_mul, n_mul, if_pos (nI_lt hv (by omega)), pk_div (show 1 + u < 2 ^ 31 by omega) (show 0 < q * q by omega) (by omega), pk_div (show 1 + u < 2 ^ 31 by omega) (show 0 < q by omega) (by omega)]
    rw [pk_rem (show (1 + u) / q < 2 ^ 31 from Nat.lt_of_le_of_lt (Nat.div_le_self _ _) (by omega)) (show 0 < q by omega) (by omega), show nI (1 + u) - nI ((1 + u) / q) * nI q = nI ((1 + u) % q) from by
      have := pk_rem (show 1 + u < 2 ^ 31 by omega) (show 0 < q by omega) (show q < 2 ^ 31 by omega)
      rw [pk_div (show 1 + u < 2 ^ 31 by omega) (show 0 < q by omega) (by omega)] at this
      exact this, nI_add]
    refine ⟨hne, hne2, hne2, hne2, ?_⟩
    have b1 : (1 + u) / (q * q) ≤ 26 := Nat.le_trans (Nat.div_le_self _ _) (by omega)
    have b2 : (1 + u) / q % q < q := Nat.mod_lt _ (by omega)
    have b3 : (1 + u) % q < q := Nat.mod_lt _ (by omega)
    have yes : pl_is q (1 + u) = true → z_kd (z_rs h M (z_u F0 37 (nI (pl_cn q u))) (z_u (z_u (z_u A 18 (arrI (pl_cn q u) (fun i => pl_cd q i / (q * q)) (A 18))) 19 (arrI (pl_cn q u) (fun i => pl_cd q i / q % q) (A 19))) 20 (arrI (pl_cn q u) (fun i => pl_cd q i % q) (A 20)))) M = 28 ∧ ∃ h1, z_Ev G (d + 14) k_X12_layPlace [.ref M, .int (nI ((1 + u) / (q * q))), .int (nI ((1 + u) / q % q)), .int (nI ((1 + u) % q))] (z_rs h M (z_u F0 37 (nI (pl_cn q u))) (z_u (z_u (z_u A 18 (arrI (pl_cn q u) (fun i => pl_cd q i / (q * q)) (A 18))) 19 (arrI (pl_cn q u) (fun i => pl_cd q i / q % q) (A 19))) 20 (arrI (pl_cn q u) (fun i => pl_cd q i % q) (A 20)))) (.inl none, h1) ∧ z_J G (d + 15) (m_X12_plane z_puC) r 51 [some (.ref M), some (.int (nI q)), some (.int p), some (.int (nI (1 + u + 1))), none, none, none] [] h1 := by
      intro hi
      have el := e_layM (G := G) (d := d + 10) (F := z_u F0 37 (nI (pl_cn q u))) (A := A) (k := pl_cn q u) (P := fun i => pl_cd q i / (q * q)) (Q := fun i => pl_cd q i / q % q) (T := fun i => pl_cd q i % q) hM (by omega) (u_eq _ _ _)
      rw [pl_step hq hu hi, u_u] at el
      rw [show pl_cn q (u + 1) = pl_cn q u + 1 from fa_cnt_yes hi] at hJ
      exact ⟨sh_kd hM, _, el, hJ⟩
    have no : pl_is q (1 + u) = false → z_J G (d + 15) (m_X12_plane z_puC) r 51 [some (.ref M), some (.int (nI q)), some (.int p), some (.int (nI (1 + u + 1))), none, none, none] [] (z_rs h M (z_u F0 37 (nI (pl_cn q u))) (z_u (z_u (z_u A 18 (arrI (pl_cn q u) (fun i => pl_cd q i / (q * q)) (A 18))) 19 (arrI (pl_cn q u) (fun i => pl_cd q i / q % q) (A 19))) 20 (arrI (pl_cn q u) (fun i => pl_cd q i % q) (A 20)))) := by
      intro hi
      rw [show pl_cn q (u + 1) = pl_cn q u from fa_cnt_no hi] at hJ
      exact hJ
    unfold pl_is at yes no
    by_cases c1 : (1 + u) / (q * q) = 0
    · rw [if_pos c1] at yes no
      rw [if_pos (by rw [c1])]
      by_cases c2 : (1 + u) / q % q = 0
      · rw [if_pos c2] at yes no
        rw [if_pos (by rw [c2])]
        by_cases c3 : (1 + u) % q = 1
        · rw [if_pos (by rw [c3])]; exact yes (by rw [c3]; rfl)
        · rw [if_neg (fun e => c3 ((nI_eq (by omega) (by omega)).mp e))]; exact no (by simp [c3])
      · rw [if_neg c2] at yes no
        rw [if_neg (fun e => c2 ((nI_eq (by omega) (by omega)).mp e))]
        by_cases c3 : (1 + u) / q % q = 1
        · rw [if_pos (by rw [c3])]; exact yes (by rw [c3]; rfl)
        · rw [if_neg (fun e => c3 ((nI_eq (by omega) (by omega)).mp e))]; exact no (by simp [c3])
    · rw [if_neg c1] at yes no
      rw [if_neg (fun e => c1 ((nI_eq (by omega) (by omega)).mp e))]
      by_cases c3 : (1 + u) / (q * q) = 1
      · rw [if_pos (by rw [c3])]; exact yes (by rw [c3]; rfl)
      · rw [if_neg (fun e => c3 ((nI_eq (by omega) (by omega)).mp e))]; exact no (by simp [c3])
  · intro _
    rw [pl_end hq]
    exact K
theorem e_planeP (hM : z_sh M h) (hR : r_ok (A 1)) (hS : r_S (A 1) = S) (h5 : r_nm (A 5)) (g p : Int32) : ∃ F' A', agr [16, 17, 18, 19, 20] A A' ∧ agrF [0, 37, 38, 39] F F' ∧ F' 0 = (c_plane S (A 17) (A 16) g p).2 ∧ z_Ev G (d + 15) k_X12_plane [.ref M, .int g, .int p] (z_rs h M F A) (.inl (some (.int (c_plane S (A 17) (A 16) g p).1)), z_rs h M F' A') := by
  have hA := at_rs (F := z_u F 0 (nI 0)) hM hR hS
  have hn := t_n8 hA
  unfold c_plane
  by_cases hp : p = mI ∨ c_in p S.1 = true
  · rw [if_pos hp]
    by_cases hg : g = nI 2 ∨ g = nI 3
    · rw [if_pos hg]
      have hgg : ∃ q, (q = 2 ∨ q = 3) ∧ g = nI q := by
        rcases hg with e | e
        · exact ⟨2, Or.inl rfl, e⟩
        · exact ⟨3, Or.inr rfl, e⟩
      obtain ⟨q, hq, rfl⟩ := hgg
      have hpm : pl_pm q ≤ 13 := by rcases hq with rfl | rfl <;> decide
      have hq3 : q * q * q ≤ 27 ∧ 1 ≤ q * q * q ∧ q ≤ 3 := by rcases hq with rfl | rfl <;> decide
      rw [nI_clamp (show q < 2 ^ 31 by omega)]
      have start : ∀ r, z_J G (d + 15) (m_X12_plane z_puC) r 51 [some (.ref M), some (.int (nI q)), some (.int p), some (.int (nI 1)), none, none, none] [] (z_rs h M (z_u (z_u (z_u F 0 (nI 0)) 38 (nI q)) 37 (nI 0)) A) → z_Ev G (d + 15) k_X12_plane [.ref M, .int (nI q), .int p] (z_rs h M F A) r := by
        intro r hJ
        rw [u_comm (z_u F 0 (nI 0)) (nI q) (nI 0) (show 38 ≠ 37 by decide)] at hJ
        refine en_X12_plane (b_X12_plane_0 z_puCV ⟨sh_kd hM, ?_⟩)
        rw [rs_poi, t_isP hA, isIn_23, decide_eq_true hg, rs_poi, rs_poi, if_neg (show ¬ nI true.toNat = nI 0 by decide)]
        by_cases hpm1 : p = mI
        · rw [if_pos hpm1]
          exact ⟨trivial, sh_kd hM, sh_kd hM, hJ⟩
        · rw [if_neg hpm1]
          have : c_in p S.1 = true := by rcases hp with e | e; exact absurd e hpm1; exact e
          rw [this, if_neg (by decide)]
          exact ⟨sh_kd hM, hM, trivial, sh_kd hM, sh_kd hM, hJ⟩
      have fin : ∀ (one : Bool), z_Ev G (d + 14) k_X12_draws [.ref M, .int (nI 0), .int (nI one.toNat)] (z_rs h M (z_u (z_u (z_u (z_u F 0 (nI 0)) 38 (nI q)) 37 (nI (pl_pm q))) 39 (nI 0)) (z_u (z_u (z_u A 18 (arrI (pl_pm q) (fun i => pl_cd q i / (q * q)) (A 18))) 19 (arrI (pl_pm q) (fun i => pl_cd q i / q % q) (A 19))) 20 (arrI (pl_pm q) (fun i => pl_cd q i % q) (A 20)))) (.inl none, z_rs h M (z_u (z_u (z_u (z_u F 0 (nI 0)) 38 (nI q)) 37 (nI (pl_pm q))) 39 (nI (c_dwA S (pl_il q) (pl_pm q) one (A 17) (A 16)).1)) (z_u (z_u (z_u (z_u (z_u A 18 (arrI (pl_pm q) (fun i => pl_cd q i / (q * q)) (A 18))) 19 (arrI (pl_pm q) (fun i => pl_cd q i / q % q) (A 19))) 20 (arrI (pl_pm q) (fun i => pl_cd q i % q) (A 20))) 17 (c_dwA S (pl_il q) (pl_pm q) one (A 17) (A 16)).2.1) 16 (c_dwA S (pl_il q) (pl_pm q) one (A 17) (A 16)).2.2)) := by
        intro one
        generalize hX : z_u (z_u (z_u A 18 (arrI (pl_pm q) (fun i => pl_cd q i / (q * q)) (A 18))) 19 (arrI (pl_pm q) (fun i => pl_cd q i / q % q) (A 19))) 20 (arrI (pl_pm q) (fun i => pl_cd q i % q) (A 20)) = X
        have e1 : X 1 = A 1 := by rw [← hX, u_ne _ _ (by decide), u_ne _ _ (by decide), u_ne _ _ (by decide)]
        have e17 : X 17 = A 17 := by rw [← hX, u_ne _ _ (by decide), u_ne _ _ (by decide), u_ne _ _ (by decide)]
        have e16 : X 16 = A 16 := by rw [← hX, u_ne _ _ (by decide), u_ne _ _ (by decide), u_ne _ _ (by decide)]
        have ed := e_draws (G := G) (d := d + 8 - S.1) (F := z_u (z_u (z_u F 0 (nI 0)) 38 (nI q)) 37 (nI (pl_pm q))) (A := X) (S := S) hM (by rw [e1]; exact hR) (by rw [e1]; exact hS) (show pl_pm q ≤ 16 by omega) (u_eq _ _ _) (il := pl_il q) (fun a b c ha hb hc => by
          rw [← hX, u_ne _ _ (show 38 ≠ 37 by decide), u_eq, u_ne _ _ (show 18 ≠ 20 by decide), u_ne _ _ (show 18 ≠ 19 by decide), u_eq, u_ne _ _ (show 19 ≠ 20 by decide), u_eq, u_eq]
          unfold pl_il c_ilo c_span
          have hne : ¬ nI q = nI 0 := fun e => by have := (nI_eq (by omega) (by omega)).mp e; omega
          rw [if_neg hne, if_neg hne]
          simp (disch := omega) only [arrI_in]) one S.1 0 (0, A 17, A 16) (Nat.zero_add _) (fun i hi => absurd hi (Nat.not_lt_zero i)) (by
          unfold c_bnd
          cases one
          · rw [if_neg (by decide)]
            have h1 : pl_pm q ^ S.1 ≤ 13 ^ S.1 := Nat.pow_le_pow_left hpm _
            have h2 : 13 ^ S.1 ≤ 13 ^ 8 := Nat.pow_le_pow_right (by decide) hn.2
            have h3 : 13 ^ 8 < 2 ^ 30 := by decide
            show 0 + pl_pm q ^ S.1 < 2 ^ 30
            omega
          · rfl)
        dsimp only at ed
        have ex : z_u (z_u X 17 (A 17)) 16 (A 16) = X := by
          have q1 := u_self X 17
          have q2 := u_self X 16
          rw [e17] at q1
          rw [e16] at q2
          rw [q1, q2]
        rw [ex] at ed
        exact z_Ev_eq (by omega) ed
      have ag : ∀ f g, agr [16, 17, 18, 19, 20] A (z_u (z_u (z_u (z_u (z_u A 18 (arrI (pl_pm q) (fun i => pl_cd q i / (q * q)) (A 18))) 19 (arrI (pl_pm q) (fun i => pl_cd q i / q % q) (A 19))) 20 (arrI (pl_pm q) (fun i => pl_cd q i % q) (A 20))) 17 f) 16 g) := fun f g => agr_u (agr_u (agr_u (agr_u (agr_u (agr_rf h5) (by decide) (by decide) _) (by decide) (by decide) _) (by decide) (by decide) _) (by decide) (by decide) _) (by decide) (by decide) _
      have agF : ∀ v, agrF [0, 37, 38, 39] F (z_u (z_u (z_u (z_u F 0 (nI 0)) 38 (nI q)) 37 (nI (pl_pm q))) 39 v) := fun v => agrF_u (agrF_u (agrF_u (agrF_u agrF_rf (by decide) _) (by decide) _) (by decide) _) (by decide) _
      have f0 : ∀ v, z_u (z_u (z_u (z_u F 0 (nI 0)) 38 (nI q)) 37 (nI (pl_pm q))) 39 v 0 = nI 0 := fun v => by rw [u_ne _ _ (by decide), u_ne _ _ (by decide), u_ne _ _ (by decide), u_eq]
      by_cases hpm1 : p = mI
      · rw [if_pos hpm1]
        refine ⟨_, _, ag (c_dwA S (pl_il q) (pl_pm q) false (A 17) (A 16)).2.1 (c_dwA S (pl_il q) (pl_pm q) false (A 17) (A 16)).2.2, agF (nI (c_dwA S (pl_il q) (pl_pm q) false (A 17) (A 16)).1), f0 _, start _ (l_plane hM hq p _ _ (b_X12_plane_51 z_puCV ?_))⟩
        · rw [n_mul, n_mul, show 1 + (q * q * q - 1) = q * q * q by omega, if_neg (show ¬ nI (q * q * q) < nI (q * q * q) from nI_nlt (Nat.le_refl _) (by omega)), if_pos hpm1, rs_poi]
          refine ⟨sh_kd hM, sh_kd hM, _, fin false, ?_⟩
          rw [if_pos hpm1, rs_oi, u_eq]
          exact ⟨sh_kd hM, rfl⟩
      · rw [if_neg hpm1]
        have hc : c_in p S.1 = true := by rcases hp with e | e; exact absurd e hpm1; exact e
        obtain ⟨i, hi, hi2, rfl⟩ := c_in_t hc
        rw [nI_clamp hi2]
        have hle : (c_dwA S (pl_il q) (pl_pm q) true (A 17) (A 16)).1 ≤ 1 := c_dw_one _ _ _ rfl
        refine ⟨_, _, ag (c_dwA S (pl_il q) (pl_pm q) true (A 17) (A 16)).2.1 (c_dwA S (pl_il q) (pl_pm q) true (A 17) (A 16)).2.2, agF (nI (c_dwA S (pl_il q) (pl_pm q) true (A 17) (A 16)).1), f0 _, start _ (l_plane hM hq (nI i) _ _ (b_X12_plane_51 z_puCV ?_))⟩
        · rw [n_mul, n_mul, show 1 + (q * q * q - 1) = q * q * q by omega, if_neg (show ¬ nI (q * q * q) < nI (q * q * q) from nI_nlt (Nat.le_refl _) (by omega)), if_neg hpm1, rs_poi]
          refine ⟨sh_kd hM, sh_kd hM, _, fin true, ?_⟩
          rw [if_neg hpm1, rs_oi, u_eq]
          refine ⟨sh_kd hM, ?_⟩
          by_cases hz : (c_dwA S (pl_il q) (pl_pm q) true (A 17) (A 16)).1 = 0
          · rw [if_pos (by rw [hz]), if_pos hz]
          · rw [if_neg (fun e => hz ((nI_eq (by omega) (by omega)).mp e)), if_neg hz]
            show z_kd h M = 28 ∧ z_rc (z_or h M 33) _ _
            rw [(sh_firstPlaces hM).1, z_rcs]
            refine ⟨sh_kd hM, (sh_firstPlaces hM).2.1, by show vp_in (nI i) (z_ln h (M + 17)); rw [(sh_firstPlaces hM).2.2]; exact vp_in_nI (by omega) (by omega), ?_⟩
            rw [nI_clamp hi2, rs_ai _ _ _ _ (by omega) (by omega), u_ne _ _ (show 17 ≠ 16 by decide), u_eq]
    · rw [if_neg hg]
      refine ⟨z_u F 0 (nI 2), A, agr_rf h5, agrF_u agrF_rf (by decide) _, u_eq _ _ _, en_X12_plane (b_X12_plane_0 z_puCV ⟨sh_kd hM, ?_⟩)⟩
      rw [rs_poi, t_isP hA, isIn_23, decide_eq_false hg, if_pos (show nI false.toNat = nI 0 from rfl)]
      by_cases hpm1 : p = mI
      · rw [if_pos hpm1]
        exact ⟨trivial, sh_kd hM, _, _, e_failF (d := d + 10) hM, rfl⟩
      · rw [if_neg hpm1]
        have hc : c_in p S.1 = true := by rcases hp with e | e; exact absurd e hpm1; exact e
        rw [hc, if_neg (by decide)]
        exact ⟨sh_kd hM, hM, trivial, sh_kd hM, _, _, e_failF (d := d + 10) hM, rfl⟩
  · rw [if_neg hp]
    refine ⟨z_u F 0 (nI 1), A, agr_rf h5, agrF_u agrF_rf (by decide) _, u_eq _ _ _, en_X12_plane (b_X12_plane_0 z_puCV ⟨sh_kd hM, ?_⟩)⟩
    have hc : c_in p S.1 = false := by
      cases hq : c_in p S.1
      · rfl
      · exact absurd (Or.inr hq) hp
    rw [rs_poi, t_isP hA, hc, if_neg (fun e => hp (Or.inl e)), if_pos (by decide)]
    exact ⟨sh_kd hM, hM, sh_kd hM, _, _, e_failF (d := d + 10) hM, rfl⟩
end CY
