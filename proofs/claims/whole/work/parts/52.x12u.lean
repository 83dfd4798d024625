theorem en_X12_add {pu : Nat → Option ((List Value → z_H → Prop) × (List Value → z_H → Int32))} {G : z_G} {d : Nat} {r : z_Res} {h : z_H} {x0 : Nat} {x1 : Int32} (hJ : z_J G d (m_X12_add pu) r 0 [some (.ref x0), some (.int x1)] [] h) : z_Ev G d k_X12_add [.ref x0, .int x1] h r := z_enter (μ := m_X12_add pu) rfl (by decide) rfl rfl (fun q => by cases q) (Nat.le_of_ble_eq_true rfl) hJ
def hd_X12_add : Nat → Option (List Bool) := (fun k => none)
set_option maxRecDepth 20000 in
theorem b_X12_add_0 {G : z_G} {d : Nat} {r : z_Res} (hPu : z_PuV G d (t_X12 z_puC)) {h : z_H} {x0 : Nat} {x1 : Int32} (hT : (z_kd h x0 = 28 ∧ (z_kd (z_poi h x0 0 (nI 0)) x0 = 28 ∧ ∃ x_2 h_1, z_Ev G d k_X12_canAdd [.ref x0, .int x1] (z_poi h x0 0 (nI 0)) (.inl (some (.int x_2)), h_1) ∧ (if x_2 = (nI 0) then (z_kd h_1 x0 = 28 ∧ ∃ x_4 h_3, z_Ev G d k_X12_refuse [.ref x0] h_1 (.inl (some (.int x_4)), h_3) ∧ r = (.inl (some (.int x_4)), h_3)) else (z_kd h_1 x0 = 28 ∧ ∃ h_5, z_Ev G d k_X12_keep [.ref x0] h_1 (.inl none, h_5) ∧ (z_kd h_5 x0 = 28 ∧ ∃ h_6, z_Ev G d k_X12_addNow [.ref x0, .int x1] h_5 (.inl none, h_6) ∧ (z_kd h_6 x0 = 28 ∧ s_X12_lines x0 h_6 ∧ r = (.inl (some (.int ((f_X12_lines x0 h_6) - (nI 1)))), h_6)))))))) : (z_J G (d + 1) (m_X12_add z_puC) r) 0 [some (.ref x0), some (.int x1)] [] h := z_bq (v_X12 z_puC (vP_X12_add z_puC) hPu) hd_X12_add 19 hT
theorem en_X12_drop {pu : Nat → Option ((List Value → z_H → Prop) × (List Value → z_H → Int32))} {G : z_G} {d : Nat} {r : z_Res} {h : z_H} {x0 : Nat} {x1 : Int32} (hJ : z_J G d (m_X12_drop pu) r 0 [some (.ref x0), some (.int x1)] [] h) : z_Ev G d k_X12_drop [.ref x0, .int x1] h r := z_enter (μ := m_X12_drop pu) rfl (by decide) rfl rfl (fun q => by cases q) (Nat.le_of_ble_eq_true rfl) hJ
def hd_X12_drop : Nat → Option (List Bool) := (fun k => none)
set_option maxRecDepth 20000 in
theorem b_X12_drop_0 {G : z_G} {d : Nat} {r : z_Res} (hPu : z_PuV G d (t_X12 z_puC)) {h : z_H} {x0 : Nat} {x1 : Int32} (hT : (z_kd h x0 = 28 ∧ (z_kd (z_poi h x0 0 (nI 0)) x0 = 28 ∧ s_X12_isLine x0 x1 (z_poi h x0 0 (nI 0)) ∧ (if (f_X12_isLine x0 x1 (z_poi h x0 0 (nI 0))) = (nI 0) then (z_kd (z_poi h x0 0 (nI 0)) x0 = 28 ∧ ∃ x_2 h_1, z_Ev G d k_X12_refuse [.ref x0] (z_poi h x0 0 (nI 0)) (.inl (some (.int x_2)), h_1) ∧ r = (.inl (some (.int x_2)), h_1)) else (z_kd (z_poi h x0 0 (nI 0)) x0 = 28 ∧ ∃ h_3, z_Ev G d k_X12_keep [.ref x0] (z_poi h x0 0 (nI 0)) (.inl none, h_3) ∧ (z_kd h_3 x0 = 28 ∧ ∃ x_5 h_4, z_Ev G d k_X12_dropNow [.ref x0, .int x1] h_3 (.inl (some (.int x_5)), h_4) ∧ r = (.inl (some (.int x_5)), h_4))))))) : (z_J G (d + 1) (m_X12_drop z_puC) r) 0 [some (.ref x0), some (.int x1)] [] h := z_bq (v_X12 z_puC (vP_X12_drop z_puC) hPu) hd_X12_drop 15 hT
theorem en_X12_swap {pu : Nat → Option ((List Value → z_H → Prop) × (List Value → z_H → Int32))} {G : z_G} {d : Nat} {r : z_Res} {h : z_H} {x0 : Nat} {x1 : Int32} {x2 : Int32} (hJ : z_J G d (m_X12_swap pu) r 0 [some (.ref x0), some (.int x1), some (.int x2), none] [] h) : z_Ev G d k_X12_swap [.ref x0, .int x1, .int x2] h r := z_enter (μ := m_X12_swap pu) rfl (by decide) rfl rfl (fun q => by cases q) (Nat.le_of_ble_eq_true rfl) hJ
def hd_X12_swap : Nat → Option (List Bool) := (fun k => (cond (Nat.blt k 108) (cond (Nat.beq k 51) (some [true, true, true, true]) none) none))
set_option maxRecDepth 20000 in
theorem b_X12_swap_0 {G : z_G} {d : Nat} {r : z_Res} (hPu : z_PuV G d (t_X12 z_puC)) {h : z_H} {x0 : Nat} {x1 : Int32} {x2 : Int32} (hT : (z_kd h x0 = 28 ∧ (z_kd (z_poi h x0 0 (nI 0)) x0 = 28 ∧ s_X12_isPoint x0 x1 (z_poi h x0 0 (nI 0)) ∧ (if (f_X12_isPoint x0 x1 (z_poi h x0 0 (nI 0))) = (nI 0) then (z_kd (z_poi h x0 0 (nI 0)) x0 = 28 ∧ ∃ x_2 h_1, z_Ev G d k_X12_refused [.ref x0] (z_poi h x0 0 (nI 0)) (.inl (some (.int x_2)), h_1) ∧ (z_bz x_2 ∧ r = (.inl (some (.int x_2)), h_1))) else (z_kd (z_poi h x0 0 (nI 0)) x0 = 28 ∧ s_X12_isPoint x0 x2 (z_poi h x0 0 (nI 0)) ∧ (if (f_X12_isPoint x0 x2 (z_poi h x0 0 (nI 0))) = (nI 0) then (z_kd (z_poi h x0 0 (nI 0)) x0 = 28 ∧ ∃ x_4 h_3, z_Ev G d k_X12_refused [.ref x0] (z_poi h x0 0 (nI 0)) (.inl (some (.int x_4)), h_3) ∧ (z_bz x_4 ∧ r = (.inl (some (.int x_4)), h_3))) else (if x1 = x2 then (z_kd (z_poi h x0 0 (nI 0)) x0 = 28 ∧ ∃ x_6 h_5, z_Ev G d k_X12_refused [.ref x0] (z_poi h x0 0 (nI 0)) (.inl (some (.int x_6)), h_5) ∧ (z_bz x_6 ∧ r = (.inl (some (.int x_6)), h_5))) else (z_kd (z_poi h x0 0 (nI 0)) x0 = 28 ∧ ∃ h_7, z_Ev G d k_X12_keep [.ref x0] (z_poi h x0 0 (nI 0)) (.inl none, h_7) ∧ (z_kd h_7 x0 = 28 ∧ s_X12_points x0 h_7 ∧ (z_kd h_7 x0 = 28 ∧ ∃ h_8, z_Ev G d k_X12_beginNaming [.ref x0, .int (f_X12_points x0 h_7)] h_7 (.inl none, h_8) ∧ (z_kd h_8 x0 = 28 ∧ ∃ h_9, z_Ev G d k_X12_exchange [.ref x0, .int x1, .int x2] h_8 (.inl none, h_9) ∧ (z_J G (d + 1) (m_X12_swap z_puC) r) 51 [some (.ref x0), some (.int x1), some (.int x2), some (.int (nI 0))] [] h_9))))))))))) : (z_J G (d + 1) (m_X12_swap z_puC) r) 0 [some (.ref x0), some (.int x1), some (.int x2), none] [] h := z_bq (v_X12 z_puC (vP_X12_swap z_puC) hPu) hd_X12_swap 29 hT
set_option maxRecDepth 20000 in
theorem b_X12_swap_51 {G : z_G} {d : Nat} {r : z_Res} (hPu : z_PuV G d (t_X12 z_puC)) {h : z_H} {x0 : Nat} {x1 : Int32} {x2 : Int32} {x3 : Int32} (hT : (z_kd h x0 = 28 ∧ s_X12_lines x0 h ∧ (if x3 < (f_X12_lines x0 h) then (z_kd h x0 = 28 ∧ (z_rc (z_or h x0 1) (z_kd h x0 = 28 ∧ s_X12_lineAt x0 x3 h ∧ (z_kd h x0 = 28 ∧ s_X12_named x0 (f_X12_lineAt x0 x3 h) h ∧ False)) (fun x_1 => (z_kd h x0 = 28 ∧ s_X12_lineAt x0 x3 h ∧ (z_kd h x0 = 28 ∧ s_X12_named x0 (f_X12_lineAt x0 x3 h) h ∧ (z_kd h x_1 = 1 ∧ vp_in ((nI 2) + x3) (z_ln h x_1) ∧ (z_J G (d + 1) (m_X12_swap z_puC) r) 51 [some (.ref x0), some (.int x1), some (.int x2), some (.int (x3 + (nI 1)))] [] (z_pai h x_1 (Int32.toNatClampNeg ((nI 2) + x3)) (f_X12_named x0 (f_X12_lineAt x0 x3 h) h)))))))) else (z_kd h x0 = 28 ∧ ∃ h_2, z_Ev G d k_X12_swapAt [.ref x0, .int ((nI 14) + x1), .int ((nI 14) + x2)] h (.inl none, h_2) ∧ (z_kd h_2 x0 = 28 ∧ ∃ h_3, z_Ev G d k_X12_swapAt [.ref x0, .int ((nI 22) + x1), .int ((nI 22) + x2)] h_2 (.inl none, h_3) ∧ (z_bz (nI 1) ∧ r = (.inl (some (.int (nI 1))), h_3))))))) : (z_J G (d + 1) (m_X12_swap z_puC) r) 51 [some (.ref x0), some (.int x1), some (.int x2), some (.int x3)] [] h := z_bq (v_X12 z_puC (vP_X12_swap z_puC) hPu) hd_X12_swap 24 hT
theorem en_X12_place {pu : Nat → Option ((List Value → z_H → Prop) × (List Value → z_H → Int32))} {G : z_G} {d : Nat} {r : z_Res} {h : z_H} {x0 : Nat} {x1 : Int32} {x2 : Int32} {x3 : Int32} (hJ : z_J G d (m_X12_place pu) r 0 [some (.ref x0), some (.int x1), some (.int x2), some (.int x3)] [] h) : z_Ev G d k_X12_place [.ref x0, .int x1, .int x2, .int x3] h r := z_enter (μ := m_X12_place pu) rfl (by decide) rfl rfl (fun q => by cases q) (Nat.le_of_ble_eq_true rfl) hJ
def hd_X12_place : Nat → Option (List Bool) := (fun k => none)
set_option maxRecDepth 20000 in
theorem b_X12_place_0 {G : z_G} {d : Nat} {r : z_Res} (hPu : z_PuV G d (t_X12 z_puC)) {h : z_H} {x0 : Nat} {x1 : Int32} {x2 : Int32} {x3 : Int32} (hT : (z_kd h x0 = 28 ∧ (z_kd (z_poi h x0 0 (nI 0)) x0 = 28 ∧ s_X12_isPoint x0 x1 (z_poi h x0 0 (nI 0)) ∧ (if (f_X12_isPoint x0 x1 (z_poi h x0 0 (nI 0))) = (nI 0) then (z_kd (z_poi h x0 0 (nI 0)) x0 = 28 ∧ ∃ x_2 h_1, z_Ev G d k_X12_refused [.ref x0] (z_poi h x0 0 (nI 0)) (.inl (some (.int x_2)), h_1) ∧ (z_bz x_2 ∧ r = (.inl (some (.int x_2)), h_1))) else (s_X12_isIn x2 (-(nI 9)) (nI 9) (z_poi h x0 0 (nI 0)) ∧ (if (f_X12_isIn x2 (-(nI 9)) (nI 9) (z_poi h x0 0 (nI 0))) = (nI 0) then (z_kd (z_poi h x0 0 (nI 0)) x0 = 28 ∧ ∃ x_4 h_3, z_Ev G d k_X12_refused [.ref x0] (z_poi h x0 0 (nI 0)) (.inl (some (.int x_4)), h_3) ∧ (z_bz x_4 ∧ r = (.inl (some (.int x_4)), h_3))) else (s_X12_isIn x3 (-(nI 9)) (nI 9) (z_poi h x0 0 (nI 0)) ∧ (if (f_X12_isIn x3 (-(nI 9)) (nI 9) (z_poi h x0 0 (nI 0))) = (nI 0) then (z_kd (z_poi h x0 0 (nI 0)) x0 = 28 ∧ ∃ x_6 h_5, z_Ev G d k_X12_refused [.ref x0] (z_poi h x0 0 (nI 0)) (.inl (some (.int x_6)), h_5) ∧ (z_bz x_6 ∧ r = (.inl (some (.int x_6)), h_5))) else (z_kd (z_poi h x0 0 (nI 0)) x0 = 28 ∧ ∃ h_7, z_Ev G d k_X12_keep [.ref x0] (z_poi h x0 0 (nI 0)) (.inl none, h_7) ∧ (z_kd h_7 x0 = 28 ∧ (z_rc (z_or h_7 x0 1) False (fun x_8 => (z_kd h_7 x_8 = 1 ∧ vp_in ((nI 14) + x1) (z_ln h_7 x_8) ∧ (z_kd (z_pai h_7 x_8 (Int32.toNatClampNeg ((nI 14) + x1)) x2) x0 = 28 ∧ (z_rc (z_or (z_pai h_7 x_8 (Int32.toNatClampNeg ((nI 14) + x1)) x2) x0 1) False (fun x_9 => (z_kd (z_pai h_7 x_8 (Int32.toNatClampNeg ((nI 14) + x1)) x2) x_9 = 1 ∧ vp_in ((nI 22) + x1) (z_ln (z_pai h_7 x_8 (Int32.toNatClampNeg ((nI 14) + x1)) x2) x_9) ∧ (z_bz (nI 1) ∧ r = (.inl (some (.int (nI 1))), z_pai (z_pai h_7 x_8 (Int32.toNatClampNeg ((nI 14) + x1)) x2) x_9 (Int32.toNatClampNeg ((nI 22) + x1)) x3))))))))))))))))))) : (z_J G (d + 1) (m_X12_place z_puC) r) 0 [some (.ref x0), some (.int x1), some (.int x2), some (.int x3)] [] h := z_bq (v_X12 z_puC (vP_X12_place z_puC) hPu) hd_X12_place 37 hT
theorem en_X12_put {pu : Nat → Option ((List Value → z_H → Prop) × (List Value → z_H → Int32))} {G : z_G} {d : Nat} {r : z_Res} {h : z_H} {x0 : Nat} {x1 : Int32} (hJ : z_J G d (m_X12_put pu) r 0 [some (.ref x0), some (.int x1), none, none] [] h) : z_Ev G d k_X12_put [.ref x0, .int x1] h r := z_enter (μ := m_X12_put pu) rfl (by decide) rfl rfl (fun q => by cases q) (Nat.le_of_ble_eq_true rfl) hJ
def hd_X12_put : Nat → Option (List Bool) := (fun k => (cond (Nat.blt k 78) (cond (Nat.beq k 45) (some [true, true, true, true]) none) none))
set_option maxRecDepth 20000 in
theorem b_X12_put_0 {G : z_G} {d : Nat} {r : z_Res} (hPu : z_PuV G d (t_X12 z_puC)) {h : z_H} {x0 : Nat} {x1 : Int32} (hT : (z_kd h x0 = 28 ∧ (s_X12_isIn x1 (nI 0) (nI 3) (z_poi h x0 0 (nI 0)) ∧ (if (f_X12_isIn x1 (nI 0) (nI 3) (z_poi h x0 0 (nI 0))) = (nI 0) then (z_kd (z_poi h x0 0 (nI 0)) x0 = 28 ∧ ∃ x_2 h_1, z_Ev G d k_X12_refuse [.ref x0] (z_poi h x0 0 (nI 0)) (.inl (some (.int x_2)), h_1) ∧ r = (.inl (some (.int x_2)), h_1)) else (z_kd (z_poi h x0 0 (nI 0)) x0 = 28 ∧ ∃ h_3, z_Ev G d k_X12_keep [.ref x0] (z_poi h x0 0 (nI 0)) (.inl none, h_3) ∧ (z_kd h_3 x0 = 28 ∧ (z_rc (z_or h_3 x0 1) (s_X12_shelfAt x1 h_3 ∧ False) (fun x_4 => (s_X12_shelfAt x1 h_3 ∧ (z_kd h_3 x_4 = 1 ∧ vp_in (f_X12_shelfAt x1 h_3) (z_ln h_3 x_4) ∧ (z_kd h_3 x0 = 28 ∧ (z_rc (z_or h_3 x0 1) (s_X12_shelfAt x1 h_3 ∧ False) (fun x_5 => (s_X12_shelfAt x1 h_3 ∧ (z_kd h_3 x_5 = 1 ∧ vp_in (f_X12_shelfAt x1 h_3) (z_ln h_3 x_5) ∧ (z_J G (d + 1) (m_X12_put z_puC) r) 45 [some (.ref x0), some (.int x1), some (.int (z_ai h_3 x_4 (Int32.toNatClampNeg (f_X12_shelfAt x1 h_3)))), some (.int (nI 0))] [] (z_pai h_3 x_5 (Int32.toNatClampNeg (f_X12_shelfAt x1 h_3)) (nI 1))))))))))))))))) : (z_J G (d + 1) (m_X12_put z_puC) r) 0 [some (.ref x0), some (.int x1), none, none] [] h := z_bq (v_X12 z_puC (vP_X12_put z_puC) hPu) hd_X12_put 27 hT
set_option maxRecDepth 20000 in
theorem b_X12_put_45 {G : z_G} {d : Nat} {r : z_Res} (hPu : z_PuV G d (t_X12 z_puC)) {h : z_H} {x0 : Nat} {x1 : Int32} {x2 : Int32} {x3 : Int32} (hT : (if x3 < (nI 30) then (z_kd h x0 = 28 ∧ (z_rc (z_or h x0 1) (s_X12_shelfAt x1 h ∧ (z_kd h x0 = 28 ∧ (z_rc (z_or h x0 1) False (fun x_2 => (z_kd h x_2 = 1 ∧ vp_in x3 (z_ln h x_2) ∧ False))))) (fun x_1 => (s_X12_shelfAt x1 h ∧ (z_kd h x0 = 28 ∧ (z_rc (z_or h x0 1) False (fun x_3 => (z_kd h x_3 = 1 ∧ vp_in x3 (z_ln h x_3) ∧ (z_kd h x_1 = 1 ∧ vp_in (((f_X12_shelfAt x1 h) + (nI 1)) + x3) (z_ln h x_1) ∧ (z_J G (d + 1) (m_X12_put z_puC) r) 45 [some (.ref x0), some (.int x1), some (.int x2), some (.int (x3 + (nI 1)))] [] (z_pai h x_1 (Int32.toNatClampNeg (((f_X12_shelfAt x1 h) + (nI 1)) + x3)) (z_ai h x_3 (Int32.toNatClampNeg x3)))))))))))) else r = (.inl (some (.int x2)), h))) : (z_J G (d + 1) (m_X12_put z_puC) r) 45 [some (.ref x0), some (.int x1), some (.int x2), some (.int x3)] [] h := z_bq (v_X12 z_puC (vP_X12_put z_puC) hPu) hd_X12_put 21 hT
theorem en_X12_take {pu : Nat → Option ((List Value → z_H → Prop) × (List Value → z_H → Int32))} {G : z_G} {d : Nat} {r : z_Res} {h : z_H} {x0 : Nat} {x1 : Int32} (hJ : z_J G d (m_X12_take pu) r 0 [some (.ref x0), some (.int x1), none] [] h) : z_Ev G d k_X12_take [.ref x0, .int x1] h r := z_enter (μ := m_X12_take pu) rfl (by decide) rfl rfl (fun q => by cases q) (Nat.le_of_ble_eq_true rfl) hJ
def hd_X12_take : Nat → Option (List Bool) := (fun k => (cond (Nat.blt k 53) (cond (Nat.beq k 24) (some [true, true, true]) none) none))
set_option maxRecDepth 20000 in
theorem b_X12_take_0 {G : z_G} {d : Nat} {r : z_Res} (hPu : z_PuV G d (t_X12 z_puC)) {h : z_H} {x0 : Nat} {x1 : Int32} (hT : (z_kd h x0 = 28 ∧ (z_kd (z_poi h x0 0 (nI 0)) x0 = 28 ∧ s_X12_hasShelf x0 x1 (z_poi h x0 0 (nI 0)) ∧ (if (f_X12_hasShelf x0 x1 (z_poi h x0 0 (nI 0))) = (nI 0) then (z_kd (z_poi h x0 0 (nI 0)) x0 = 28 ∧ ∃ x_2 h_1, z_Ev G d k_X12_refuse [.ref x0] (z_poi h x0 0 (nI 0)) (.inl (some (.int x_2)), h_1) ∧ r = (.inl (some (.int x_2)), h_1)) else (z_kd (z_poi h x0 0 (nI 0)) x0 = 28 ∧ ∃ h_3, z_Ev G d k_X12_keep [.ref x0] (z_poi h x0 0 (nI 0)) (.inl none, h_3) ∧ (z_J G (d + 1) (m_X12_take z_puC) r) 24 [some (.ref x0), some (.int x1), some (.int (nI 0))] [] h_3))))) : (z_J G (d + 1) (m_X12_take z_puC) r) 0 [some (.ref x0), some (.int x1), none] [] h := z_bq (v_X12 z_puC (vP_X12_take z_puC) hPu) hd_X12_take 14 hT
set_option maxRecDepth 20000 in
theorem b_X12_take_24 {G : z_G} {d : Nat} {r : z_Res} (hPu : z_PuV G d (t_X12 z_puC)) {h : z_H} {x0 : Nat} {x1 : Int32} {x2 : Int32} (hT : (if x2 < (nI 30) then (z_kd h x0 = 28 ∧ (z_rc (z_or h x0 1) (z_kd h x0 = 28 ∧ s_X12_onShelf x0 x1 x2 h ∧ False) (fun x_1 => (z_kd h x0 = 28 ∧ s_X12_onShelf x0 x1 x2 h ∧ (z_kd h x_1 = 1 ∧ vp_in x2 (z_ln h x_1) ∧ (z_J G (d + 1) (m_X12_take z_puC) r) 24 [some (.ref x0), some (.int x1), some (.int (x2 + (nI 1)))] [] (z_pai h x_1 (Int32.toNatClampNeg x2) (f_X12_onShelf x0 x1 x2 h))))))) else (z_kd h x0 = 28 ∧ s_X12_points x0 h ∧ r = (.inl (some (.int (f_X12_points x0 h))), h)))) : (z_J G (d + 1) (m_X12_take z_puC) r) 24 [some (.ref x0), some (.int x1), some (.int x2)] [] h := z_bq (v_X12 z_puC (vP_X12_take z_puC) hPu) hd_X12_take 16 hT
theorem en_X12_undo {pu : Nat → Option ((List Value → z_H → Prop) × (List Value → z_H → Int32))} {G : z_G} {d : Nat} {r : z_Res} {h : z_H} {x0 : Nat} (hJ : z_J G d (m_X12_undo pu) r 0 [some (.ref x0), none] [] h) : z_Ev G d k_X12_undo [.ref x0] h r := z_enter (μ := m_X12_undo pu) rfl (by decide) rfl rfl (fun q => by cases q) (Nat.le_of_ble_eq_true rfl) hJ
def hd_X12_undo : Nat → Option (List Bool) := (fun k => (cond (Nat.blt k 65) (cond (Nat.beq k 26) (some [true, true]) none) none))
set_option maxRecDepth 20000 in
theorem b_X12_undo_0 {G : z_G} {d : Nat} {r : z_Res} (hPu : z_PuV G d (t_X12 z_puC)) {h : z_H} {x0 : Nat} (hT : (z_kd h x0 = 28 ∧ (z_kd (z_poi h x0 0 (nI 0)) x0 = 28 ∧ (if (z_oi (z_poi h x0 0 (nI 0)) x0 25) = (nI 0) then r = (.inl (some (.int mI)), z_poi h x0 0 (nI 0)) else (z_kd (z_poi h x0 0 (nI 0)) x0 = 28 ∧ (z_kd (z_poi h x0 0 (nI 0)) x0 = 28 ∧ (z_J G (d + 1) (m_X12_undo z_puC) r) 26 [some (.ref x0), some (.int (nI 0))] [] (z_poi (z_poi h x0 0 (nI 0)) x0 25 ((z_oi (z_poi h x0 0 (nI 0)) x0 25) - (nI 1))))))))) : (z_J G (d + 1) (m_X12_undo z_puC) r) 0 [some (.ref x0), none] [] h := z_bq (v_X12 z_puC (vP_X12_undo z_puC) hPu) hd_X12_undo 17 hT
set_option maxRecDepth 20000 in
theorem b_X12_undo_26 {G : z_G} {d : Nat} {r : z_Res} (hPu : z_PuV G d (t_X12 z_puC)) {h : z_H} {x0 : Nat} {x1 : Int32} (hT : (if x1 < (nI 154) then (z_kd h x0 = 28 ∧ (z_rc (z_or h x0 1) (z_kd h x0 = 28 ∧ (z_rc (z_or h x0 26) (z_kd h x0 = 28 ∧ False) (fun x_2 => (z_kd h x0 = 28 ∧ (z_kd h x_2 = 1 ∧ vp_in (((nI 154) * (z_oi h x0 25)) + x1) (z_ln h x_2) ∧ False))))) (fun x_1 => (z_kd h x0 = 28 ∧ (z_rc (z_or h x0 26) (z_kd h x0 = 28 ∧ False) (fun x_3 => (z_kd h x0 = 28 ∧ (z_kd h x_3 = 1 ∧ vp_in (((nI 154) * (z_oi h x0 25)) + x1) (z_ln h x_3) ∧ (z_kd h x_1 = 1 ∧ vp_in x1 (z_ln h x_1) ∧ (z_J G (d + 1) (m_X12_undo z_puC) r) 26 [some (.ref x0), some (.int (x1 + (nI 1)))] [] (z_pai h x_1 (Int32.toNatClampNeg x1) (z_ai h x_3 (Int32.toNatClampNeg (((nI 154) * (z_oi h x0 25)) + x1))))))))))))) else (z_kd h x0 = 28 ∧ r = (.inl (some (.int (z_oi h x0 25))), h)))) : (z_J G (d + 1) (m_X12_undo z_puC) r) 26 [some (.ref x0), some (.int x1)] [] h := z_bq (v_X12 z_puC (vP_X12_undo z_puC) hPu) hd_X12_undo 21 hT
/-! acts of the reference -/
def sAct (σ : RSt) (st' : Sta) : RSt := (σ.1, st', (σ.2.1 :: σ.2.2.1).take 40, σ.2.2.2)
def sRef (σ : RSt) : RSt := (σ.1, σ.2.1, σ.2.2.1, (σ.2.2.2.1.1, σ.2.2.2.1.2 + 1), σ.2.2.2.2)
theorem rI_ref {F : Nat → Int32} {A : Nat → Nat → Int32} {σ : RSt} (h : rI F A σ) (c : Int32) : rI (z_u F 0 c) (z_u A 3 (z_u (A 3) 1 (A 3 1 + nI 1))) (sRef σ) := by
  obtain ⟨h1, h2, h3, h4, h5, h6, h7, h8⟩ := h
  refine ⟨h1, h2, h3, h4, h5, h6, ⟨h7.1, ?_⟩, ?_⟩
  · show z_u (A 3) 1 (A 3 1 + nI 1) 1 = nI (σ.2.2.2.1.2 + 1)
    rw [u_eq, h7.2, nI_add]
  · exact h8
theorem rI_act {F : Nat → Int32} {A : Nat → Nat → Int32} {σ : RSt} (h : rI F A σ) (c : Int32) {R' : Nat → Int32} {st' : Sta} (hr : rho R' st') {A' : Nat → Nat → Int32} (hA : agr sJ (z_u (z_u A 13 (c_kp (A 13) (A 1) σ.2.2.1.length)) 1 R') A') {F' : Nat → Int32} (hF : agrF sK (z_u (z_u F 0 c) 25 (nI (c_ka σ.2.2.1.length))) F') : rI F' A' (sAct σ st') := by
  refine rI_agr ?_ hA hF
  obtain ⟨h1, h2, h3, h4, h5, h6, h7, h8⟩ := h
  have hp := phist_kp h6 h4
  refine ⟨h1, h2, h3, hr, ?_, ?_, h7, h8⟩
  · show z_u (z_u F 0 c) 25 (nI (c_ka σ.2.2.1.length)) 25 = nI ((σ.2.1 :: σ.2.2.1).take 40).length
    rw [u_eq, hp.2]
  · exact hp.1
theorem rLk_u {F F' : Nat → Int32} {A A' : Nat → Nat → Int32} (h : rLk F F' A A') {k : Nat} (v : Int32) (hk : k ∉ [27, 28, 29]) : rLk F (z_u F' k v) A A' := ⟨by rw [u_ne _ _ (fun e => hk (by rw [← e]; decide))]; exact h.1, by rw [u_ne _ _ (fun e => hk (by rw [← e]; decide))]; exact h.2.1, by rw [u_ne _ _ (fun e => hk (by rw [← e]; decide))]; exact h.2.2.1, h.2.2.2⟩
theorem rLk_a {F F' : Nat → Int32} {A A' : Nat → Nat → Int32} (h : rLk F F' A A') {k : Nat} (f : Nat → Int32) (hk : 14 ≠ k) : rLk F F' A (z_u A' k f) := ⟨h.1, h.2.1, h.2.2.1, by rw [u_ne _ _ hk]; exact h.2.2.2⟩
theorem rLk_rf {F : Nat → Int32} {A : Nat → Nat → Int32} : rLk F F A A := ⟨rfl, rfl, rfl, rfl⟩
/-- a call's contract -/
def pubR (G : z_G) (d : Nat) (κ : z_Key) (M : Nat) (h : z_H) (As : List Value) (F : Nat → Int32) (A : Nat → Nat → Int32) (v code : Int32) (σ' : RSt) : Prop := ∃ F' A', rI F' A' σ' ∧ rLk F F' A A' ∧ F' 0 = code ∧ z_Ev G d κ (.ref M :: As) (z_rs h M F A) (.inl (some (.int v)), z_rs h M F' A')
def s_add (σ : RSt) (a : Int32) : Int32 × RSt := if c_canAdd σ.2.1.1.1 a then (nI σ.2.1.1.1.2.1, sAct σ (op_add σ.2.1.1 a.toNatClampNeg, σ.2.1.2)) else (mI, sRef σ)
def s_drop (σ : RSt) (l : Int32) : Int32 × RSt := if c_in l σ.2.1.1.1.2.1 then (nI (σ.2.1.1.1.2.2 l.toNatClampNeg), sAct σ (op_drop σ.2.1.1 l.toNatClampNeg, σ.2.1.2)) else (mI, sRef σ)
def s_swap (σ : RSt) (a b : Int32) : Int32 × RSt := if c_in a σ.2.1.1.1.1 && c_in b σ.2.1.1.1.1 && !decide (a = b) then (nI 1, sAct σ (op_swap σ.2.1.1 a.toNatClampNeg b.toNatClampNeg, σ.2.1.2)) else (nI 0, sRef σ)
def c_pl (x : Int32) : Bool := decide (¬ x < -(nI 9) ∧ ¬ nI 9 < x)
def s_place (σ : RSt) (p x y : Int32) : Int32 × RSt := if c_in p σ.2.1.1.1.1 && c_pl x && c_pl y then (nI 1, sAct σ (op_place σ.2.1.1 p.toNatClampNeg x y, σ.2.1.2)) else (nI 0, sRef σ)
def s_put (σ : RSt) (s : Int32) : Int32 × RSt := if c_in s 4 then (nI (σ.2.1.2 s.toNatClampNeg).isSome.toNat, sAct σ (σ.2.1.1, z_u σ.2.1.2 s.toNatClampNeg (some σ.2.1.1))) else (mI, sRef σ)
def s_take (σ : RSt) (s : Int32) : Int32 × RSt := if c_in s 4 then match σ.2.1.2 s.toNatClampNeg with
  | some c => (nI c.1.1, sAct σ (c, σ.2.1.2))
  | none => (mI, sRef σ) else (mI, sRef σ)
def s_undo (σ : RSt) : Int32 × RSt := match σ.2.2.1 with
  | [] => (mI, σ)
  | st :: hs => (nI hs.length, (σ.1, st, hs, σ.2.2.2))
theorem cok_add {c : Cd} (h : c_cok c) {x : Nat} (hx : x < 2 ^ c.1.1) (h2 : 2 ≤ n_pc x ∧ n_pc x ≤ 4) (h3 : c_two c.1 x = false) (hm : c.1.2.1 < 12) : c_cok (op_add c x) := by
  obtain ⟨⟨h4, h5, h6, h7, h8⟩, h9⟩ := h
  have ht := two_iff h3
  refine ⟨⟨h4, hm, ?_, ?_, ?_⟩, h9⟩
  · intro l hl
    show z_u c.1.2.2 c.1.2.1 x l < 2 ^ c.1.1 ∧ 2 ≤ n_pc (z_u c.1.2.2 c.1.2.1 x l) ∧ n_pc (z_u c.1.2.2 c.1.2.1 x l) ≤ 4
    have hl2 : l < c.1.2.1 + 1 := hl
    unfold z_u
    split
    · exact ⟨hx, h2⟩
    · exact h6 l (by omega)
  · intro l hl
    have hl2 : c.1.2.1 + 1 ≤ l := hl
    show z_u c.1.2.2 c.1.2.1 x l = 0
    rw [u_ne _ _ (by omega)]
    exact h7 l (by omega)
  · intro i j hij hj
    have hj2 : j < c.1.2.1 + 1 := hj
    show n_pc (z_u c.1.2.2 c.1.2.1 x i &&& z_u c.1.2.2 c.1.2.1 x j) ≤ 1
    rw [u_ne _ _ (show i ≠ c.1.2.1 by omega)]
    unfold z_u
    split
    · exact ht i (by omega)
    · exact h8 i j hij (by omega)
theorem cok_drop {c : Cd} (h : c_cok c) {l : Nat} (hl : l < c.1.2.1) : c_cok (op_drop c l) := by
  obtain ⟨⟨h4, h5, h6, h7, h8⟩, h9⟩ := h
  have key : ∀ i, i < c.1.2.1 - 1 → (op_drop c l).1.2.2 i = c.1.2.2 (if i < l then i else i + 1) := fun i hi => by
    show (if i < l then c.1.2.2 i else if i + 1 < c.1.2.1 then c.1.2.2 (i + 1) else 0) = _
    split
    · rfl
    · rw [if_pos (by omega)]
  refine ⟨⟨h4, by show c.1.2.1 - 1 ≤ 12; omega, ?_, ?_, ?_⟩, h9⟩
  · intro i hi
    have hi2 : i < c.1.2.1 - 1 := hi
    rw [key i hi2]
    exact h6 _ (by split <;> omega)
  · intro i hi
    have hi2 : c.1.2.1 - 1 ≤ i := hi
    show (if i < l then c.1.2.2 i else if i + 1 < c.1.2.1 then c.1.2.2 (i + 1) else 0) = 0
    rw [if_neg (by omega), if_neg (by omega)]
  · intro i j hij hj
    have hj2 : j < c.1.2.1 - 1 := hj
    rw [key i (by omega), key j hj2]
    exact h8 _ _ (by split <;> split <;> omega) (by split <;> omega)
theorem cok_place {c : Cd} (h : c_cok c) {p : Nat} (hp : p < c.1.1) (x y : Int32) : c_cok (op_place c p x y) := by
  refine ⟨h.1, fun i hi => ?_⟩
  have hi2 : c.1.1 ≤ i := hi
  show z_u c.2.1 p x i = nI 0 ∧ z_u c.2.2 p y i = nI 0
  rw [u_ne _ _ (by omega), u_ne _ _ (by omega)]
  exact h.2 i hi
theorem trs_lt {a b n i : Nat} (ha : a < n) (hb : b < n) (hi : i < n) : trs a b i < n := by
  unfold trs; split
  · exact hb
  · split
    · exact ha
    · exact hi
theorem trs_inj {a b i j : Nat} (h : trs a b i = trs a b j) : i = j := by
  unfold trs at h
  split at h <;> split at h <;> (try split at h) <;> (try split at h) <;> omega
theorem cok_swap {c : Cd} (h : c_cok c) {a b : Nat} (ha : a < c.1.1) (hb : b < c.1.1) : c_cok (op_swap c a b) := by
  have h256 := sok_256 h.1
  obtain ⟨⟨h4, h5, h6, h7, h8⟩, h9⟩ := h
  have hN : ∀ i, i < 8 → trs a b i < 8 := fun i hi => trs_lt (by omega) (by omega) hi
  have hI : ∀ i j, i < 8 → j < 8 → trs a b i = trs a b j → i = j := fun i j _ _ e => trs_inj e
  refine ⟨⟨h4, h5, ?_, ?_, ?_⟩, ?_⟩
  · intro l hl
    have h := h6 l hl
    show c_nm (trs a b) (c.1.2.2 l) < 2 ^ c.1.1 ∧ 2 ≤ n_pc (c_nm (trs a b) (c.1.2.2 l)) ∧ n_pc (c_nm (trs a b) (c.1.2.2 l)) ≤ 4
    rw [pc_nmP hN hI (h256 l)]
    exact ⟨nm_ltn h.1 h4.2 (fun i hi => trs_lt ha hb hi), h.2⟩
  · intro l hl
    show c_nm (trs a b) (c.1.2.2 l) = 0
    rw [h7 l hl, nm_zero]
  · intro i j hij hj
    show n_pc (c_nm (trs a b) (c.1.2.2 i) &&& c_nm (trs a b) (c.1.2.2 j)) ≤ 1
    rw [← nm_and hI, pc_nmP hN hI (and_lt256 (h256 i))]
    exact h8 i j hij hj
  · intro i hi
    have hi2 : c.1.1 ≤ i := hi
    show swp c.2.1 a b i = nI 0 ∧ swp c.2.2 a b i = nI 0
    unfold swp
    rw [u_ne _ _ (by omega), u_ne _ _ (by omega), u_ne _ _ (by omega), u_ne _ _ (by omega)]
    exact h9 i hi
theorem row_add {R : Nat → Int32} {c : Cd} (h : ∀ k, k < 30 → R k = rowC c k) (hm : c.1.2.1 < 12) (x : Nat) : ∀ k, k < 30 → z_u (z_u R (2 + c.1.2.1) (nI x)) 1 (nI (c.1.2.1 + 1)) k = rowC (op_add c x) k := by
  intro k hk
  unfold z_u rowC
  by_cases k1 : k = 1
  · rw [if_pos k1, if_neg (by omega), if_pos k1]; rfl
  · rw [if_neg k1, if_neg k1]
    by_cases k2 : k = 2 + c.1.2.1
    · rw [if_pos k2, if_neg (by omega), if_pos (by omega)]
      show nI x = nI (if k - 2 = c.1.2.1 then x else c.1.2.2 (k - 2))
      rw [if_pos (by omega)]
    · rw [if_neg k2, h k hk]
      unfold rowC
      by_cases k0 : k = 0
      · rw [if_pos k0, if_pos k0]; rfl
      · rw [if_neg k0, if_neg k0, if_neg k1]
        by_cases k3 : k < 14
        · rw [if_pos k3, if_pos k3]
          show _ = nI (if k - 2 = c.1.2.1 then x else c.1.2.2 (k - 2))
          rw [if_neg (by omega)]
        · rw [if_neg k3, if_neg k3]; rfl
theorem row_drop {R : Nat → Int32} {c : Cd} (h : ∀ k, k < 30 → R k = rowC c k) (h0 : c_cok c) {l : Nat} (hl : l < c.1.2.1) : ∀ k, k < 30 → c_drp R c.1.2.1 l k = rowC (op_drop c l) k := by
  intro k hk
  have hm := h0.1.2.1
  unfold c_drp rowC
  by_cases k2 : k = 2 + (c.1.2.1 - 1)
  · rw [if_pos k2, if_neg (by omega), if_neg (by omega), if_pos (by omega)]
    show nI 0 = nI (if k - 2 < l then c.1.2.2 (k - 2) else if k - 2 + 1 < c.1.2.1 then c.1.2.2 (k - 2 + 1) else 0)
    rw [if_neg (by omega), if_neg (by omega)]
  · rw [if_neg k2]
    by_cases k1 : k = 1
    · rw [if_pos k1, if_neg (by omega), if_pos k1]; rfl
    · rw [if_neg k1, if_neg k1]
      by_cases k3 : 2 + l ≤ k ∧ k < 2 + (c.1.2.1 - 1)
      · rw [if_pos k3, h (k + 1) (by omega), if_neg (by omega), if_pos (by omega)]
        unfold rowC
        rw [if_neg (by omega), if_neg (by omega), if_pos (by omega)]
        show nI (c.1.2.2 (k + 1 - 2)) = nI (if k - 2 < l then c.1.2.2 (k - 2) else if k - 2 + 1 < c.1.2.1 then c.1.2.2 (k - 2 + 1) else 0)
        rw [if_neg (by omega), if_pos (by omega), show k + 1 - 2 = k - 2 + 1 by omega]
      · rw [if_neg k3, h k hk]
        unfold rowC
        by_cases k0 : k = 0
        · rw [if_pos k0, if_pos k0]; rfl
        · rw [if_neg k0, if_neg k0, if_neg k1]
          by_cases k4 : k < 14
          · rw [if_pos k4, if_pos k4]
            show _ = nI (if k - 2 < l then c.1.2.2 (k - 2) else if k - 2 + 1 < c.1.2.1 then c.1.2.2 (k - 2 + 1) else 0)
            by_cases k5 : k - 2 < l
            · rw [if_pos k5]
            · rw [if_neg k5, if_neg (by omega), h0.1.2.2.2.1 (k - 2) (by omega)]
          · rw [if_neg k4, if_neg k4]; rfl
theorem drp_far {R : Nat → Int32} {m l : Nat} (hm : m ≤ 12) : ∀ k, 30 ≤ k → c_drp R m l k = R k := fun k hk => by
  unfold c_drp; rw [if_neg (by omega), if_neg (by omega), if_neg (by omega)]
theorem row_place {R : Nat → Int32} {c : Cd} (h : ∀ k, k < 30 → R k = rowC c k) {p : Nat} (hp : p < 8) (x y : Int32) : ∀ k, k < 30 → z_u (z_u R (14 + p) x) (22 + p) y k = rowC (op_place c p x y) k := by
  intro k hk
  unfold z_u rowC
  by_cases k1 : k = 22 + p
  · rw [if_pos k1, if_neg (by omega), if_neg (by omega), if_neg (by omega), if_neg (by omega)]
    show y = if k - 22 = p then y else c.2.2 (k - 22)
    rw [if_pos (by omega)]
  · rw [if_neg k1]
    by_cases k2 : k = 14 + p
    · rw [if_pos k2, if_neg (by omega), if_neg (by omega), if_neg (by omega), if_pos (by omega)]
      show x = if k - 14 = p then x else c.2.1 (k - 14)
      rw [if_pos (by omega)]
    · rw [if_neg k2, h k hk]
      unfold rowC
      by_cases c0 : k = 0
      · rw [if_pos c0, if_pos c0]; rfl
      · rw [if_neg c0, if_neg c0]
        by_cases c1 : k = 1
        · rw [if_pos c1, if_pos c1]; rfl
        · rw [if_neg c1, if_neg c1]
          by_cases c2 : k < 14
          · rw [if_pos c2, if_pos c2]; rfl
          · rw [if_neg c2, if_neg c2]
            by_cases c3 : k < 22
            · rw [if_pos c3, if_pos c3]
              show _ = if k - 14 = p then x else c.2.1 (k - 14)
              rw [if_neg (by omega)]
            · rw [if_neg c3, if_neg c3]
              show _ = if k - 22 = p then y else c.2.2 (k - 22)
              rw [if_neg (by omega)]
section CT
variable {G : z_G} {d : Nat} {h : z_H} {M : Nat} {F : Nat → Int32} {A : Nat → Nat → Int32} {σ : RSt}
theorem e_addP (hM : z_sh M h) (hI : rI F A σ) (a : Int32) : pubR G (d + 5) k_X12_add M h [.int a] F A (s_add σ a).1 (nI 0) (s_add σ a).2 := by
  have hr := hI.2.2.2.1
  have hok := rho_ok hr
  have hA := at_rs (F := z_u F 0 (nI 0)) hM hok.1 hok.2
  have hc := e_canAdd (G := G) (d := d) hA a
  unfold s_add
  cases hca : c_canAdd σ.2.1.1.1 a
  · refine ⟨_, _, rI_ref hI (nI 0), rLk_a (rLk_u rLk_rf _ (by decide)) _ (by decide), u_eq _ _ _, en_X12_add (b_X12_add_0 z_puCV ⟨sh_kd hM, ?_⟩)⟩
    rw [rs_poi]
    refine ⟨sh_kd hM, _, _, hc, ?_⟩
    rw [hca, if_pos (by decide)]
    exact ⟨sh_kd hM, _, _, e_refuse hM, rfl⟩
  · have hca2 := hca
    unfold c_canAdd at hca2
    simp only [Bool.and_eq_true, Bool.not_eq_true', decide_eq_true_eq] at hca2
    obtain ⟨g1, g2, g3, g4⟩ := hca2
    obtain ⟨x, hx, hx2, rfl⟩ := c_in_t g1
    rw [nI_clamp hx2] at g2 g3
    rw [if_pos rfl, nI_clamp hx2]
    have hcok := cok_add hr.1 hx g2 g3 g4
    have e11 : z_u A 13 (c_kp (A 13) (A 1) σ.2.2.1.length) 1 = A 1 := by rw [u_ne _ _ (by decide)]
    have h11 : A 1 1 = nI σ.2.1.1.1.2.1 := hr.2.1 1 (by omega)
    have hrow := rho_up hr hcok (row_add hr.2.1 g4 x) (fun k hk => by rw [u_ne _ _ (by omega), u_ne _ _ (by omega)])
    refine ⟨_, _, rI_act hI (nI 0) hrow (agr_rf hI.1) agrF_rf, rLk_a (rLk_a (rLk_u (rLk_u rLk_rf _ (by decide)) _ (by decide)) _ (by decide)) _ (by decide), by rw [u_ne _ _ (by decide), u_eq], en_X12_add (b_X12_add_0 z_puCV ⟨sh_kd hM, ?_⟩)⟩
    rw [rs_poi]
    refine ⟨sh_kd hM, _, _, hc, ?_⟩
    rw [hca, if_neg (by decide)]
    have ek := e_keep (G := G) (d := d) (F := z_u F 0 (nI 0)) (A := A) hM hI.2.2.2.2.2.1.1 (by rw [u_ne _ _ (by decide)]; exact hI.2.2.2.2.1)
    have ea := e_addNow (G := G) (d := d) (F := z_u (z_u F 0 (nI 0)) 25 (nI (c_ka σ.2.2.1.length))) (A := z_u A 13 (c_kp (A 13) (A 1) σ.2.2.1.length)) (m := σ.2.1.1.1.2.1) hM (by omega) (by rw [e11]; exact h11) (nI x)
    rw [e11] at ea
    refine ⟨sh_kd hM, _, ek, sh_kd hM, _, ea, sh_kd hM, hM, ?_⟩
    unfold f_X12_lines
    rw [rs_ai _ _ _ _ (by omega) (by omega), u_eq, u_eq, q_sub (by omega), Nat.add_sub_cancel]
theorem e_dropP (hM : z_sh M h) (hI : rI F A σ) (a : Int32) : pubR G (d + 5) k_X12_drop M h [.int a] F A (s_drop σ a).1 (nI 0) (s_drop σ a).2 := by
  have hr := hI.2.2.2.1
  have hok := rho_ok hr
  have hA := at_rs (F := z_u F 0 (nI 0)) hM hok.1 hok.2
  unfold s_drop
  cases hca : c_in a σ.2.1.1.1.2.1
  · refine ⟨_, _, rI_ref hI (nI 0), rLk_a (rLk_u rLk_rf _ (by decide)) _ (by decide), u_eq _ _ _, en_X12_drop (b_X12_drop_0 z_puCV ⟨sh_kd hM, ?_⟩)⟩
    rw [rs_poi, t_isL hA, hca, if_pos (by decide)]
    exact ⟨sh_kd hM, hM, sh_kd hM, _, _, e_refuse hM, rfl⟩
  · obtain ⟨l, hl, hl2, rfl⟩ := c_in_t hca
    rw [if_pos rfl, nI_clamp hl2]
    have e11 : z_u A 13 (c_kp (A 13) (A 1) σ.2.2.1.length) 1 = A 1 := by rw [u_ne _ _ (by decide)]
    have h11 : A 1 1 = nI σ.2.1.1.1.2.1 := hr.2.1 1 (by omega)
    have hm := hr.1.1.2.1
    have hrow := rho_up hr (cok_drop hr.1 hl) (row_drop hr.2.1 hr.1 hl) (drp_far hm)
    refine ⟨_, _, rI_act hI (nI 0) hrow (agr_rf hI.1) agrF_rf, rLk_a (rLk_a (rLk_u (rLk_u rLk_rf _ (by decide)) _ (by decide)) _ (by decide)) _ (by decide), by rw [u_ne _ _ (by decide), u_eq], en_X12_drop (b_X12_drop_0 z_puCV ⟨sh_kd hM, ?_⟩)⟩
    rw [rs_poi, t_isL hA, hca, if_neg (by decide)]
    have ek := e_keep (G := G) (d := d) (F := z_u F 0 (nI 0)) (A := A) hM hI.2.2.2.2.2.1.1 (by rw [u_ne _ _ (by decide)]; exact hI.2.2.2.2.1)
    have ea := e_dropNow (G := G) (d := d) (F := z_u (z_u F 0 (nI 0)) 25 (nI (c_ka σ.2.2.1.length))) (A := z_u A 13 (c_kp (A 13) (A 1) σ.2.2.1.length)) hM hm hl (by rw [e11]; exact h11)
    rw [e11] at ea
    have hv : A 1 (2 + l) = nI (σ.2.1.1.1.2.2 l) := ((row_is hr.1 hr.2.1).2.2.2.2 l hl).1
    rw [hv] at ea
    exact ⟨sh_kd hM, hM, sh_kd hM, _, ek, sh_kd hM, _, _, ea, rfl⟩
theorem e_placeP (hM : z_sh M h) (hI : rI F A σ) (p x y : Int32) : pubR G (d + 6) k_X12_place M h [.int p, .int x, .int y] F A (s_place σ p x y).1 (nI 0) (s_place σ p x y).2 := by
  have hr := hI.2.2.2.1
  have hok := rho_ok hr
  have hA := at_rs (F := z_u F 0 (nI 0)) hM hok.1 hok.2
  have eI : ∀ v, f_X12_isIn v (-(nI 9)) (nI 9) (z_rs h M (z_u F 0 (nI 0)) A) = nI (c_pl v).toNat := by
    intro v
    unfold f_X12_isIn c_pl
    by_cases c1 : v < -(nI 9)
    · rw [if_pos c1, decide_eq_false (fun q => q.1 c1)]; rfl
    · rw [if_neg c1]
      by_cases c2 : nI 9 < v
      · rw [if_pos c2, decide_eq_false (fun q => q.2 c2)]; rfl
      · rw [if_neg c2, decide_eq_true ⟨c1, c2⟩]; rfl
  have hbad : z_kd (z_rs h M (z_u F 0 (nI 0)) A) M = 28 ∧ ∃ x1 h1, z_Ev G (d + 5) k_X12_refused [.ref M] (z_rs h M (z_u F 0 (nI 0)) A) (.inl (some (.int x1)), h1) ∧ (z_bz x1 ∧ ((.inl (some (.int (nI 0))), z_rs h M (z_u F 0 (nI 0)) (z_u A 3 (z_u (A 3) 1 (A 3 1 + nI 1)))) : z_Res) = (.inl (some (.int x1)), h1)) := ⟨sh_kd hM, _, _, e_refused hM, Or.inl rfl, rfl⟩
  unfold s_place
  cases hca : (c_in p σ.2.1.1.1.1 && c_pl x && c_pl y)
  · refine ⟨_, _, rI_ref hI (nI 0), rLk_a (rLk_u rLk_rf _ (by decide)) _ (by decide), u_eq _ _ _, en_X12_place (b_X12_place_0 z_puCV ⟨sh_kd hM, ?_⟩)⟩
    rw [rs_poi, t_isP hA, eI, eI]
    refine ⟨sh_kd hM, hM, ?_⟩
    cases c1 : c_in p σ.2.1.1.1.1
    · rw [if_pos (by decide)]; exact hbad
    · rw [if_neg (by decide)]
      refine ⟨trivial, ?_⟩
      cases c2 : c_pl x
      · rw [if_pos (by decide)]; exact hbad
      · rw [if_neg (by decide)]
        refine ⟨trivial, ?_⟩
        cases c3 : c_pl y
        · rw [if_pos (by decide)]; exact hbad
        · rw [c1, c2, c3] at hca; cases hca
  · have hca2 := hca
    simp only [Bool.and_eq_true] at hca2
    obtain ⟨⟨g1, g2⟩, g3⟩ := hca2
    obtain ⟨q, hq, hq2, rfl⟩ := c_in_t g1
    rw [if_pos rfl, nI_clamp hq2]
    have hn := hr.1.1.1
    have e11 : z_u A 13 (c_kp (A 13) (A 1) σ.2.2.1.length) 1 = A 1 := by rw [u_ne _ _ (by decide)]
    have hrow := rho_up hr (cok_place hr.1 hq x y) (row_place hr.2.1 (by omega) x y) (fun k hk => by rw [u_ne _ _ (by omega), u_ne _ _ (by omega)])
    refine ⟨_, _, rI_act hI (nI 0) hrow (agr_rf hI.1) agrF_rf, rLk_a (rLk_a (rLk_u (rLk_u rLk_rf _ (by decide)) _ (by decide)) _ (by decide)) _ (by decide), by rw [u_ne _ _ (by decide), u_eq], en_X12_place (b_X12_place_0 z_puCV ⟨sh_kd hM, ?_⟩)⟩
    rw [rs_poi, t_isP hA, eI, eI, g1, g2, g3, if_neg (by decide), if_neg (by decide), if_neg (by decide)]
    have ek := e_keep (G := G) (d := d + 1) (F := z_u F 0 (nI 0)) (A := A) hM hI.2.2.2.2.2.1.1 (by rw [u_ne _ _ (by decide)]; exact hI.2.2.2.2.1)
    refine ⟨sh_kd hM, hM, trivial, trivial, sh_kd hM, _, ek, ?_⟩
    simp (disch := omega) only [l0, l1, l2, l3, l4, l5, l6, l7, l8, l9, l10, l11, l12, l13, l14, l15, l16, l18, l20, l22, l24, l30, l31, l39, l40, l48, l60, l154, l255, l256, l400, l2000, l6160, l14000, lm1, q_lt, q_le, q_eq, q_mI, q_mI', q_ltmI, q_in, q_bz0, q_bz1, q_bzn0, q_bzn1, q_bzb, q_bn0, q_bn1, q_shr, q_shl, q_1s, b_one, b_two, fa_and, fa_or, nI_add, n_mul, nI_clamp, z_rcs, true_and, and_true, if_true, if_false, rs_ai, rs_oi, rs_pai, rs_poi, rs_pax, rs_kd, rs_ln, rs_or, u_eq, u_ne, sh_kd hM, (sh_now hM).1, (sh_now hM).2.1, (sh_now hM).2.2, u_u]
theorem row_sw1 {R : Nat → Int32} {c : Cd} (h : ∀ k, k < 30 → R k = rowC c k) {a b : Nat} (ha : a < 8) (hb : b < 8) : ∀ k, k < 30 → swp (swp (fun k => if 2 ≤ k ∧ k < 2 + c.1.2.1 then nI (c_nm (trs a b) (c.1.2.2 (k - 2))) else R k) (14 + a) (14 + b)) (22 + a) (22 + b) k = (if k < 14 then (if 2 ≤ k ∧ k < 2 + c.1.2.1 then nI (c_nm (trs a b) (c.1.2.2 (k - 2))) else R k) else if k < 22 then swp c.2.1 a b (k - 14) else swp c.2.2 a b (k - 22)) ∨ 12 < c.1.2.1 := by
  intro k hk
  by_cases hm : 12 < c.1.2.1
  · exact Or.inr hm
  · left
    have hX : ∀ i, i < 8 → R (14 + i) = c.2.1 i := fun i hi => by
      rw [h _ (by omega)]; unfold rowC
      rw [if_neg (by omega), if_neg (by omega), if_neg (by omega), if_pos (by omega), Nat.add_sub_cancel_left]
    have hY : ∀ i, i < 8 → R (22 + i) = c.2.2 i := fun i hi => by
      rw [h _ (by omega)]; unfold rowC
      rw [if_neg (by omega), if_neg (by omega), if_neg (by omega), if_neg (by omega), Nat.add_sub_cancel_left]
    generalize hf : (fun k => if 2 ≤ k ∧ k < 2 + c.1.2.1 then nI (c_nm (trs a b) (c.1.2.2 (k - 2))) else R k) = f
    have f14 : ∀ i, i < 8 → f (14 + i) = c.2.1 i := fun i hi => by rw [← hf]; dsimp only; rw [if_neg (by omega), hX i hi]
    have f22 : ∀ i, i < 8 → f (22 + i) = c.2.2 i := fun i hi => by rw [← hf]; dsimp only; rw [if_neg (by omega), hY i hi]
    have e0 : (if 2 ≤ k ∧ k < 2 + c.1.2.1 then nI (c_nm (trs a b) (c.1.2.2 (k - 2))) else R k) = f k := by rw [← hf]
    rw [e0]
    have s14 : swp f (14 + a) (14 + b) (22 + a) = c.2.2 a ∧ swp f (14 + a) (14 + b) (22 + b) = c.2.2 b := by
      unfold swp
      rw [u_ne _ _ (by omega), u_ne _ _ (by omega), u_ne _ _ (by omega), u_ne _ _ (by omega)]
      exact ⟨f22 a ha, f22 b hb⟩
    have st : swp (swp f (14 + a) (14 + b)) (22 + a) (22 + b) k = if k = 22 + b then c.2.2 a else if k = 22 + a then c.2.2 b else if k = 14 + b then c.2.1 a else if k = 14 + a then c.2.1 b else f k := by
      show z_u (z_u (swp f (14 + a) (14 + b)) (22 + a) (swp f (14 + a) (14 + b) (22 + b))) (22 + b) (swp f (14 + a) (14 + b) (22 + a)) k = _
      rw [s14.1, s14.2]
      unfold swp z_u
      rw [f14 a ha, f14 b hb]
    rw [st]
    by_cases k1 : k < 14
    · rw [if_neg (by omega), if_neg (by omega), if_neg (by omega), if_neg (by omega), if_pos k1]
    · rw [if_neg k1]
      unfold swp z_u
      by_cases k2 : k < 22
      · rw [if_neg (by omega), if_neg (by omega), if_pos k2]
        by_cases k3 : k = 14 + b
        · rw [if_pos k3, if_pos (by omega)]
        · rw [if_neg k3, if_neg (show ¬ k - 14 = b by omega)]
          by_cases k4 : k = 14 + a
          · rw [if_pos k4, if_pos (by omega)]
          · rw [if_neg k4, if_neg (show ¬ k - 14 = a by omega), show k = 14 + (k - 14) by omega, f14 _ (by omega), Nat.add_sub_cancel_left]
      · rw [if_neg k2]
        by_cases k3 : k = 22 + b
        · rw [if_pos k3, if_pos (by omega)]
        · rw [if_neg k3, if_neg (show ¬ k - 22 = b by omega)]
          by_cases k4 : k = 22 + a
          · rw [if_pos k4, if_pos (by omega)]
          · rw [if_neg k4, if_neg (show ¬ k - 22 = a by omega), if_neg (by omega), if_neg (by omega), show k = 22 + (k - 22) by omega, f22 _ (by omega), Nat.add_sub_cancel_left]
theorem row_swap {R : Nat → Int32} {c : Cd} (h : ∀ k, k < 30 → R k = rowC c k) (h0 : c_cok c) {a b : Nat} (ha : a < 8) (hb : b < 8) : ∀ k, k < 30 → swp (swp (fun k => if 2 ≤ k ∧ k < 2 + c.1.2.1 then nI (c_nm (trs a b) (c.1.2.2 (k - 2))) else R k) (14 + a) (14 + b)) (22 + a) (22 + b) k = rowC (op_swap c a b) k := by
  intro k hk
  have hm := h0.1.2.1
  rcases row_sw1 h ha hb k hk with e | e
  · rw [e]
    unfold rowC
    by_cases k1 : k < 14
    · rw [if_pos k1]
      by_cases k2 : 2 ≤ k ∧ k < 2 + c.1.2.1
      · rw [if_pos k2, if_neg (by omega), if_neg (by omega), if_pos k1]; rfl
      · rw [if_neg k2, h k hk]
        unfold rowC
        by_cases c0 : k = 0
        · rw [if_pos c0, if_pos c0]; rfl
        · rw [if_neg c0, if_neg c0]
          by_cases c1 : k = 1
          · rw [if_pos c1, if_pos c1]; rfl
          · rw [if_neg c1, if_neg c1, if_pos k1, if_pos k1]
            show nI (c.1.2.2 (k - 2)) = nI (c_nm (trs a b) (c.1.2.2 (k - 2)))
            rw [h0.1.2.2.2.1 (k - 2) (by omega), nm_zero]
    · rw [if_neg k1, if_neg (show ¬ k = 0 by omega), if_neg (show ¬ k = 1 by omega), if_neg k1]
      rfl
  · omega
theorem e_swapP (hM : z_sh M h) (hI : rI F A σ) (a b : Int32) : pubR G (d + 6) k_X12_swap M h [.int a, .int b] F A (s_swap σ a b).1 (nI 0) (s_swap σ a b).2 := by
  have hr := hI.2.2.2.1
  have hok := rho_ok hr
  have hA := at_rs (F := z_u F 0 (nI 0)) hM hok.1 hok.2
  have hbad : z_kd (z_rs h M (z_u F 0 (nI 0)) A) M = 28 ∧ ∃ x1 h1, z_Ev G (d + 5) k_X12_refused [.ref M] (z_rs h M (z_u F 0 (nI 0)) A) (.inl (some (.int x1)), h1) ∧ (z_bz x1 ∧ ((.inl (some (.int (nI 0))), z_rs h M (z_u F 0 (nI 0)) (z_u A 3 (z_u (A 3) 1 (A 3 1 + nI 1)))) : z_Res) = (.inl (some (.int x1)), h1)) := ⟨sh_kd hM, _, _, e_refused hM, Or.inl rfl, rfl⟩
  unfold s_swap
  cases hca : (c_in a σ.2.1.1.1.1 && c_in b σ.2.1.1.1.1 && !decide (a = b))
  · refine ⟨_, _, rI_ref hI (nI 0), rLk_a (rLk_u rLk_rf _ (by decide)) _ (by decide), u_eq _ _ _, en_X12_swap (b_X12_swap_0 z_puCV ⟨sh_kd hM, ?_⟩)⟩
    rw [rs_poi, t_isP hA, t_isP hA]
    refine ⟨sh_kd hM, hM, ?_⟩
    cases c1 : c_in a σ.2.1.1.1.1
    · rw [if_pos (by decide)]; exact hbad
    · rw [if_neg (by decide)]
      refine ⟨sh_kd hM, hM, ?_⟩
      cases c2 : c_in b σ.2.1.1.1.1
      · rw [if_pos (by decide)]; exact hbad
      · rw [if_neg (by decide)]
        by_cases c3 : a = b
        · rw [if_pos c3]; exact hbad
        · rw [c1, c2, decide_eq_false c3] at hca; cases hca
  · have hca2 := hca
    simp only [Bool.and_eq_true, Bool.not_eq_true', decide_eq_false_iff_not] at hca2
    obtain ⟨⟨g1, g2⟩, g3⟩ := hca2
    obtain ⟨i, hi, hi2, rfl⟩ := c_in_t g1
    obtain ⟨j, hj, hj2, rfl⟩ := c_in_t g2
    rw [if_pos rfl, nI_clamp hi2, nI_clamp hj2]
    have hn := hr.1.1.1
    have hm := hr.1.1.2.1
    have hW := sok_w hr.1.1
    have h256 := sok_256 hr.1.1
    have e11 : ∀ g, z_u (z_u A 13 (c_kp (A 13) (A 1) σ.2.2.1.length)) 5 g 1 = A 1 := fun g => by rw [u_ne _ _ (by decide), u_ne _ _ (by decide)]
    have e15 : z_u A 13 (c_kp (A 13) (A 1) σ.2.2.1.length) 5 = A 5 := by rw [u_ne _ _ (by decide)]
    have h11 : A 1 1 = nI σ.2.1.1.1.2.1 := hr.2.1 1 (by omega)
    have hrow := rho_up hr (cok_swap hr.1 hi hj) (row_swap hr.2.1 hr.1 (show i < 8 by omega) (show j < 8 by omega)) (fun k hk => by unfold swp; rw [u_ne _ _ (by omega), u_ne _ _ (by omega), u_ne _ _ (by omega), u_ne _ _ (by omega), if_neg (by omega)])
    have hN8 : ∀ t, t < σ.2.1.1.1.1 → swN (fun t => if t < σ.2.1.1.1.1 then t else 0) i j t < 8 := fun t ht => by
      unfold swN z_u; dsimp only
      split
      · omega
      · split
        · omega
        · omega
    have hNt : ∀ x, x < 2 ^ σ.2.1.1.1.1 → c_nm (r_N (arrI σ.2.1.1.1.1 (swN (fun t => if t < σ.2.1.1.1.1 then t else 0) i j) (A 5))) x = c_nm (trs i j) x := fun x hx => by
      rw [rN_nm hN8 hx]
      refine c_nm_cg hx (fun t ht => ?_)
      unfold swN z_u trs; dsimp only
      rw [if_pos hi, if_pos hj]
      by_cases c1 : t = j
      · rw [if_pos c1]
        by_cases c2 : t = i
        · exact absurd (by rw [← c2, ← c1]) g3
        · rw [if_neg c2, if_pos c1]
      · rw [if_neg c1]
        by_cases c2 : t = i
        · rw [if_pos c2, if_pos c2]
        · rw [if_neg c2, if_neg c2, if_neg c1, if_pos ht]
    have h5' := nm_arr (g := A 5) hN8 hI.1
    refine ⟨_, z_u (z_u (z_u A 13 (c_kp (A 13) (A 1) σ.2.2.1.length)) 5 (arrI σ.2.1.1.1.1 (swN (fun t => if t < σ.2.1.1.1.1 then t else 0) i j) (A 5))) 1 (swp (swp (fun k => if 2 ≤ k ∧ k < 2 + σ.2.1.1.1.2.1 then nI (c_nm (trs i j) (σ.2.1.1.1.2.2 (k - 2))) else A 1 k) (14 + i) (14 + j)) (22 + i) (22 + j)), rI_act hI (nI 0) hrow ⟨fun q hq => ?_, ?_⟩ agrF_rf, rLk_a (rLk_a (rLk_a (rLk_u (rLk_u rLk_rf _ (by decide)) _ (by decide)) _ (by decide)) _ (by decide)) _ (by decide), by rw [u_ne _ _ (by decide), u_eq], en_X12_swap (b_X12_swap_0 z_puCV ⟨sh_kd hM, ?_⟩)⟩
    · rw [u_comm _ _ _ (show 5 ≠ 1 by decide), u_ne _ (a := 5) _ (fun e => hq (by rw [e]; decide))]
    · rw [u_ne _ _ (by decide), u_eq]; exact h5'
    rw [rs_poi, t_isP hA, t_isP hA, g1, g2, if_neg (by decide), if_neg (by decide), if_neg g3]
    have ek := e_keep (G := G) (d := d + 1) (F := z_u F 0 (nI 0)) (A := A) hM hI.2.2.2.2.2.1.1 (by rw [u_ne _ _ (by decide)]; exact hI.2.2.2.2.1)
    refine ⟨sh_kd hM, hM, sh_kd hM, hM, sh_kd hM, _, ek, ?_⟩
    have hA1 := at_rs (F := z_u (z_u F 0 (nI 0)) 25 (nI (c_ka σ.2.2.1.length))) (A := z_u A 13 (c_kp (A 13) (A 1) σ.2.2.1.length)) (S := σ.2.1.1.1) hM (by rw [u_ne _ _ (by decide)]; exact hok.1) (by rw [u_ne _ _ (by decide)]; exact hok.2)
    have eb := e_begM (G := G) (d := d + 1) (F := z_u (z_u F 0 (nI 0)) 25 (nI (c_ka σ.2.2.1.length))) (A := z_u A 13 (c_kp (A 13) (A 1) σ.2.2.1.length)) hM hn.2
    rw [e15] at eb
    rw [t_n hA1]
    refine ⟨sh_kd hM, hM, sh_kd hM, _, eb, ?_⟩
    have ex := e_exchange (G := G) (d := d + 1) (h := z_rs h M (z_u (z_u F 0 (nI 0)) 25 (nI (c_ka σ.2.2.1.length))) (z_u (z_u A 13 (c_kp (A 13) (A 1) σ.2.2.1.length)) 5 (arrI σ.2.1.1.1.1 (fun t => if t < σ.2.1.1.1.1 then t else 0) (A 5)))) (M := M) hM (show i < 8 by omega) (show j < 8 by omega)
    rw [rs_pax _ _ _ _ (by omega) (by omega), rs_ai _ _ _ _ (by omega) (by omega), u_eq, u_u, arrI_sw hi hj] at ex
    refine ⟨sh_kd hM, _, ex, ?_⟩
    have key := z_forI (G := G) (d := d + 6) (μ := m_X12_swap z_puC) (r := (.inl (some (.int (nI 1))), z_rs h M (z_u (z_u F 0 (nI 0)) 25 (nI (c_ka σ.2.2.1.length))) (z_u (z_u (z_u A 13 (c_kp (A 13) (A 1) σ.2.2.1.length)) 5 (arrI σ.2.1.1.1.1 (swN (fun t => if t < σ.2.1.1.1.1 then t else 0) i j) (A 5))) 1 (swp (swp (fun k => if 2 ≤ k ∧ k < 2 + σ.2.1.1.1.2.1 then nI (c_nm (trs i j) (σ.2.1.1.1.2.2 (k - 2))) else A 1 k) (14 + i) (14 + j)) (22 + i) (22 + j))))) (pc := 51) (α := Unit) (fun t _ => [some (.ref M), some (.int (nI i)), some (.int (nI j)), some (.int (nI t))]) (fun t _ => z_rs h M (z_u (z_u F 0 (nI 0)) 25 (nI (c_ka σ.2.2.1.length))) (z_u (z_u (z_u A 13 (c_kp (A 13) (A 1) σ.2.2.1.length)) 5 (arrI σ.2.1.1.1.1 (swN (fun t => if t < σ.2.1.1.1.1 then t else 0) i j) (A 5))) 1 (fun k => if 2 ≤ k ∧ k < 2 + t then nI (c_nm (trs i j) (σ.2.1.1.1.2.2 (k - 2))) else A 1 k))) (fun _ _ => True) (fun _ x => x) () σ.2.1.1.1.2.1 trivial ?_ ?_
    · have e0 : (fun k => if 2 ≤ k ∧ k < 2 + 0 then nI (c_nm (trs i j) (σ.2.1.1.1.2.2 (k - 2))) else A 1 k) = z_u (z_u A 13 (c_kp (A 13) (A 1) σ.2.2.1.length)) 5 (arrI σ.2.1.1.1.1 (swN (fun t => if t < σ.2.1.1.1.1 then t else 0) i j) (A 5)) 1 := by
        rw [e11]; funext k; exact if_neg (by omega)
      rw [e0, u_self] at key
      exact key
    · intro t _ ht _
      refine ⟨trivial, fun hJ => b_X12_swap_51 z_puCV ?_⟩
      generalize hHH : z_rs h M (z_u (z_u F 0 (nI 0)) 25 (nI (c_ka σ.2.2.1.length))) (z_u (z_u (z_u A 13 (c_kp (A 13) (A 1) σ.2.2.1.length)) 5 (arrI σ.2.1.1.1.1 (swN (fun t => if t < σ.2.1.1.1.1 then t else 0) i j) (A 5))) 1 (fun k => if 2 ≤ k ∧ k < 2 + t then nI (c_nm (trs i j) (σ.2.1.1.1.2.2 (k - 2))) else A 1 k)) = HH
      have hMH : z_sh M HH := by rw [← hHH]; exact hM
      have fl : f_X12_lines M HH = nI σ.2.1.1.1.2.1 := by
        rw [← hHH]; unfold f_X12_lines
        rw [rs_ai _ _ _ _ (by omega) (by omega), u_eq, if_neg (by omega), h11]
      have fL : f_X12_lineAt M (nI t) HH = nI (σ.2.1.1.1.2.2 t) := by
        rw [← hHH]; unfold f_X12_lineAt
        rw [a_2, nI_clamp (by omega), rs_ai _ _ _ _ (by omega) (by omega), u_eq, if_neg (by omega)]
        exact ((row_is hr.1 hr.2.1).2.2.2.2 t ht).1
      have sn : s_X12_named M (nI (σ.2.1.1.1.2.2 t)) HH := ⟨hMH, by rw [← hHH, rs_ai _ _ _ _ (by omega) (by omega), u_ne _ _ (by decide), u_eq]; exact h5', _, h256 t, rfl⟩
      have fn : f_X12_named M (nI (σ.2.1.1.1.2.2 t)) HH = nI (c_nm (trs i j) (σ.2.1.1.1.2.2 t)) := by
        rw [t_nm (h256 t), ← hHH, rs_ai _ _ _ _ (by omega) (by omega), u_ne _ _ (by decide), u_eq, hNt _ (hW t)]
      rw [fl, fL, fn, if_pos (nI_lt ht (by omega)), (sh_now hMH).1, z_rcs, nI_add, nI_add, nI_clamp (by omega)]
      refine ⟨sh_kd hMH, hMH, sh_kd hMH, sh_kd hMH, a_sL hMH (by omega), sh_kd hMH, sn, (sh_now hMH).2.1, by rw [(sh_now hMH).2.2]; exact vp_in_nI (by omega) (by omega), ?_⟩
      have ef : z_u (fun k => if 2 ≤ k ∧ k < 2 + t then nI (c_nm (trs i j) (σ.2.1.1.1.2.2 (k - 2))) else A 1 k) (2 + t) (nI (c_nm (trs i j) (σ.2.1.1.1.2.2 t))) = fun k => if 2 ≤ k ∧ k < 2 + (t + 1) then nI (c_nm (trs i j) (σ.2.1.1.1.2.2 (k - 2))) else A 1 k := by
        funext k
        unfold z_u; dsimp only
        by_cases c1 : k = 2 + t
        · rw [if_pos c1, if_pos (by omega), show k - 2 = t by omega]
        · rw [if_neg c1]
          by_cases c2 : 2 ≤ k ∧ k < 2 + t
          · rw [if_pos c2, if_pos (by omega)]
          · rw [if_neg c2, if_neg (by omega)]
      rw [← hHH, rs_pai _ _ _ _ (by omega) (by omega), u_u, u_eq, ef]
      exact hJ
    · intro _
      refine b_X12_swap_51 z_puCV ?_
      have fl : f_X12_lines M (z_rs h M (z_u (z_u F 0 (nI 0)) 25 (nI (c_ka σ.2.2.1.length))) (z_u (z_u (z_u A 13 (c_kp (A 13) (A 1) σ.2.2.1.length)) 5 (arrI σ.2.1.1.1.1 (swN (fun t => if t < σ.2.1.1.1.1 then t else 0) i j) (A 5))) 1 (fun k => if 2 ≤ k ∧ k < 2 + σ.2.1.1.1.2.1 then nI (c_nm (trs i j) (σ.2.1.1.1.2.2 (k - 2))) else A 1 k))) = nI σ.2.1.1.1.2.1 := by
        unfold f_X12_lines
        rw [rs_ai _ _ _ _ (by omega) (by omega), u_eq, if_neg (by omega), h11]
      rw [fl, if_neg (nI_nlt (Nat.le_refl _) (by omega)), nI_add, nI_add, nI_add, nI_add]
      have s1 := e_swapAt (G := G) (d := d + 1) (F := z_u (z_u F 0 (nI 0)) 25 (nI (c_ka σ.2.2.1.length))) (A := z_u (z_u (z_u A 13 (c_kp (A 13) (A 1) σ.2.2.1.length)) 5 (arrI σ.2.1.1.1.1 (swN (fun t => if t < σ.2.1.1.1.1 then t else 0) i j) (A 5))) 1 (fun k => if 2 ≤ k ∧ k < 2 + σ.2.1.1.1.2.1 then nI (c_nm (trs i j) (σ.2.1.1.1.2.2 (k - 2))) else A 1 k)) hM (show 14 + i < 154 by omega) (show 14 + j < 154 by omega)
      rw [u_u, u_eq] at s1
      have s2 := e_swapAt (G := G) (d := d + 1) (F := z_u (z_u F 0 (nI 0)) 25 (nI (c_ka σ.2.2.1.length))) (A := z_u (z_u (z_u A 13 (c_kp (A 13) (A 1) σ.2.2.1.length)) 5 (arrI σ.2.1.1.1.1 (swN (fun t => if t < σ.2.1.1.1.1 then t else 0) i j) (A 5))) 1 (swp (fun k => if 2 ≤ k ∧ k < 2 + σ.2.1.1.1.2.1 then nI (c_nm (trs i j) (σ.2.1.1.1.2.2 (k - 2))) else A 1 k) (14 + i) (14 + j))) hM (show 22 + i < 154 by omega) (show 22 + j < 154 by omega)
      rw [u_u, u_eq] at s2
      exact ⟨sh_kd hM, hM, sh_kd hM, _, s1, sh_kd hM, _, s2, Or.inr rfl, rfl⟩
end CT
