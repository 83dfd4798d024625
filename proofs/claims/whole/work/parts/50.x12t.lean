theorem en_X12_refuse {pu : Nat → Option ((List Value → z_H → Prop) × (List Value → z_H → Int32))} {G : z_G} {d : Nat} {r : z_Res} {h : z_H} {x0 : Nat} (hJ : z_J G d (m_X12_refuse pu) r 0 [some (.ref x0)] [] h) : z_Ev G d k_X12_refuse [.ref x0] h r := z_enter (μ := m_X12_refuse pu) rfl (by decide) rfl rfl (fun q => by cases q) (Nat.le_of_ble_eq_true rfl) hJ
def hd_X12_refuse : Nat → Option (List Bool) := (fun k => none)
set_option maxRecDepth 20000 in
theorem b_X12_refuse_0 {G : z_G} {d : Nat} {r : z_Res} (hPu : z_PuV G d (t_X12 z_puC)) {h : z_H} {x0 : Nat} (hT : (z_kd h x0 = 28 ∧ (z_rc (z_or h x0 3) False (fun x_1 => (z_kd h x_1 = 1 ∧ vp_in (nI 1) (z_ln h x_1) ∧ (z_kd h x_1 = 1 ∧ vp_in (nI 1) (z_ln h x_1) ∧ r = (.inl (some (.int mI)), z_pai h x_1 (Int32.toNatClampNeg (nI 1)) ((z_ai h x_1 (Int32.toNatClampNeg (nI 1))) + (nI 1))))))))) : (z_J G (d + 1) (m_X12_refuse z_puC) r) 0 [some (.ref x0)] [] h := z_bq (v_X12 z_puC (vP_X12_refuse z_puC) hPu) hd_X12_refuse 12 hT
theorem en_X12_refused {pu : Nat → Option ((List Value → z_H → Prop) × (List Value → z_H → Int32))} {G : z_G} {d : Nat} {r : z_Res} {h : z_H} {x0 : Nat} (hJ : z_J G d (m_X12_refused pu) r 0 [some (.ref x0)] [] h) : z_Ev G d k_X12_refused [.ref x0] h r := z_enter (μ := m_X12_refused pu) rfl (by decide) rfl rfl (fun q => by cases q) (Nat.le_of_ble_eq_true rfl) hJ
def hd_X12_refused : Nat → Option (List Bool) := (fun k => none)
set_option maxRecDepth 20000 in
theorem b_X12_refused_0 {G : z_G} {d : Nat} {r : z_Res} (hPu : z_PuV G d (t_X12 z_puC)) {h : z_H} {x0 : Nat} (hT : (z_kd h x0 = 28 ∧ ∃ x_2 h_1, z_Ev G d k_X12_refuse [.ref x0] h (.inl (some (.int x_2)), h_1) ∧ (if x_2 < (nI 0) then (z_bz (nI 0) ∧ r = (.inl (some (.int (nI 0))), h_1)) else (z_bz (nI 1) ∧ r = (.inl (some (.int (nI 1))), h_1))))) : (z_J G (d + 1) (m_X12_refused z_puC) r) 0 [some (.ref x0)] [] h := z_bq (v_X12 z_puC (vP_X12_refused z_puC) hPu) hd_X12_refused 8 hT
theorem en_X12_copyTo {pu : Nat → Option ((List Value → z_H → Prop) × (List Value → z_H → Int32))} {G : z_G} {d : Nat} {r : z_Res} {h : z_H} {x0 : Nat} {x1 : Nat} (hJ : z_J G d (m_X12_copyTo pu) r 0 [some (.ref x0), some (.ref x1), none] [] h) : z_Ev G d k_X12_copyTo [.ref x0, .ref x1] h r := z_enter (μ := m_X12_copyTo pu) rfl (by decide) rfl rfl (fun q => by cases q) (Nat.le_of_ble_eq_true rfl) hJ
def hd_X12_copyTo : Nat → Option (List Bool) := (fun k => (cond (Nat.blt k 21) (cond (Nat.beq k 2) (some [true, true, true]) none) none))
set_option maxRecDepth 20000 in
theorem b_X12_copyTo_0 {G : z_G} {d : Nat} {r : z_Res} (hPu : z_PuV G d (t_X12 z_puC)) {h : z_H} {x0 : Nat} {x1 : Nat} (hT : (z_J G (d + 1) (m_X12_copyTo z_puC) r) 2 [some (.ref x0), some (.ref x1), some (.int (nI 0))] [] h) : (z_J G (d + 1) (m_X12_copyTo z_puC) r) 0 [some (.ref x0), some (.ref x1), none] [] h := z_bq (v_X12 z_puC (vP_X12_copyTo z_puC) hPu) hd_X12_copyTo 5 hT
set_option maxRecDepth 20000 in
theorem b_X12_copyTo_2 {G : z_G} {d : Nat} {r : z_Res} (hPu : z_PuV G d (t_X12 z_puC)) {h : z_H} {x0 : Nat} {x1 : Nat} {x2 : Int32} (hT : ((z_kd h x0 ≠ 0 ∧ z_kd h x0 < 7) ∧ (if x2 < (Int32.ofNat (z_ln h x0)) then (z_kd h x1 = 1 ∧ vp_in x2 (z_ln h x1) ∧ (z_kd h x0 = 1 ∧ vp_in x2 (z_ln h x0) ∧ (z_J G (d + 1) (m_X12_copyTo z_puC) r) 2 [some (.ref x0), some (.ref x1), some (.int (x2 + (nI 1)))] [] (z_pai h x0 (Int32.toNatClampNeg x2) (z_ai h x1 (Int32.toNatClampNeg x2))))) else r = (.inl none, h)))) : (z_J G (d + 1) (m_X12_copyTo z_puC) r) 2 [some (.ref x0), some (.ref x1), some (.int x2)] [] h := z_bq (v_X12 z_puC (vP_X12_copyTo z_puC) hPu) hd_X12_copyTo 15 hT
theorem en_X12_keep {pu : Nat → Option ((List Value → z_H → Prop) × (List Value → z_H → Int32))} {G : z_G} {d : Nat} {r : z_Res} {h : z_H} {x0 : Nat} (hJ : z_J G d (m_X12_keep pu) r 0 [some (.ref x0), none] [] h) : z_Ev G d k_X12_keep [.ref x0] h r := z_enter (μ := m_X12_keep pu) rfl (by decide) rfl rfl (fun q => by cases q) (Nat.le_of_ble_eq_true rfl) hJ
def hd_X12_keep : Nat → Option (List Bool) := (fun k => (cond (Nat.blt k 101) (cond (Nat.blt k 56) (cond (Nat.beq k 13) (some [true, true]) none) (cond (Nat.beq k 56) (some [true, true]) none)) none))
set_option maxRecDepth 20000 in
theorem b_X12_keep_0 {G : z_G} {d : Nat} {r : z_Res} (hPu : z_PuV G d (t_X12 z_puC)) {h : z_H} {x0 : Nat} (hT : (z_kd h x0 = 28 ∧ (if (z_oi h x0 25) = (nI 40) then (z_J G (d + 1) (m_X12_keep z_puC) r) 13 [some (.ref x0), some (.int (nI 154))] [] h else (z_J G (d + 1) (m_X12_keep z_puC) r) 56 [some (.ref x0), some (.int (nI 0))] [] h))) : (z_J G (d + 1) (m_X12_keep z_puC) r) 0 [some (.ref x0), none] [] h := z_bq (v_X12 z_puC (vP_X12_keep z_puC) hPu) hd_X12_keep 9 hT
set_option maxRecDepth 20000 in
theorem b_X12_keep_13 {G : z_G} {d : Nat} {r : z_Res} (hPu : z_PuV G d (t_X12 z_puC)) {h : z_H} {x0 : Nat} {x1 : Int32} (hT : (z_kd h x0 = 28 ∧ (z_rc (z_or h x0 26) False (fun x_1 => ((z_kd h x_1 ≠ 0 ∧ z_kd h x_1 < 7) ∧ (if x1 < (Int32.ofNat (z_ln h x_1)) then (z_kd h x0 = 28 ∧ (z_rc (z_or h x0 26) (z_kd h x0 = 28 ∧ (z_rc (z_or h x0 26) False (fun x_3 => (z_kd h x_3 = 1 ∧ vp_in x1 (z_ln h x_3) ∧ False)))) (fun x_2 => (z_kd h x0 = 28 ∧ (z_rc (z_or h x0 26) False (fun x_4 => (z_kd h x_4 = 1 ∧ vp_in x1 (z_ln h x_4) ∧ (z_kd h x_2 = 1 ∧ vp_in (x1 - (nI 154)) (z_ln h x_2) ∧ (z_J G (d + 1) (m_X12_keep z_puC) r) 13 [some (.ref x0), some (.int (x1 + (nI 1)))] [] (z_pai h x_2 (Int32.toNatClampNeg (x1 - (nI 154))) (z_ai h x_4 (Int32.toNatClampNeg x1))))))))))) else (z_kd h x0 = 28 ∧ (z_kd h x0 = 28 ∧ (z_J G (d + 1) (m_X12_keep z_puC) r) 56 [some (.ref x0), some (.int (nI 0))] [] (z_poi h x0 25 ((z_oi h x0 25) - (nI 1))))))))))) : (z_J G (d + 1) (m_X12_keep z_puC) r) 13 [some (.ref x0), some (.int x1)] [] h := z_bq (v_X12 z_puC (vP_X12_keep z_puC) hPu) hd_X12_keep 20 hT
set_option maxRecDepth 20000 in
theorem b_X12_keep_56 {G : z_G} {d : Nat} {r : z_Res} (hPu : z_PuV G d (t_X12 z_puC)) {h : z_H} {x0 : Nat} {x1 : Int32} (hT : (if x1 < (nI 154) then (z_kd h x0 = 28 ∧ (z_rc (z_or h x0 26) (z_kd h x0 = 28 ∧ (z_kd h x0 = 28 ∧ (z_rc (z_or h x0 1) False (fun x_2 => (z_kd h x_2 = 1 ∧ vp_in x1 (z_ln h x_2) ∧ False))))) (fun x_1 => (z_kd h x0 = 28 ∧ (z_kd h x0 = 28 ∧ (z_rc (z_or h x0 1) False (fun x_3 => (z_kd h x_3 = 1 ∧ vp_in x1 (z_ln h x_3) ∧ (z_kd h x_1 = 1 ∧ vp_in (((nI 154) * (z_oi h x0 25)) + x1) (z_ln h x_1) ∧ (z_J G (d + 1) (m_X12_keep z_puC) r) 56 [some (.ref x0), some (.int (x1 + (nI 1)))] [] (z_pai h x_1 (Int32.toNatClampNeg (((nI 154) * (z_oi h x0 25)) + x1)) (z_ai h x_3 (Int32.toNatClampNeg x1)))))))))))) else (z_kd h x0 = 28 ∧ (z_kd h x0 = 28 ∧ r = (.inl none, z_poi h x0 25 ((z_oi h x0 25) + (nI 1))))))) : (z_J G (d + 1) (m_X12_keep z_puC) r) 56 [some (.ref x0), some (.int x1)] [] h := z_bq (v_X12 z_puC (vP_X12_keep z_puC) hPu) hd_X12_keep 21 hT
theorem en_X12_addNow {pu : Nat → Option ((List Value → z_H → Prop) × (List Value → z_H → Int32))} {G : z_G} {d : Nat} {r : z_Res} {h : z_H} {x0 : Nat} {x1 : Int32} (hJ : z_J G d (m_X12_addNow pu) r 0 [some (.ref x0), some (.int x1)] [] h) : z_Ev G d k_X12_addNow [.ref x0, .int x1] h r := z_enter (μ := m_X12_addNow pu) rfl (by decide) rfl rfl (fun q => by cases q) (Nat.le_of_ble_eq_true rfl) hJ
def hd_X12_addNow : Nat → Option (List Bool) := (fun k => none)
set_option maxRecDepth 20000 in
theorem b_X12_addNow_0 {G : z_G} {d : Nat} {r : z_Res} (hPu : z_PuV G d (t_X12 z_puC)) {h : z_H} {x0 : Nat} {x1 : Int32} (hT : (z_kd h x0 = 28 ∧ (z_rc (z_or h x0 1) (z_kd h x0 = 28 ∧ (z_rc (z_or h x0 1) False (fun x_2 => (z_kd h x_2 = 1 ∧ vp_in (nI 1) (z_ln h x_2) ∧ False)))) (fun x_1 => (z_kd h x0 = 28 ∧ (z_rc (z_or h x0 1) False (fun x_3 => (z_kd h x_3 = 1 ∧ vp_in (nI 1) (z_ln h x_3) ∧ (z_kd h x_1 = 1 ∧ vp_in ((nI 2) + (z_ai h x_3 (Int32.toNatClampNeg (nI 1)))) (z_ln h x_1) ∧ (z_kd (z_pai h x_1 (Int32.toNatClampNeg ((nI 2) + (z_ai h x_3 (Int32.toNatClampNeg (nI 1))))) x1) x0 = 28 ∧ (z_rc (z_or (z_pai h x_1 (Int32.toNatClampNeg ((nI 2) + (z_ai h x_3 (Int32.toNatClampNeg (nI 1))))) x1) x0 1) False (fun x_4 => (z_kd (z_pai h x_1 (Int32.toNatClampNeg ((nI 2) + (z_ai h x_3 (Int32.toNatClampNeg (nI 1))))) x1) x_4 = 1 ∧ vp_in (nI 1) (z_ln (z_pai h x_1 (Int32.toNatClampNeg ((nI 2) + (z_ai h x_3 (Int32.toNatClampNeg (nI 1))))) x1) x_4) ∧ (z_kd (z_pai h x_1 (Int32.toNatClampNeg ((nI 2) + (z_ai h x_3 (Int32.toNatClampNeg (nI 1))))) x1) x_4 = 1 ∧ vp_in (nI 1) (z_ln (z_pai h x_1 (Int32.toNatClampNeg ((nI 2) + (z_ai h x_3 (Int32.toNatClampNeg (nI 1))))) x1) x_4) ∧ r = (.inl none, z_pai (z_pai h x_1 (Int32.toNatClampNeg ((nI 2) + (z_ai h x_3 (Int32.toNatClampNeg (nI 1))))) x1) x_4 (Int32.toNatClampNeg (nI 1)) ((z_ai (z_pai h x_1 (Int32.toNatClampNeg ((nI 2) + (z_ai h x_3 (Int32.toNatClampNeg (nI 1))))) x1) x_4 (Int32.toNatClampNeg (nI 1))) + (nI 1))))))))))))))))) : (z_J G (d + 1) (m_X12_addNow z_puC) r) 0 [some (.ref x0), some (.int x1)] [] h := z_bq (v_X12 z_puC (vP_X12_addNow z_puC) hPu) hd_X12_addNow 21 hT
theorem en_X12_dropNow {pu : Nat → Option ((List Value → z_H → Prop) × (List Value → z_H → Int32))} {G : z_G} {d : Nat} {r : z_Res} {h : z_H} {x0 : Nat} {x1 : Int32} (hJ : z_J G d (m_X12_dropNow pu) r 0 [some (.ref x0), some (.int x1), none, none] [] h) : z_Ev G d k_X12_dropNow [.ref x0, .int x1] h r := z_enter (μ := m_X12_dropNow pu) rfl (by decide) rfl rfl (fun q => by cases q) (Nat.le_of_ble_eq_true rfl) hJ
def hd_X12_dropNow : Nat → Option (List Bool) := (fun k => (cond (Nat.blt k 68) (cond (Nat.beq k 10) (some [true, false, true, true]) none) none))
set_option maxRecDepth 20000 in
theorem b_X12_dropNow_0 {G : z_G} {d : Nat} {r : z_Res} (hPu : z_PuV G d (t_X12 z_puC)) {h : z_H} {x0 : Nat} {x1 : Int32} (hT : (z_kd h x0 = 28 ∧ s_X12_lineAt x0 x1 h ∧ (z_J G (d + 1) (m_X12_dropNow z_puC) r) 10 [some (.ref x0), none, some (.int (f_X12_lineAt x0 x1 h)), some (.int (x1 + (nI 1)))] [] h)) : (z_J G (d + 1) (m_X12_dropNow z_puC) r) 0 [some (.ref x0), some (.int x1), none, none] [] h := z_bq (v_X12 z_puC (vP_X12_dropNow z_puC) hPu) hd_X12_dropNow 11 hT
set_option maxRecDepth 20000 in
theorem b_X12_dropNow_10 {G : z_G} {d : Nat} {r : z_Res} (hPu : z_PuV G d (t_X12 z_puC)) {h : z_H} {x0 : Nat} {x2 : Int32} {x3 : Int32} (hT : (z_kd h x0 = 28 ∧ s_X12_lines x0 h ∧ (if x3 < (f_X12_lines x0 h) then (z_kd h x0 = 28 ∧ (z_rc (z_or h x0 1) (z_kd h x0 = 28 ∧ (z_rc (z_or h x0 1) False (fun x_2 => (z_kd h x_2 = 1 ∧ vp_in ((nI 2) + x3) (z_ln h x_2) ∧ False)))) (fun x_1 => (z_kd h x0 = 28 ∧ (z_rc (z_or h x0 1) False (fun x_3 => (z_kd h x_3 = 1 ∧ vp_in ((nI 2) + x3) (z_ln h x_3) ∧ (z_kd h x_1 = 1 ∧ vp_in (((nI 2) + x3) - (nI 1)) (z_ln h x_1) ∧ (z_J G (d + 1) (m_X12_dropNow z_puC) r) 10 [some (.ref x0), none, some (.int x2), some (.int (x3 + (nI 1)))] [] (z_pai h x_1 (Int32.toNatClampNeg (((nI 2) + x3) - (nI 1))) (z_ai h x_3 (Int32.toNatClampNeg ((nI 2) + x3)))))))))))) else (z_kd h x0 = 28 ∧ (z_rc (z_or h x0 1) False (fun x_4 => (z_kd h x_4 = 1 ∧ vp_in (nI 1) (z_ln h x_4) ∧ (z_kd h x_4 = 1 ∧ vp_in (nI 1) (z_ln h x_4) ∧ (z_kd (z_pai h x_4 (Int32.toNatClampNeg (nI 1)) ((z_ai h x_4 (Int32.toNatClampNeg (nI 1))) - (nI 1))) x0 = 28 ∧ (z_rc (z_or (z_pai h x_4 (Int32.toNatClampNeg (nI 1)) ((z_ai h x_4 (Int32.toNatClampNeg (nI 1))) - (nI 1))) x0 1) (z_kd (z_pai h x_4 (Int32.toNatClampNeg (nI 1)) ((z_ai h x_4 (Int32.toNatClampNeg (nI 1))) - (nI 1))) x0 = 28 ∧ (z_rc (z_or (z_pai h x_4 (Int32.toNatClampNeg (nI 1)) ((z_ai h x_4 (Int32.toNatClampNeg (nI 1))) - (nI 1))) x0 1) False (fun x_6 => (z_kd (z_pai h x_4 (Int32.toNatClampNeg (nI 1)) ((z_ai h x_4 (Int32.toNatClampNeg (nI 1))) - (nI 1))) x_6 = 1 ∧ vp_in (nI 1) (z_ln (z_pai h x_4 (Int32.toNatClampNeg (nI 1)) ((z_ai h x_4 (Int32.toNatClampNeg (nI 1))) - (nI 1))) x_6) ∧ False)))) (fun x_5 => (z_kd (z_pai h x_4 (Int32.toNatClampNeg (nI 1)) ((z_ai h x_4 (Int32.toNatClampNeg (nI 1))) - (nI 1))) x0 = 28 ∧ (z_rc (z_or (z_pai h x_4 (Int32.toNatClampNeg (nI 1)) ((z_ai h x_4 (Int32.toNatClampNeg (nI 1))) - (nI 1))) x0 1) False (fun x_7 => (z_kd (z_pai h x_4 (Int32.toNatClampNeg (nI 1)) ((z_ai h x_4 (Int32.toNatClampNeg (nI 1))) - (nI 1))) x_7 = 1 ∧ vp_in (nI 1) (z_ln (z_pai h x_4 (Int32.toNatClampNeg (nI 1)) ((z_ai h x_4 (Int32.toNatClampNeg (nI 1))) - (nI 1))) x_7) ∧ (z_kd (z_pai h x_4 (Int32.toNatClampNeg (nI 1)) ((z_ai h x_4 (Int32.toNatClampNeg (nI 1))) - (nI 1))) x_5 = 1 ∧ vp_in ((nI 2) + (z_ai (z_pai h x_4 (Int32.toNatClampNeg (nI 1)) ((z_ai h x_4 (Int32.toNatClampNeg (nI 1))) - (nI 1))) x_7 (Int32.toNatClampNeg (nI 1)))) (z_ln (z_pai h x_4 (Int32.toNatClampNeg (nI 1)) ((z_ai h x_4 (Int32.toNatClampNeg (nI 1))) - (nI 1))) x_5) ∧ r = (.inl (some (.int x2)), z_pai (z_pai h x_4 (Int32.toNatClampNeg (nI 1)) ((z_ai h x_4 (Int32.toNatClampNeg (nI 1))) - (nI 1))) x_5 (Int32.toNatClampNeg ((nI 2) + (z_ai (z_pai h x_4 (Int32.toNatClampNeg (nI 1)) ((z_ai h x_4 (Int32.toNatClampNeg (nI 1))) - (nI 1))) x_7 (Int32.toNatClampNeg (nI 1))))) (nI 0)))))))))))))))))) : (z_J G (d + 1) (m_X12_dropNow z_puC) r) 10 [some (.ref x0), none, some (.int x2), some (.int x3)] [] h := z_bq (v_X12 z_puC (vP_X12_dropNow z_puC) hPu) hd_X12_dropNow 26 hT
theorem en_X12_swapAt {pu : Nat → Option ((List Value → z_H → Prop) × (List Value → z_H → Int32))} {G : z_G} {d : Nat} {r : z_Res} {h : z_H} {x0 : Nat} {x1 : Int32} {x2 : Int32} (hJ : z_J G d (m_X12_swapAt pu) r 0 [some (.ref x0), some (.int x1), some (.int x2), none] [] h) : z_Ev G d k_X12_swapAt [.ref x0, .int x1, .int x2] h r := z_enter (μ := m_X12_swapAt pu) rfl (by decide) rfl rfl (fun q => by cases q) (Nat.le_of_ble_eq_true rfl) hJ
def hd_X12_swapAt : Nat → Option (List Bool) := (fun k => none)
set_option maxRecDepth 20000 in
theorem b_X12_swapAt_0 {G : z_G} {d : Nat} {r : z_Res} (hPu : z_PuV G d (t_X12 z_puC)) {h : z_H} {x0 : Nat} {x1 : Int32} {x2 : Int32} (hT : (z_kd h x0 = 28 ∧ (z_rc (z_or h x0 1) False (fun x_1 => (z_kd h x_1 = 1 ∧ vp_in x1 (z_ln h x_1) ∧ (z_kd h x0 = 28 ∧ (z_rc (z_or h x0 1) (z_kd h x0 = 28 ∧ (z_rc (z_or h x0 1) False (fun x_3 => (z_kd h x_3 = 1 ∧ vp_in x2 (z_ln h x_3) ∧ False)))) (fun x_2 => (z_kd h x0 = 28 ∧ (z_rc (z_or h x0 1) False (fun x_4 => (z_kd h x_4 = 1 ∧ vp_in x2 (z_ln h x_4) ∧ (z_kd h x_2 = 1 ∧ vp_in x1 (z_ln h x_2) ∧ (z_kd (z_pai h x_2 (Int32.toNatClampNeg x1) (z_ai h x_4 (Int32.toNatClampNeg x2))) x0 = 28 ∧ (z_rc (z_or (z_pai h x_2 (Int32.toNatClampNeg x1) (z_ai h x_4 (Int32.toNatClampNeg x2))) x0 1) False (fun x_5 => (z_kd (z_pai h x_2 (Int32.toNatClampNeg x1) (z_ai h x_4 (Int32.toNatClampNeg x2))) x_5 = 1 ∧ vp_in x2 (z_ln (z_pai h x_2 (Int32.toNatClampNeg x1) (z_ai h x_4 (Int32.toNatClampNeg x2))) x_5) ∧ r = (.inl none, z_pai (z_pai h x_2 (Int32.toNatClampNeg x1) (z_ai h x_4 (Int32.toNatClampNeg x2))) x_5 (Int32.toNatClampNeg x2) (z_ai h x_1 (Int32.toNatClampNeg x1)))))))))))))))))))) : (z_J G (d + 1) (m_X12_swapAt z_puC) r) 0 [some (.ref x0), some (.int x1), some (.int x2), none] [] h := z_bq (v_X12 z_puC (vP_X12_swapAt z_puC) hPu) hd_X12_swapAt 21 hT
/-! acts: rows -/
def c_ovl (P : Nat → Int32) (o t : Nat) (R : Nat → Int32) : Nat → Int32 := fun k => if o ≤ k ∧ k < o + t then R (k - o) else P k
def c_shf (P : Nat → Int32) (t : Nat) : Nat → Int32 := fun k => if k < t then P (k + 154) else P k
def c_kp (P R : Nat → Int32) (a : Nat) : Nat → Int32 := if a = 40 then c_ovl (c_shf P 6006) (154 * 39) 154 R else c_ovl P (154 * a) 154 R
def c_ka (a : Nat) : Nat := if a = 40 then 40 else a + 1
def c_drp (R : Nat → Int32) (m l : Nat) : Nat → Int32 := fun k => if k = 2 + (m - 1) then nI 0 else if k = 1 then nI (m - 1) else if 2 + l ≤ k ∧ k < 2 + (m - 1) then R (k + 1) else R k
theorem ovl_0 (P R : Nat → Int32) (o : Nat) : c_ovl P o 0 R = P := by funext k; exact if_neg (by omega)
theorem ovl_s (P R : Nat → Int32) (o t : Nat) : z_u (c_ovl P o t R) (o + t) (R t) = c_ovl P o (t + 1) R := by
  funext k
  unfold z_u c_ovl
  by_cases h : k = o + t
  · rw [if_pos h, if_pos (by omega)]; congr 1; omega
  · rw [if_neg h]
    by_cases h2 : o ≤ k ∧ k < o + t
    · rw [if_pos h2, if_pos (by omega)]
    · rw [if_neg h2, if_neg (by omega)]
theorem shf_s (P : Nat → Int32) (t : Nat) : z_u (c_shf P t) t (c_shf P t (154 + t)) = c_shf P (t + 1) := by
  funext k
  unfold z_u c_shf
  by_cases h : k = t
  · subst h; rw [if_pos rfl, if_neg (by omega), if_pos (by omega), Nat.add_comm]
  · rw [if_neg h]
    by_cases h2 : k < t
    · rw [if_pos h2, if_pos (by omega)]
    · rw [if_neg h2, if_neg (by omega)]
section CS
variable {G : z_G} {d : Nat} {h : z_H} {M : Nat} {S : Sc} {F : Nat → Int32} {A : Nat → Nat → Int32}
theorem e_refuse (hM : z_sh M h) : z_Ev G (d + 4) k_X12_refuse [.ref M] (z_rs h M F A) (.inl (some (.int mI)), z_rs h M F (z_u A 3 (z_u (A 3) 1 (A 3 1 + nI 1)))) := by
  refine en_X12_refuse (b_X12_refuse_0 z_puCV ?_)
  simp (disch := omega) only [l0, l1, l2, l3, l4, l5, l6, l7, l8, l9, l10, l11, l12, l13, l14, l15, l16, l18, l20, l22, l24, l30, l31, l39, l40, l48, l60, l154, l255, l256, l400, l2000, l6160, l14000, lm1, q_lt, q_le, q_eq, q_mI, q_mI', q_ltmI, q_in, q_bz0, q_bz1, q_bzn0, q_bzn1, q_bzb, q_bn0, q_bn1, q_shr, q_shl, q_1s, b_one, b_two, fa_and, fa_or, nI_add, n_mul, nI_clamp, z_rcs, true_and, and_true, if_true, if_false, rs_ai, rs_oi, rs_pai, rs_poi, rs_pax, rs_kd, rs_ln, rs_or, u_eq, u_ne, sh_kd hM, (sh_status hM).1, (sh_status hM).2.1, (sh_status hM).2.2]
theorem e_refused (hM : z_sh M h) : z_Ev G (d + 5) k_X12_refused [.ref M] (z_rs h M F A) (.inl (some (.int (nI 0))), z_rs h M F (z_u A 3 (z_u (A 3) 1 (A 3 1 + nI 1)))) := by
  refine en_X12_refused (b_X12_refused_0 z_puCV ⟨sh_kd hM, _, _, e_refuse hM, ?_⟩)
  rw [if_pos (by decide)]
  exact ⟨Or.inl rfl, rfl⟩
theorem e_copyTo {p q : Nat} (hp : z_kd h p = 1) (hq : z_kd h q = 1) (hl : z_ln h p ≤ z_ln h q) (hlt : z_ln h q < 2 ^ 31) (hpq : q ≠ p) : z_Ev G (d + 4) k_X12_copyTo [.ref p, .ref q] h (.inl none, z_pax h p (fa_fill (z_ai h q) (z_ai h p) (z_ln h p))) := by
  refine en_X12_copyTo (b_X12_copyTo_0 z_puCV ?_)
  have key := z_forI (G := G) (d := d + 4) (μ := m_X12_copyTo z_puC) (r := (.inl none, z_pax h p (fa_fill (z_ai h q) (z_ai h p) (z_ln h p)))) (pc := 2) (α := Unit) (fun l _ => [some (.ref p), some (.ref q), some (.int (nI l))]) (fun l _ => z_pax h p (fa_fill (z_ai h q) (z_ai h p) l)) (fun _ _ => True) (fun _ x => x) () (z_ln h p) trivial ?_ ?_
  · rw [fa_fill_0, h_pax_self] at key
    exact key
  · intro l _ hll _
    refine ⟨trivial, fun hJ => b_X12_copyTo_2 z_puCV ?_⟩
    have kk : ∀ f, z_kd (z_pax h p f) = z_kd h := fun f => rfl
    have kl : ∀ f, z_ln (z_pax h p f) = z_ln h := fun f => rfl
    rw [kk, kl, show Int32.ofNat (z_ln h p) = nI (z_ln h p) from rfl, if_pos (nI_lt hll (by omega)), nI_clamp (by omega), px_ai hpq, h_pai, h_pax_pax, h_pax_ai, h_fill_u, nI_add]
    exact ⟨by rw [hp]; decide, hq, vp_in_nI (by omega) hlt, hp, vp_in_nI hll (by omega), hJ⟩
  · intro _
    refine b_X12_copyTo_2 z_puCV ?_
    have kk : ∀ f, z_kd (z_pax h p f) = z_kd h := fun f => rfl
    have kl : ∀ f, z_ln (z_pax h p f) = z_ln h := fun f => rfl
    rw [kk, kl, show Int32.ofNat (z_ln h p) = nI (z_ln h p) from rfl, if_neg (nI_nlt (Nat.le_refl _) (by omega))]
    exact ⟨by rw [hp]; decide, rfl⟩
theorem e_cpM (hM : z_sh M h) {i j n : Nat} (hi : 0 < i ∧ i ≤ 25) (hj : 0 < j ∧ j ≤ 25) (hij : i ≠ j) (ki : z_kd h (M + i) = 1 ∧ z_ln h (M + i) = n) (kj : z_kd h (M + j) = 1 ∧ z_ln h (M + j) = n) (hn : n < 2 ^ 31) : z_Ev G (d + 4) k_X12_copyTo [.ref (M + i), .ref (M + j)] (z_rs h M F A) (.inl none, z_rs h M F (z_u A i (fa_fill (A j) (A i) n))) := by
  have e := e_copyTo (G := G) (d := d) (h := z_rs h M F A) (p := M + i) (q := M + j) ki.1 kj.1 (by show z_ln h (M + i) ≤ z_ln h (M + j); omega) (by show z_ln h (M + j) < 2 ^ 31; omega) (by omega)
  rw [rs_pax _ _ _ _ hi.1 hi.2, rs_ai _ _ _ _ hi.1 hi.2, rs_ai _ _ _ _ hj.1 hj.2, show z_ln (z_rs h M F A) (M + i) = n from ki.2] at e
  exact e
theorem e_addNow (hM : z_sh M h) {m : Nat} (hm : m < 100) (h1 : A 1 1 = nI m) (v : Int32) : z_Ev G (d + 4) k_X12_addNow [.ref M, .int v] (z_rs h M F A) (.inl none, z_rs h M F (z_u A 1 (z_u (z_u (A 1) (2 + m) v) 1 (nI (m + 1))))) := by
  refine en_X12_addNow (b_X12_addNow_0 z_puCV ?_)
  simp (disch := omega) only [l0, l1, l2, l3, l4, l5, l6, l7, l8, l9, l10, l11, l12, l13, l14, l15, l16, l18, l20, l22, l24, l30, l31, l39, l40, l48, l60, l154, l255, l256, l400, l2000, l6160, l14000, lm1, q_lt, q_le, q_eq, q_mI, q_mI', q_ltmI, q_in, q_bz0, q_bz1, q_bzn0, q_bzn1, q_bzb, q_bn0, q_bn1, q_shr, q_shl, q_1s, b_one, b_two, fa_and, fa_or, nI_add, n_mul, nI_clamp, z_rcs, true_and, and_true, if_true, if_false, rs_ai, rs_oi, rs_pai, rs_poi, rs_pax, rs_kd, rs_ln, rs_or, u_eq, u_ne, sh_kd hM, (sh_now hM).1, (sh_now hM).2.1, (sh_now hM).2.2, h1, u_u]
theorem e_swapAt (hM : z_sh M h) {i j : Nat} (hi : i < 154) (hj : j < 154) : z_Ev G (d + 4) k_X12_swapAt [.ref M, .int (nI i), .int (nI j)] (z_rs h M F A) (.inl none, z_rs h M F (z_u A 1 (swp (A 1) i j))) := by
  refine en_X12_swapAt (b_X12_swapAt_0 z_puCV ?_)
  simp (disch := omega) only [l0, l1, l2, l3, l4, l5, l6, l7, l8, l9, l10, l11, l12, l13, l14, l15, l16, l18, l20, l22, l24, l30, l31, l39, l40, l48, l60, l154, l255, l256, l400, l2000, l6160, l14000, lm1, q_lt, q_le, q_eq, q_mI, q_mI', q_ltmI, q_in, q_bz0, q_bz1, q_bzn0, q_bzn1, q_bzb, q_bn0, q_bn1, q_shr, q_shl, q_1s, b_one, b_two, fa_and, fa_or, nI_add, n_mul, nI_clamp, z_rcs, true_and, and_true, if_true, if_false, rs_ai, rs_oi, rs_pai, rs_poi, rs_pax, rs_kd, rs_ln, rs_or, u_eq, u_ne, sh_kd hM, (sh_now hM).1, (sh_now hM).2.1, (sh_now hM).2.2, u_u]
  rfl
theorem e_dropNow (hM : z_sh M h) {m l : Nat} (hm : m ≤ 12) (hl : l < m) (h1 : A 1 1 = nI m) : z_Ev G (d + 4) k_X12_dropNow [.ref M, .int (nI l)] (z_rs h M F A) (.inl (some (.int (A 1 (2 + l)))), z_rs h M F (z_u A 1 (c_drp (A 1) m l))) := by
  have sL : s_X12_lineAt M (nI l) (z_rs h M F A) := a_sL hM (by omega)
  have fL : f_X12_lineAt M (nI l) (z_rs h M F A) = A 1 (2 + l) := by
    unfold f_X12_lineAt
    rw [a_2, nI_clamp (by omega), rs_ai _ _ _ _ (by omega) (by omega)]
  refine en_X12_dropNow (b_X12_dropNow_0 z_puCV ⟨sh_kd hM, sL, ?_⟩)
  rw [fL, nI_add]
  have key := z_forI (G := G) (d := d + 4) (μ := m_X12_dropNow z_puC) (r := (.inl (some (.int (A 1 (2 + l)))), z_rs h M F (z_u A 1 (c_drp (A 1) m l)))) (pc := 10) (α := Unit) (fun t _ => [some (.ref M), none, some (.int (A 1 (2 + l))), some (.int (nI (l + 1 + t)))]) (fun t _ => z_rs h M F (z_u A 1 (fun k => if 2 + l ≤ k ∧ k < 2 + l + t then A 1 (k + 1) else A 1 k))) (fun _ _ => True) (fun _ x => x) () (m - (l + 1)) trivial ?_ ?_
  · rw [show (fun k => if 2 + l ≤ k ∧ k < 2 + l + 0 then A 1 (k + 1) else A 1 k) = A 1 from by funext k; exact if_neg (by omega), u_self] at key
    exact key
  · intro t _ ht _
    refine ⟨trivial, fun hJ => b_X12_dropNow_10 z_puCV ?_⟩
    have fl : f_X12_lines M (z_rs h M F (z_u A 1 (fun k => if 2 + l ≤ k ∧ k < 2 + l + t then A 1 (k + 1) else A 1 k))) = nI m := by
      unfold f_X12_lines
      rw [rs_ai _ _ _ _ (by omega) (by omega), u_eq, if_neg (by omega), h1]
    have sl : s_X12_lines M (z_rs h M F (z_u A 1 (fun k => if 2 + l ≤ k ∧ k < 2 + l + t then A 1 (k + 1) else A 1 k))) := hM
    have hlt : l + 1 + t < m := by omega
    have e3 : nI (2 + (l + 1 + t)) - nI 1 = nI (2 + l + t) := by rw [q_sub (by omega)]; congr 1; omega
    have ef : z_u (fun k => if 2 + l ≤ k ∧ k < 2 + l + t then A 1 (k + 1) else A 1 k) (2 + l + t) (if 2 + l ≤ 2 + (l + 1 + t) ∧ 2 + (l + 1 + t) < 2 + l + t then A 1 (2 + (l + 1 + t) + 1) else A 1 (2 + (l + 1 + t))) = (fun k => if 2 + l ≤ k ∧ k < 2 + l + (t + 1) then A 1 (k + 1) else A 1 k) := by
      funext k
      unfold z_u
      by_cases c1 : k = 2 + l + t
      · rw [if_pos c1, if_neg (by omega), if_pos (by omega)]; congr 1; omega
      · rw [if_neg c1]
        dsimp only
        by_cases c2 : 2 + l ≤ k ∧ k < 2 + l + t
        · rw [if_pos c2, if_pos (by omega)]
        · rw [if_neg c2, if_neg (by omega)]
    rw [fl]
    simp (disch := omega) only [l0, l1, l2, l3, l4, l5, l6, l7, l8, l9, l10, l11, l12, l13, l14, l15, l16, l18, l20, l22, l24, l30, l31, l39, l40, l48, l60, l154, l255, l256, l400, l2000, l6160, l14000, lm1, q_lt, q_le, q_eq, q_mI, q_mI', q_ltmI, q_in, q_bz0, q_bz1, q_bzn0, q_bzn1, q_bzb, q_bn0, q_bn1, q_shr, q_shl, q_1s, b_one, b_two, fa_and, fa_or, nI_add, n_mul, nI_clamp, z_rcs, true_and, and_true, if_true, if_false, rs_ai, rs_oi, rs_pai, rs_poi, rs_pax, rs_kd, rs_ln, rs_or, u_eq, u_ne, sh_kd hM, (sh_now hM).1, (sh_now hM).2.1, (sh_now hM).2.2, sl, hlt, e3, u_u]
    rw [ef]
    exact hJ
  · intro _
    refine b_X12_dropNow_10 z_puCV ?_
    have fl : f_X12_lines M (z_rs h M F (z_u A 1 (fun k => if 2 + l ≤ k ∧ k < 2 + l + (m - (l + 1)) then A 1 (k + 1) else A 1 k))) = nI m := by
      unfold f_X12_lines
      rw [rs_ai _ _ _ _ (by omega) (by omega), u_eq, if_neg (by omega), h1]
    have sl : s_X12_lines M (z_rs h M F (z_u A 1 (fun k => if 2 + l ≤ k ∧ k < 2 + l + (m - (l + 1)) then A 1 (k + 1) else A 1 k))) := hM
    have hge : l + 1 + (m - (l + 1)) = m := by omega
    have e1' : (if 2 + l ≤ 1 ∧ 1 < 2 + l + (m - (l + 1)) then A 1 (1 + 1) else A 1 1) = nI m := by rw [if_neg (by omega), h1]
    rw [fl, hge]
    simp (disch := omega) only [l0, l1, l2, l3, l4, l5, l6, l7, l8, l9, l10, l11, l12, l13, l14, l15, l16, l18, l20, l22, l24, l30, l31, l39, l40, l48, l60, l154, l255, l256, l400, l2000, l6160, l14000, lm1, q_lt, q_le, q_eq, q_mI, q_mI', q_ltmI, q_in, q_bz0, q_bz1, q_bzn0, q_bzn1, q_bzb, q_bn0, q_bn1, q_shr, q_shl, q_1s, b_one, b_two, fa_and, fa_or, nI_add, n_mul, nI_clamp, z_rcs, true_and, and_true, if_true, if_false, rs_ai, rs_oi, rs_pai, rs_poi, rs_pax, rs_kd, rs_ln, rs_or, u_eq, u_ne, Nat.lt_irrefl, sh_kd hM, (sh_now hM).1, (sh_now hM).2.1, (sh_now hM).2.2, sl, u_u, e1', q_sub]
    have ef : z_u (z_u (fun k => if 2 + l ≤ k ∧ k < 2 + l + (m - (l + 1)) then A 1 (k + 1) else A 1 k) 1 (nI (m - 1))) (2 + (m - 1)) (nI 0) = c_drp (A 1) m l := by
      funext k
      unfold z_u c_drp
      by_cases c1 : k = 2 + (m - 1)
      · rw [if_pos c1, if_pos c1]
      · rw [if_neg c1, if_neg c1]
        by_cases c2 : k = 1
        · rw [if_pos c2, if_pos c2]
        · rw [if_neg c2, if_neg c2]
          dsimp only
          by_cases c3 : 2 + l ≤ k ∧ k < 2 + (m - 1)
          · rw [if_pos c3, if_pos (by omega)]
          · rw [if_neg c3, if_neg (by omega)]
    rw [ef]
theorem e_keep (hM : z_sh M h) {a : Nat} (ha : a ≤ 40) (h25 : F 25 = nI a) : z_Ev G (d + 4) k_X12_keep [.ref M] (z_rs h M F A) (.inl none, z_rs h M (z_u F 25 (nI (c_ka a))) (z_u A 13 (c_kp (A 13) (A 1) a))) := by
  have lay : ∀ (F0 : Nat → Int32) (P : Nat → Int32) (b : Nat), b < 40 → F0 25 = nI b → ∀ r, r = ((.inl none, z_rs h M (z_u F0 25 (nI (b + 1))) (z_u A 13 (c_ovl P (154 * b) 154 (A 1)))) : z_Res) → z_J G (d + 4) (m_X12_keep z_puC) r 56 [some (.ref M), some (.int (nI 0))] [] (z_rs h M F0 (z_u A 13 P)) := by
    intro F0 P b hb hF r hr
    have key := z_forI (G := G) (d := d + 4) (μ := m_X12_keep z_puC) (r := r) (pc := 56) (α := Unit) (fun t _ => [some (.ref M), some (.int (nI t))]) (fun t _ => z_rs h M F0 (z_u A 13 (c_ovl P (154 * b) t (A 1)))) (fun _ _ => True) (fun _ x => x) () 154 trivial ?_ ?_
    · rw [ovl_0] at key
      exact key
    · intro t _ ht _
      refine ⟨trivial, fun hJ => b_X12_keep_56 z_puCV ?_⟩
      have hx : 154 * b + t < 6160 := by omega
      simp (disch := omega) only [l0, l1, l2, l3, l4, l5, l6, l7, l8, l9, l10, l11, l12, l13, l14, l15, l16, l18, l20, l22, l24, l30, l31, l39, l40, l48, l60, l154, l255, l256, l400, l2000, l6160, l14000, lm1, q_lt, q_le, q_eq, q_mI, q_mI', q_ltmI, q_in, q_bz0, q_bz1, q_bzn0, q_bzn1, q_bzb, q_bn0, q_bn1, q_shr, q_shl, q_1s, b_one, b_two, fa_and, fa_or, nI_add, n_mul, nI_clamp, z_rcs, true_and, and_true, if_true, if_false, rs_ai, rs_oi, rs_pai, rs_poi, rs_pax, rs_kd, rs_ln, rs_or, u_eq, u_ne, ht, sh_kd hM, (sh_now hM).1, (sh_now hM).2.1, (sh_now hM).2.2, (sh_past hM).1, (sh_past hM).2.1, (sh_past hM).2.2, hF, u_u]
      rw [ovl_s]
      exact hJ
    · intro _
      refine b_X12_keep_56 z_puCV ?_
      simp (disch := omega) only [l0, l1, l2, l3, l4, l5, l6, l7, l8, l9, l10, l11, l12, l13, l14, l15, l16, l18, l20, l22, l24, l30, l31, l39, l40, l48, l60, l154, l255, l256, l400, l2000, l6160, l14000, lm1, q_lt, q_le, q_eq, q_mI, q_mI', q_ltmI, q_in, q_bz0, q_bz1, q_bzn0, q_bzn1, q_bzb, q_bn0, q_bn1, q_shr, q_shl, q_1s, b_one, b_two, fa_and, fa_or, nI_add, n_mul, nI_clamp, z_rcs, true_and, and_true, if_true, if_false, rs_ai, rs_oi, rs_pai, rs_poi, rs_pax, rs_kd, rs_ln, rs_or, u_eq, u_ne, Nat.lt_irrefl, sh_kd hM, hF]
      exact hr
  refine en_X12_keep (b_X12_keep_0 z_puCV ⟨sh_kd hM, ?_⟩)
  rw [rs_oi, h25]
  unfold c_ka c_kp
  by_cases h40 : a = 40
  · rw [if_pos h40, if_pos h40, if_pos (by rw [h40])]
    have key := z_forI (G := G) (d := d + 4) (μ := m_X12_keep z_puC) (r := (.inl none, z_rs h M (z_u F 25 (nI 40)) (z_u A 13 (c_ovl (c_shf (A 13) 6006) (154 * 39) 154 (A 1))))) (pc := 13) (α := Unit) (fun t _ => [some (.ref M), some (.int (nI (154 + t)))]) (fun t _ => z_rs h M F (z_u A 13 (c_shf (A 13) t))) (fun _ _ => True) (fun _ x => x) () 6006 trivial ?_ ?_
    · rw [show c_shf (A 13) 0 = A 13 from by funext k; exact if_neg (by omega), u_self] at key
      exact key
    · intro t _ ht _
      refine ⟨trivial, fun hJ => b_X12_keep_13 z_puCV ?_⟩
      have hx : 154 + t < 6160 := by omega
      have e3 : nI (154 + t) - nI 154 = nI t := by rw [q_sub (by omega), Nat.add_sub_cancel_left]
      have e4 : Int32.ofNat 6160 = nI 6160 := rfl
      simp (disch := omega) only [l0, l1, l2, l3, l4, l5, l6, l7, l8, l9, l10, l11, l12, l13, l14, l15, l16, l18, l20, l22, l24, l30, l31, l39, l40, l48, l60, l154, l255, l256, l400, l2000, l6160, l14000, lm1, q_lt, q_le, q_eq, q_mI, q_mI', q_ltmI, q_in, q_bz0, q_bz1, q_bzn0, q_bzn1, q_bzb, q_bn0, q_bn1, q_shr, q_shl, q_1s, b_one, b_two, fa_and, fa_or, nI_add, n_mul, nI_clamp, z_rcs, true_and, and_true, if_true, if_false, rs_ai, rs_oi, rs_pai, rs_poi, rs_pax, rs_kd, rs_ln, rs_or, u_eq, u_ne, sh_kd hM, (sh_past hM).1, (sh_past hM).2.1, (sh_past hM).2.2, e4, hx, e3, u_u]
      rw [shf_s]
      exact ⟨by decide, hJ⟩
    · intro _
      refine b_X12_keep_13 z_puCV ?_
      have e4 : Int32.ofNat 6160 = nI 6160 := rfl
      have e5 : nI 40 - nI 1 = nI 39 := by decide
      simp (disch := omega) only [l0, l1, l2, l3, l4, l5, l6, l7, l8, l9, l10, l11, l12, l13, l14, l15, l16, l18, l20, l22, l24, l30, l31, l39, l40, l48, l60, l154, l255, l256, l400, l2000, l6160, l14000, lm1, q_lt, q_le, q_eq, q_mI, q_mI', q_ltmI, q_in, q_bz0, q_bz1, q_bzn0, q_bzn1, q_bzb, q_bn0, q_bn1, q_shr, q_shl, q_1s, b_one, b_two, fa_and, fa_or, nI_add, n_mul, nI_clamp, z_rcs, true_and, and_true, if_true, if_false, rs_ai, rs_oi, rs_pai, rs_poi, rs_pax, rs_kd, rs_ln, rs_or, u_eq, u_ne, sh_kd hM, (sh_past hM).1, (sh_past hM).2.1, (sh_past hM).2.2, e4, Nat.lt_irrefl, h25, h40, e5]
      refine ⟨by decide, lay (z_u F 25 (nI 39)) (c_shf (A 13) 6006) 39 (by omega) (u_eq _ _ _) _ ?_⟩
      rw [u_u]
  · rw [if_neg h40, if_neg h40, if_neg (fun e => h40 ((nI_eq (by omega) (by omega)).mp e))]
    have h2 := lay F (A 13) a (by omega) h25 _ rfl
    rw [u_self] at h2
    exact h2
end CS
