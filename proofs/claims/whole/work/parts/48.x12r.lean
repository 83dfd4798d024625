theorem en_X12_putSorted {pu : Nat → Option ((List Value → z_H → Prop) × (List Value → z_H → Int32))} {G : z_G} {d : Nat} {r : z_Res} {h : z_H} {x0 : Nat} {x1 : Int32} {x2 : Int32} (hJ : z_J G d (m_X12_putSorted pu) r 0 [some (.ref x0), some (.int x1), some (.int x2), none] [] h) : z_Ev G d k_X12_putSorted [.ref x0, .int x1, .int x2] h r := z_enter (μ := m_X12_putSorted pu) rfl (by decide) rfl rfl (fun q => by cases q) (Nat.le_of_ble_eq_true rfl) hJ
def hd_X12_putSorted : Nat → Option (List Bool) := (fun k => (cond (Nat.blt k 46) (cond (Nat.beq k 2) (some [true, false, true, true]) none) none))
set_option maxRecDepth 20000 in
theorem b_X12_putSorted_0 {G : z_G} {d : Nat} {r : z_Res} (hPu : z_PuV G d (t_X12 z_puC)) {h : z_H} {x0 : Nat} {x1 : Int32} {x2 : Int32} (hT : (z_J G (d + 1) (m_X12_putSorted z_puC) r) 2 [some (.ref x0), none, some (.int x2), some (.int x1)] [] h) : (z_J G (d + 1) (m_X12_putSorted z_puC) r) 0 [some (.ref x0), some (.int x1), some (.int x2), none] [] h := z_bq (v_X12 z_puC (vP_X12_putSorted z_puC) hPu) hd_X12_putSorted 5 hT
set_option maxRecDepth 20000 in
theorem b_X12_putSorted_2 {G : z_G} {d : Nat} {r : z_Res} (hPu : z_PuV G d (t_X12 z_puC)) {h : z_H} {x0 : Nat} {x2 : Int32} {x3 : Int32} (hT : (if (nI 0) < x3 then (z_kd h x0 = 28 ∧ (z_rc (z_or h x0 21) False (fun x_1 => (z_kd h x_1 = 1 ∧ vp_in (x3 - (nI 1)) (z_ln h x_1) ∧ (if x2 < (z_ai h x_1 (Int32.toNatClampNeg (x3 - (nI 1)))) then (z_kd h x0 = 28 ∧ (z_rc (z_or h x0 21) (z_kd h x0 = 28 ∧ (z_rc (z_or h x0 21) False (fun x_3 => (z_kd h x_3 = 1 ∧ vp_in (x3 - (nI 1)) (z_ln h x_3) ∧ False)))) (fun x_2 => (z_kd h x0 = 28 ∧ (z_rc (z_or h x0 21) False (fun x_4 => (z_kd h x_4 = 1 ∧ vp_in (x3 - (nI 1)) (z_ln h x_4) ∧ (z_kd h x_2 = 1 ∧ vp_in x3 (z_ln h x_2) ∧ (z_J G (d + 1) (m_X12_putSorted z_puC) r) 2 [some (.ref x0), none, some (.int x2), some (.int (x3 + mI))] [] (z_pai h x_2 (Int32.toNatClampNeg x3) (z_ai h x_4 (Int32.toNatClampNeg (x3 - (nI 1))))))))))))) else (z_kd h x0 = 28 ∧ (z_rc (z_or h x0 21) False (fun x_5 => (z_kd h x_5 = 1 ∧ vp_in x3 (z_ln h x_5) ∧ r = (.inl none, z_pai h x_5 (Int32.toNatClampNeg x3) x2)))))))))) else (z_kd h x0 = 28 ∧ (z_rc (z_or h x0 21) False (fun x_6 => (z_kd h x_6 = 1 ∧ vp_in x3 (z_ln h x_6) ∧ r = (.inl none, z_pai h x_6 (Int32.toNatClampNeg x3) x2))))))) : (z_J G (d + 1) (m_X12_putSorted z_puC) r) 2 [some (.ref x0), none, some (.int x2), some (.int x3)] [] h := z_bq (v_X12 z_puC (vP_X12_putSorted z_puC) hPu) hd_X12_putSorted 25 hT
theorem en_X12_tellLeast {pu : Nat → Option ((List Value → z_H → Prop) × (List Value → z_H → Int32))} {G : z_G} {d : Nat} {r : z_Res} {h : z_H} {x0 : Nat} (hJ : z_J G d (m_X12_tellLeast pu) r 0 [some (.ref x0), none, none, none, none, none] [] h) : z_Ev G d k_X12_tellLeast [.ref x0] h r := z_enter (μ := m_X12_tellLeast pu) rfl (by decide) rfl rfl (fun q => by cases q) (Nat.le_of_ble_eq_true rfl) hJ
def hd_X12_tellLeast : Nat → Option (List Bool) := (fun k => (cond (Nat.blt k 127) (cond (Nat.blt k 24) (cond (Nat.beq k 17) (some [true, true, true, true, false, false]) none) (cond (Nat.blt k 81) (cond (Nat.beq k 24) (some [true, true, true, false, true, false]) none) (cond (Nat.beq k 81) (some [true, true, false, false, true, true]) none))) none))
set_option maxRecDepth 20000 in
theorem b_X12_tellLeast_0 {G : z_G} {d : Nat} {r : z_Res} (hPu : z_PuV G d (t_X12 z_puC)) {h : z_H} {x0 : Nat} (hT : (z_kd h x0 = 28 ∧ s_X12_lines x0 h ∧ (z_kd h x0 = 28 ∧ s_X12_points x0 h ∧ (z_kd h x0 = 28 ∧ ∃ h_1, z_Ev G d k_X12_beginNaming [.ref x0, .int (f_X12_points x0 h)] h (.inl none, h_1) ∧ (z_J G (d + 1) (m_X12_tellLeast z_puC) r) 17 [some (.ref x0), some (.int (f_X12_lines x0 h)), some (.int (nI 1)), some (.int (nI 1)), none, none] [] h_1)))) : (z_J G (d + 1) (m_X12_tellLeast z_puC) r) 0 [some (.ref x0), none, none, none, none, none] [] h := z_bq (v_X12 z_puC (vP_X12_tellLeast z_puC) hPu) hd_X12_tellLeast 14 hT
set_option maxRecDepth 20000 in
theorem b_X12_tellLeast_17 {G : z_G} {d : Nat} {r : z_Res} (hPu : z_PuV G d (t_X12 z_puC)) {h : z_H} {x0 : Nat} {x1 : Int32} {x2 : Int32} {x3 : Int32} (hT : (if x3 = (nI 0) then r = (.inl none, h) else (z_J G (d + 1) (m_X12_tellLeast z_puC) r) 24 [some (.ref x0), some (.int x1), some (.int x2), none, some (.int (nI 0)), none] [] h)) : (z_J G (d + 1) (m_X12_tellLeast z_puC) r) 17 [some (.ref x0), some (.int x1), some (.int x2), some (.int x3), none, none] [] h := z_bq (v_X12 z_puC (vP_X12_tellLeast z_puC) hPu) hd_X12_tellLeast 7 hT
set_option maxRecDepth 20000 in
theorem b_X12_tellLeast_24 {G : z_G} {d : Nat} {r : z_Res} (hPu : z_PuV G d (t_X12 z_puC)) {h : z_H} {x0 : Nat} {x1 : Int32} {x2 : Int32} {x4 : Int32} (hT : (if x4 < x1 then (z_kd h x0 = 28 ∧ s_X12_lineAt x0 x4 h ∧ (z_kd h x0 = 28 ∧ s_X12_named x0 (f_X12_lineAt x0 x4 h) h ∧ (z_kd h x0 = 28 ∧ ∃ h_1, z_Ev G d k_X12_putSorted [.ref x0, .int x4, .int (f_X12_named x0 (f_X12_lineAt x0 x4 h) h)] h (.inl none, h_1) ∧ (z_J G (d + 1) (m_X12_tellLeast z_puC) r) 24 [some (.ref x0), some (.int x1), some (.int x2), none, some (.int (x4 + (nI 1))), none] [] h_1))) else (if x2 = (nI 0) then (z_kd h x0 = 28 ∧ (z_rc (z_or h x0 21) (z_kd h x0 = 28 ∧ (z_rc (z_or h x0 22) (∃ x_5 h_4, z_Ev G d k_X12_compare [.null, .null, .int x1] h (.inl (some (.int x_5)), h_4) ∧ (if x_5 < (nI 0) then (z_J G (d + 1) (m_X12_tellLeast z_puC) r) 81 [some (.ref x0), some (.int x1), none, none, some (.int (nI 1)), some (.int (nI 0))] [] h_4 else (z_J G (d + 1) (m_X12_tellLeast z_puC) r) 81 [some (.ref x0), some (.int x1), none, none, some (.int (nI 0)), some (.int (nI 0))] [] h_4)) (fun x_3 => (∃ x_7 h_6, z_Ev G d k_X12_compare [.null, .ref x_3, .int x1] h (.inl (some (.int x_7)), h_6) ∧ (if x_7 < (nI 0) then (z_J G (d + 1) (m_X12_tellLeast z_puC) r) 81 [some (.ref x0), some (.int x1), none, none, some (.int (nI 1)), some (.int (nI 0))] [] h_6 else (z_J G (d + 1) (m_X12_tellLeast z_puC) r) 81 [some (.ref x0), some (.int x1), none, none, some (.int (nI 0)), some (.int (nI 0))] [] h_6))))) (fun x_2 => (z_kd h x0 = 28 ∧ (z_rc (z_or h x0 22) (∃ x_10 h_9, z_Ev G d k_X12_compare [.ref x_2, .null, .int x1] h (.inl (some (.int x_10)), h_9) ∧ (if x_10 < (nI 0) then (z_J G (d + 1) (m_X12_tellLeast z_puC) r) 81 [some (.ref x0), some (.int x1), none, none, some (.int (nI 1)), some (.int (nI 0))] [] h_9 else (z_J G (d + 1) (m_X12_tellLeast z_puC) r) 81 [some (.ref x0), some (.int x1), none, none, some (.int (nI 0)), some (.int (nI 0))] [] h_9)) (fun x_8 => (∃ x_12 h_11, z_Ev G d k_X12_compare [.ref x_2, .ref x_8, .int x1] h (.inl (some (.int x_12)), h_11) ∧ (if x_12 < (nI 0) then (z_J G (d + 1) (m_X12_tellLeast z_puC) r) 81 [some (.ref x0), some (.int x1), none, none, some (.int (nI 1)), some (.int (nI 0))] [] h_11 else (z_J G (d + 1) (m_X12_tellLeast z_puC) r) 81 [some (.ref x0), some (.int x1), none, none, some (.int (nI 0)), some (.int (nI 0))] [] h_11)))))))) else (z_J G (d + 1) (m_X12_tellLeast z_puC) r) 81 [some (.ref x0), some (.int x1), none, none, some (.int (nI 1)), some (.int (nI 0))] [] h))) : (z_J G (d + 1) (m_X12_tellLeast z_puC) r) 24 [some (.ref x0), some (.int x1), some (.int x2), none, some (.int x4), none] [] h := z_bq (v_X12 z_puC (vP_X12_tellLeast z_puC) hPu) hd_X12_tellLeast 20 hT
set_option maxRecDepth 20000 in
theorem b_X12_tellLeast_81 {G : z_G} {d : Nat} {r : z_Res} (hPu : z_PuV G d (t_X12 z_puC)) {h : z_H} {x0 : Nat} {x1 : Int32} {x4 : Int32} {x5 : Int32} (hT : (if x5 < x1 then (if x4 = (nI 0) then (z_kd h x0 = 28 ∧ s_X12_points x0 h ∧ (z_kd h x0 = 28 ∧ ∃ x_2 h_1, z_Ev G d k_X12_nextNaming [.ref x0, .int (f_X12_points x0 h)] h (.inl (some (.int x_2)), h_1) ∧ (z_J G (d + 1) (m_X12_tellLeast z_puC) r) 17 [some (.ref x0), some (.int x1), some (.int (nI 0)), some (.int x_2), none, none] [] h_1)) else (z_kd h x0 = 28 ∧ (z_rc (z_or h x0 22) (z_kd h x0 = 28 ∧ (z_rc (z_or h x0 21) False (fun x_4 => (z_kd h x_4 = 1 ∧ vp_in x5 (z_ln h x_4) ∧ False)))) (fun x_3 => (z_kd h x0 = 28 ∧ (z_rc (z_or h x0 21) False (fun x_5 => (z_kd h x_5 = 1 ∧ vp_in x5 (z_ln h x_5) ∧ (z_kd h x_3 = 1 ∧ vp_in x5 (z_ln h x_3) ∧ (z_J G (d + 1) (m_X12_tellLeast z_puC) r) 81 [some (.ref x0), some (.int x1), none, none, some (.int x4), some (.int (x5 + (nI 1)))] [] (z_pai h x_3 (Int32.toNatClampNeg x5) (z_ai h x_5 (Int32.toNatClampNeg x5)))))))))))) else (z_kd h x0 = 28 ∧ s_X12_points x0 h ∧ (z_kd h x0 = 28 ∧ ∃ x_7 h_6, z_Ev G d k_X12_nextNaming [.ref x0, .int (f_X12_points x0 h)] h (.inl (some (.int x_7)), h_6) ∧ (z_J G (d + 1) (m_X12_tellLeast z_puC) r) 17 [some (.ref x0), some (.int x1), some (.int (nI 0)), some (.int x_7), none, none] [] h_6)))) : (z_J G (d + 1) (m_X12_tellLeast z_puC) r) 81 [some (.ref x0), some (.int x1), none, none, some (.int x4), some (.int x5)] [] h := z_bq (v_X12 z_puC (vP_X12_tellLeast z_puC) hPu) hd_X12_tellLeast 18 hT
theorem en_X12_normal {pu : Nat → Option ((List Value → z_H → Prop) × (List Value → z_H → Int32))} {G : z_G} {d : Nat} {r : z_Res} {h : z_H} {x0 : Nat} {x1 : Int32} (hJ : z_J G d (m_X12_normal pu) r 0 [some (.ref x0), some (.int x1)] [] h) : z_Ev G d k_X12_normal [.ref x0, .int x1] h r := z_enter (μ := m_X12_normal pu) rfl (by decide) rfl rfl (fun q => by cases q) (Nat.le_of_ble_eq_true rfl) hJ
def hd_X12_normal : Nat → Option (List Bool) := (fun k => none)
set_option maxRecDepth 20000 in
theorem b_X12_normal_0 {G : z_G} {d : Nat} {r : z_Res} (hPu : z_PuV G d (t_X12 z_puC)) {h : z_H} {x0 : Nat} {x1 : Int32} (hT : (z_kd h x0 = 28 ∧ (z_kd (z_poi h x0 0 (nI 0)) x0 = 28 ∧ s_X12_isLine x0 x1 (z_poi h x0 0 (nI 0)) ∧ (if (f_X12_isLine x0 x1 (z_poi h x0 0 (nI 0))) = (nI 0) then (z_kd (z_poi h x0 0 (nI 0)) x0 = 28 ∧ ∃ x_2 h_1, z_Ev G d k_X12_fail [.ref x0, .int (nI 1)] (z_poi h x0 0 (nI 0)) (.inl (some (.int x_2)), h_1) ∧ r = (.inl (some (.int x_2)), h_1)) else (z_kd (z_poi h x0 0 (nI 0)) x0 = 28 ∧ ∃ h_3, z_Ev G d k_X12_tellLeast [.ref x0] (z_poi h x0 0 (nI 0)) (.inl none, h_3) ∧ (z_kd h_3 x0 = 28 ∧ (z_rc (z_or h_3 x0 22) False (fun x_4 => (z_kd h_3 x_4 = 1 ∧ vp_in x1 (z_ln h_3 x_4) ∧ r = (.inl (some (.int (z_ai h_3 x_4 (Int32.toNatClampNeg x1)))), h_3)))))))))) : (z_J G (d + 1) (m_X12_normal z_puC) r) 0 [some (.ref x0), some (.int x1)] [] h := z_bq (v_X12 z_puC (vP_X12_normal z_puC) hPu) hd_X12_normal 16 hT
theorem en_X12_tellWays {pu : Nat → Option ((List Value → z_H → Prop) × (List Value → z_H → Int32))} {G : z_G} {d : Nat} {r : z_Res} {h : z_H} {x0 : Nat} {x1 : Int32} {x2 : Int32} {x3 : Int32} (hJ : z_J G d (m_X12_tellWays pu) r 0 [some (.ref x0), some (.int x1), some (.int x2), some (.int x3), none] [] h) : z_Ev G d k_X12_tellWays [.ref x0, .int x1, .int x2, .int x3] h r := z_enter (μ := m_X12_tellWays pu) rfl (by decide) rfl rfl (fun q => by cases q) (Nat.le_of_ble_eq_true rfl) hJ
def hd_X12_tellWays : Nat → Option (List Bool) := (fun k => (cond (Nat.blt k 120) (cond (Nat.blt k 69) (cond (Nat.beq k 22) (some [true, false, true, false, true]) none) (cond (Nat.beq k 69) (some [true, true, true, true, true]) none)) none))
set_option maxRecDepth 20000 in
theorem b_X12_tellWays_0 {G : z_G} {d : Nat} {r : z_Res} (hPu : z_PuV G d (t_X12 z_puC)) {h : z_H} {x0 : Nat} {x1 : Int32} {x2 : Int32} {x3 : Int32} (hT : (z_kd h x0 = 28 ∧ s_X12_onShelf x0 x1 (nI 0) h ∧ (if x2 = (f_X12_onShelf x0 x1 (nI 0) h) then (z_kd h x0 = 28 ∧ ∃ x_2 h_1, z_Ev G d k_X12_lies [.ref x0, .int x1] h (.inl (some (.int x_2)), h_1) ∧ (if x_2 = (nI 0) then r = (.inl none, h_1) else (z_J G (d + 1) (m_X12_tellWays z_puC) r) 22 [some (.ref x0), none, some (.int x2), none, some (.int (nI 0))] [] h_1)) else (z_J G (d + 1) (m_X12_tellWays z_puC) r) 69 [some (.ref x0), some (.int x1), some (.int x2), some (.int x3), some (.int (nI 0))] [] h))) : (z_J G (d + 1) (m_X12_tellWays z_puC) r) 0 [some (.ref x0), some (.int x1), some (.int x2), some (.int x3), none] [] h := z_bq (v_X12 z_puC (vP_X12_tellWays z_puC) hPu) hd_X12_tellWays 15 hT
set_option maxRecDepth 20000 in
theorem b_X12_tellWays_22 {G : z_G} {d : Nat} {r : z_Res} (hPu : z_PuV G d (t_X12 z_puC)) {h : z_H} {x0 : Nat} {x2 : Int32} {x4 : Int32} (hT : (if x4 < x2 then (z_kd h x0 = 28 ∧ (if (z_oi h x0 24) = (nI 0) then (z_kd h x0 = 28 ∧ (z_rc (z_or h x0 23) (z_kd h x0 = 28 ∧ (z_rc (z_or h x0 16) False (fun x_2 => (z_kd h x_2 = 1 ∧ vp_in x4 (z_ln h x_2) ∧ False)))) (fun x_1 => (z_kd h x0 = 28 ∧ (z_rc (z_or h x0 16) False (fun x_3 => (z_kd h x_3 = 1 ∧ vp_in x4 (z_ln h x_3) ∧ (z_kd h x_1 = 1 ∧ vp_in x4 (z_ln h x_1) ∧ (z_J G (d + 1) (m_X12_tellWays z_puC) r) 22 [some (.ref x0), none, some (.int x2), none, some (.int (x4 + (nI 1)))] [] (z_pai h x_1 (Int32.toNatClampNeg x4) (z_ai h x_3 (Int32.toNatClampNeg x4))))))))))) else (z_kd h x0 = 28 ∧ (z_kd h x0 = 28 ∧ r = (.inl none, z_poi h x0 24 ((z_oi h x0 24) + (nI 1))))))) else (z_kd h x0 = 28 ∧ (z_kd h x0 = 28 ∧ r = (.inl none, z_poi h x0 24 ((z_oi h x0 24) + (nI 1))))))) : (z_J G (d + 1) (m_X12_tellWays z_puC) r) 22 [some (.ref x0), none, some (.int x2), none, some (.int x4)] [] h := z_bq (v_X12 z_puC (vP_X12_tellWays z_puC) hPu) hd_X12_tellWays 19 hT
set_option maxRecDepth 20000 in
theorem b_X12_tellWays_69 {G : z_G} {d : Nat} {r : z_Res} (hPu : z_PuV G d (t_X12 z_puC)) {h : z_H} {x0 : Nat} {x1 : Int32} {x2 : Int32} {x3 : Int32} {x4 : Int32} (hT : (z_kd h x0 = 28 ∧ s_X12_points x0 h ∧ (if x4 < (f_X12_points x0 h) then (if ((x3 >>> (x4 &&& (nI 31))) &&& (nI 1)) = (nI 1) then (z_J G (d + 1) (m_X12_tellWays z_puC) r) 69 [some (.ref x0), some (.int x1), some (.int x2), some (.int x3), some (.int (x4 + (nI 1)))] [] h else (z_kd h x0 = 28 ∧ (z_rc (z_or h x0 16) False (fun x_1 => (z_kd h x_1 = 1 ∧ vp_in x2 (z_ln h x_1) ∧ (z_kd (z_pai h x_1 (Int32.toNatClampNeg x2) x4) x0 = 28 ∧ ∃ h_2, z_Ev G d k_X12_tellWays [.ref x0, .int x1, .int (x2 + (nI 1)), .int (x3 ||| ((nI 1) <<< (x4 &&& (nI 31))))] (z_pai h x_1 (Int32.toNatClampNeg x2) x4) (.inl none, h_2) ∧ (z_J G (d + 1) (m_X12_tellWays z_puC) r) 69 [some (.ref x0), some (.int x1), some (.int x2), some (.int x3), some (.int (x4 + (nI 1)))] [] h_2)))))) else r = (.inl none, h)))) : (z_J G (d + 1) (m_X12_tellWays z_puC) r) 69 [some (.ref x0), some (.int x1), some (.int x2), some (.int x3), some (.int x4)] [] h := z_bq (v_X12 z_puC (vP_X12_tellWays z_puC) hPu) hd_X12_tellWays 32 hT
theorem en_X12_shelf {pu : Nat → Option ((List Value → z_H → Prop) × (List Value → z_H → Int32))} {G : z_G} {d : Nat} {r : z_Res} {h : z_H} {x0 : Nat} {x1 : Int32} {x2 : Int32} (hJ : z_J G d (m_X12_shelf pu) r 0 [some (.ref x0), some (.int x1), some (.int x2)] [] h) : z_Ev G d k_X12_shelf [.ref x0, .int x1, .int x2] h r := z_enter (μ := m_X12_shelf pu) rfl (by decide) rfl rfl (fun q => by cases q) (Nat.le_of_ble_eq_true rfl) hJ
def hd_X12_shelf : Nat → Option (List Bool) := (fun k => none)
set_option maxRecDepth 20000 in
theorem b_X12_shelf_0 {G : z_G} {d : Nat} {r : z_Res} (hPu : z_PuV G d (t_X12 z_puC)) {h : z_H} {x0 : Nat} {x1 : Int32} {x2 : Int32} (hT : (z_kd h x0 = 28 ∧ (z_kd (z_poi h x0 0 (nI 0)) x0 = 28 ∧ s_X12_hasShelf x0 x1 (z_poi h x0 0 (nI 0)) ∧ (if (f_X12_hasShelf x0 x1 (z_poi h x0 0 (nI 0))) = (nI 0) then (z_kd (z_poi h x0 0 (nI 0)) x0 = 28 ∧ ∃ x_2 h_1, z_Ev G d k_X12_fail [.ref x0, .int (nI 1)] (z_poi h x0 0 (nI 0)) (.inl (some (.int x_2)), h_1) ∧ r = (.inl (some (.int x_2)), h_1)) else (s_X12_isIn x2 (nI 0) (nI 3) (z_poi h x0 0 (nI 0)) ∧ (if (f_X12_isIn x2 (nI 0) (nI 3) (z_poi h x0 0 (nI 0))) = (nI 0) then (z_kd (z_poi h x0 0 (nI 0)) x0 = 28 ∧ ∃ x_4 h_3, z_Ev G d k_X12_fail [.ref x0, .int (nI 1)] (z_poi h x0 0 (nI 0)) (.inl (some (.int x_4)), h_3) ∧ r = (.inl (some (.int x_4)), h_3)) else (if x2 = (nI 0) then (z_kd (z_poi h x0 0 (nI 0)) x0 = 28 ∧ ∃ x_6 h_5, z_Ev G d k_X12_likes [.ref x0, .int x1] (z_poi h x0 0 (nI 0)) (.inl (some (.int x_6)), h_5) ∧ r = (.inl (some (.int x_6)), h_5)) else (if (nI 1) < x2 then (if x2 = (nI 2) then (z_kd (z_poi h x0 0 (nI 0)) x0 = 28 ∧ s_X12_onShelf x0 x1 (nI 0) (z_poi h x0 0 (nI 0)) ∧ r = (.inl (some (.int (f_X12_onShelf x0 x1 (nI 0) (z_poi h x0 0 (nI 0))))), z_poi h x0 0 (nI 0))) else (z_kd (z_poi h x0 0 (nI 0)) x0 = 28 ∧ s_X12_onShelf x0 x1 (nI 1) (z_poi h x0 0 (nI 0)) ∧ r = (.inl (some (.int (f_X12_onShelf x0 x1 (nI 1) (z_poi h x0 0 (nI 0))))), z_poi h x0 0 (nI 0)))) else (z_kd (z_poi h x0 0 (nI 0)) x0 = 28 ∧ (z_kd (z_poi (z_poi h x0 0 (nI 0)) x0 24 (nI 0)) x0 = 28 ∧ ∃ h_7, z_Ev G d k_X12_tellWays [.ref x0, .int x1, .int (nI 0), .int (nI 0)] (z_poi (z_poi h x0 0 (nI 0)) x0 24 (nI 0)) (.inl none, h_7) ∧ (z_kd h_7 x0 = 28 ∧ r = (.inl (some (.int (z_oi h_7 x0 24))), h_7)))))))))))) : (z_J G (d + 1) (m_X12_shelf z_puC) r) 0 [some (.ref x0), some (.int x1), some (.int x2)] [] h := z_bq (v_X12 z_puC (vP_X12_shelf z_puC) hPu) hd_X12_shelf 30 hT
theorem en_X12_way {pu : Nat → Option ((List Value → z_H → Prop) × (List Value → z_H → Int32))} {G : z_G} {d : Nat} {r : z_Res} {h : z_H} {x0 : Nat} {x1 : Int32} {x2 : Int32} (hJ : z_J G d (m_X12_way pu) r 0 [some (.ref x0), some (.int x1), some (.int x2)] [] h) : z_Ev G d k_X12_way [.ref x0, .int x1, .int x2] h r := z_enter (μ := m_X12_way pu) rfl (by decide) rfl rfl (fun q => by cases q) (Nat.le_of_ble_eq_true rfl) hJ
def hd_X12_way : Nat → Option (List Bool) := (fun k => none)
set_option maxRecDepth 20000 in
theorem b_X12_way_0 {G : z_G} {d : Nat} {r : z_Res} (hPu : z_PuV G d (t_X12 z_puC)) {h : z_H} {x0 : Nat} {x1 : Int32} {x2 : Int32} (hT : (z_kd h x0 = 28 ∧ (z_kd (z_poi h x0 0 (nI 0)) x0 = 28 ∧ s_X12_hasShelf x0 x1 (z_poi h x0 0 (nI 0)) ∧ (if (f_X12_hasShelf x0 x1 (z_poi h x0 0 (nI 0))) = (nI 0) then (z_kd (z_poi h x0 0 (nI 0)) x0 = 28 ∧ ∃ x_2 h_1, z_Ev G d k_X12_fail [.ref x0, .int (nI 1)] (z_poi h x0 0 (nI 0)) (.inl (some (.int x_2)), h_1) ∧ r = (.inl (some (.int x_2)), h_1)) else (z_kd (z_poi h x0 0 (nI 0)) x0 = 28 ∧ s_X12_onShelf x0 x1 (nI 0) (z_poi h x0 0 (nI 0)) ∧ (s_X12_isIn x2 (nI 0) ((f_X12_onShelf x0 x1 (nI 0) (z_poi h x0 0 (nI 0))) - (nI 1)) (z_poi h x0 0 (nI 0)) ∧ (if (f_X12_isIn x2 (nI 0) ((f_X12_onShelf x0 x1 (nI 0) (z_poi h x0 0 (nI 0))) - (nI 1)) (z_poi h x0 0 (nI 0))) = (nI 0) then (z_kd (z_poi h x0 0 (nI 0)) x0 = 28 ∧ ∃ x_4 h_3, z_Ev G d k_X12_fail [.ref x0, .int (nI 1)] (z_poi h x0 0 (nI 0)) (.inl (some (.int x_4)), h_3) ∧ r = (.inl (some (.int x_4)), h_3)) else (z_kd (z_poi h x0 0 (nI 0)) x0 = 28 ∧ (z_kd (z_poi (z_poi h x0 0 (nI 0)) x0 24 (nI 0)) x0 = 28 ∧ ∃ h_5, z_Ev G d k_X12_tellWays [.ref x0, .int x1, .int (nI 0), .int (nI 0)] (z_poi (z_poi h x0 0 (nI 0)) x0 24 (nI 0)) (.inl none, h_5) ∧ (z_kd h_5 x0 = 28 ∧ (if (z_oi h_5 x0 24) = (nI 0) then r = (.inl (some (.int mI)), h_5) else (z_kd h_5 x0 = 28 ∧ (z_rc (z_or h_5 x0 23) False (fun x_6 => (z_kd h_5 x_6 = 1 ∧ vp_in x2 (z_ln h_5 x_6) ∧ r = (.inl (some (.int (z_ai h_5 x_6 (Int32.toNatClampNeg x2)))), h_5)))))))))))))))) : (z_J G (d + 1) (m_X12_way z_puC) r) 0 [some (.ref x0), some (.int x1), some (.int x2)] [] h := z_bq (v_X12 z_puC (vP_X12_way z_puC) hPu) hd_X12_way 35 hT
/-! the least row -/
def c_put (v : Int32) : Nat → (Nat → Int32) → (Nat → Int32)
  | 0, f => z_u f 0 v
  | k + 1, f => if v < f k then c_put v k (z_u f (k + 1) (f k)) else z_u f (k + 1) v
def c_row (S : Sc) (N : Nat → Nat) (f : Nat → Int32) (k : Nat) : Nat → Int32 := it (fun l f => c_put (nI (c_nm N (S.2.2 l))) l f) f k
abbrev tL : Type := Bool × (Nat → Int32) × (Nat → Int32)
def c_tlF (S : Sc) (N : Nat → Nat) (a : tL) : tL := (false, c_row S N a.2.1 S.2.1, if a.1 = true ∨ c_cmp (c_row S N a.2.1 S.2.1) a.2.2 S.2.1 < nI 0 then fa_fill (c_row S N a.2.1 S.2.1) a.2.2 S.2.1 else a.2.2)
def c_tl (S : Sc) (f g : Nat → Int32) : tL := (pms S.1).foldl (fun a N => c_tlF S N a) (true, f, g)
def c_normal (S : Sc) (f g : Nat → Int32) (i : Int32) : Int32 × Int32 := if c_in i S.2.1 then ((c_tl S f g).2.2 i.toNatClampNeg, nI 0) else (nI 0, nI 1)
section CQ
variable {G : z_G} {d : Nat} {h : z_H} {M : Nat} {S : Sc} {F : Nat → Int32} {A : Nat → Nat → Int32}
theorem e_putSorted (hM : z_sh M h) (v : Int32) : ∀ (k : Nat) (A : Nat → Nat → Int32), k < 12 → z_J G (d + 4) (m_X12_putSorted z_puC) (.inl none, z_rs h M F (z_u A 10 (c_put v k (A 10)))) 2 [some (.ref M), none, some (.int v), some (.int (nI k))] [] (z_rs h M F A) := by
  intro k
  induction k with
  | zero =>
    intro A hk
    refine b_X12_putSorted_2 z_puCV ?_
    simp (disch := omega) only [l0, l1, l2, l3, l4, l5, l6, l7, l8, l9, l10, l11, l12, l13, l14, l15, l16, l18, l20, l22, l24, l30, l31, l39, l40, l48, l60, l154, l255, l256, l400, l2000, l6160, l14000, lm1, q_lt, q_le, q_eq, q_mI, q_mI', q_ltmI, q_in, q_bz0, q_bz1, q_bzn0, q_bzn1, q_bzb, q_bn0, q_bn1, q_shr, q_shl, q_1s, b_one, b_two, fa_and, fa_or, nI_add, n_mul, nI_clamp, z_rcs, true_and, and_true, if_true, if_false, rs_ai, rs_oi, rs_pai, rs_poi, rs_pax, rs_kd, rs_ln, rs_or, u_eq, u_ne, Nat.lt_irrefl, sh_kd hM, (sh_rowNow hM).1, (sh_rowNow hM).2.1, (sh_rowNow hM).2.2]
    rfl
  | succ k ih =>
    intro A hk
    refine b_X12_putSorted_2 z_puCV ?_
    have hk0 : 0 < k + 1 := by omega
    have e1 : nI (k + 1) - nI 1 = nI k := nI_pred k
    have e2 : nI (k + 1) + mI = nI k := q_pred k
    simp (disch := omega) only [l0, l1, l2, l3, l4, l5, l6, l7, l8, l9, l10, l11, l12, l13, l14, l15, l16, l18, l20, l22, l24, l30, l31, l39, l40, l48, l60, l154, l255, l256, l400, l2000, l6160, l14000, lm1, q_lt, q_le, q_eq, q_mI, q_mI', q_ltmI, q_in, q_bz0, q_bz1, q_bzn0, q_bzn1, q_bzb, q_bn0, q_bn1, q_shr, q_shl, q_1s, b_one, b_two, fa_and, fa_or, nI_add, n_mul, nI_clamp, z_rcs, true_and, and_true, if_true, if_false, rs_ai, rs_oi, rs_pai, rs_poi, rs_pax, rs_kd, rs_ln, rs_or, u_eq, u_ne, hk0, e1, e2, sh_kd hM, (sh_rowNow hM).1, (sh_rowNow hM).2.1, (sh_rowNow hM).2.2]
    unfold c_put
    by_cases hc : v < A 10 k
    · rw [if_pos hc, if_pos hc]
      have h2 := ih (z_u A 10 (z_u (A 10) (k + 1) (A 10 k))) (by omega)
      rw [u_u, u_eq] at h2
      exact h2
    · rw [if_neg hc, if_neg hc]
theorem e_putS (hM : z_sh M h) (v : Int32) {k : Nat} (hk : k < 12) : z_Ev G (d + 4) k_X12_putSorted [.ref M, .int (nI k), .int v] (z_rs h M F A) (.inl none, z_rs h M F (z_u A 10 (c_put v k (A 10)))) :=
  en_X12_putSorted (b_X12_putSorted_0 z_puCV (e_putSorted hM v k A hk))
theorem e_cmpM (hM : z_sh M h) {k i j : Nat} (hk : k ≤ 12) (hi : 0 < i ∧ i ≤ 25) (hj : 0 < j ∧ j ≤ 25) (ki : z_kd h (M + i) = 1 ∧ k ≤ z_ln h (M + i) ∧ z_ln h (M + i) < 2 ^ 31) (kj : z_kd h (M + j) = 1 ∧ k ≤ z_ln h (M + j) ∧ z_ln h (M + j) < 2 ^ 31) : z_Ev G (d + 4) k_X12_compare [.ref (M + i), .ref (M + j), .int (nI k)] (z_rs h M F A) (.inl (some (.int (c_cmp (A i) (A j) k))), z_rs h M F A) := by
  have e := e_compare (G := G) (d := d) (h := z_rs h M F A) (p := M + i) (q := M + j) (k := k) ki.1 kj.1 ki.2.1 kj.2.1 ki.2.2 kj.2.2
  rw [rs_ai _ _ _ _ hi.1 hi.2, rs_ai _ _ _ _ hj.1 hj.2] at e
  exact e
theorem e_tellLeast (hM : z_sh M h) (hR : r_ok (A 1)) (hS : r_S (A 1) = S) (hW : ∀ l, S.2.2 l < 2 ^ S.1) (h5 : r_nm (A 5)) : ∃ A', agr [5, 10, 11] A A' ∧ A' 11 = (c_tl S (A 10) (A 11)).2.2 ∧ z_Ev G (d + 6) k_X12_tellLeast [.ref M] (z_rs h M F A) (.inl none, z_rs h M F A') := by
  have hA := at_rs (F := F) hM hR hS
  have hn := t_n8 hA
  have hm := t_m12 hA
  have e1 : ∀ f g k, z_u (z_u (z_u A 10 f) 11 g) 5 k 1 = A 1 := fun f g k => by rw [u_ne _ _ (by omega), u_ne _ _ (by omega), u_ne _ _ (by omega)]
  refine ⟨z_u (z_u (z_u A 10 (c_tl S (A 10) (A 11)).2.1) 11 (c_tl S (A 10) (A 11)).2.2) 5 (arrI S.1 (plast S.1) (A 5)), agr_5 (agr_u (agr_u (agr_rf h5) (by decide) (by decide) _) (by decide) (by decide) _) (by decide) (nm_arr (pms_lt8 hn.2 (plast_in _)) h5), by rw [u_ne _ _ (by omega), u_eq], en_X12_tellLeast (b_X12_tellLeast_0 z_puCV ?_)⟩
  rw [t_m hA, t_n hA]
  refine ⟨t_kd hA, hA.1, t_kd hA, hA.1, t_kd hA, _, e_begM (d := d + 1) hM hn.2, ?_⟩
  have key := z_nm (G := G) (d := d + 6) (μ := m_X12_tellLeast z_puC) (r := (.inl none, z_rs h M F (z_u (z_u (z_u A 10 (c_tl S (A 10) (A 11)).2.1) 11 (c_tl S (A 10) (A 11)).2.2) 5 (arrI S.1 (plast S.1) (A 5))))) (pc := 17) (n := S.1) (fun m (a : tL) => [some (.ref M), some (.int (nI S.2.1)), some (.int (nI a.1.toNat)), some (.int m), none, none]) (fun N a => z_rs h M F (z_u (z_u (z_u A 10 a.2.1) 11 a.2.2) 5 (arrI S.1 N (A 5)))) (fun _ => True) (c_tlF S) (true, A 10, A 11) trivial ?_ ?_
  · dsimp only at key
    rw [u_self, u_self] at key
    exact key
  · intro N a hN _
    have hN8 := pms_lt8 hn.2 hN
    refine ⟨trivial, fun N' m hx hJ => b_X12_tellLeast_17 z_puCV ?_⟩
    rw [if_neg (show ¬ nI 1 = nI 0 by decide)]
    refine z_forI (α := Unit) (fun l _ => [some (.ref M), some (.int (nI S.2.1)), some (.int (nI a.1.toNat)), none, some (.int (nI l)), none]) (fun l _ => z_rs h M F (z_u (z_u (z_u A 10 (c_row S N a.2.1 l)) 11 a.2.2) 5 (arrI S.1 N (A 5)))) (fun _ _ => True) (fun _ x => x) () S.2.1 trivial ?_ ?_
    · intro l _ hl _
      refine ⟨trivial, fun hJ2 => b_X12_tellLeast_24 z_puCV ?_⟩
      have hA2 := at_rs (F := F) (A := z_u (z_u (z_u A 10 (c_row S N a.2.1 l)) 11 a.2.2) 5 (arrI S.1 N (A 5))) (S := S) hM (by rw [e1]; exact hR) (by rw [e1]; exact hS)
      have hL := t_L256 hA2 l
      have hnr : r_nm (z_ai (z_rs h M F (z_u (z_u (z_u A 10 (c_row S N a.2.1 l)) 11 a.2.2) 5 (arrI S.1 N (A 5)))) (M + 5)) := by
        rw [rs_ai _ _ _ _ (by omega) (by omega), u_eq]; exact nm_arr hN8 h5
      have enm : f_X12_named M (nI (S.2.2 l)) (z_rs h M F (z_u (z_u (z_u A 10 (c_row S N a.2.1 l)) 11 a.2.2) 5 (arrI S.1 N (A 5)))) = nI (c_nm N (S.2.2 l)) := by
        rw [t_nm hL, rs_ai _ _ _ _ (by omega) (by omega), u_eq, rN_nm hN8 (hW l)]
      rw [if_pos (nI_lt hl (by omega)), t_Ln hA2 hl, enm, nI_add]
      have ep := e_putS (G := G) (d := d + 1) (F := F) (A := z_u (z_u (z_u A 10 (c_row S N a.2.1 l)) 11 a.2.2) 5 (arrI S.1 N (A 5))) hM (nI (c_nm N (S.2.2 l))) (show l < 12 by omega)
      rw [u_ne _ (a := 5) _ (show 10 ≠ 5 by decide), u_ne _ (a := 11) _ (show 10 ≠ 11 by decide), u_eq, u_comm _ (a := 5) (b := 10) _ _ (by decide), u_comm _ (a := 11) (b := 10) _ _ (by decide), u_u] at ep
      exact ⟨t_kd hA2, t_sL hA2 (by omega), t_kd hA2, t_snm hA2 hnr hL, t_kd hA2, _, ep, hJ2⟩
    · intro _
      have hA2 := at_rs (F := F) (A := z_u (z_u (z_u A 10 (c_row S N a.2.1 S.2.1)) 11 a.2.2) 5 (arrI S.1 N (A 5))) (S := S) hM (by rw [e1]; exact hR) (by rw [e1]; exact hS)
      have en : ∀ g, z_Ev G (d + 5) k_X12_nextNaming [.ref M, .int (nI S.1)] (z_rs h M F (z_u (z_u (z_u A 10 (c_row S N a.2.1 S.2.1)) 11 g) 5 (arrI S.1 N (A 5)))) (.inl (some (.int m)), z_rs h M F (z_u (z_u (z_u A 10 (c_row S N a.2.1 S.2.1)) 11 g) 5 (arrI S.1 N' (A 5)))) := fun g => e_nextM hM hn.1 hn.2 hN8 hx
      have hA4 : ∀ g, z_at M (z_rs h M F (z_u (z_u (z_u A 10 (c_row S N a.2.1 S.2.1)) 11 g) 5 (arrI S.1 N (A 5)))) S := fun g => at_rs (F := F) hM (by rw [e1]; exact hR) (by rw [e1]; exact hS)
      have yes : (a.1 = true ∨ c_cmp (c_row S N a.2.1 S.2.1) a.2.2 S.2.1 < nI 0) → z_J G (d + 6) (m_X12_tellLeast z_puC) (.inl none, z_rs h M F (z_u (z_u (z_u A 10 (c_tl S (A 10) (A 11)).2.1) 11 (c_tl S (A 10) (A 11)).2.2) 5 (arrI S.1 (plast S.1) (A 5)))) 81 [some (.ref M), some (.int (nI S.2.1)), none, none, some (.int (nI 1)), some (.int (nI 0))] [] (z_rs h M F (z_u (z_u (z_u A 10 (c_row S N a.2.1 S.2.1)) 11 a.2.2) 5 (arrI S.1 N (A 5)))) := by
        intro hq
        unfold c_tlF at hJ
        rw [if_pos hq] at hJ
        have key2 := z_forI (G := G) (d := d + 6) (μ := m_X12_tellLeast z_puC) (r := (.inl none, z_rs h M F (z_u (z_u (z_u A 10 (c_tl S (A 10) (A 11)).2.1) 11 (c_tl S (A 10) (A 11)).2.2) 5 (arrI S.1 (plast S.1) (A 5))))) (pc := 81) (α := Unit) (fun l _ => [some (.ref M), some (.int (nI S.2.1)), none, none, some (.int (nI 1)), some (.int (nI l))]) (fun l _ => z_rs h M F (z_u (z_u (z_u A 10 (c_row S N a.2.1 S.2.1)) 11 (fa_fill (c_row S N a.2.1 S.2.1) a.2.2 l)) 5 (arrI S.1 N (A 5)))) (fun _ _ => True) (fun _ x => x) () S.2.1 trivial ?_ ?_
        · rw [fa_fill_0] at key2
          exact key2
        · intro l _ hl _
          refine ⟨trivial, fun hJ3 => b_X12_tellLeast_81 z_puCV ?_⟩
          have h10 : nI 1 = nI 0 ↔ False := by decide
          simp (disch := omega) only [l0, l1, l2, l3, l4, l5, l6, l7, l8, l9, l10, l11, l12, l13, l14, l15, l16, l18, l20, l22, l24, l30, l31, l39, l40, l48, l60, l154, l255, l256, l400, l2000, l6160, l14000, lm1, q_lt, q_le, q_eq, q_mI, q_mI', q_ltmI, q_in, q_bz0, q_bz1, q_bzn0, q_bzn1, q_bzb, q_bn0, q_bn1, q_shr, q_shl, q_1s, b_one, b_two, fa_and, fa_or, nI_add, n_mul, nI_clamp, z_rcs, true_and, and_true, if_true, if_false, rs_ai, rs_oi, rs_pai, rs_poi, rs_pax, rs_kd, rs_ln, rs_or, u_eq, u_ne, hl, h10, sh_kd hM, (sh_rowNow hM).1, (sh_rowNow hM).2.1, (sh_rowNow hM).2.2, (sh_least hM).1, (sh_least hM).2.1, (sh_least hM).2.2]
          rw [u_mid _ _ _ _ (by decide), h_fill_u]
          exact hJ3
        · intro _
          refine b_X12_tellLeast_81 z_puCV ?_
          rw [if_neg (show ¬ nI S.2.1 < nI S.2.1 from nI_nlt (Nat.le_refl _) (by omega)), t_n (hA4 _)]
          exact ⟨t_kd (hA4 _), (hA4 (fa_fill (c_row S N a.2.1 S.2.1) a.2.2 S.2.1)).1, t_kd (hA4 _), _, _, en _, hJ⟩
      have no : ¬ (a.1 = true ∨ c_cmp (c_row S N a.2.1 S.2.1) a.2.2 S.2.1 < nI 0) → z_J G (d + 6) (m_X12_tellLeast z_puC) (.inl none, z_rs h M F (z_u (z_u (z_u A 10 (c_tl S (A 10) (A 11)).2.1) 11 (c_tl S (A 10) (A 11)).2.2) 5 (arrI S.1 (plast S.1) (A 5)))) 81 [some (.ref M), some (.int (nI S.2.1)), none, none, some (.int (nI 0)), some (.int (nI 0))] [] (z_rs h M F (z_u (z_u (z_u A 10 (c_row S N a.2.1 S.2.1)) 11 a.2.2) 5 (arrI S.1 N (A 5)))) := by
        intro hq
        unfold c_tlF at hJ
        rw [if_neg hq] at hJ
        refine b_X12_tellLeast_81 z_puCV ?_
        rw [if_pos (show nI 0 = nI 0 from rfl), t_n (hA4 _)]
        split
        · exact ⟨t_kd (hA4 _), (hA4 a.2.2).1, t_kd (hA4 _), _, _, en _, hJ⟩
        · exact ⟨t_kd (hA4 _), (hA4 a.2.2).1, t_kd (hA4 _), _, _, en _, hJ⟩
      refine b_X12_tellLeast_24 z_puCV ?_
      rw [if_neg (show ¬ nI S.2.1 < nI S.2.1 from nI_nlt (Nat.le_refl _) (by omega))]
      cases ha : a.1
      · rw [if_pos (show nI false.toNat = nI 0 from rfl), (sh_rowNow hA2.1).1, (sh_least hA2.1).1, z_rcs, z_rcs]
        have ec := e_cmpM (G := G) (d := d + 1) (F := F) (A := z_u (z_u (z_u A 10 (c_row S N a.2.1 S.2.1)) 11 a.2.2) 5 (arrI S.1 N (A 5))) (i := 10) (j := 11) hM hm ⟨by decide, by decide⟩ ⟨by decide, by decide⟩ ⟨(sh_rowNow hM).2.1, by rw [(sh_rowNow hM).2.2]; exact hm, by rw [(sh_rowNow hM).2.2]; decide⟩ ⟨(sh_least hM).2.1, by rw [(sh_least hM).2.2]; exact hm, by rw [(sh_least hM).2.2]; decide⟩
        rw [u_ne _ (a := 5) _ (show 10 ≠ 5 by decide), u_ne _ (a := 11) _ (show 10 ≠ 11 by decide), u_eq, u_ne _ (a := 5) _ (show 11 ≠ 5 by decide), u_eq] at ec
        refine ⟨t_kd hA2, t_kd hA2, _, _, ec, ?_⟩
        by_cases hc : c_cmp (c_row S N a.2.1 S.2.1) a.2.2 S.2.1 < nI 0
        · rw [if_pos hc]; exact yes (Or.inr hc)
        · rw [if_neg hc]; exact no (fun q => by rcases q with q | q; rw [ha] at q; cases q; exact hc q)
      · rw [if_neg (show ¬ nI true.toNat = nI 0 by decide)]
        exact yes (Or.inl ha)
  · intro _
    refine b_X12_tellLeast_17 z_puCV ?_
    rw [if_pos rfl]
    rfl
theorem e_normal (hM : z_sh M h) (hR : r_ok (A 1)) (hS : r_S (A 1) = S) (hW : ∀ l, S.2.2 l < 2 ^ S.1) (h5 : r_nm (A 5)) (i : Int32) : ∃ A', agr [5, 10, 11] A A' ∧ z_Ev G (d + 7) k_X12_normal [.ref M, .int i] (z_rs h M F A) (.inl (some (.int (c_normal S (A 10) (A 11) i).1)), z_rs h M (z_u F 0 (c_normal S (A 10) (A 11) i).2) A') := by
  have hA := at_rs (F := z_u F 0 (nI 0)) hM hR hS
  have hm := t_m12 hA
  unfold c_normal
  cases hc : c_in i S.2.1
  · refine ⟨A, agr_rf h5, en_X12_normal (b_X12_normal_0 z_puCV ⟨sh_kd hM, ?_⟩)⟩
    rw [rs_poi, t_isL hA, hc, if_pos (by decide)]
    have e := e_fail' (G := G) (d := d + 2) (F := z_u F 0 (nI 0)) (A := A) (k := nI 1) hM
    rw [u_u] at e
    exact ⟨t_kd hA, hA.1, t_kd hA, _, _, e, rfl⟩
  · obtain ⟨j, hj, hj2, rfl⟩ := c_in_t hc
    obtain ⟨A', ha, h11, he⟩ := e_tellLeast (G := G) (d := d) (F := z_u F 0 (nI 0)) hM hR hS hW h5
    refine ⟨A', ha, en_X12_normal (b_X12_normal_0 z_puCV ⟨sh_kd hM, ?_⟩)⟩
    rw [rs_poi, t_isL hA, hc, if_neg (by decide), if_pos rfl]
    refine ⟨t_kd hA, hA.1, t_kd hA, _, he, ?_⟩
    simp (disch := omega) only [l0, l1, l2, l3, l4, l5, l6, l7, l8, l9, l10, l11, l12, l13, l14, l15, l16, l18, l20, l22, l24, l30, l31, l39, l40, l48, l60, l154, l255, l256, l400, l2000, l6160, l14000, lm1, q_lt, q_le, q_eq, q_mI, q_mI', q_ltmI, q_in, q_bz0, q_bz1, q_bzn0, q_bzn1, q_bzb, q_bn0, q_bn1, q_shr, q_shl, q_1s, b_one, b_two, fa_and, fa_or, nI_add, n_mul, nI_clamp, z_rcs, true_and, and_true, if_true, if_false, rs_ai, rs_oi, rs_pai, rs_poi, rs_pax, rs_kd, rs_ln, rs_or, u_eq, u_ne, sh_kd hM, (sh_least hM).1, (sh_least hM).2.1, (sh_least hM).2.2, h11]
end CQ
