theorem en_X12_symmetries {pu : Nat → Option ((List Value → z_H → Prop) × (List Value → z_H → Int32))} {G : z_G} {d : Nat} {r : z_Res} {h : z_H} {x0 : Nat} (hJ : z_J G d (m_X12_symmetries pu) r 0 [some (.ref x0), none, none, none] [] h) : z_Ev G d k_X12_symmetries [.ref x0] h r := z_enter (μ := m_X12_symmetries pu) rfl (by decide) rfl rfl (fun q => by cases q) (Nat.le_of_ble_eq_true rfl) hJ
def hd_X12_symmetries : Nat → Option (List Bool) := (fun k => (cond (Nat.blt k 98) (cond (Nat.blt k 37) (cond (Nat.beq k 8) (some [true, true, true, false]) none) (cond (Nat.blt k 53) (cond (Nat.beq k 37) (some [true, true, true, false]) none) (cond (Nat.beq k 53) (some [true, true, false, true]) none))) none))
set_option maxRecDepth 20000 in
theorem b_X12_symmetries_0 {G : z_G} {d : Nat} {r : z_Res} (hPu : z_PuV G d (t_X12 z_puC)) {h : z_H} {x0 : Nat} (hT : (z_kd h x0 = 28 ∧ ∃ h_1, z_Ev G d k_X12_tellLines [.ref x0] h (.inl none, h_1) ∧ (z_J G (d + 1) (m_X12_symmetries z_puC) r) 8 [some (.ref x0), some (.int (nI 0)), some (.int (nI 0)), none] [] h_1)) : (z_J G (d + 1) (m_X12_symmetries z_puC) r) 0 [some (.ref x0), none, none, none] [] h := z_bq (v_X12 z_puC (vP_X12_symmetries z_puC) hPu) hd_X12_symmetries 9 hT
set_option maxRecDepth 20000 in
theorem b_X12_symmetries_8 {G : z_G} {d : Nat} {r : z_Res} (hPu : z_PuV G d (t_X12 z_puC)) {h : z_H} {x0 : Nat} {x1 : Int32} {x2 : Int32} (hT : (if x2 < (nI 8) then (z_kd h x0 = 28 ∧ (z_rc (z_or h x0 18) False (fun x_1 => (z_kd h x_1 = 1 ∧ vp_in x2 (z_ln h x_1) ∧ (z_J G (d + 1) (m_X12_symmetries z_puC) r) 8 [some (.ref x0), some (.int x1), some (.int (x2 + (nI 1))), none] [] (z_pai h x_1 (Int32.toNatClampNeg x2) (nI 0)))))) else (z_kd h x0 = 28 ∧ s_X12_points x0 h ∧ (z_kd h x0 = 28 ∧ ∃ h_2, z_Ev G d k_X12_beginNaming [.ref x0, .int (f_X12_points x0 h)] h (.inl none, h_2) ∧ (z_J G (d + 1) (m_X12_symmetries z_puC) r) 37 [some (.ref x0), some (.int x1), some (.int (nI 1)), none] [] h_2)))) : (z_J G (d + 1) (m_X12_symmetries z_puC) r) 8 [some (.ref x0), some (.int x1), some (.int x2), none] [] h := z_bq (v_X12 z_puC (vP_X12_symmetries z_puC) hPu) hd_X12_symmetries 13 hT
set_option maxRecDepth 20000 in
theorem b_X12_symmetries_37 {G : z_G} {d : Nat} {r : z_Res} (hPu : z_PuV G d (t_X12 z_puC)) {h : z_H} {x0 : Nat} {x1 : Int32} {x2 : Int32} (hT : (if x2 = (nI 0) then r = (.inl (some (.int x1)), h) else (z_kd h x0 = 28 ∧ ∃ x_2 h_1, z_Ev G d k_X12_isSymmetry [.ref x0] h (.inl (some (.int x_2)), h_1) ∧ (if x_2 = (nI 0) then (z_kd h_1 x0 = 28 ∧ s_X12_points x0 h_1 ∧ (z_kd h_1 x0 = 28 ∧ ∃ x_4 h_3, z_Ev G d k_X12_nextNaming [.ref x0, .int (f_X12_points x0 h_1)] h_1 (.inl (some (.int x_4)), h_3) ∧ (z_J G (d + 1) (m_X12_symmetries z_puC) r) 37 [some (.ref x0), some (.int x1), some (.int x_4), none] [] h_3)) else (z_J G (d + 1) (m_X12_symmetries z_puC) r) 53 [some (.ref x0), some (.int (x1 + (nI 1))), none, some (.int (nI 0))] [] h_1)))) : (z_J G (d + 1) (m_X12_symmetries z_puC) r) 37 [some (.ref x0), some (.int x1), some (.int x2), none] [] h := z_bq (v_X12 z_puC (vP_X12_symmetries z_puC) hPu) hd_X12_symmetries 14 hT
set_option maxRecDepth 20000 in
theorem b_X12_symmetries_53 {G : z_G} {d : Nat} {r : z_Res} (hPu : z_PuV G d (t_X12 z_puC)) {h : z_H} {x0 : Nat} {x1 : Int32} {x3 : Int32} (hT : (z_kd h x0 = 28 ∧ s_X12_points x0 h ∧ (if x3 < (f_X12_points x0 h) then (z_kd h x0 = 28 ∧ (z_rc (z_or h x0 18) False (fun x_1 => (z_kd h x_1 = 1 ∧ vp_in x3 (z_ln h x_1) ∧ (z_kd h x0 = 28 ∧ (z_rc (z_or h x0 16) False (fun x_2 => (z_kd h x_2 = 1 ∧ vp_in x3 (z_ln h x_2) ∧ (z_kd h x_1 = 1 ∧ vp_in x3 (z_ln h x_1) ∧ (z_J G (d + 1) (m_X12_symmetries z_puC) r) 53 [some (.ref x0), some (.int x1), none, some (.int (x3 + (nI 1)))] [] (z_pai h x_1 (Int32.toNatClampNeg x3) ((z_ai h x_1 (Int32.toNatClampNeg x3)) ||| ((nI 1) <<< ((z_ai h x_2 (Int32.toNatClampNeg x3)) &&& (nI 31)))))))))))))) else (z_kd h x0 = 28 ∧ s_X12_points x0 h ∧ (z_kd h x0 = 28 ∧ ∃ x_4 h_3, z_Ev G d k_X12_nextNaming [.ref x0, .int (f_X12_points x0 h)] h (.inl (some (.int x_4)), h_3) ∧ (z_J G (d + 1) (m_X12_symmetries z_puC) r) 37 [some (.ref x0), some (.int x1), some (.int x_4), none] [] h_3))))) : (z_J G (d + 1) (m_X12_symmetries z_puC) r) 53 [some (.ref x0), some (.int x1), none, some (.int x3)] [] h := z_bq (v_X12 z_puC (vP_X12_symmetries z_puC) hPu) hd_X12_symmetries 22 hT
theorem en_X12_orbits {pu : Nat → Option ((List Value → z_H → Prop) × (List Value → z_H → Int32))} {G : z_G} {d : Nat} {r : z_Res} {h : z_H} {x0 : Nat} (hJ : z_J G d (m_X12_orbits pu) r 0 [some (.ref x0), none, none] [] h) : z_Ev G d k_X12_orbits [.ref x0] h r := z_enter (μ := m_X12_orbits pu) rfl (by decide) rfl rfl (fun q => by cases q) (Nat.le_of_ble_eq_true rfl) hJ
def hd_X12_orbits : Nat → Option (List Bool) := (fun k => (cond (Nat.blt k 46) (cond (Nat.beq k 9) (some [true, true, true]) none) none))
set_option maxRecDepth 20000 in
theorem b_X12_orbits_0 {G : z_G} {d : Nat} {r : z_Res} (hPu : z_PuV G d (t_X12 z_puC)) {h : z_H} {x0 : Nat} (hT : (z_kd h x0 = 28 ∧ ∃ x_2 h_1, z_Ev G d k_X12_symmetries [.ref x0] h (.inl (some (.int x_2)), h_1) ∧ (z_J G (d + 1) (m_X12_orbits z_puC) r) 9 [some (.ref x0), some (.int (nI 0)), some (.int (nI 0))] [] h_1)) : (z_J G (d + 1) (m_X12_orbits z_puC) r) 0 [some (.ref x0), none, none] [] h := z_bq (v_X12 z_puC (vP_X12_orbits z_puC) hPu) hd_X12_orbits 10 hT
set_option maxRecDepth 20000 in
theorem b_X12_orbits_9 {G : z_G} {d : Nat} {r : z_Res} (hPu : z_PuV G d (t_X12 z_puC)) {h : z_H} {x0 : Nat} {x1 : Int32} {x2 : Int32} (hT : (z_kd h x0 = 28 ∧ s_X12_points x0 h ∧ (if x2 < (f_X12_points x0 h) then (z_kd h x0 = 28 ∧ (z_rc (z_or h x0 18) False (fun x_1 => (z_kd h x_1 = 1 ∧ vp_in x2 (z_ln h x_1) ∧ (s_J6_numberOfTrailingZeros_0f7a4 (z_ai h x_1 (Int32.toNatClampNeg x2)) h ∧ (if (f_J6_numberOfTrailingZeros_0f7a4 (z_ai h x_1 (Int32.toNatClampNeg x2)) h) = x2 then (z_J G (d + 1) (m_X12_orbits z_puC) r) 9 [some (.ref x0), some (.int (x1 + (nI 1))), some (.int (x2 + (nI 1)))] [] h else (z_J G (d + 1) (m_X12_orbits z_puC) r) 9 [some (.ref x0), some (.int (x1 + (nI 0))), some (.int (x2 + (nI 1)))] [] h)))))) else r = (.inl (some (.int x1)), h)))) : (z_J G (d + 1) (m_X12_orbits z_puC) r) 9 [some (.ref x0), some (.int x1), some (.int x2)] [] h := z_bq (v_X12 z_puC (vP_X12_orbits z_puC) hPu) hd_X12_orbits 21 hT
theorem en_X12_symmetry {pu : Nat → Option ((List Value → z_H → Prop) × (List Value → z_H → Int32))} {G : z_G} {d : Nat} {r : z_Res} {h : z_H} {x0 : Nat} {x1 : Int32} {x2 : Int32} (hJ : z_J G d (m_X12_symmetry pu) r 0 [some (.ref x0), some (.int x1), some (.int x2), none, none] [] h) : z_Ev G d k_X12_symmetry [.ref x0, .int x1, .int x2] h r := z_enter (μ := m_X12_symmetry pu) rfl (by decide) rfl rfl (fun q => by cases q) (Nat.le_of_ble_eq_true rfl) hJ
def hd_X12_symmetry : Nat → Option (List Bool) := (fun k => (cond (Nat.blt k 86) (cond (Nat.beq k 40) (some [true, true, true, true, true]) none) none))
set_option maxRecDepth 20000 in
theorem b_X12_symmetry_0 {G : z_G} {d : Nat} {r : z_Res} (hPu : z_PuV G d (t_X12 z_puC)) {h : z_H} {x0 : Nat} {x1 : Int32} {x2 : Int32} (hT : (z_kd h x0 = 28 ∧ (z_kd (z_poi h x0 0 (nI 0)) x0 = 28 ∧ s_X12_isPoint x0 x2 (z_poi h x0 0 (nI 0)) ∧ (if (f_X12_isPoint x0 x2 (z_poi h x0 0 (nI 0))) = (nI 0) then (z_kd (z_poi h x0 0 (nI 0)) x0 = 28 ∧ ∃ x_2 h_1, z_Ev G d k_X12_fail [.ref x0, .int (nI 1)] (z_poi h x0 0 (nI 0)) (.inl (some (.int x_2)), h_1) ∧ r = (.inl (some (.int x_2)), h_1)) else (if x1 < (nI 0) then (z_kd (z_poi h x0 0 (nI 0)) x0 = 28 ∧ ∃ x_4 h_3, z_Ev G d k_X12_fail [.ref x0, .int (nI 1)] (z_poi h x0 0 (nI 0)) (.inl (some (.int x_4)), h_3) ∧ r = (.inl (some (.int x_4)), h_3)) else (z_kd (z_poi h x0 0 (nI 0)) x0 = 28 ∧ ∃ h_5, z_Ev G d k_X12_tellLines [.ref x0] (z_poi h x0 0 (nI 0)) (.inl none, h_5) ∧ (z_kd h_5 x0 = 28 ∧ s_X12_points x0 h_5 ∧ (z_kd h_5 x0 = 28 ∧ ∃ h_6, z_Ev G d k_X12_beginNaming [.ref x0, .int (f_X12_points x0 h_5)] h_5 (.inl none, h_6) ∧ (z_J G (d + 1) (m_X12_symmetry z_puC) r) 40 [some (.ref x0), some (.int x1), some (.int x2), some (.int (nI 0)), some (.int (nI 1))] [] h_6)))))))) : (z_J G (d + 1) (m_X12_symmetry z_puC) r) 0 [some (.ref x0), some (.int x1), some (.int x2), none, none] [] h := z_bq (v_X12 z_puC (vP_X12_symmetry z_puC) hPu) hd_X12_symmetry 22 hT
set_option maxRecDepth 20000 in
theorem b_X12_symmetry_40 {G : z_G} {d : Nat} {r : z_Res} (hPu : z_PuV G d (t_X12 z_puC)) {h : z_H} {x0 : Nat} {x1 : Int32} {x2 : Int32} {x3 : Int32} {x4 : Int32} (hT : (if x4 = (nI 0) then (z_kd h x0 = 28 ∧ ∃ x_2 h_1, z_Ev G d k_X12_fail [.ref x0, .int (nI 1)] h (.inl (some (.int x_2)), h_1) ∧ r = (.inl (some (.int x_2)), h_1)) else (z_kd h x0 = 28 ∧ ∃ x_4 h_3, z_Ev G d k_X12_isSymmetry [.ref x0] h (.inl (some (.int x_4)), h_3) ∧ (if x_4 = (nI 0) then (z_kd h_3 x0 = 28 ∧ s_X12_points x0 h_3 ∧ (z_kd h_3 x0 = 28 ∧ ∃ x_6 h_5, z_Ev G d k_X12_nextNaming [.ref x0, .int (f_X12_points x0 h_3)] h_3 (.inl (some (.int x_6)), h_5) ∧ (z_J G (d + 1) (m_X12_symmetry z_puC) r) 40 [some (.ref x0), some (.int x1), some (.int x2), some (.int x3), some (.int x_6)] [] h_5)) else (if x3 = x1 then (z_kd h_3 x0 = 28 ∧ (z_rc (z_or h_3 x0 16) False (fun x_7 => (z_kd h_3 x_7 = 1 ∧ vp_in x2 (z_ln h_3 x_7) ∧ r = (.inl (some (.int (z_ai h_3 x_7 (Int32.toNatClampNeg x2)))), h_3))))) else (z_kd h_3 x0 = 28 ∧ s_X12_points x0 h_3 ∧ (z_kd h_3 x0 = 28 ∧ ∃ x_9 h_8, z_Ev G d k_X12_nextNaming [.ref x0, .int (f_X12_points x0 h_3)] h_3 (.inl (some (.int x_9)), h_8) ∧ (z_J G (d + 1) (m_X12_symmetry z_puC) r) 40 [some (.ref x0), some (.int x1), some (.int x2), some (.int (x3 + (nI 1))), some (.int x_9)] [] h_8))))))) : (z_J G (d + 1) (m_X12_symmetry z_puC) r) 40 [some (.ref x0), some (.int x1), some (.int x2), some (.int x3), some (.int x4)] [] h := z_bq (v_X12 z_puC (vP_X12_symmetry z_puC) hPu) hd_X12_symmetry 18 hT
theorem en_X12_dualities {pu : Nat → Option ((List Value → z_H → Prop) × (List Value → z_H → Int32))} {G : z_G} {d : Nat} {r : z_Res} {h : z_H} {x0 : Nat} {x1 : Int32} (hJ : z_J G d (m_X12_dualities pu) r 0 [some (.ref x0), some (.int x1), none, none] [] h) : z_Ev G d k_X12_dualities [.ref x0, .int x1] h r := z_enter (μ := m_X12_dualities pu) rfl (by decide) rfl rfl (fun q => by cases q) (Nat.le_of_ble_eq_true rfl) hJ
def hd_X12_dualities : Nat → Option (List Bool) := (fun k => (cond (Nat.blt k 96) (cond (Nat.blt k 52) (cond (Nat.beq k 17) (some [true, true, true, true]) none) (cond (Nat.beq k 52) (some [true, true, true, true]) none)) none))
set_option maxRecDepth 20000 in
theorem b_X12_dualities_0 {G : z_G} {d : Nat} {r : z_Res} (hPu : z_PuV G d (t_X12 z_puC)) {h : z_H} {x0 : Nat} {x1 : Int32} (hT : (z_kd h x0 = 28 ∧ s_X12_points x0 h ∧ (z_kd h x0 = 28 ∧ s_X12_lines x0 h ∧ (if (f_X12_points x0 h) = (f_X12_lines x0 h) then (z_J G (d + 1) (m_X12_dualities z_puC) r) 17 [some (.ref x0), some (.int x1), some (.int (nI 0)), some (.int (nI 0))] [] h else r = (.inl (some (.int (nI 0))), h))))) : (z_J G (d + 1) (m_X12_dualities z_puC) r) 0 [some (.ref x0), some (.int x1), none, none] [] h := z_bq (v_X12 z_puC (vP_X12_dualities z_puC) hPu) hd_X12_dualities 12 hT
set_option maxRecDepth 20000 in
theorem b_X12_dualities_17 {G : z_G} {d : Nat} {r : z_Res} (hPu : z_PuV G d (t_X12 z_puC)) {h : z_H} {x0 : Nat} {x1 : Int32} {x2 : Int32} {x3 : Int32} (hT : (z_kd h x0 = 28 ∧ s_X12_points x0 h ∧ (if x3 < (f_X12_points x0 h) then (z_kd h x0 = 28 ∧ (z_rc (z_or h x0 20) (z_kd h x0 = 28 ∧ s_X12_linesOn x0 x3 h ∧ False) (fun x_1 => (z_kd h x0 = 28 ∧ s_X12_linesOn x0 x3 h ∧ (z_kd h x_1 = 1 ∧ vp_in x3 (z_ln h x_1) ∧ (z_J G (d + 1) (m_X12_dualities z_puC) r) 17 [some (.ref x0), some (.int x1), some (.int x2), some (.int (x3 + (nI 1)))] [] (z_pai h x_1 (Int32.toNatClampNeg x3) (f_X12_linesOn x0 x3 h))))))) else (z_kd h x0 = 28 ∧ s_X12_points x0 h ∧ (z_kd h x0 = 28 ∧ ∃ h_2, z_Ev G d k_X12_beginNaming [.ref x0, .int (f_X12_points x0 h)] h (.inl none, h_2) ∧ (z_J G (d + 1) (m_X12_dualities z_puC) r) 52 [some (.ref x0), some (.int x1), some (.int x2), some (.int (nI 1))] [] h_2))))) : (z_J G (d + 1) (m_X12_dualities z_puC) r) 17 [some (.ref x0), some (.int x1), some (.int x2), some (.int x3)] [] h := z_bq (v_X12 z_puC (vP_X12_dualities z_puC) hPu) hd_X12_dualities 16 hT
set_option maxRecDepth 20000 in
theorem b_X12_dualities_52 {G : z_G} {d : Nat} {r : z_Res} (hPu : z_PuV G d (t_X12 z_puC)) {h : z_H} {x0 : Nat} {x1 : Int32} {x2 : Int32} {x3 : Int32} (hT : (if x3 = (nI 0) then r = (.inl (some (.int x2)), h) else (z_kd h x0 = 28 ∧ ∃ x_2 h_1, z_Ev G d k_X12_isDuality [.ref x0] h (.inl (some (.int x_2)), h_1) ∧ (if x_2 = (nI 0) then (z_kd h_1 x0 = 28 ∧ s_X12_points x0 h_1 ∧ (z_kd h_1 x0 = 28 ∧ ∃ x_4 h_3, z_Ev G d k_X12_nextNaming [.ref x0, .int (f_X12_points x0 h_1)] h_1 (.inl (some (.int x_4)), h_3) ∧ (z_J G (d + 1) (m_X12_dualities z_puC) r) 52 [some (.ref x0), some (.int x1), some (.int (x2 + (nI 0))), some (.int x_4)] [] h_3)) else (if x1 = (nI 0) then (z_kd h_1 x0 = 28 ∧ s_X12_points x0 h_1 ∧ (z_kd h_1 x0 = 28 ∧ ∃ x_6 h_5, z_Ev G d k_X12_nextNaming [.ref x0, .int (f_X12_points x0 h_1)] h_1 (.inl (some (.int x_6)), h_5) ∧ (z_J G (d + 1) (m_X12_dualities z_puC) r) 52 [some (.ref x0), some (.int x1), some (.int (x2 + (nI 1))), some (.int x_6)] [] h_5)) else (z_kd h_1 x0 = 28 ∧ ∃ x_8 h_7, z_Ev G d k_X12_isPolarity [.ref x0] h_1 (.inl (some (.int x_8)), h_7) ∧ (if x_8 = (nI 0) then (z_kd h_7 x0 = 28 ∧ s_X12_points x0 h_7 ∧ (z_kd h_7 x0 = 28 ∧ ∃ x_10 h_9, z_Ev G d k_X12_nextNaming [.ref x0, .int (f_X12_points x0 h_7)] h_7 (.inl (some (.int x_10)), h_9) ∧ (z_J G (d + 1) (m_X12_dualities z_puC) r) 52 [some (.ref x0), some (.int x1), some (.int (x2 + (nI 0))), some (.int x_10)] [] h_9)) else (z_kd h_7 x0 = 28 ∧ s_X12_points x0 h_7 ∧ (z_kd h_7 x0 = 28 ∧ ∃ x_12 h_11, z_Ev G d k_X12_nextNaming [.ref x0, .int (f_X12_points x0 h_7)] h_7 (.inl (some (.int x_12)), h_11) ∧ (z_J G (d + 1) (m_X12_dualities z_puC) r) 52 [some (.ref x0), some (.int x1), some (.int (x2 + (nI 1))), some (.int x_12)] [] h_11))))))))) : (z_J G (d + 1) (m_X12_dualities z_puC) r) 52 [some (.ref x0), some (.int x1), some (.int x2), some (.int x3)] [] h := z_bq (v_X12 z_puC (vP_X12_dualities z_puC) hPu) hd_X12_dualities 24 hT
theorem en_X12_likes {pu : Nat → Option ((List Value → z_H → Prop) × (List Value → z_H → Int32))} {G : z_G} {d : Nat} {r : z_Res} {h : z_H} {x0 : Nat} {x1 : Int32} (hJ : z_J G d (m_X12_likes pu) r 0 [some (.ref x0), some (.int x1), none, none, none, none] [] h) : z_Ev G d k_X12_likes [.ref x0, .int x1] h r := z_enter (μ := m_X12_likes pu) rfl (by decide) rfl rfl (fun q => by cases q) (Nat.le_of_ble_eq_true rfl) hJ
def hd_X12_likes : Nat → Option (List Bool) := (fun k => (cond (Nat.blt k 130) (cond (Nat.blt k 54) (cond (Nat.beq k 44) (some [true, true, true, true, false, false]) none) (cond (Nat.beq k 54) (some [true, true, true, false, true, true]) none)) none))
set_option maxRecDepth 20000 in
theorem b_X12_likes_0 {G : z_G} {d : Nat} {r : z_Res} (hPu : z_PuV G d (t_X12 z_puC)) {h : z_H} {x0 : Nat} {x1 : Int32} (hT : (z_kd h x0 = 28 ∧ s_X12_onShelf x0 x1 (nI 0) h ∧ (z_kd h x0 = 28 ∧ s_X12_points x0 h ∧ (if (f_X12_onShelf x0 x1 (nI 0) h) = (f_X12_points x0 h) then (z_kd h x0 = 28 ∧ s_X12_onShelf x0 x1 (nI 1) h ∧ (z_kd h x0 = 28 ∧ s_X12_lines x0 h ∧ (if (f_X12_onShelf x0 x1 (nI 1) h) = (f_X12_lines x0 h) then (z_kd h x0 = 28 ∧ ∃ h_1, z_Ev G d k_X12_tellLines [.ref x0] h (.inl none, h_1) ∧ (z_kd h_1 x0 = 28 ∧ s_X12_points x0 h_1 ∧ (z_kd h_1 x0 = 28 ∧ ∃ h_2, z_Ev G d k_X12_beginNaming [.ref x0, .int (f_X12_points x0 h_1)] h_1 (.inl none, h_2) ∧ (z_J G (d + 1) (m_X12_likes z_puC) r) 44 [some (.ref x0), some (.int x1), some (.int (nI 0)), some (.int (nI 1)), none, none] [] h_2))) else r = (.inl (some (.int (nI 0))), h)))) else r = (.inl (some (.int (nI 0))), h))))) : (z_J G (d + 1) (m_X12_likes z_puC) r) 0 [some (.ref x0), some (.int x1), none, none, none, none] [] h := z_bq (v_X12 z_puC (vP_X12_likes z_puC) hPu) hd_X12_likes 27 hT
set_option maxRecDepth 20000 in
theorem b_X12_likes_44 {G : z_G} {d : Nat} {r : z_Res} (hPu : z_PuV G d (t_X12 z_puC)) {h : z_H} {x0 : Nat} {x1 : Int32} {x2 : Int32} {x3 : Int32} (hT : (if x3 = (nI 0) then r = (.inl (some (.int x2)), h) else (z_J G (d + 1) (m_X12_likes z_puC) r) 54 [some (.ref x0), some (.int x1), some (.int x2), none, some (.int (nI 1)), some (.int (nI 0))] [] h)) : (z_J G (d + 1) (m_X12_likes z_puC) r) 44 [some (.ref x0), some (.int x1), some (.int x2), some (.int x3), none, none] [] h := z_bq (v_X12 z_puC (vP_X12_likes z_puC) hPu) hd_X12_likes 9 hT
set_option maxRecDepth 20000 in
theorem b_X12_likes_54 {G : z_G} {d : Nat} {r : z_Res} (hPu : z_PuV G d (t_X12 z_puC)) {h : z_H} {x0 : Nat} {x1 : Int32} {x2 : Int32} {x4 : Int32} {x5 : Int32} (hT : (z_kd h x0 = 28 ∧ s_X12_lines x0 h ∧ (if x5 < (f_X12_lines x0 h) then (if x4 = (nI 0) then (if x4 = (nI 0) then (z_kd h x0 = 28 ∧ s_X12_points x0 h ∧ (z_kd h x0 = 28 ∧ ∃ x_2 h_1, z_Ev G d k_X12_nextNaming [.ref x0, .int (f_X12_points x0 h)] h (.inl (some (.int x_2)), h_1) ∧ (z_J G (d + 1) (m_X12_likes z_puC) r) 44 [some (.ref x0), some (.int x1), some (.int (x2 + (nI 0))), some (.int x_2), none, none] [] h_1)) else (z_kd h x0 = 28 ∧ s_X12_points x0 h ∧ (z_kd h x0 = 28 ∧ ∃ x_4 h_3, z_Ev G d k_X12_nextNaming [.ref x0, .int (f_X12_points x0 h)] h (.inl (some (.int x_4)), h_3) ∧ (z_J G (d + 1) (m_X12_likes z_puC) r) 44 [some (.ref x0), some (.int x1), some (.int (x2 + (nI 1))), some (.int x_4), none, none] [] h_3))) else (z_kd h x0 = 28 ∧ (z_rc (z_or h x0 17) (z_kd h x0 = 28 ∧ s_X12_onShelf x0 x1 ((nI 2) + x5) h ∧ (z_kd h x0 = 28 ∧ s_X12_named x0 (f_X12_onShelf x0 x1 ((nI 2) + x5) h) h ∧ False)) (fun x_5 => (z_kd h x0 = 28 ∧ s_X12_onShelf x0 x1 ((nI 2) + x5) h ∧ (z_kd h x0 = 28 ∧ s_X12_named x0 (f_X12_onShelf x0 x1 ((nI 2) + x5) h) h ∧ (z_kd h x_5 = 1 ∧ vp_in (f_X12_named x0 (f_X12_onShelf x0 x1 ((nI 2) + x5) h) h) (z_ln h x_5) ∧ (if (z_ai h x_5 (Int32.toNatClampNeg (f_X12_named x0 (f_X12_onShelf x0 x1 ((nI 2) + x5) h) h))) = mI then (z_J G (d + 1) (m_X12_likes z_puC) r) 54 [some (.ref x0), some (.int x1), some (.int x2), none, some (.int (nI 0)), some (.int (x5 + (nI 1)))] [] h else (z_J G (d + 1) (m_X12_likes z_puC) r) 54 [some (.ref x0), some (.int x1), some (.int x2), none, some (.int (nI 1)), some (.int (x5 + (nI 1)))] [] h)))))))) else (if x4 = (nI 0) then (z_kd h x0 = 28 ∧ s_X12_points x0 h ∧ (z_kd h x0 = 28 ∧ ∃ x_7 h_6, z_Ev G d k_X12_nextNaming [.ref x0, .int (f_X12_points x0 h)] h (.inl (some (.int x_7)), h_6) ∧ (z_J G (d + 1) (m_X12_likes z_puC) r) 44 [some (.ref x0), some (.int x1), some (.int (x2 + (nI 0))), some (.int x_7), none, none] [] h_6)) else (z_kd h x0 = 28 ∧ s_X12_points x0 h ∧ (z_kd h x0 = 28 ∧ ∃ x_9 h_8, z_Ev G d k_X12_nextNaming [.ref x0, .int (f_X12_points x0 h)] h (.inl (some (.int x_9)), h_8) ∧ (z_J G (d + 1) (m_X12_likes z_puC) r) 44 [some (.ref x0), some (.int x1), some (.int (x2 + (nI 1))), some (.int x_9), none, none] [] h_8)))))) : (z_J G (d + 1) (m_X12_likes z_puC) r) 54 [some (.ref x0), some (.int x1), some (.int x2), none, some (.int x4), some (.int x5)] [] h := z_bq (v_X12 z_puC (vP_X12_likes z_puC) hPu) hd_X12_likes 27 hT
/-! going through all namings -/
def fds {α β ρ : Type} (f : β → α → α ⊕ ρ) : List β → α → α ⊕ ρ
  | [], a => .inl a
  | x :: l, a => match f x a with
    | .inl b => fds f l b
    | .inr v => .inr v
def nxM (n : Nat) (N N' : Nat → Nat) (m : Int32) : Prop := (nxR n N N' ∧ m = nI 1) ∨ (nx0 n N ∧ N' = N ∧ m = nI 0)
def plast (n : Nat) : Nat → Nat := dsc 0 n (fun i => i) (fun _ => 0)
theorem plast_eq (n : Nat) : (pms n).getLast? = some (plast n) := (al_spec n n 0 (fun i => i) (fun _ => 0) (Nat.zero_add n) (fun i j hij _ => hij)).2.2
theorem plast_in (n : Nat) : plast n ∈ pms n := List.mem_of_getLast? (plast_eq n)
theorem z_nmx {G : z_G} {d : Nat} {μ : z_M} {r : z_Res} {pc n : Nat} {α ρ : Type} (mkl : Int32 → α → List (Option Value)) (H : (Nat → Nat) → α → z_H) (I : α → Prop) (f : (Nat → Nat) → α → α ⊕ ρ) (a0 : α) (h0 : I a0)
    (hno : ∀ N a v, N ∈ pms n → I a → f N a = .inr v → fds f (pms n) a0 = .inr v → z_J G d μ r pc (mkl (nI 1) a) [] (H N a))
    (hstep : ∀ N a b, N ∈ pms n → I a → f N a = .inl b → I b ∧ ∀ N' m, nxM n N N' m → z_J G d μ r pc (mkl m b) [] (H N' b) → z_J G d μ r pc (mkl (nI 1) a) [] (H N a))
    (hend : ∀ a, I a → fds f (pms n) a0 = .inl a → z_J G d μ r pc (mkl (nI 0) a) [] (H (plast n) a)) : z_J G d μ r pc (mkl (nI 1) a0) [] (H (fun i => if i < n then i else 0) a0) := by
  have hp := pms_spec n
  have key : ∀ (L : List (Nat → Nat)) (N : Nat → Nat) (a : α), (∀ x ∈ N :: L, x ∈ pms n) → nch (nxR n) (N :: L) → (N :: L).getLast? = some (plast n) → I a → fds f (N :: L) a = fds f (pms n) a0 → z_J G d μ r pc (mkl (nI 1) a) [] (H N a) := by
    intro L
    induction L with
    | nil =>
      intro N a hm hc hl hI he
      have hN := hm N List.mem_cons_self
      cases hf : f N a with
      | inr v => exact hno N a v hN hI hf (he.symm.trans (by show (match f N a with | .inl b => fds f [] b | .inr v => .inr v) = _; rw [hf]))
      | inl b =>
        have h2 := hstep N a b hN hI hf
        have eN : N = plast n := Option.some.inj hl
        have h3 := hend b h2.1 (he.symm.trans ?_)
        · rw [← eN] at h3
          exact h2.2 N (nI 0) (Or.inr ⟨hp.2.2 N (by rw [eN]; exact plast_eq n), rfl, rfl⟩) h3
        · show (match f N a with | .inl b => fds f [] b | .inr v => .inr v) = _
          rw [hf]; rfl
    | cons N' L ih =>
      intro N a hm hc hl hI he
      have hN := hm N List.mem_cons_self
      cases hf : f N a with
      | inr v => exact hno N a v hN hI hf (he.symm.trans (by show (match f N a with | .inl b => fds f (N' :: L) b | .inr v => .inr v) = _; rw [hf]))
      | inl b =>
        have h2 := hstep N a b hN hI hf
        refine h2.2 N' (nI 1) (Or.inl ⟨hc.1 N' rfl, rfl⟩) (ih N' b (fun x hx => hm x (List.mem_cons_of_mem _ hx)) hc.2 (by rw [List.getLast?_cons_cons] at hl; exact hl) h2.1 ?_)
        rw [← he]
        show _ = (match f N a with | .inl b => fds f (N' :: L) b | .inr v => .inr v)
        rw [hf]
  cases hL : pms n with
  | nil =>
    have h1 := hp.2.1
    rw [hL] at h1
    cases h1
  | cons N L =>
    have h1 := hp.2.1
    rw [hL] at h1
    have e : N = fun i => if i < n then i else 0 := Option.some.inj h1
    rw [← e]
    exact key L N a0 (fun x hx => by rw [hL]; exact hx) (by rw [← hL]; exact hp.1) (by rw [← hL]; exact plast_eq n) h0 (by rw [hL])
theorem fds_inl {α β : Type} (f : β → α → α) : ∀ (L : List β) (a : α), fds (ρ := Unit) (fun x a => .inl (f x a)) L a = .inl (L.foldl (fun a x => f x a) a)
  | [], _ => rfl
  | x :: l, a => by
    show fds (ρ := Unit) (fun x a => .inl (f x a)) l (f x a) = _
    rw [fds_inl f l]; rfl
/-- without an early end -/
theorem z_nm {G : z_G} {d : Nat} {μ : z_M} {r : z_Res} {pc n : Nat} {α : Type} (mkl : Int32 → α → List (Option Value)) (H : (Nat → Nat) → α → z_H) (I : α → Prop) (f : (Nat → Nat) → α → α) (a0 : α) (h0 : I a0)
    (hstep : ∀ N a, N ∈ pms n → I a → I (f N a) ∧ ∀ N' m, nxM n N N' m → z_J G d μ r pc (mkl m (f N a)) [] (H N' (f N a)) → z_J G d μ r pc (mkl (nI 1) a) [] (H N a))
    (hend : I ((pms n).foldl (fun a N => f N a) a0) → z_J G d μ r pc (mkl (nI 0) ((pms n).foldl (fun a N => f N a) a0)) [] (H (plast n) ((pms n).foldl (fun a N => f N a) a0))) : z_J G d μ r pc (mkl (nI 1) a0) [] (H (fun i => if i < n then i else 0) a0) := by
  refine z_nmx (ρ := Unit) mkl H I (fun N a => .inl (f N a)) a0 h0 (fun N a v _ _ hf _ => by cases hf) (fun N a b hN hI hf => ?_) (fun a hI hf => ?_)
  · cases hf; exact hstep N a hN hI
  · rw [fds_inl] at hf
    cases hf
    exact hend hI
theorem u_mid {α : Type} (f : Nat → α) {i j : Nat} (a b c : α) (h : i ≠ j) : z_u (z_u (z_u f i a) j b) i c = z_u (z_u f i c) j b := by
  rw [u_comm (z_u f i a) b c (Ne.symm h), u_u]
/-- what of the rows is changed -/
def agr (J : List Nat) (A A' : Nat → Nat → Int32) : Prop := (∀ j, j ∉ J → A' j = A j) ∧ r_nm (A' 5)
theorem agr_rf {J : List Nat} {A : Nat → Nat → Int32} (h : r_nm (A 5)) : agr J A A := ⟨fun _ _ => rfl, h⟩
theorem agr_tr {J : List Nat} {A A' A'' : Nat → Nat → Int32} (h1 : agr J A A') (h2 : agr J A' A'') : agr J A A'' := ⟨fun j hj => (h2.1 j hj).trans (h1.1 j hj), h2.2⟩
theorem agr_mono {J K : List Nat} {A A' : Nat → Nat → Int32} (h : agr J A A') (hs : ∀ j, j ∈ J → j ∈ K) : agr K A A' := ⟨fun j hj => h.1 j (fun q => hj (hs j q)), h.2⟩
theorem agr_u {J : List Nat} {A A' : Nat → Nat → Int32} (h : agr J A A') {k : Nat} (hk : k ∈ J) (h5 : k ≠ 5) (f : Nat → Int32) : agr J A (z_u A' k f) := ⟨fun j hj => by rw [u_ne _ _ (show j ≠ _ from fun e => hj (by rw [e]; exact hk))]; exact h.1 j hj, by rw [u_ne _ _ (fun e => h5 e.symm)]; exact h.2⟩
theorem agr_5 {J : List Nat} {A A' : Nat → Nat → Int32} (h : agr J A A') (hk : 5 ∈ J) {f : Nat → Int32} (hf : r_nm f) : agr J A (z_u A' 5 f) := ⟨fun j hj => by rw [u_ne _ _ (show j ≠ _ from fun e => hj (by rw [e]; exact hk))]; exact h.1 j hj, by rw [u_eq]; exact hf⟩
theorem nm_arr {n : Nat} {N : Nat → Nat} {g : Nat → Int32} (hN : ∀ i, i < n → N i < 8) (hg : r_nm g) : r_nm (arrI n N g) := by
  intro i hi
  by_cases h : i < n
  · have := hN i h
    show arrI n N g i = nI (arrI n N g i).toNatClampNeg ∧ (arrI n N g i).toNatClampNeg < 8
    rw [arrI_in h, nI_clamp (by omega)]
    exact ⟨rfl, this⟩
  · show arrI n N g i = nI (arrI n N g i).toNatClampNeg ∧ (arrI n N g i).toNatClampNeg < 8
    rw [show arrI n N g i = g i from if_neg h]; exact hg i hi
theorem rN_arr {n : Nat} {N : Nat → Nat} {g : Nat → Int32} (hN : ∀ i, i < n → N i < 8) {i : Nat} (hi : i < n) : r_N (arrI n N g) i = N i := by
  have := hN i hi
  show (arrI n N g i).toNatClampNeg = N i
  rw [arrI_in hi, nI_clamp (by omega)]
theorem c_nm_cg {N N' : Nat → Nat} {n a : Nat} (ha : a < 2 ^ n) (h : ∀ i, i < n → N i = N' i) : c_nm N a = c_nm N' a := by
  unfold c_nm
  refine it_congr 8 (fun i x hi => ?_)
  by_cases hb : a.testBit i = true
  · rw [if_pos hb, if_pos hb]
    by_cases hin : i < n
    · rw [h i hin]
    · rw [Nat.testBit_lt_two_pow (Nat.lt_of_lt_of_le ha (Nat.pow_le_pow_right (by decide) (by omega)))] at hb
      cases hb
  · rw [if_neg hb, if_neg hb]
theorem rN_nm {n : Nat} {N : Nat → Nat} {g : Nat → Int32} (hN : ∀ i, i < n → N i < 8) {a : Nat} (ha : a < 2 ^ n) : c_nm (r_N (arrI n N g)) a = c_nm N a := c_nm_cg ha (fun i hi => rN_arr hN hi)
/-- whether a set is a line; symmetries -/
def c_isL (S : Sc) (x : Nat) : Bool := c_any (fun l => S.2.2 l == x) S.2.1
def c_symN (S : Sc) (N : Nat → Nat) : Bool := !c_any (fun l => !c_isL S (c_nm N (S.2.2 l))) S.2.1
theorem any_cg {p q : Nat → Bool} {n : Nat} (h : ∀ i, i < n → p i = q i) : c_any p n = c_any q n := by
  cases hq : c_any q n
  · refine any_f (fun i hi => ?_)
    rw [h i hi]
    cases hx : q i
    · rfl
    · rw [any_t hi hx] at hq; cases hq
  · unfold c_any at hq
    have h1 := of_decide_eq_true hq
    exact any_t h1 (by rw [h _ h1]; exact fa_first_yes q n h1)
theorem any_iff {p : Nat → Bool} {n : Nat} : c_any p n = true ↔ ∃ i, i < n ∧ p i = true := by
  constructor
  · intro h
    have h1 : fa_first p n < n := of_decide_eq_true h
    exact ⟨_, h1, fa_first_yes p n h1⟩
  · rintro ⟨i, hi, hp⟩; exact any_t hi hp
theorem any_fiff {p : Nat → Bool} {n : Nat} : c_any p n = false ↔ ∀ i, i < n → p i = false := by
  constructor
  · intro h i hi
    cases hp : p i
    · rfl
    · rw [any_t hi hp] at h; cases h
  · exact any_f
theorem c_by_in {S : Sc} (hm : S.2.1 ≤ 12) {f0 : Nat → Int32} {x : Nat} (hx : x < 256) : (c_by S f0 x = -1) = (c_isL S x = false) := by
  have key : ∀ k, k ≤ 12 → ((it (fun l f => z_u f (S.2.2 l) (nI l)) (fa_fill (fun _ => -1) f0 256) k) x = -1 ↔ ∀ l, l < k → S.2.2 l ≠ x) := by
    intro k
    induction k with
    | zero =>
      intro _
      show fa_fill (fun _ => -1) f0 256 x = -1 ↔ _
      rw [fa_fill_in hx]
      exact ⟨fun _ l hl => absurd hl (Nat.not_lt_zero l), fun _ => rfl⟩
    | succ k ih =>
      intro hk
      show z_u (it (fun l f => z_u f (S.2.2 l) (nI l)) (fa_fill (fun _ => -1) f0 256) k) (S.2.2 k) (nI k) x = -1 ↔ _
      unfold z_u
      by_cases e : x = S.2.2 k
      · rw [if_pos e]
        exact ⟨fun q => absurd q (t_ne1 (by omega)), fun q => absurd e.symm (q k (by omega))⟩
      · rw [if_neg e]
        refine (ih (by omega)).trans ⟨fun q l hl => ?_, fun q l hl => q l (by omega)⟩
        by_cases hlk : l = k
        · rw [hlk]; exact fun q => e q.symm
        · exact q l (by omega)
  refine propext ((key S.2.1 hm).trans ?_)
  unfold c_isL
  rw [any_fiff]
  exact ⟨fun q l hl => by simp [q l hl], fun q l hl => by simpa using q l hl⟩
theorem c_sym_eq {S : Sc} (hm : S.2.1 ≤ 12) (hW : ∀ l, S.2.2 l < 2 ^ S.1) {N : Nat → Nat} {g : Nat → Int32} (hN : ∀ i, i < S.1 → N i < 8) (hg : r_nm g) (f0 : Nat → Int32) : c_sym S (r_N (arrI S.1 N g)) (c_by S f0) = c_symN S N := by
  unfold c_sym c_symN
  congr 1
  refine any_cg (fun l hl => ?_)
  have hx := c_nm_lt (fun i hi => (nm_arr hN hg i hi).2) (S.2.2 l)
  rw [rN_nm hN (hW l)] at hx ⊢
  rw [decide_eq_decide.mpr (iff_of_eq (c_by_in hm hx))]
  by_cases hq : c_isL S (c_nm N (S.2.2 l)) = false
  · rw [decide_eq_true hq, hq]; rfl
  · rw [decide_eq_false hq, eq_true_of_ne_false hq]; rfl
def c_bec (n : Nat) (N : Nat → Nat) (B : Nat → Nat) : Nat → Nat := fun p => if p < n then B p ||| 2 ^ N p else B p
def c_syF (S : Sc) (N : Nat → Nat) (a : Nat × (Nat → Nat)) : Nat × (Nat → Nat) := if c_symN S N then (a.1 + 1, c_bec S.1 N a.2) else a
def c_syA (S : Sc) : Nat × (Nat → Nat) := (pms S.1).foldl (fun a N => c_syF S N a) (0, fun _ => 0)
theorem arrI_s {n : Nat} {N : Nat → Nat} {g : Nat → Int32} : z_u (arrI n N g) n (nI (N n)) = arrI (n + 1) N g := by
  funext i
  unfold z_u arrI
  by_cases h : i = n
  · subst h; rw [if_pos rfl, if_pos (by omega)]
  · rw [if_neg h]
    by_cases h2 : i < n
    · rw [if_pos h2, if_pos (by omega)]
    · rw [if_neg h2, if_neg (by omega)]
theorem arrI_bec {l : Nat} (N B : Nat → Nat) (g : Nat → Int32) (hl : l < 8) : z_u (arrI 8 (c_bec l N B) g) l (nI (c_bec l N B l ||| 2 ^ N l)) = arrI 8 (c_bec (l + 1) N B) g := by
  funext i
  by_cases h : i = l
  · subst h
    show (if i = i then nI ((if i < i then B i ||| 2 ^ N i else B i) ||| 2 ^ N i) else _) = (if i < 8 then nI (if i < i + 1 then B i ||| 2 ^ N i else B i) else g i)
    rw [if_pos rfl, if_neg (show ¬ i < i by omega), if_pos hl, if_pos (show i < i + 1 by omega)]
  · rw [u_ne _ _ h]
    unfold arrI c_bec
    by_cases h2 : i < 8
    · rw [if_pos h2, if_pos h2]
      show nI (if i < l then B i ||| 2 ^ N i else B i) = nI (if i < l + 1 then B i ||| 2 ^ N i else B i)
      by_cases h3 : i < l
      · rw [if_pos h3, if_pos (by omega)]
      · rw [if_neg h3, if_neg (by omega)]
    · rw [if_neg h2, if_neg h2]
section CN
variable {G : z_G} {d : Nat} {h : z_H} {M : Nat} {S : Sc} {F : Nat → Int32} {A : Nat → Nat → Int32}
theorem pms_lt8 {n : Nat} (hn : n ≤ 8) {N : Nat → Nat} (hN : N ∈ pms n) : ∀ i, i < n → N i < 8 := fun i hi => Nat.lt_of_lt_of_le ((pms_in hN).1 i hi) hn
theorem e_nextM (hM : z_sh M h) {n : Nat} (h0 : 1 ≤ n) (hn : n ≤ 8) {N N' : Nat → Nat} {g : Nat → Int32} {m : Int32} (hN : ∀ i, i < n → N i < 8) (hx : nxM n N N' m) : z_Ev G (d + 5) k_X12_nextNaming [.ref M, .int (nI n)] (z_rs h M F (z_u A 5 (arrI n N g))) (.inl (some (.int m)), z_rs h M F (z_u A 5 (arrI n N' g))) := by
  have hf : z_ai (z_rs h M F (z_u A 5 (arrI n N g))) (M + 5) = arrI n N g := by
    rw [rs_ai _ _ _ _ (by omega) (by omega), u_eq]
  rcases hx with ⟨hx, rfl⟩ | ⟨hx, rfl, rfl⟩
  · have e := e_next1 (G := G) (d := d) (h := z_rs h M F (z_u A 5 (arrI n N g))) (M := M) hM hn hf hN hx
    rw [rs_pax _ _ _ _ (by omega) (by omega), u_u] at e
    exact e
  · exact e_next0 (G := G) (d := d) (h := z_rs h M F (z_u A 5 (arrI n N' g))) (M := M) hM h0 hn hf hN hx
theorem e_begM (hM : z_sh M h) {n : Nat} (hn : n ≤ 8) : z_Ev G (d + 4) k_X12_beginNaming [.ref M, .int (nI n)] (z_rs h M F A) (.inl none, z_rs h M F (z_u A 5 (arrI n (fun i => if i < n then i else 0) (A 5)))) := by
  have e := e_beginNaming (G := G) (d := d) (h := z_rs h M F A) (M := M) hM hn
  rw [rs_pax _ _ _ _ (by omega) (by omega), rs_ai _ _ _ _ (by omega) (by omega)] at e
  have e2 : fa_fill (fun i => nI i) (A 5) n = arrI n (fun i => if i < n then i else 0) (A 5) := by
    funext i
    unfold fa_fill arrI
    by_cases hi : i < n
    · rw [if_pos hi, if_pos hi]
      show nI i = nI (if i < n then i else 0)
      rw [if_pos hi]
    · rw [if_neg hi, if_neg hi]
  rw [e2] at e
  exact e
theorem e_tlM (hM : z_sh M h) (hR : r_ok (A 1)) (hS : r_S (A 1) = S) : z_Ev G (d + 4) k_X12_tellLines [.ref M] (z_rs h M F A) (.inl none, z_rs h M F (z_u A 6 (c_by S (A 6)))) := by
  have e := e_tellLines (G := G) (d := d) (at_rs (F := F) hM hR hS)
  rw [rs_pax _ _ _ _ (by omega) (by omega), rs_ai _ _ _ _ (by omega) (by omega)] at e
  exact e
theorem e_isM (hM : z_sh M h) (hR : r_ok (A 1)) (hS : r_S (A 1) = S) (hW : ∀ l, S.2.2 l < 2 ^ S.1) {N : Nat → Nat} {g f0 : Nat → Int32} (hN : ∀ i, i < S.1 → N i < 8) (hg : r_nm g) (h5 : A 5 = arrI S.1 N g) (h6 : A 6 = c_by S f0) : z_Ev G (d + 4) k_X12_isSymmetry [.ref M] (z_rs h M F A) (.inl (some (.int (nI (c_symN S N).toNat))), z_rs h M F A) := by
  have hA := at_rs (F := F) hM hR hS
  have e5 : z_ai (z_rs h M F A) (M + 5) = A 5 := rs_ai _ _ _ _ (by omega) (by omega)
  have e6 : z_ai (z_rs h M F A) (M + 6) = A 6 := rs_ai _ _ _ _ (by omega) (by omega)
  have e := e_isSymmetry (G := G) (d := d) hA (by rw [e5, h5]; exact nm_arr hN hg)
  rw [e5, e6, h5, h6, c_sym_eq (t_m12 hA) hW hN hg] at e
  exact e
theorem e_symmetries (hM : z_sh M h) (hR : r_ok (A 1)) (hS : r_S (A 1) = S) (hW : ∀ l, S.2.2 l < 2 ^ S.1) (h5 : r_nm (A 5)) : ∃ A', agr [5, 6, 7] A A' ∧ A' 7 = arrI 8 (c_syA S).2 (A 7) ∧ z_Ev G (d + 6) k_X12_symmetries [.ref M] (z_rs h M F A) (.inl (some (.int (nI (c_syA S).1))), z_rs h M F A') := by
  have hA0 := at_rs (F := F) hM hR hS
  have hn := t_n8 hA0
  have hm := t_m12 hA0
  have e75 : ∀ f, z_u (z_u A 6 (c_by S (A 6))) 7 f 5 = A 5 := fun f => by rw [u_ne _ _ (by omega), u_ne _ _ (by omega)]
  have e71 : ∀ f g, z_u (z_u (z_u A 6 (c_by S (A 6))) 7 f) 5 g 1 = A 1 := fun f g => by rw [u_ne _ _ (by omega), u_ne _ _ (by omega), u_ne _ _ (by omega)]
  have e76 : ∀ f g, z_u (z_u (z_u A 6 (c_by S (A 6))) 7 f) 5 g 6 = c_by S (A 6) := fun f g => by rw [u_ne _ _ (by omega), u_ne _ _ (by omega), u_eq]
  refine ⟨z_u (z_u (z_u A 6 (c_by S (A 6))) 7 (arrI 8 (c_syA S).2 (A 7))) 5 (arrI S.1 (plast S.1) (A 5)), agr_5 (agr_u (agr_u (agr_rf h5) (by decide) (by decide) _) (by decide) (by decide) _) (by decide) (nm_arr (pms_lt8 hn.2 (plast_in _)) h5), by rw [u_ne _ _ (by omega), u_eq], en_X12_symmetries (b_X12_symmetries_0 z_puCV ⟨sh_kd hM, _, e_tlM hM hR hS, ?_⟩)⟩
  have key := z_forI (G := G) (d := d + 6) (μ := m_X12_symmetries z_puC) (r := (.inl (some (.int (nI (c_syA S).1))), z_rs h M F (z_u (z_u (z_u A 6 (c_by S (A 6))) 7 (arrI 8 (c_syA S).2 (A 7))) 5 (arrI S.1 (plast S.1) (A 5))))) (pc := 8) (α := Unit) (fun l _ => [some (.ref M), some (.int (nI 0)), some (.int (nI l)), none]) (fun l _ => z_rs h M F (z_u (z_u A 6 (c_by S (A 6))) 7 (arrI l (fun _ => 0) (A 7)))) (fun _ _ => True) (fun _ a => a) () 8 trivial ?_ ?_
  · rw [show arrI 0 (fun _ => 0) (A 7) = (z_u A 6 (c_by S (A 6))) 7 from by rw [u_ne _ _ (by omega)]; rfl, u_self] at key
    exact key
  · intro l _ hl _
    refine ⟨trivial, fun hJ => b_X12_symmetries_8 z_puCV ?_⟩
    have hM' : z_sh M (z_rs h M F (z_u (z_u A 6 (c_by S (A 6))) 7 (arrI l (fun _ => 0) (A 7)))) := hM
    simp (disch := omega) only [l0, l1, l2, l3, l4, l5, l6, l7, l8, l9, l10, l11, l12, l13, l14, l15, l16, l18, l20, l22, l24, l30, l31, l39, l40, l48, l60, l154, l255, l256, l400, l2000, l6160, l14000, lm1, q_lt, q_le, q_eq, q_mI, q_mI', q_ltmI, q_in, q_bz0, q_bz1, q_bzn0, q_bzn1, q_bzb, q_bn0, q_bn1, q_shr, q_shl, q_1s, b_one, b_two, fa_and, fa_or, nI_add, n_mul, nI_clamp, z_rcs, true_and, and_true, if_true, if_false, rs_ai, rs_oi, rs_pai, rs_poi, rs_pax, rs_kd, rs_ln, rs_or, u_eq, u_ne, hl, sh_kd hM', (sh_becomes hM').1, (sh_becomes hM').2.1, (sh_becomes hM').2.2, u_u, sh_kd hM, (sh_becomes hM).1, (sh_becomes hM).2.1, (sh_becomes hM).2.2]
    rw [arrI_s (N := fun _ => 0)]
    exact hJ
  · intro _
    refine b_X12_symmetries_8 z_puCV ?_
    have hA1 := at_rs (F := F) (A := z_u (z_u A 6 (c_by S (A 6))) 7 (arrI 8 (fun _ => 0) (A 7))) (S := S) hM (by rw [u_ne _ _ (by omega), u_ne _ _ (by omega)]; exact hR) (by rw [u_ne _ _ (by omega), u_ne _ _ (by omega)]; exact hS)
    rw [if_neg (by decide), t_n hA1]
    have eb := e_begM (G := G) (d := d + 1) (F := F) (A := z_u (z_u A 6 (c_by S (A 6))) 7 (arrI 8 (fun _ => 0) (A 7))) hM hn.2
    rw [e75] at eb
    refine ⟨t_kd hA1, hA1.1, t_kd hA1, _, eb, ?_⟩
    refine z_nm (fun m a => [some (.ref M), some (.int (nI a.1)), some (.int m), none]) (fun N a => z_rs h M F (z_u (z_u (z_u A 6 (c_by S (A 6))) 7 (arrI 8 a.2 (A 7))) 5 (arrI S.1 N (A 5)))) (fun a => ∀ i, i < 8 → a.2 i < 256) (c_syF S) (0, fun _ => 0) (fun _ _ => (by decide : (0 : Nat) < 256)) ?_ ?_
    · intro N a hN hI
      have hN8 := pms_lt8 hn.2 hN
      have hA2 := at_rs (F := F) (A := z_u (z_u (z_u A 6 (c_by S (A 6))) 7 (arrI 8 a.2 (A 7))) 5 (arrI S.1 N (A 5))) (S := S) hM (by rw [e71]; exact hR) (by rw [e71]; exact hS)
      have ei := e_isM (G := G) (d := d + 1) (F := F) (A := z_u (z_u (z_u A 6 (c_by S (A 6))) 7 (arrI 8 a.2 (A 7))) 5 (arrI S.1 N (A 5))) (f0 := A 6) hM (by rw [e71]; exact hR) (by rw [e71]; exact hS) hW hN8 h5 (u_eq _ _ _) (by rw [e76])
      unfold c_syF
      cases hc : c_symN S N
      · refine ⟨by rw [if_neg (by decide)]; exact hI, fun N' m hx hJ => b_X12_symmetries_37 z_puCV ?_⟩
        rw [if_neg (show ¬ nI 1 = nI 0 by decide)]
        rw [if_neg (by decide)] at hJ
        refine ⟨t_kd hA2, _, _, ei, ?_⟩
        rw [hc, if_pos (by decide), t_n hA2]
        exact ⟨t_kd hA2, hA2.1, t_kd hA2, _, _, e_nextM hM hn.1 hn.2 hN8 hx, hJ⟩
      · refine ⟨?_, fun N' m hx hJ => b_X12_symmetries_37 z_puCV ?_⟩
        · rw [if_pos rfl]
          intro i hi
          show c_bec S.1 N a.2 i < 256
          unfold c_bec
          split
          · exact or_lt256 (hI i hi) (t_pow (hN8 i (by assumption)))
          · exact hI i hi
        · rw [if_neg (show ¬ nI 1 = nI 0 by decide)]
          rw [if_pos rfl] at hJ
          refine ⟨t_kd hA2, _, _, ei, ?_⟩
          rw [hc, if_neg (by decide), nI_add]
          have key2 := z_forI (G := G) (d := d + 6) (μ := m_X12_symmetries z_puC) (r := (.inl (some (.int (nI (c_syA S).1))), z_rs h M F (z_u (z_u (z_u A 6 (c_by S (A 6))) 7 (arrI 8 (c_syA S).2 (A 7))) 5 (arrI S.1 (plast S.1) (A 5))))) (pc := 53) (α := Unit) (fun l _ => [some (.ref M), some (.int (nI (a.1 + 1))), none, some (.int (nI l))]) (fun l _ => z_rs h M F (z_u (z_u (z_u A 6 (c_by S (A 6))) 7 (arrI 8 (c_bec l N a.2) (A 7))) 5 (arrI S.1 N (A 5)))) (fun _ _ => True) (fun _ x => x) () S.1 trivial ?_ ?_
          · exact key2
          · intro l _ hl _
            refine ⟨trivial, fun hJ2 => b_X12_symmetries_53 z_puCV ?_⟩
            have hA3 := at_rs (F := F) (A := z_u (z_u (z_u A 6 (c_by S (A 6))) 7 (arrI 8 (c_bec l N a.2) (A 7))) 5 (arrI S.1 N (A 5))) (S := S) hM (by rw [e71]; exact hR) (by rw [e71]; exact hS)
            have n8 := hN8 l hl
            rw [t_n hA3]
            simp (disch := omega) only [l0, l1, l2, l3, l4, l5, l6, l7, l8, l9, l10, l11, l12, l13, l14, l15, l16, l18, l20, l22, l24, l30, l31, l39, l40, l48, l60, l154, l255, l256, l400, l2000, l6160, l14000, lm1, q_lt, q_le, q_eq, q_mI, q_mI', q_ltmI, q_in, q_bz0, q_bz1, q_bzn0, q_bzn1, q_bzb, q_bn0, q_bn1, q_shr, q_shl, q_1s, b_one, b_two, fa_and, fa_or, nI_add, n_mul, nI_clamp, z_rcs, true_and, and_true, if_true, if_false, rs_ai, rs_oi, rs_pai, rs_poi, rs_pax, rs_kd, rs_ln, rs_or, u_eq, u_ne, hl, t_spoints hA3, sh_kd hM, (sh_becomes hM).1, (sh_becomes hM).2.1, (sh_becomes hM).2.2, (sh_naming hM).1, (sh_naming hM).2.1, (sh_naming hM).2.2, arrI_in]
            rw [u_mid _ _ _ _ (by omega), arrI_bec N a.2 (A 7) (by omega)]
            exact hJ2
          · intro _
            refine b_X12_symmetries_53 z_puCV ?_
            have hA3 := at_rs (F := F) (A := z_u (z_u (z_u A 6 (c_by S (A 6))) 7 (arrI 8 (c_bec S.1 N a.2) (A 7))) 5 (arrI S.1 N (A 5))) (S := S) hM (by rw [e71]; exact hR) (by rw [e71]; exact hS)
            rw [t_n hA3, if_neg (show ¬ nI S.1 < nI S.1 from nI_nlt (Nat.le_refl _) (by omega))]
            exact ⟨t_kd hA3, hA3.1, t_kd hA3, hA3.1, t_kd hA3, _, _, e_nextM hM hn.1 hn.2 hN8 hx, hJ⟩
    · intro _
      refine b_X12_symmetries_37 z_puCV ?_
      rw [if_pos rfl]
      rfl
end CN
