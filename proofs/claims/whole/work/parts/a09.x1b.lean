theorem en_X1_init {pu : Nat → Option ((List Value → z_H → Prop) × (List Value → z_H → Int32))} {G : z_G} {d : Nat} {r : z_Res} {h : z_H} {x0 : Nat} {x1 : Nat} {x2 : Nat} {x3 : Nat} (hJ : z_J G d (m_X1_init pu) r 0 [some (.ref x0), some (.ref x1), some (.ref x2), some (.ref x3)] [] h) : z_Ev G d k_X1_init [.ref x0, .ref x1, .ref x2, .ref x3] h r := z_enter (μ := m_X1_init pu) rfl (by decide) rfl rfl (fun _ => rfl) (Nat.le_of_ble_eq_true rfl) hJ
def hd_X1_init : Nat → Option (List Bool) := (fun k => none)
set_option maxRecDepth 20000 in
theorem b_X1_init_0 {G : z_G} {d : Nat} {r : z_Res} (hPu : z_PuV G d (t_X1 z_pu0)) {h : z_H} {x0 : Nat} {x1 : Nat} {x2 : Nat} {x3 : Nat} (hT : (z_kd h x0 = 17 ∧ (z_kd (z_por h x0 0 (some x1)) x0 = 17 ∧ (z_kd (z_por (z_por h x0 0 (some x1)) x0 1 (some x2)) x0 = 17 ∧ r = (.inl none, z_por (z_por (z_por h x0 0 (some x1)) x0 1 (some x2)) x0 2 (some x3)))))) : (z_J G (d + 1) (m_X1_init z_pu0) r) 0 [some (.ref x0), some (.ref x1), some (.ref x2), some (.ref x3)] [] h := z_bq (v_X1 z_pu0 (vP_X1_init z_pu0) hPu) hd_X1_init 14 hT
theorem en_X1_with {pu : Nat → Option ((List Value → z_H → Prop) × (List Value → z_H → Int32))} {G : z_G} {d : Nat} {r : z_Res} {h : z_H} {x0 : Nat} {x1 : Nat} (hJ : z_J G d (m_X1_with pu) r 0 [some (.ref x0), some (.ref x1)] [] h) : z_Ev G d k_X1_with [.ref x0, .ref x1] h r := z_enter (μ := m_X1_with pu) rfl (by decide) rfl rfl (fun q => by cases q) (Nat.le_of_ble_eq_true rfl) hJ
def hd_X1_with : Nat → Option (List Bool) := (fun k => none)
set_option maxRecDepth 20000 in
theorem b_X1_with_0 {G : z_G} {d : Nat} {r : z_Res} (hPu : z_PuV G d (t_X1 z_pu0)) {h : z_H} {x0 : Nat} {x1 : Nat} (hT : (z_kd (z_nwo h 1 3) x0 = 17 ∧ (z_rc (z_or (z_nwo h 1 3) x0 1) (z_kd (z_nwo h 1 3) x0 = 17 ∧ (z_rc (z_or (z_nwo h 1 3) x0 2) (∃ h_3, z_Ev G d k_X1_init [.ref (z_n h), .ref x1, .null, .null] (z_nwo h 1 3) (.inl none, h_3) ∧ r = (.inl (some (va_rf (some (z_n h)))), h_3)) (fun x_2 => (∃ h_4, z_Ev G d k_X1_init [.ref (z_n h), .ref x1, .null, .ref x_2] (z_nwo h 1 3) (.inl none, h_4) ∧ r = (.inl (some (va_rf (some (z_n h)))), h_4))))) (fun x_1 => (z_kd (z_nwo h 1 3) x0 = 17 ∧ (z_rc (z_or (z_nwo h 1 3) x0 2) (∃ h_6, z_Ev G d k_X1_init [.ref (z_n h), .ref x1, .ref x_1, .null] (z_nwo h 1 3) (.inl none, h_6) ∧ r = (.inl (some (va_rf (some (z_n h)))), h_6)) (fun x_5 => (∃ h_7, z_Ev G d k_X1_init [.ref (z_n h), .ref x1, .ref x_1, .ref x_5] (z_nwo h 1 3) (.inl none, h_7) ∧ r = (.inl (some (va_rf (some (z_n h)))), h_7))))))))) : (z_J G (d + 1) (m_X1_with z_pu0) r) 0 [some (.ref x0), some (.ref x1)] [] h := z_bq (v_X1 z_pu0 (vP_X1_with z_pu0) hPu) hd_X1_with 11 hT
theorem en_X1_placed {pu : Nat → Option ((List Value → z_H → Prop) × (List Value → z_H → Int32))} {G : z_G} {d : Nat} {r : z_Res} {h : z_H} {x0 : Nat} {x1 : Int32} {x2 : Int32} {x3 : Int32} (hJ : z_J G d (m_X1_placed pu) r 0 [some (.ref x0), some (.int x1), some (.int x2), some (.int x3), none, none] [] h) : z_Ev G d k_X1_placed [.ref x0, .int x1, .int x2, .int x3] h r := z_enter (μ := m_X1_placed pu) rfl (by decide) rfl rfl (fun q => by cases q) (Nat.le_of_ble_eq_true rfl) hJ
def hd_X1_placed : Nat → Option (List Bool) := (fun k => none)
set_option maxRecDepth 20000 in
theorem b_X1_placed_0 {G : z_G} {d : Nat} {r : z_Res} (hPu : z_PuV G d (t_X1 z_pu0)) {h : z_H} {x0 : Nat} {x1 : Int32} {x2 : Int32} {x3 : Int32} (hT : (z_kd h x0 = 17 ∧ (z_rc (z_or h x0 1) False (fun x_1 => (z_kd h x_1 = 1 ∧ (z_kd (z_nwi h 1 (z_ln h x_1) (z_ai h x_1)) (z_n h) = 1 ∧ (z_kd (z_nwi h 1 (z_ln h x_1) (z_ai h x_1)) x0 = 17 ∧ (z_rc (z_or (z_nwi h 1 (z_ln h x_1) (z_ai h x_1)) x0 2) False (fun x_2 => (z_kd (z_nwi h 1 (z_ln h x_1) (z_ai h x_1)) x_2 = 1 ∧ (z_kd (z_nwi (z_nwi h 1 (z_ln h x_1) (z_ai h x_1)) 1 (z_ln (z_nwi h 1 (z_ln h x_1) (z_ai h x_1)) x_2) (z_ai (z_nwi h 1 (z_ln h x_1) (z_ai h x_1)) x_2)) (z_n (z_nwi h 1 (z_ln h x_1) (z_ai h x_1))) = 1 ∧ (z_kd (z_nwi (z_nwi h 1 (z_ln h x_1) (z_ai h x_1)) 1 (z_ln (z_nwi h 1 (z_ln h x_1) (z_ai h x_1)) x_2) (z_ai (z_nwi h 1 (z_ln h x_1) (z_ai h x_1)) x_2)) (z_n h) = 1 ∧ vp_in x1 (z_ln (z_nwi (z_nwi h 1 (z_ln h x_1) (z_ai h x_1)) 1 (z_ln (z_nwi h 1 (z_ln h x_1) (z_ai h x_1)) x_2) (z_ai (z_nwi h 1 (z_ln h x_1) (z_ai h x_1)) x_2)) (z_n h)) ∧ (z_kd (z_pai (z_nwi (z_nwi h 1 (z_ln h x_1) (z_ai h x_1)) 1 (z_ln (z_nwi h 1 (z_ln h x_1) (z_ai h x_1)) x_2) (z_ai (z_nwi h 1 (z_ln h x_1) (z_ai h x_1)) x_2)) (z_n h) (Int32.toNatClampNeg x1) x2) (z_n (z_nwi h 1 (z_ln h x_1) (z_ai h x_1))) = 1 ∧ vp_in x1 (z_ln (z_pai (z_nwi (z_nwi h 1 (z_ln h x_1) (z_ai h x_1)) 1 (z_ln (z_nwi h 1 (z_ln h x_1) (z_ai h x_1)) x_2) (z_ai (z_nwi h 1 (z_ln h x_1) (z_ai h x_1)) x_2)) (z_n h) (Int32.toNatClampNeg x1) x2) (z_n (z_nwi h 1 (z_ln h x_1) (z_ai h x_1)))) ∧ (z_kd (z_nwo (z_pai (z_pai (z_nwi (z_nwi h 1 (z_ln h x_1) (z_ai h x_1)) 1 (z_ln (z_nwi h 1 (z_ln h x_1) (z_ai h x_1)) x_2) (z_ai (z_nwi h 1 (z_ln h x_1) (z_ai h x_1)) x_2)) (z_n h) (Int32.toNatClampNeg x1) x2) (z_n (z_nwi h 1 (z_ln h x_1) (z_ai h x_1))) (Int32.toNatClampNeg x1) x3) 1 3) x0 = 17 ∧ (z_rc (z_or (z_nwo (z_pai (z_pai (z_nwi (z_nwi h 1 (z_ln h x_1) (z_ai h x_1)) 1 (z_ln (z_nwi h 1 (z_ln h x_1) (z_ai h x_1)) x_2) (z_ai (z_nwi h 1 (z_ln h x_1) (z_ai h x_1)) x_2)) (z_n h) (Int32.toNatClampNeg x1) x2) (z_n (z_nwi h 1 (z_ln h x_1) (z_ai h x_1))) (Int32.toNatClampNeg x1) x3) 1 3) x0 0) (∃ h_4, z_Ev G d k_X1_init [.ref (z_n (z_pai (z_pai (z_nwi (z_nwi h 1 (z_ln h x_1) (z_ai h x_1)) 1 (z_ln (z_nwi h 1 (z_ln h x_1) (z_ai h x_1)) x_2) (z_ai (z_nwi h 1 (z_ln h x_1) (z_ai h x_1)) x_2)) (z_n h) (Int32.toNatClampNeg x1) x2) (z_n (z_nwi h 1 (z_ln h x_1) (z_ai h x_1))) (Int32.toNatClampNeg x1) x3)), .null, .ref (z_n h), .ref (z_n (z_nwi h 1 (z_ln h x_1) (z_ai h x_1)))] (z_nwo (z_pai (z_pai (z_nwi (z_nwi h 1 (z_ln h x_1) (z_ai h x_1)) 1 (z_ln (z_nwi h 1 (z_ln h x_1) (z_ai h x_1)) x_2) (z_ai (z_nwi h 1 (z_ln h x_1) (z_ai h x_1)) x_2)) (z_n h) (Int32.toNatClampNeg x1) x2) (z_n (z_nwi h 1 (z_ln h x_1) (z_ai h x_1))) (Int32.toNatClampNeg x1) x3) 1 3) (.inl none, h_4) ∧ r = (.inl (some (va_rf (some (z_n (z_pai (z_pai (z_nwi (z_nwi h 1 (z_ln h x_1) (z_ai h x_1)) 1 (z_ln (z_nwi h 1 (z_ln h x_1) (z_ai h x_1)) x_2) (z_ai (z_nwi h 1 (z_ln h x_1) (z_ai h x_1)) x_2)) (z_n h) (Int32.toNatClampNeg x1) x2) (z_n (z_nwi h 1 (z_ln h x_1) (z_ai h x_1))) (Int32.toNatClampNeg x1) x3))))), h_4)) (fun x_3 => (∃ h_5, z_Ev G d k_X1_init [.ref (z_n (z_pai (z_pai (z_nwi (z_nwi h 1 (z_ln h x_1) (z_ai h x_1)) 1 (z_ln (z_nwi h 1 (z_ln h x_1) (z_ai h x_1)) x_2) (z_ai (z_nwi h 1 (z_ln h x_1) (z_ai h x_1)) x_2)) (z_n h) (Int32.toNatClampNeg x1) x2) (z_n (z_nwi h 1 (z_ln h x_1) (z_ai h x_1))) (Int32.toNatClampNeg x1) x3)), .ref x_3, .ref (z_n h), .ref (z_n (z_nwi h 1 (z_ln h x_1) (z_ai h x_1)))] (z_nwo (z_pai (z_pai (z_nwi (z_nwi h 1 (z_ln h x_1) (z_ai h x_1)) 1 (z_ln (z_nwi h 1 (z_ln h x_1) (z_ai h x_1)) x_2) (z_ai (z_nwi h 1 (z_ln h x_1) (z_ai h x_1)) x_2)) (z_n h) (Int32.toNatClampNeg x1) x2) (z_n (z_nwi h 1 (z_ln h x_1) (z_ai h x_1))) (Int32.toNatClampNeg x1) x3) 1 3) (.inl none, h_5) ∧ r = (.inl (some (va_rf (some (z_n (z_pai (z_pai (z_nwi (z_nwi h 1 (z_ln h x_1) (z_ai h x_1)) 1 (z_ln (z_nwi h 1 (z_ln h x_1) (z_ai h x_1)) x_2) (z_ai (z_nwi h 1 (z_ln h x_1) (z_ai h x_1)) x_2)) (z_n h) (Int32.toNatClampNeg x1) x2) (z_n (z_nwi h 1 (z_ln h x_1) (z_ai h x_1))) (Int32.toNatClampNeg x1) x3))))), h_5)))))))))))))))))) : (z_J G (d + 1) (m_X1_placed z_pu0) r) 0 [some (.ref x0), some (.int x1), some (.int x2), some (.int x3), none, none] [] h := z_bq (v_X1 z_pu0 (vP_X1_placed z_pu0) hPu) hd_X1_placed 28 hT
theorem en_X1_swapped {pu : Nat → Option ((List Value → z_H → Prop) × (List Value → z_H → Int32))} {G : z_G} {d : Nat} {r : z_Res} {h : z_H} {x0 : Nat} {x1 : Int32} {x2 : Int32} (hJ : z_J G d (m_X1_swapped pu) r 0 [some (.ref x0), some (.int x1), some (.int x2), none, none, none, none] [] h) : z_Ev G d k_X1_swapped [.ref x0, .int x1, .int x2] h r := z_enter (μ := m_X1_swapped pu) rfl (by decide) rfl rfl (fun q => by cases q) (Nat.le_of_ble_eq_true rfl) hJ
def hd_X1_swapped : Nat → Option (List Bool) := (fun k => (cond (Nat.blt k 137) (cond (Nat.beq k 26) (some [true, true, true, true, true, true, false]) none) none))
set_option maxRecDepth 20000 in
theorem b_X1_swapped_0 {G : z_G} {d : Nat} {r : z_Res} (hPu : z_PuV G d (t_X1 z_pu0)) {h : z_H} {x0 : Nat} {x1 : Int32} {x2 : Int32} (hT : (z_kd h x0 = 17 ∧ (z_rc (z_or h x0 0) False (fun x_1 => (z_kd h x_1 = 24 ∧ (z_rc (z_or h x_1 2) False (fun x_2 => (z_kd h x_2 = 1 ∧ (z_kd (z_nwi h 1 (z_ln h x_2) (z_ai h x_2)) (z_n h) = 1 ∧ (z_J G (d + 1) (m_X1_swapped z_pu0) r) 26 [some (.ref x0), some (.int x1), some (.int x2), some (.int (((nI 1) <<< (x1 &&& (nI 31))) ||| ((nI 1) <<< (x2 &&& (nI 31))))), some (.ref (z_n h)), some (.int (nI 0)), none] [] (z_nwi h 1 (z_ln h x_2) (z_ai h x_2))))))))))) : (z_J G (d + 1) (m_X1_swapped z_pu0) r) 0 [some (.ref x0), some (.int x1), some (.int x2), none, none, none, none] [] h := z_bq (v_X1 z_pu0 (vP_X1_swapped z_pu0) hPu) hd_X1_swapped 19 hT
set_option maxRecDepth 20000 in
theorem b_X1_swapped_26 {G : z_G} {d : Nat} {r : z_Res} (hPu : z_PuV G d (t_X1 z_pu0)) {h : z_H} {x0 : Nat} {x1 : Int32} {x2 : Int32} {x3 : Int32} {x4 : Nat} {x5 : Int32} (hT : (z_kd h x0 = 17 ∧ (z_rc (z_or h x0 0) False (fun x_1 => (z_kd h x_1 = 24 ∧ (if x5 < (z_oi h x_1 1) then (z_kd h x4 = 1 ∧ vp_in x5 (z_ln h x4) ∧ (if ((z_ai h x4 (Int32.toNatClampNeg x5)) &&& x3) = (nI 0) then (z_J G (d + 1) (m_X1_swapped z_pu0) r) 26 [some (.ref x0), some (.int x1), some (.int x2), some (.int x3), some (.ref x4), some (.int (x5 + (nI 1))), none] [] h else (if ((z_ai h x4 (Int32.toNatClampNeg x5)) &&& x3) = x3 then (z_J G (d + 1) (m_X1_swapped z_pu0) r) 26 [some (.ref x0), some (.int x1), some (.int x2), some (.int x3), some (.ref x4), some (.int (x5 + (nI 1))), none] [] h else (z_kd h x4 = 1 ∧ vp_in x5 (z_ln h x4) ∧ (z_kd h x4 = 1 ∧ vp_in x5 (z_ln h x4) ∧ (z_J G (d + 1) (m_X1_swapped z_pu0) r) 26 [some (.ref x0), some (.int x1), some (.int x2), some (.int x3), some (.ref x4), some (.int (x5 + (nI 1))), none] [] (z_pai h x4 (Int32.toNatClampNeg x5) ((z_ai h x4 (Int32.toNatClampNeg x5)) ^^^ x3))))))) else (z_kd h x0 = 17 ∧ (z_rc (z_or h x0 1) False (fun x_2 => (z_kd h x_2 = 1 ∧ vp_in x2 (z_ln h x_2) ∧ (z_kd h x0 = 17 ∧ (z_rc (z_or h x0 2) False (fun x_3 => (z_kd h x_3 = 1 ∧ vp_in x2 (z_ln h x_3) ∧ (z_kd h x0 = 17 ∧ ∃ o_5 h_4, z_Ev G d k_X1_placed [.ref x0, .int x1, .int (z_ai h x_2 (Int32.toNatClampNeg x2)), .int (z_ai h x_3 (Int32.toNatClampNeg x2))] h (.inl (some (va_rf o_5)), h_4) ∧ (z_rc o_5 (z_kd h_4 x0 = 17 ∧ (z_rc (z_or h_4 x0 1) False (fun x_7 => (z_kd h_4 x_7 = 1 ∧ vp_in x1 (z_ln h_4 x_7) ∧ (z_kd h_4 x0 = 17 ∧ (z_rc (z_or h_4 x0 2) False (fun x_8 => (z_kd h_4 x_8 = 1 ∧ vp_in x1 (z_ln h_4 x_8) ∧ False)))))))) (fun x_6 => (z_kd h_4 x0 = 17 ∧ (z_rc (z_or h_4 x0 1) False (fun x_9 => (z_kd h_4 x_9 = 1 ∧ vp_in x1 (z_ln h_4 x_9) ∧ (z_kd h_4 x0 = 17 ∧ (z_rc (z_or h_4 x0 2) False (fun x_10 => (z_kd h_4 x_10 = 1 ∧ vp_in x1 (z_ln h_4 x_10) ∧ (z_kd h_4 x_6 = 17 ∧ ∃ o_12 h_11, z_Ev G d k_X1_placed [.ref x_6, .int x2, .int (z_ai h_4 x_9 (Int32.toNatClampNeg x1)), .int (z_ai h_4 x_10 (Int32.toNatClampNeg x1))] h_4 (.inl (some (va_rf o_12)), h_11) ∧ (z_rc o_12 (z_kd (z_nwo h_11 8 15) x0 = 17 ∧ (z_rc (z_or (z_nwo h_11 8 15) x0 0) False (fun x_14 => (z_kd (z_nwo h_11 8 15) x_14 = 24 ∧ (z_kd (z_nwo h_11 8 15) x0 = 17 ∧ (z_rc (z_or (z_nwo h_11 8 15) x0 0) False (fun x_15 => (z_kd (z_nwo h_11 8 15) x_15 = 24 ∧ (∃ h_16, z_Ev G d k_X8_init [.ref (z_n h_11), .int (z_oi (z_nwo h_11 8 15) x_14 0), .ref x4, .int (z_oi (z_nwo h_11 8 15) x_15 1)] (z_nwo h_11 8 15) (.inl none, h_16) ∧ False))))))))) (fun x_13 => (z_kd (z_nwo h_11 8 15) x0 = 17 ∧ (z_rc (z_or (z_nwo h_11 8 15) x0 0) False (fun x_17 => (z_kd (z_nwo h_11 8 15) x_17 = 24 ∧ (z_kd (z_nwo h_11 8 15) x0 = 17 ∧ (z_rc (z_or (z_nwo h_11 8 15) x0 0) False (fun x_18 => (z_kd (z_nwo h_11 8 15) x_18 = 24 ∧ (∃ h_19, z_Ev G d k_X8_init [.ref (z_n h_11), .int (z_oi (z_nwo h_11 8 15) x_17 0), .ref x4, .int (z_oi (z_nwo h_11 8 15) x_18 1)] (z_nwo h_11 8 15) (.inl none, h_19) ∧ (z_kd h_19 x_13 = 17 ∧ ∃ o_21 h_20, z_Ev G d k_X1_with [.ref x_13, .ref (z_n h_11)] h_19 (.inl (some (va_rf o_21)), h_20) ∧ (z_rc o_21 (r = (.inl (some (va_rf none)), h_20)) (fun x_22 => r = (.inl (some (va_rf (some x_22))), h_20))))))))))))))))))))))))))))))))))))))))) : (z_J G (d + 1) (m_X1_swapped z_pu0) r) 26 [some (.ref x0), some (.int x1), some (.int x2), some (.int x3), some (.ref x4), some (.int x5), none] [] h := z_bq (v_X1 z_pu0 (vP_X1_swapped z_pu0) hPu) hd_X1_swapped 42 hT
theorem en_X1_shrunk {pu : Nat → Option ((List Value → z_H → Prop) × (List Value → z_H → Int32))} {G : z_G} {d : Nat} {r : z_Res} {h : z_H} {x0 : Nat} (hJ : z_J G d (m_X1_shrunk pu) r 0 [some (.ref x0), none, none, none, none] [] h) : z_Ev G d k_X1_shrunk [.ref x0] h r := z_enter (μ := m_X1_shrunk pu) rfl (by decide) rfl rfl (fun q => by cases q) (Nat.le_of_ble_eq_true rfl) hJ
def hd_X1_shrunk : Nat → Option (List Bool) := (fun k => (cond (Nat.blt k 92) (cond (Nat.beq k 20) (some [true, true, true, true, true]) none) none))
set_option maxRecDepth 20000 in
theorem b_X1_shrunk_0 {G : z_G} {d : Nat} {r : z_Res} (hPu : z_PuV G d (t_X1 z_pu0)) {h : z_H} {x0 : Nat} (hT : (z_kd h x0 = 17 ∧ (z_rc (z_or h x0 0) False (fun x_1 => (z_kd h x_1 = 24 ∧ (¬ (nI 12) < 0 ∧ Int32.toNatClampNeg (nI 12) ≤ 1000000 ∧ (z_J G (d + 1) (m_X1_shrunk z_pu0) r) 20 [some (.ref x0), some (.int ((z_oi h x_1 0) - (nI 1))), some (.ref (z_n h)), some (.int (nI 0)), some (.int (nI 0))] [] (z_nwi h 1 (Int32.toNatClampNeg (nI 12)) (fun _ => 0)))))))) : (z_J G (d + 1) (m_X1_shrunk z_pu0) r) 0 [some (.ref x0), none, none, none, none] [] h := z_bq (v_X1 z_pu0 (vP_X1_shrunk z_pu0) hPu) hd_X1_shrunk 16 hT
set_option maxRecDepth 20000 in
theorem b_X1_shrunk_20 {G : z_G} {d : Nat} {r : z_Res} (hPu : z_PuV G d (t_X1 z_pu0)) {h : z_H} {x0 : Nat} {x1 : Int32} {x2 : Nat} {x3 : Int32} {x4 : Int32} (hT : (z_kd h x0 = 17 ∧ (z_rc (z_or h x0 0) False (fun x_1 => (z_kd h x_1 = 24 ∧ (if x4 < (z_oi h x_1 1) then (z_kd h x0 = 17 ∧ (z_rc (z_or h x0 0) False (fun x_2 => (z_kd h x_2 = 24 ∧ (z_rc (z_or h x_2 2) False (fun x_3 => (z_kd h x_3 = 1 ∧ vp_in x4 (z_ln h x_3) ∧ (if (((z_ai h x_3 (Int32.toNatClampNeg x4)) >>> (x1 &&& (nI 31))) &&& (nI 1)) = (nI 0) then (z_kd h x0 = 17 ∧ (z_rc (z_or h x0 0) False (fun x_4 => (z_kd h x_4 = 24 ∧ (z_rc (z_or h x_4 2) False (fun x_5 => (z_kd h x_5 = 1 ∧ vp_in x4 (z_ln h x_5) ∧ (z_kd h x2 = 1 ∧ vp_in x3 (z_ln h x2) ∧ (z_J G (d + 1) (m_X1_shrunk z_pu0) r) 20 [some (.ref x0), some (.int x1), some (.ref x2), some (.int (x3 + (nI 1))), some (.int (x4 + (nI 1)))] [] (z_pai h x2 (Int32.toNatClampNeg x3) (z_ai h x_5 (Int32.toNatClampNeg x4))))))))))) else (z_J G (d + 1) (m_X1_shrunk z_pu0) r) 20 [some (.ref x0), some (.int x1), some (.ref x2), some (.int x3), some (.int (x4 + (nI 1)))] [] h)))))))) else (z_kd h x0 = 17 ∧ ∃ o_7 h_6, z_Ev G d k_X1_placed [.ref x0, .int x1, .int (nI 0), .int (nI 0)] h (.inl (some (va_rf o_7)), h_6) ∧ (z_rc o_7 (∃ h_9, z_Ev G d k_X8_init [.ref (z_n h_6), .int x1, .ref x2, .int x3] (z_nwo h_6 8 15) (.inl none, h_9) ∧ False) (fun x_8 => (∃ h_10, z_Ev G d k_X8_init [.ref (z_n h_6), .int x1, .ref x2, .int x3] (z_nwo h_6 8 15) (.inl none, h_10) ∧ (z_kd h_10 x_8 = 17 ∧ ∃ o_12 h_11, z_Ev G d k_X1_with [.ref x_8, .ref (z_n h_6)] h_10 (.inl (some (va_rf o_12)), h_11) ∧ (z_rc o_12 (r = (.inl (some (va_rf none)), h_11)) (fun x_13 => r = (.inl (some (va_rf (some x_13))), h_11)))))))))))))) : (z_J G (d + 1) (m_X1_shrunk z_pu0) r) 20 [some (.ref x0), some (.int x1), some (.ref x2), some (.int x3), some (.int x4)] [] h := z_bq (v_X1 z_pu0 (vP_X1_shrunk z_pu0) hPu) hd_X1_shrunk 29 hT
/-! THE CARDS: made, never changed -/
/-- a card -/
def cdk (L : Nat) (h : z_H) (c : Nat) (cd : Cd) : Prop := ∃ q b u v, cd_at c q b u v h cd ∧ fr L h c ∧ fr L h u ∧ fr L h v
section HD
variable {V : CV} {G : z_G} {d L c q b u v s s' cc : Nat} {h h0 h' : z_H} {S : Sc} {cd : Cd} {X : Nat → Prop}
theorem inv_same (hI : inv V L h) (hn : z_n h' = z_n h) (kd : z_kd h' = z_kd h) (ln : z_ln h' = z_ln h) (ai : z_ai h' = z_ai h) (o : ∀ q, z_kd h q = 24 → z_or h' q = z_or h q ∧ z_oi h' q = z_oi h q) (r : ∀ a, z_kd h a = 6 → z_ar h' a = z_ar h a) : inv V L h' := by
  have hb : ∀ q b, bl h' q b → bl h q b := fun q b hb => by
    have k : z_kd h q = 24 := by rw [← kd]; exact hb.1
    exact ⟨k, by rw [← (o q k).1]; exact hb.2⟩
  have hfr : ∀ a, fr L h a → fr L h' a := fun a ha => ⟨by rw [hn]; exact ha.1, ha.2.1, fun q b hq => ha.2.2 q b (hb q b hq)⟩
  have hca : ∀ {S : Sc} {k : Nat} {o : Option Nat}, ca V L h S k o → ca V L h' S k o := fun hc a ha => by
    obtain ⟨c1, c2, c3, c4⟩ := hc a ha
    exact ⟨hfr a c1, by rw [kd]; exact c2, by rw [ln]; exact c3, fun i hi => by rw [ai]; exact c4 i hi⟩
  have hsc : ∀ {q b : Nat} {S : Sc}, sc_at q b h S → sc_at q b h' S := fun {q b S} hA => sc_at_of hA (fun _ _ => ⟨by rw [kd], by rw [ln]⟩) (o q (y_kd hA)).2 (fun k _ => by rw [(o q (y_kd hA)).1]) (fun j _ _ _ => by rw [ai])
  intro q hq
  rw [kd] at hq
  obtain ⟨b, S, hA, hbk, hd, k1, k2, k3, k4⟩ := hI q hq
  have oq := (o q hq).1
  have ar4 := r (b + 4) hd.2.1
  refine ⟨b, S, hsc hA, ⟨hbk.1, by rw [hn]; exact hbk.2.1, fun a h1 h2 => by rw [kd]; exact hbk.2.2.1 a h1 h2, hbk.2.2.2⟩, ⟨by rw [oq]; exact hd.1, by rw [kd]; exact hd.2.1, by rw [ln]; exact hd.2.2⟩, fun k hk => by rw [oq]; exact hca (k1 k hk), fun i hi => by rw [ar4]; exact hca (k2 i hi), fun hnn => by rw [ai]; rw [oq] at hnn; exact k3 hnn, fun q' hq' => ?_⟩
  rw [oq] at hq'
  obtain ⟨b', t, ht, hA'⟩ := k4 q' hq'
  exact ⟨b', t, ht, hsc hA'⟩
theorem inv_wor {x k : Nat} {w : Option Nat} (hI : inv V L h) (hx : z_kd h x ≠ 24) : inv V L (z_por h x k w) := inv_same hI rfl rfl rfl rfl (fun q hq => ⟨u_ne _ _ (fun e => hx (e ▸ hq)), rfl⟩) (fun _ _ => rfl)
theorem inv_woi {x k : Nat} {w : Int32} (hI : inv V L h) (hx : z_kd h x ≠ 24) : inv V L (z_poi h x k w) := inv_same hI rfl rfl rfl rfl (fun q hq => ⟨rfl, u_ne _ _ (fun e => hx (e ▸ hq))⟩) (fun _ _ => rfl)
theorem inv_war {x k : Nat} {w : Option Nat} (hI : inv V L h) (hx : z_kd h x ≠ 6) : inv V L (z_par h x k w) := inv_same hI rfl rfl rfl rfl (fun q hq => ⟨rfl, rfl⟩) (fun a ha => u_ne _ _ (fun e => hx (e ▸ ha)))
theorem ex_wor {x k : Nat} {w : Option Nat} (e : ex X cc s h0 h) (hx : z_n h0 ≤ x) : ex X cc s h0 (z_por h x k w) := ⟨e.1, fun a ha => ⟨(e.2 a ha).1, (e.2 a ha).2.1, fun hX => ⟨((e.2 a ha).2.2 hX).1, ((e.2 a ha).2.2 hX).2.1, fun j => by
  rcases ((e.2 a ha).2.2 hX).2.2.1 j with c | c
  · exact Or.inl c
  · right; rw [← c]; show z_u (z_or h) x _ a j = _; rw [u_ne _ _ (by omega)], ((e.2 a ha).2.2 hX).2.2.2⟩⟩⟩
theorem ex_woi {x k : Nat} {w : Int32} (e : ex X cc s h0 h) (hx : z_n h0 ≤ x) : ex X cc s h0 (z_poi h x k w) := ⟨e.1, fun a ha => ⟨(e.2 a ha).1, (e.2 a ha).2.1, fun hX => ⟨by rw [← ((e.2 a ha).2.2 hX).1]; exact u_ne _ _ (by omega), ((e.2 a ha).2.2 hX).2.1, ((e.2 a ha).2.2 hX).2.2.1, ((e.2 a ha).2.2 hX).2.2.2⟩⟩⟩
theorem ex_war {x k : Nat} {w : Option Nat} (e : ex X cc s h0 h) (hx : z_n h0 ≤ x) : ex X cc s h0 (z_par h x k w) := ⟨e.1, fun a ha => ⟨(e.2 a ha).1, (e.2 a ha).2.1, fun hX => ⟨((e.2 a ha).2.2 hX).1, ((e.2 a ha).2.2 hX).2.1, ((e.2 a ha).2.2 hX).2.2.1, by
  rcases ((e.2 a ha).2.2 hX).2.2.2 with c | c
  · exact Or.inl c
  · exact Or.inr ⟨c.1, by rw [← c.2]; exact u_ne _ _ (by omega)⟩⟩⟩⟩
theorem cdk_ex (hI : inv V L h) (hX : ∀ a, X a → hl L a) (e : ex X cc s h h') (hc : cdk L h c cd) : cdk L h' c cd := by
  obtain ⟨q, b, u, v, ⟨c1, c2, ⟨c3, c4, c5⟩, ⟨c6, c7, c8⟩, c9, c10⟩, f1, f2, f3⟩ := hc
  obtain ⟨g1, k1, -, -, o1, -⟩ := ex_fr hI hX e f1
  obtain ⟨g2, k2, l2, -, -, a2, -⟩ := ex_fr hI hX e f2
  obtain ⟨g3, k3, l3, -, -, a3, -⟩ := ex_fr hI hX e f3
  have o1' := o1 (by rw [c1]; decide)
  exact ⟨q, b, u, v, ⟨by rw [k1]; exact c1, by rw [o1']; exact c2, ⟨by rw [o1']; exact c3, by rw [k2]; exact c4, by rw [l2]; exact c5⟩, ⟨by rw [o1']; exact c6, by rw [k3]; exact c7, by rw [l3]; exact c8⟩, ex_sc hI hX e c9, fun p hp => by rw [a2, a3]; exact c10 p hp⟩, g1, g2, g3⟩
/-- the three fields of a card set -/
def crd (h : z_H) (c q u v : Nat) : z_H := z_por (z_por (z_por h c 0 (some q)) c 1 (some u)) c 2 (some v)
theorem e1_init (k1 : z_kd h c = 17) : z_Ev G (d + 4) k_X1_init [.ref c, .ref q, .ref u, .ref v] h (.inl none, crd h c q u v) := en_X1_init (b_X1_init_0 (z_pu0V rfl) ⟨k1, k1, k1, rfl⟩)
theorem crd_or (x j : Nat) (hx : x ≠ c) : z_or (crd h c q u v) x j = z_or h x j := by
  show z_u (z_u (z_u (z_or h) c _) c _) c _ x j = _
  rw [u_ne _ _ hx, u_ne _ _ hx, u_ne _ _ hx]
theorem crd_k (hI : inv V L h) (k1 : z_kd h c = 17) (fc : fr L h c) (fu : fr L h u) (fv : fr L h v) (ku : z_kd h u = 1 ∧ z_ln h u = 8) (kv : z_kd h v = 1 ∧ z_ln h v = 8) (hA : sc_at q b h cd.1) (hr : ∀ p, p < 8 → z_ai h u p = cd.2.1 p ∧ z_ai h v p = cd.2.2 p) : inv V L (crd h c q u v) ∧ cdk L (crd h c q u v) c cd := by
  have n24 : z_kd h c ≠ 24 := by rw [k1]; decide
  have i1 : inv V L (crd h c q u v) := inv_wor (inv_wor (inv_wor hI n24) n24) n24
  have hcq : q ≠ c := fun e => n24 (e ▸ y_kd hA)
  have hb : ∀ q' b', bl (crd h c q u v) q' b' → bl h q' b' := fun q' b' hb => ⟨hb.1, by rw [← crd_or (h := h) (c := c) (q := q) (u := u) (v := v) q' 5 (fun e => n24 (e ▸ hb.1))]; exact hb.2⟩
  have hfr : ∀ a, fr L h a → fr L (crd h c q u v) a := fun a ha => ⟨ha.1, ha.2.1, fun q' b' hq => ha.2.2 q' b' (hb q' b' hq)⟩
  refine ⟨i1, q, b, u, v, ⟨k1, ?_, ⟨?_, ku.1, ku.2⟩, ⟨?_, kv.1, kv.2⟩, ?_, hr⟩, hfr c fc, hfr u fu, hfr v fv⟩
  · show z_u (z_u (z_u (z_or h) c (z_u (z_or h c) 0 (some q))) c (z_u (z_u (z_or h) c (z_u (z_or h c) 0 (some q)) c) 1 (some u))) c (z_u (z_u (z_u (z_or h) c (z_u (z_or h c) 0 (some q))) c (z_u (z_u (z_or h) c (z_u (z_or h c) 0 (some q)) c) 1 (some u)) c) 2 (some v)) c 0 = _
    rw [u_eq, u_ne _ _ (by decide), u_eq, u_ne _ _ (by decide), u_eq, u_eq]
  · show z_u (z_u (z_u (z_or h) c (z_u (z_or h c) 0 (some q))) c (z_u (z_u (z_or h) c (z_u (z_or h c) 0 (some q)) c) 1 (some u))) c (z_u (z_u (z_u (z_or h) c (z_u (z_or h c) 0 (some q))) c (z_u (z_u (z_or h) c (z_u (z_or h c) 0 (some q)) c) 1 (some u)) c) 2 (some v)) c 1 = _
    rw [u_eq, u_ne _ _ (by decide), u_eq, u_eq]
  · show z_u (z_u (z_u (z_or h) c (z_u (z_or h c) 0 (some q))) c (z_u (z_u (z_or h) c (z_u (z_or h c) 0 (some q)) c) 1 (some u))) c (z_u (z_u (z_u (z_or h) c (z_u (z_or h c) 0 (some q))) c (z_u (z_u (z_or h) c (z_u (z_or h c) 0 (some q)) c) 1 (some u)) c) 2 (some v)) c 2 = _
    rw [u_eq, u_eq]
  · exact sc_at_of hA (fun _ _ => ⟨rfl, rfl⟩) rfl (fun k _ => crd_or q k hcq) (fun _ _ _ _ => rfl)
theorem crd_ex (e : ex X cc s h0 h) (hc : z_n h0 ≤ c) : ex X cc s h0 (crd h c q u v) := ex_wor (ex_wor (ex_wor e hc) hc) hc
/-- a new object that is no scheme -/
theorem nwo_k {ci N : Nat} (hI : inv V L h) (hL : L + 75 ≤ z_n h) (h8 : ci ≠ 8) (X : Nat → Prop) : inv V L (z_nwo h ci N) ∧ ex X 1 N h (z_nwo h ci N) ∧ fr L (z_nwo h ci N) (z_n h) ∧ z_kd (z_nwo h ci N) (z_n h) = 16 + ci := by
  have e : ∀ X : Nat → Prop, ex X 1 N h (z_nwo h ci N) := fun X => xt_ex (xt_nwo ci N h8) (Nat.le_refl _) (Nat.le_refl _)
  refine ⟨inv_xt (X := fun _ => False) hI (fun _ f => f.elim) (xt_nwo ci N h8), e X, ⟨Nat.lt_succ_self _, fun hh => by unfold hl at hh; omega, fun q' b' hb => ?_⟩, u_eq _ _ _⟩
  rcases ex_bl (X := fun _ => False) hI (fun _ f => f.elim) (e _) hb with c | c
  · obtain ⟨S', k'⟩ := inv_b hI c
    right; exact k'.2.1.2.1
  · have := inv_n hI c
    have hb1 := hb.1
    by_cases e : q' = z_n h
    · rw [e] at hb1
      have : z_kd (z_nwo h ci N) (z_n h) = 16 + ci := u_eq _ _ _
      omega
    · have : z_kd (z_nwo h ci N) q' = z_kd h q' := u_ne _ _ e
      omega
theorem e1_with (hX : ∀ a, X a → hl L a) (hI : inv V L h) (hL : L + 75 ≤ z_n h) (hc : cdk L h c cd) (hA : sc_at q b h S) : ∃ h', z_Ev G (d + 5) k_X1_with [.ref c, .ref q] h (.inl (some (va_rf (some (z_n h)))), h') ∧ inv V L h' ∧ ex X 1 3 h h' ∧ cdk L h' (z_n h) (S, cd.2) := by
  obtain ⟨I1, e1, f1, k1⟩ := nwo_k (ci := 1) (N := 3) hI hL (by decide) X
  have hc1 := cdk_ex hI hX e1 hc
  have A1 := ex_sc hI hX e1 hA
  obtain ⟨q0, b0, u, v, ⟨c1, c2, ⟨c3, c4, c5⟩, ⟨c6, c7, c8⟩, c9, c10⟩, g1, g2, g3⟩ := hc1
  have fin := crd_k (cd := (S, cd.2)) I1 k1 f1 g2 g3 ⟨c4, c5⟩ ⟨c7, c8⟩ A1 c10
  refine ⟨crd (z_nwo h 1 3) (z_n h) q u v, en_X1_with (b_X1_with_0 (z_pu0V rfl) ⟨c1, ?_⟩), fin.1, crd_ex e1 (Nat.le_refl _), fin.2⟩
  rw [c3, z_rcs, c6, z_rcs]
  exact ⟨c1, _, e1_init k1, rfl⟩
theorem nwi_pai2 (h : z_H) (t m t' m' : Nat) (f g : Nat → Int32) (k : Nat) (w : Int32) : z_pai (z_nwi (z_nwi h t m f) t' m' g) (z_n h) k w = z_nwi (z_nwi h t m (z_u f k w)) t' m' g := by
  have e : z_uu (z_u (z_u (z_ai h) (z_n h) f) (z_n h + 1) g) (z_n h) k w = z_u (z_u (z_ai h) (z_n h) (z_u f k w)) (z_n h + 1) g := by
    unfold z_uu
    rw [u_ne _ _ (by omega), u_eq, u_comm _ _ _ (by omega), u_u]
  show ((z_nwi (z_nwi h t m f) t' m' g).1, z_kd (z_nwi (z_nwi h t m f) t' m' g), z_ln (z_nwi (z_nwi h t m f) t' m' g), z_oi h, z_or h, z_uu (z_u (z_u (z_ai h) (z_n h) f) (z_n h + 1) g) (z_n h) k w, z_al h, z_ar h) = _
  rw [e]
  rfl
theorem e1_placed (hX : ∀ a, X a → hl L a) (hI : inv V L h) (hL : L + 75 ≤ z_n h) (hc : cdk L h c cd) {p : Nat} (hp : p < 8) (x y : Int32) : ∃ h' c', z_Ev G (d + 5) k_X1_placed [.ref c, .int (nI p), .int x, .int y] h (.inl (some (va_rf (some c'))), h') ∧ inv V L h' ∧ ex X 3 19 h h' ∧ cdk L h' c' (cd.1, z_u cd.2.1 p x, z_u cd.2.2 p y) := by
  have hc0 := hc
  obtain ⟨q, b, u, v, ⟨c1, c2, ⟨c3, c4, c5⟩, ⟨c6, c7, c8⟩, c9, c10⟩, g1, g2, g3⟩ := hc0
  obtain ⟨f, ef⟩ : ∃ f, f = z_u (z_ai h u) p x := ⟨_, rfl⟩
  obtain ⟨g, eg⟩ : ∃ g, g = z_u (z_ai h v) p y := ⟨_, rfl⟩
  obtain ⟨I1, e1⟩ := nw_k hI 8 f X
  have fr1 := nw_fr hI hL 8 f
  obtain ⟨h1, eh1⟩ : ∃ h1, h1 = z_nwi h 1 8 f := ⟨_, rfl⟩
  rw [← eh1] at I1 e1 fr1
  have n1 : z_n h1 = z_n h + 1 := by rw [eh1]; rfl
  obtain ⟨I2, e2⟩ := nw_k I1 8 g X
  have fr2 := nw_fr I1 (by omega) 8 g
  obtain ⟨h2, eh2⟩ : ∃ h2, h2 = z_nwi h1 1 8 g := ⟨_, rfl⟩
  rw [← eh2] at I2 e2 fr2
  have n2 : z_n h2 = z_n h + 2 := by rw [eh2]; show z_n h1 + 1 = _; omega
  have fr1' := ex_fr I1 hX e2 fr1
  obtain ⟨I3, e3, fr3, k3⟩ := nwo_k (ci := 1) (N := 3) I2 (by omega) (by decide) X
  have E2 := ex_trans hI I1 hX e1 e2
  have E3 := ex_trans hI I2 hX E2 e3
  have fru := ex_fr I2 hX e3 fr1'.1
  have frv := ex_fr I2 hX e3 fr2
  have hcc := cdk_ex hI hX E3 hc
  have A3 := ex_sc hI hX E3 c9
  have rowu : z_ai (z_nwo h2 1 3) (z_n h) = f := by rw [fru.2.2.2.2.2.1, fr1'.2.2.2.2.2.1, eh1]; exact nwi_ai _ _ _ _
  have rowv : z_ai (z_nwo h2 1 3) (z_n h1) = g := by rw [frv.2.2.2.2.2.1, eh2]; exact nwi_ai _ _ _ _
  have fin := crd_k (cd := (cd.1, z_u cd.2.1 p x, z_u cd.2.2 p y)) I3 k3 fr3 fru.1 frv.1 ⟨by rw [fru.2.1, fr1'.2.1, eh1]; exact nwi_kd _ _ _ _, by rw [fru.2.2.1, fr1'.2.2.1, eh1]; exact nwi_ln _ _ _ _⟩ ⟨by rw [frv.2.1, eh2]; exact nwi_kd _ _ _ _, by rw [frv.2.2.1, eh2]; exact nwi_ln _ _ _ _⟩ A3 (fun i hi => by
    rw [rowu, rowv, ef, eg]
    constructor
    · show z_u (z_ai h u) p x i = z_u cd.2.1 p x i
      by_cases e : i = p
      · rw [e, u_eq, u_eq]
      · rw [u_ne _ _ e, u_ne _ _ e]; exact (c10 i hi).1
    · show z_u (z_ai h v) p y i = z_u cd.2.2 p y i
      by_cases e : i = p
      · rw [e, u_eq, u_eq]
      · rw [u_ne _ _ e, u_ne _ _ e]; exact (c10 i hi).2)
  refine ⟨crd (z_nwo h2 1 3) (z_n h2) q (z_n h) (z_n h1), z_n h2, en_X1_placed (b_X1_placed_0 (z_pu0V rfl) ?_), fin.1, ex_mono (crd_ex E3 (by omega)) (by omega) (by omega), fin.2⟩
  have q1 : ∀ f, z_or (z_nwi h 1 8 f) = z_or h := fun f => rfl
  have v1 : ∀ f, z_ai (z_nwi h 1 8 f) v = z_ai h v := fun f => u_ne _ _ (by have := g3.1; omega)
  have v2 : ∀ f, z_ln (z_nwi h 1 8 f) v = 8 := fun f => by
    rw [show z_ln (z_nwi h 1 8 f) v = z_ln h v from u_ne _ _ (by have := g3.1; omega)]; exact c8
  have v3 : ∀ f, z_kd (z_nwi h 1 8 f) v = 1 := fun f => by
    rw [show z_kd (z_nwi h 1 8 f) v = z_kd h v from u_ne _ _ (by have := g3.1; omega)]; exact c7
  have hcc2 : ∀ f, z_kd (z_nwi h 1 8 f) c = 17 := fun f => by
    rw [show z_kd (z_nwi h 1 8 f) c = z_kd h c from u_ne _ _ (by have := g1.1; omega)]; exact c1
  rw [c3, z_rcs, c5, q1, c6, z_rcs, v2, v1, nI_clamp (show p < 2 ^ 31 by omega), nwi_pai2, ← ef]
  have ehh : z_nwi (z_nwi h 1 8 f) 1 8 (z_ai h v) = z_nwi h1 1 8 (z_ai h v) := by rw [eh1]
  rw [ehh, show z_n (z_nwi h 1 8 (z_ai h u)) = z_n h1 from by rw [n1]; rfl, nwi_pai, ← eg, ← eh2]
  have hcn : z_kd (z_nwo h2 1 3) c = 17 := by
    obtain ⟨_, _, _, _, ⟨y1, _⟩, _⟩ := hcc; exact y1
  have hcn2 : z_or (z_nwo h2 1 3) c 0 = some q := by
    rw [(ex_fr hI hX E3 g1).2.2.2.2.1 (by rw [c1]; decide)]; exact c2
  rw [hcn2, z_rcs]
  refine ⟨c1, c4, nwi_kd _ _ _ _, hcc2 _, v3 _, ?_, ?_, ?_, nwi_kd _ _ _ _, ?_, hcn, _, e1_init k3, rfl⟩
  · rw [n1]; exact nwi_kd (z_nwi h 1 8 (z_ai h u)) 1 8 (z_ai h v)
  · show z_u (z_u (z_kd h) (z_n h) 1) (z_n h + 1) 1 (z_n h) = 1
    rw [u_ne _ _ (by omega), u_eq]
  · show vp_in (nI p) (z_u (z_u (z_ln h) (z_n h) 8) (z_n h + 1) 8 (z_n h))
    rw [u_ne _ _ (by omega), u_eq]; exact vp_in_nI hp (by decide)
  · rw [nwi_ln]; exact vp_in_nI hp (by decide)
end HD
