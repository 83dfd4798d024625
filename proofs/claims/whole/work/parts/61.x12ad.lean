theorem en_X12_is {pu : Nat → Option ((List Value → z_H → Prop) × (List Value → z_H → Int32))} {G : z_G} {d : Nat} {r : z_Res} {h : z_H} {x0 : Nat} {x1 : Nat} (hJ : z_J G d (m_X12_is pu) r 0 [some (.ref x0), some (.ref x1), none, none] [] h) : z_Ev G d k_X12_is [.ref x0, .ref x1] h r := z_enter (μ := m_X12_is pu) rfl (by decide) rfl rfl (fun q => by cases q) (Nat.le_of_ble_eq_true rfl) hJ
def hd_X12_is : Nat → Option (List Bool) := (fun k => (cond (Nat.blt k 84) (cond (Nat.beq k 39) (some [true, true, true, true]) none) none))
set_option maxRecDepth 20000 in
theorem b_X12_is_0 {G : z_G} {d : Nat} {r : z_Res} (hPu : z_PuV G d (t_X12 z_puC)) {h : z_H} {x0 : Nat} {x1 : Nat} (hT : (z_kd h x0 = 28 ∧ (if (z_oi h x0 12) = (nI 0) then (z_kd h x0 = 28 ∧ (if (z_oi h x0 8) = (nI 1) then (∃ i_1, i_1 < 6 ∧ x1 = z_sad G i_1 ∧ ∃ x_3 h_2, z_Ev G d k_J0_length_8abf5 [.ref x1] h (.inl (some (.int x_3)), h_2) ∧ (z_kd h_2 x0 = 28 ∧ (z_kd h_2 x0 = 28 ∧ (if x_3 = ((z_oi h_2 x0 11) - (z_oi h_2 x0 10)) then (z_J G (d + 1) (m_X12_is z_puC) r) 39 [some (.ref x0), some (.ref x1), some (.int (nI 1)), some (.int (nI 0))] [] h_2 else (z_J G (d + 1) (m_X12_is z_puC) r) 39 [some (.ref x0), some (.ref x1), some (.int (nI 0)), some (.int (nI 0))] [] h_2)))) else (z_J G (d + 1) (m_X12_is z_puC) r) 39 [some (.ref x0), some (.ref x1), some (.int (nI 0)), some (.int (nI 0))] [] h)) else (z_J G (d + 1) (m_X12_is z_puC) r) 39 [some (.ref x0), some (.ref x1), some (.int (nI 0)), some (.int (nI 0))] [] h))) : (z_J G (d + 1) (m_X12_is z_puC) r) 0 [some (.ref x0), some (.ref x1), none, none] [] h := z_bq (v_X12 z_puC (vP_X12_is z_puC) hPu) hd_X12_is 23 hT
set_option maxRecDepth 20000 in
theorem b_X12_is_39 {G : z_G} {d : Nat} {r : z_Res} (hPu : z_PuV G d (t_X12 z_puC)) {h : z_H} {x0 : Nat} {x1 : Nat} {x2 : Int32} {x3 : Int32} (hT : (if x2 = (nI 0) then (z_bz x2 ∧ r = (.inl (some (.int x2)), h)) else (∃ i_1, i_1 < 6 ∧ x1 = z_sad G i_1 ∧ ∃ x_3 h_2, z_Ev G d k_J0_length_8abf5 [.ref x1] h (.inl (some (.int x_3)), h_2) ∧ (if x3 < x_3 then (∃ i_4, i_4 < 6 ∧ x1 = z_sad G i_4 ∧ ∃ x_6 h_5, z_Ev G d k_J0_charAt_5068e [.ref x1, .int x3] h_2 (.inl (some (.int x_6)), h_5) ∧ (z_kd h_5 x0 = 28 ∧ (z_rc (z_or h_5 x0 4) (z_kd h_5 x0 = 28 ∧ False) (fun x_7 => (z_kd h_5 x0 = 28 ∧ (z_kd h_5 x_7 = 1 ∧ vp_in ((z_oi h_5 x0 10) + x3) (z_ln h_5 x_7) ∧ (if x_6 = (z_ai h_5 x_7 (Int32.toNatClampNeg ((z_oi h_5 x0 10) + x3))) then (z_J G (d + 1) (m_X12_is z_puC) r) 39 [some (.ref x0), some (.ref x1), some (.int (nI 1)), some (.int (x3 + (nI 1)))] [] h_5 else (z_J G (d + 1) (m_X12_is z_puC) r) 39 [some (.ref x0), some (.ref x1), some (.int (nI 0)), some (.int (x3 + (nI 1)))] [] h_5))))))) else (z_bz x2 ∧ r = (.inl (some (.int x2)), h_2)))))) : (z_J G (d + 1) (m_X12_is z_puC) r) 39 [some (.ref x0), some (.ref x1), some (.int x2), some (.int x3)] [] h := z_bq (v_X12 z_puC (vP_X12_is z_puC) hPu) hd_X12_is 25 hT
theorem en_X12_readLine {pu : Nat → Option ((List Value → z_H → Prop) × (List Value → z_H → Int32))} {G : z_G} {d : Nat} {r : z_Res} {h : z_H} {x0 : Nat} (hJ : z_J G d (m_X12_readLine pu) r 0 [some (.ref x0), none, none, none] [] h) : z_Ev G d k_X12_readLine [.ref x0] h r := z_enter (μ := m_X12_readLine pu) rfl (by decide) rfl rfl (fun q => by cases q) (Nat.le_of_ble_eq_true rfl) hJ
def hd_X12_readLine : Nat → Option (List Bool) := (fun k => (cond (Nat.blt k 163) (cond (Nat.blt k 106) (cond (Nat.blt k 83) (cond (Nat.beq k 32) (some [true, true, true, false]) none) (cond (Nat.beq k 83) (some [true, true, true, true]) none)) (cond (Nat.blt k 138) (cond (Nat.beq k 106) (some [true, true, false, false]) none) (cond (Nat.beq k 138) (some [true, true, false, false]) none))) none))
set_option maxRecDepth 20000 in
theorem b_X12_readLine_0 {G : z_G} {d : Nat} {r : z_Res} (hPu : z_PuV G d (t_X12 z_puC)) {h : z_H} {x0 : Nat} (hT : (z_kd h x0 = 28 ∧ (z_rc (z_or h x0 2) False (fun x_1 => (z_kd h x_1 = 1 ∧ vp_in (nI 1) (z_ln h x_1) ∧ (if (z_ai h x_1 (Int32.toNatClampNeg (nI 1))) = (nI 12) then (z_kd h x0 = 28 ∧ ∃ h_2, z_Ev G d k_X12_wrong [.ref x0, .int (nI 2)] h (.inl none, h_2) ∧ (z_kd h_2 x0 = 28 ∧ (if (z_oi h_2 x0 12) = (nI 0) then (z_kd h_2 x0 = 28 ∧ ∃ h_3, z_Ev G d k_X12_stepOn [.ref x0] h_2 (.inl none, h_3) ∧ (z_J G (d + 1) (m_X12_readLine z_puC) r) 32 [some (.ref x0), some (.int (nI 0)), some (.int (nI 0)), none] [] h_3) else r = (.inl none, h_2)))) else (z_kd h x0 = 28 ∧ (if (z_oi h x0 12) = (nI 0) then (z_kd h x0 = 28 ∧ ∃ h_4, z_Ev G d k_X12_stepOn [.ref x0] h (.inl none, h_4) ∧ (z_J G (d + 1) (m_X12_readLine z_puC) r) 32 [some (.ref x0), some (.int (nI 0)), some (.int (nI 0)), none] [] h_4) else r = (.inl none, h))))))))) : (z_J G (d + 1) (m_X12_readLine z_puC) r) 0 [some (.ref x0), none, none, none] [] h := z_bq (v_X12 z_puC (vP_X12_readLine z_puC) hPu) hd_X12_readLine 21 hT
set_option maxRecDepth 20000 in
theorem b_X12_readLine_32 {G : z_G} {d : Nat} {r : z_Res} (hPu : z_PuV G d (t_X12 z_puC)) {h : z_H} {x0 : Nat} {x1 : Int32} {x2 : Int32} (hT : (if x2 < (nI 4) then (z_kd h x0 = 28 ∧ (if (z_oi h x0 12) = (nI 0) then (if x2 < (nI 2) then (z_kd h x0 = 28 ∧ ∃ x_2 h_1, z_Ev G d k_X12_pointNow [.ref x0] h (.inl (some (.int x_2)), h_1) ∧ (z_kd h_1 x0 = 28 ∧ (if (z_oi h_1 x0 12) = (nI 0) then (if ((x1 >>> (x_2 &&& (nI 31))) &&& (nI 1)) = (nI 1) then (z_kd h_1 x0 = 28 ∧ ∃ h_3, z_Ev G d k_X12_wrong [.ref x0, .int (nI 5)] h_1 (.inl none, h_3) ∧ (z_J G (d + 1) (m_X12_readLine z_puC) r) 83 [some (.ref x0), some (.int x1), some (.int x2), some (.int x_2)] [] h_3) else (z_J G (d + 1) (m_X12_readLine z_puC) r) 83 [some (.ref x0), some (.int x1), some (.int x2), some (.int x_2)] [] h_1) else (z_J G (d + 1) (m_X12_readLine z_puC) r) 83 [some (.ref x0), some (.int x1), some (.int x2), some (.int x_2)] [] h_1))) else (z_kd h x0 = 28 ∧ (if (z_oi h x0 8) = (nI 2) then (z_kd h x0 = 28 ∧ ∃ x_5 h_4, z_Ev G d k_X12_pointNow [.ref x0] h (.inl (some (.int x_5)), h_4) ∧ (z_kd h_4 x0 = 28 ∧ (if (z_oi h_4 x0 12) = (nI 0) then (if ((x1 >>> (x_5 &&& (nI 31))) &&& (nI 1)) = (nI 1) then (z_kd h_4 x0 = 28 ∧ ∃ h_6, z_Ev G d k_X12_wrong [.ref x0, .int (nI 5)] h_4 (.inl none, h_6) ∧ (z_J G (d + 1) (m_X12_readLine z_puC) r) 83 [some (.ref x0), some (.int x1), some (.int x2), some (.int x_5)] [] h_6) else (z_J G (d + 1) (m_X12_readLine z_puC) r) 83 [some (.ref x0), some (.int x1), some (.int x2), some (.int x_5)] [] h_4) else (z_J G (d + 1) (m_X12_readLine z_puC) r) 83 [some (.ref x0), some (.int x1), some (.int x2), some (.int x_5)] [] h_4))) else (z_J G (d + 1) (m_X12_readLine z_puC) r) 106 [some (.ref x0), some (.int x1), none, none] [] h))) else (z_J G (d + 1) (m_X12_readLine z_puC) r) 106 [some (.ref x0), some (.int x1), none, none] [] h)) else (z_J G (d + 1) (m_X12_readLine z_puC) r) 106 [some (.ref x0), some (.int x1), none, none] [] h)) : (z_J G (d + 1) (m_X12_readLine z_puC) r) 32 [some (.ref x0), some (.int x1), some (.int x2), none] [] h := z_bq (v_X12 z_puC (vP_X12_readLine z_puC) hPu) hd_X12_readLine 32 hT
set_option maxRecDepth 20000 in
theorem b_X12_readLine_83 {G : z_G} {d : Nat} {r : z_Res} (hPu : z_PuV G d (t_X12 z_puC)) {h : z_H} {x0 : Nat} {x1 : Int32} {x2 : Int32} {x3 : Int32} (hT : (z_kd h x0 = 28 ∧ (if (z_oi h x0 12) = (nI 0) then (z_kd h x0 = 28 ∧ ∃ h_1, z_Ev G d k_X12_stepOn [.ref x0] h (.inl none, h_1) ∧ (z_J G (d + 1) (m_X12_readLine z_puC) r) 32 [some (.ref x0), some (.int (x1 ||| ((nI 1) <<< (x3 &&& (nI 31))))), some (.int (x2 + (nI 1))), none] [] h_1) else (z_J G (d + 1) (m_X12_readLine z_puC) r) 32 [some (.ref x0), some (.int (x1 ||| ((nI 1) <<< (x3 &&& (nI 31))))), some (.int (x2 + (nI 1))), none] [] h))) : (z_J G (d + 1) (m_X12_readLine z_puC) r) 83 [some (.ref x0), some (.int x1), some (.int x2), some (.int x3)] [] h := z_bq (v_X12 z_puC (vP_X12_readLine z_puC) hPu) hd_X12_readLine 16 hT
set_option maxRecDepth 20000 in
theorem b_X12_readLine_106 {G : z_G} {d : Nat} {r : z_Res} (hPu : z_PuV G d (t_X12 z_puC)) {h : z_H} {x0 : Nat} {x1 : Int32} (hT : (z_kd h x0 = 28 ∧ (if (z_oi h x0 12) = (nI 0) then (z_kd h x0 = 28 ∧ s_X12_isMarked x0 (nI 59) h ∧ (if (f_X12_isMarked x0 (nI 59) h) = (nI 0) then (z_J G (d + 1) (m_X12_readLine z_puC) r) 138 [some (.ref x0), some (.int x1), none, none] [] h else (z_kd h x0 = 28 ∧ (z_rc (z_or h x0 2) (False ∧ (if (0 : Int32) = (nI 0) then (z_J G (d + 1) (m_X12_readLine z_puC) r) 138 [some (.ref x0), some (.int x1), none, none] [] h else (z_kd h x0 = 28 ∧ ∃ h_2, z_Ev G d k_X12_wrong [.ref x0, .int (nI 5)] h (.inl none, h_2) ∧ (z_J G (d + 1) (m_X12_readLine z_puC) r) 138 [some (.ref x0), some (.int x1), none, none] [] h_2))) (fun x_1 => (s_X12_sharesTwo x_1 x1 h ∧ (if (f_X12_sharesTwo x_1 x1 h) = (nI 0) then (z_J G (d + 1) (m_X12_readLine z_puC) r) 138 [some (.ref x0), some (.int x1), none, none] [] h else (z_kd h x0 = 28 ∧ ∃ h_3, z_Ev G d k_X12_wrong [.ref x0, .int (nI 5)] h (.inl none, h_3) ∧ (z_J G (d + 1) (m_X12_readLine z_puC) r) 138 [some (.ref x0), some (.int x1), none, none] [] h_3)))))))) else (z_J G (d + 1) (m_X12_readLine z_puC) r) 138 [some (.ref x0), some (.int x1), none, none] [] h))) : (z_J G (d + 1) (m_X12_readLine z_puC) r) 106 [some (.ref x0), some (.int x1), none, none] [] h := z_bq (v_X12 z_puC (vP_X12_readLine z_puC) hPu) hd_X12_readLine 18 hT
set_option maxRecDepth 20000 in
theorem b_X12_readLine_138 {G : z_G} {d : Nat} {r : z_Res} (hPu : z_PuV G d (t_X12 z_puC)) {h : z_H} {x0 : Nat} {x1 : Int32} (hT : (z_kd h x0 = 28 ∧ (z_rc (z_or h x0 2) (z_kd h x0 = 28 ∧ (z_rc (z_or h x0 2) False (fun x_2 => (z_kd h x_2 = 1 ∧ vp_in (nI 1) (z_ln h x_2) ∧ False)))) (fun x_1 => (z_kd h x0 = 28 ∧ (z_rc (z_or h x0 2) False (fun x_3 => (z_kd h x_3 = 1 ∧ vp_in (nI 1) (z_ln h x_3) ∧ (z_kd h x_1 = 1 ∧ vp_in ((nI 2) + (z_ai h x_3 (Int32.toNatClampNeg (nI 1)))) (z_ln h x_1) ∧ (z_kd (z_pai h x_1 (Int32.toNatClampNeg ((nI 2) + (z_ai h x_3 (Int32.toNatClampNeg (nI 1))))) x1) x0 = 28 ∧ (z_rc (z_or (z_pai h x_1 (Int32.toNatClampNeg ((nI 2) + (z_ai h x_3 (Int32.toNatClampNeg (nI 1))))) x1) x0 2) False (fun x_4 => (z_kd (z_pai h x_1 (Int32.toNatClampNeg ((nI 2) + (z_ai h x_3 (Int32.toNatClampNeg (nI 1))))) x1) x_4 = 1 ∧ vp_in (nI 1) (z_ln (z_pai h x_1 (Int32.toNatClampNeg ((nI 2) + (z_ai h x_3 (Int32.toNatClampNeg (nI 1))))) x1) x_4) ∧ (z_kd (z_pai h x_1 (Int32.toNatClampNeg ((nI 2) + (z_ai h x_3 (Int32.toNatClampNeg (nI 1))))) x1) x_4 = 1 ∧ vp_in (nI 1) (z_ln (z_pai h x_1 (Int32.toNatClampNeg ((nI 2) + (z_ai h x_3 (Int32.toNatClampNeg (nI 1))))) x1) x_4) ∧ r = (.inl none, z_pai (z_pai h x_1 (Int32.toNatClampNeg ((nI 2) + (z_ai h x_3 (Int32.toNatClampNeg (nI 1))))) x1) x_4 (Int32.toNatClampNeg (nI 1)) ((z_ai (z_pai h x_1 (Int32.toNatClampNeg ((nI 2) + (z_ai h x_3 (Int32.toNatClampNeg (nI 1))))) x1) x_4 (Int32.toNatClampNeg (nI 1))) + (nI 1))))))))))))))))) : (z_J G (d + 1) (m_X12_readLine z_puC) r) 138 [some (.ref x0), some (.int x1), none, none] [] h := z_bq (v_X12 z_puC (vP_X12_readLine z_puC) hPu) hd_X12_readLine 21 hT
theorem en_X12_readClause {pu : Nat → Option ((List Value → z_H → Prop) × (List Value → z_H → Int32))} {G : z_G} {d : Nat} {r : z_Res} {h : z_H} {x0 : Nat} (hJ : z_J G d (m_X12_readClause pu) r 0 [some (.ref x0), none, none, none] [] h) : z_Ev G d k_X12_readClause [.ref x0] h r := z_enter (μ := m_X12_readClause pu) rfl (by decide) rfl rfl (fun q => by cases q) (Nat.le_of_ble_eq_true rfl) hJ
def hd_X12_readClause : Nat → Option (List Bool) := (fun k => (cond (Nat.blt k 188) (cond (Nat.blt k 103) (cond (Nat.blt k 64) (cond (Nat.blt k 48) (cond (Nat.beq k 32) (some [true, false, false, false]) none) (cond (Nat.beq k 48) (some [true, false, false, false]) none)) (cond (Nat.blt k 93) (cond (Nat.beq k 64) (some [true, false, false, false]) none) (cond (Nat.beq k 93) (some [true, true, false, false]) none))) (cond (Nat.blt k 145) (cond (Nat.blt k 120) (cond (Nat.beq k 103) (some [true, true, true, true]) none) (cond (Nat.beq k 120) (some [true, true, false, true]) none)) (cond (Nat.blt k 166) (cond (Nat.beq k 145) (some [true, false, false, false]) none) (cond (Nat.blt k 177) (cond (Nat.beq k 166) (some [true, false, false, false]) none) (cond (Nat.beq k 177) (some [true, false, false, false]) none))))) none))
set_option maxRecDepth 20000 in
theorem b_X12_readClause_0 {G : z_G} {d : Nat} {r : z_Res} (hPu : z_PuV G d (t_X12 z_puC)) {h : z_H} {x0 : Nat} (hT : (z_kd h x0 = 28 ∧ ∃ x_2 h_1, z_Ev G d k_X12_is [.ref x0, .ref (z_sad G 3)] h (.inl (some (.int x_2)), h_1) ∧ (if x_2 = (nI 0) then (z_J G (d + 1) (m_X12_readClause z_puC) r) 48 [some (.ref x0), none, none, none] [] h_1 else (z_kd h_1 x0 = 28 ∧ (if (nI 0) < (z_oi h_1 x0 15) then (z_kd h_1 x0 = 28 ∧ ∃ h_3, z_Ev G d k_X12_wrong [.ref x0, .int (nI 4)] h_1 (.inl none, h_3) ∧ (z_kd h_3 x0 = 28 ∧ (if (z_oi h_3 x0 12) = (nI 0) then (z_kd h_3 x0 = 28 ∧ ∃ h_4, z_Ev G d k_X12_stepOn [.ref x0] h_3 (.inl none, h_4) ∧ (z_J G (d + 1) (m_X12_readClause z_puC) r) 32 [some (.ref x0), none, none, none] [] h_4) else (z_J G (d + 1) (m_X12_readClause z_puC) r) 32 [some (.ref x0), none, none, none] [] h_3))) else (z_kd h_1 x0 = 28 ∧ (if (z_oi h_1 x0 12) = (nI 0) then (z_kd h_1 x0 = 28 ∧ ∃ h_5, z_Ev G d k_X12_stepOn [.ref x0] h_1 (.inl none, h_5) ∧ (z_J G (d + 1) (m_X12_readClause z_puC) r) 32 [some (.ref x0), none, none, none] [] h_5) else (z_J G (d + 1) (m_X12_readClause z_puC) r) 32 [some (.ref x0), none, none, none] [] h_1))))))) : (z_J G (d + 1) (m_X12_readClause z_puC) r) 0 [some (.ref x0), none, none, none] [] h := z_bq (v_X12 z_puC (vP_X12_readClause z_puC) hPu) hd_X12_readClause 18 hT
set_option maxRecDepth 20000 in
theorem b_X12_readClause_48 {G : z_G} {d : Nat} {r : z_Res} (hPu : z_PuV G d (t_X12 z_puC)) {h : z_H} {x0 : Nat} (hT : (z_kd h x0 = 28 ∧ ∃ x_2 h_1, z_Ev G d k_X12_is [.ref x0, .ref (z_sad G 4)] h (.inl (some (.int x_2)), h_1) ∧ (if x_2 = (nI 0) then (z_J G (d + 1) (m_X12_readClause z_puC) r) 64 [some (.ref x0), none, none, none] [] h_1 else (z_kd h_1 x0 = 28 ∧ ∃ h_3, z_Ev G d k_X12_readLine [.ref x0] h_1 (.inl none, h_3) ∧ (z_J G (d + 1) (m_X12_readClause z_puC) r) 145 [some (.ref x0), none, none, none] [] h_3)))) : (z_J G (d + 1) (m_X12_readClause z_puC) r) 48 [some (.ref x0), none, none, none] [] h := z_bq (v_X12 z_puC (vP_X12_readClause z_puC) hPu) hd_X12_readClause 10 hT
set_option maxRecDepth 20000 in
theorem b_X12_readClause_32 {G : z_G} {d : Nat} {r : z_Res} (hPu : z_PuV G d (t_X12 z_puC)) {h : z_H} {x0 : Nat} (hT : (z_kd h x0 = 28 ∧ (z_rc (z_or h x0 2) (z_kd h x0 = 28 ∧ ∃ x_3 h_2, z_Ev G d k_X12_readNumber [.ref x0, .int (nI 1), .int (nI 8)] h (.inl (some (.int x_3)), h_2) ∧ False) (fun x_1 => (z_kd h x0 = 28 ∧ ∃ x_5 h_4, z_Ev G d k_X12_readNumber [.ref x0, .int (nI 1), .int (nI 8)] h (.inl (some (.int x_5)), h_4) ∧ (z_kd h_4 x_1 = 1 ∧ vp_in (nI 0) (z_ln h_4 x_1) ∧ (z_J G (d + 1) (m_X12_readClause z_puC) r) 145 [some (.ref x0), none, none, none] [] (z_pai h_4 x_1 (Int32.toNatClampNeg (nI 0)) x_5))))))) : (z_J G (d + 1) (m_X12_readClause z_puC) r) 32 [some (.ref x0), none, none, none] [] h := z_bq (v_X12 z_puC (vP_X12_readClause z_puC) hPu) hd_X12_readClause 12 hT
set_option maxRecDepth 20000 in
theorem b_X12_readClause_64 {G : z_G} {d : Nat} {r : z_Res} (hPu : z_PuV G d (t_X12 z_puC)) {h : z_H} {x0 : Nat} (hT : (z_kd h x0 = 28 ∧ ∃ x_2 h_1, z_Ev G d k_X12_is [.ref x0, .ref (z_sad G 5)] h (.inl (some (.int x_2)), h_1) ∧ (if x_2 = (nI 0) then (z_kd h_1 x0 = 28 ∧ ∃ h_3, z_Ev G d k_X12_wrong [.ref x0, .int (nI 1)] h_1 (.inl none, h_3) ∧ (z_J G (d + 1) (m_X12_readClause z_puC) r) 145 [some (.ref x0), none, none, none] [] h_3) else (z_kd h_1 x0 = 28 ∧ ∃ h_4, z_Ev G d k_X12_stepOn [.ref x0] h_1 (.inl none, h_4) ∧ (z_kd h_4 x0 = 28 ∧ ∃ x_6 h_5, z_Ev G d k_X12_pointNow [.ref x0] h_4 (.inl (some (.int x_6)), h_5) ∧ (z_kd h_5 x0 = 28 ∧ (if (z_oi h_5 x0 12) = (nI 0) then (z_kd h_5 x0 = 28 ∧ ∃ h_7, z_Ev G d k_X12_stepOn [.ref x0] h_5 (.inl none, h_7) ∧ (z_J G (d + 1) (m_X12_readClause z_puC) r) 93 [some (.ref x0), some (.int x_6), none, none] [] h_7) else (z_J G (d + 1) (m_X12_readClause z_puC) r) 93 [some (.ref x0), some (.int x_6), none, none] [] h_5))))))) : (z_J G (d + 1) (m_X12_readClause z_puC) r) 64 [some (.ref x0), none, none, none] [] h := z_bq (v_X12 z_puC (vP_X12_readClause z_puC) hPu) hd_X12_readClause 17 hT
set_option maxRecDepth 20000 in
theorem b_X12_readClause_145 {G : z_G} {d : Nat} {r : z_Res} (hPu : z_PuV G d (t_X12 z_puC)) {h : z_H} {x0 : Nat} (hT : (z_kd h x0 = 28 ∧ (if (z_oi h x0 12) = (nI 0) then (z_kd h x0 = 28 ∧ s_X12_isMarked x0 (nI 59) h ∧ (if (f_X12_isMarked x0 (nI 59) h) = (nI 0) then (z_kd h x0 = 28 ∧ ∃ h_1, z_Ev G d k_X12_wrong [.ref x0, .int (nI 1)] h (.inl none, h_1) ∧ (z_J G (d + 1) (m_X12_readClause z_puC) r) 166 [some (.ref x0), none, none, none] [] h_1) else (z_J G (d + 1) (m_X12_readClause z_puC) r) 166 [some (.ref x0), none, none, none] [] h)) else (z_J G (d + 1) (m_X12_readClause z_puC) r) 166 [some (.ref x0), none, none, none] [] h))) : (z_J G (d + 1) (m_X12_readClause z_puC) r) 145 [some (.ref x0), none, none, none] [] h := z_bq (v_X12 z_puC (vP_X12_readClause z_puC) hPu) hd_X12_readClause 13 hT
set_option maxRecDepth 20000 in
theorem b_X12_readClause_93 {G : z_G} {d : Nat} {r : z_Res} (hPu : z_PuV G d (t_X12 z_puC)) {h : z_H} {x0 : Nat} {x1 : Int32} (hT : (z_kd h x0 = 28 ∧ ∃ x_2 h_1, z_Ev G d k_X12_readSigned [.ref x0] h (.inl (some (.int x_2)), h_1) ∧ (z_kd h_1 x0 = 28 ∧ ∃ x_4 h_3, z_Ev G d k_X12_readSigned [.ref x0] h_1 (.inl (some (.int x_4)), h_3) ∧ (z_J G (d + 1) (m_X12_readClause z_puC) r) 103 [some (.ref x0), some (.int x1), some (.int x_2), some (.int x_4)] [] h_3))) : (z_J G (d + 1) (m_X12_readClause z_puC) r) 93 [some (.ref x0), some (.int x1), none, none] [] h := z_bq (v_X12 z_puC (vP_X12_readClause z_puC) hPu) hd_X12_readClause 9 hT
set_option maxRecDepth 20000 in
theorem b_X12_readClause_166 {G : z_G} {d : Nat} {r : z_Res} (hPu : z_PuV G d (t_X12 z_puC)) {h : z_H} {x0 : Nat} (hT : (z_kd h x0 = 28 ∧ (if (z_oi h x0 12) = (nI 0) then (z_kd h x0 = 28 ∧ ∃ h_1, z_Ev G d k_X12_stepOn [.ref x0] h (.inl none, h_1) ∧ (z_J G (d + 1) (m_X12_readClause z_puC) r) 177 [some (.ref x0), none, none, none] [] h_1) else (z_J G (d + 1) (m_X12_readClause z_puC) r) 177 [some (.ref x0), none, none, none] [] h))) : (z_J G (d + 1) (m_X12_readClause z_puC) r) 166 [some (.ref x0), none, none, none] [] h := z_bq (v_X12 z_puC (vP_X12_readClause z_puC) hPu) hd_X12_readClause 8 hT
set_option maxRecDepth 20000 in
theorem b_X12_readClause_103 {G : z_G} {d : Nat} {r : z_Res} (hPu : z_PuV G d (t_X12 z_puC)) {h : z_H} {x0 : Nat} {x1 : Int32} {x2 : Int32} {x3 : Int32} (hT : (z_kd h x0 = 28 ∧ (if (z_oi h x0 12) = (nI 0) then (z_kd h x0 = 28 ∧ (z_rc (z_or h x0 2) False (fun x_1 => (z_kd h x_1 = 1 ∧ vp_in ((nI 14) + x1) (z_ln h x_1) ∧ (z_J G (d + 1) (m_X12_readClause z_puC) r) 120 [some (.ref x0), some (.int x1), none, some (.int x3)] [] (z_pai h x_1 (Int32.toNatClampNeg ((nI 14) + x1)) x2))))) else (z_J G (d + 1) (m_X12_readClause z_puC) r) 120 [some (.ref x0), some (.int x1), none, some (.int x3)] [] h))) : (z_J G (d + 1) (m_X12_readClause z_puC) r) 103 [some (.ref x0), some (.int x1), some (.int x2), some (.int x3)] [] h := z_bq (v_X12 z_puC (vP_X12_readClause z_puC) hPu) hd_X12_readClause 13 hT
set_option maxRecDepth 20000 in
theorem b_X12_readClause_177 {G : z_G} {d : Nat} {r : z_Res} (hPu : z_PuV G d (t_X12 z_puC)) {h : z_H} {x0 : Nat} (hT : (z_kd h x0 = 28 ∧ (z_kd h x0 = 28 ∧ r = (.inl none, z_poi h x0 15 ((z_oi h x0 15) + (nI 1)))))) : (z_J G (d + 1) (m_X12_readClause z_puC) r) 177 [some (.ref x0), none, none, none] [] h := z_bq (v_X12 z_puC (vP_X12_readClause z_puC) hPu) hd_X12_readClause 9 hT
set_option maxRecDepth 20000 in
theorem b_X12_readClause_120 {G : z_G} {d : Nat} {r : z_Res} (hPu : z_PuV G d (t_X12 z_puC)) {h : z_H} {x0 : Nat} {x1 : Int32} {x3 : Int32} (hT : (z_kd h x0 = 28 ∧ (if (z_oi h x0 12) = (nI 0) then (z_kd h x0 = 28 ∧ (z_rc (z_or h x0 2) False (fun x_1 => (z_kd h x_1 = 1 ∧ vp_in ((nI 22) + x1) (z_ln h x_1) ∧ (z_J G (d + 1) (m_X12_readClause z_puC) r) 145 [some (.ref x0), none, none, none] [] (z_pai h x_1 (Int32.toNatClampNeg ((nI 22) + x1)) x3))))) else (z_J G (d + 1) (m_X12_readClause z_puC) r) 145 [some (.ref x0), none, none, none] [] h))) : (z_J G (d + 1) (m_X12_readClause z_puC) r) 120 [some (.ref x0), some (.int x1), none, some (.int x3)] [] h := z_bq (v_X12 z_puC (vP_X12_readClause z_puC) hPu) hd_X12_readClause 14 hT
theorem en_X12_scheme {pu : Nat → Option ((List Value → z_H → Prop) × (List Value → z_H → Int32))} {G : z_G} {d : Nat} {r : z_Res} {h : z_H} {x0 : Nat} {x1 : Int32} (hJ : z_J G d (m_X12_scheme pu) r 0 [some (.ref x0), some (.int x1), none] [] h) : z_Ev G d k_X12_scheme [.ref x0, .int x1] h r := z_enter (μ := m_X12_scheme pu) rfl (by decide) rfl rfl (fun q => by cases q) (Nat.le_of_ble_eq_true rfl) hJ
def hd_X12_scheme : Nat → Option (List Bool) := (fun k => (cond (Nat.blt k 186) (cond (Nat.blt k 107) (cond (Nat.blt k 86) (cond (Nat.beq k 55) (some [true, false, true]) none) (cond (Nat.beq k 86) (some [true, false, false]) none)) (cond (Nat.blt k 139) (cond (Nat.beq k 107) (some [true, false, false]) none) (cond (Nat.beq k 139) (some [true, false, true]) none))) none))
set_option maxRecDepth 20000 in
theorem b_X12_scheme_0 {G : z_G} {d : Nat} {r : z_Res} (hPu : z_PuV G d (t_X12 z_puC)) {h : z_H} {x0 : Nat} {x1 : Int32} (hT : (z_kd h x0 = 28 ∧ (if x1 < (nI 0) then (z_kd (z_poi h x0 0 (nI 0)) x0 = 28 ∧ ∃ x_2 h_1, z_Ev G d k_X12_fail [.ref x0, .int (nI 1)] (z_poi h x0 0 (nI 0)) (.inl (some (.int x_2)), h_1) ∧ r = (.inl (some (.int x_2)), h_1)) else (z_kd (z_poi h x0 0 (nI 0)) x0 = 28 ∧ (if (z_oi (z_poi h x0 0 (nI 0)) x0 5) < x1 then (z_kd (z_poi h x0 0 (nI 0)) x0 = 28 ∧ ∃ x_4 h_3, z_Ev G d k_X12_fail [.ref x0, .int (nI 1)] (z_poi h x0 0 (nI 0)) (.inl (some (.int x_4)), h_3) ∧ r = (.inl (some (.int x_4)), h_3)) else (z_kd (z_poi h x0 0 (nI 0)) x0 = 28 ∧ (z_kd (z_poi (z_poi h x0 0 (nI 0)) x0 5 (nI 0)) x0 = 28 ∧ (z_kd (z_poi (z_poi (z_poi h x0 0 (nI 0)) x0 5 (nI 0)) x0 7 x1) x0 = 28 ∧ (z_kd (z_poi (z_poi (z_poi (z_poi h x0 0 (nI 0)) x0 5 (nI 0)) x0 7 x1) x0 6 (nI 0)) x0 = 28 ∧ (z_kd (z_poi (z_poi (z_poi (z_poi (z_poi h x0 0 (nI 0)) x0 5 (nI 0)) x0 7 x1) x0 6 (nI 0)) x0 12 (nI 0)) x0 = 28 ∧ (z_kd (z_poi (z_poi (z_poi (z_poi (z_poi (z_poi h x0 0 (nI 0)) x0 5 (nI 0)) x0 7 x1) x0 6 (nI 0)) x0 12 (nI 0)) x0 14 mI) x0 = 28 ∧ (z_J G (d + 1) (m_X12_scheme z_puC) r) 55 [some (.ref x0), none, some (.int (nI 0))] [] (z_poi (z_poi (z_poi (z_poi (z_poi (z_poi (z_poi h x0 0 (nI 0)) x0 5 (nI 0)) x0 7 x1) x0 6 (nI 0)) x0 12 (nI 0)) x0 14 mI) x0 15 (nI 0))))))))))))) : (z_J G (d + 1) (m_X12_scheme z_puC) r) 0 [some (.ref x0), some (.int x1), none] [] h := z_bq (v_X12 z_puC (vP_X12_scheme z_puC) hPu) hd_X12_scheme 32 hT
set_option maxRecDepth 20000 in
theorem b_X12_scheme_55 {G : z_G} {d : Nat} {r : z_Res} (hPu : z_PuV G d (t_X12 z_puC)) {h : z_H} {x0 : Nat} {x2 : Int32} (hT : (if x2 < (nI 30) then (z_kd h x0 = 28 ∧ (z_rc (z_or h x0 2) False (fun x_1 => (z_kd h x_1 = 1 ∧ vp_in x2 (z_ln h x_1) ∧ (z_J G (d + 1) (m_X12_scheme z_puC) r) 55 [some (.ref x0), none, some (.int (x2 + (nI 1)))] [] (z_pai h x_1 (Int32.toNatClampNeg x2) (nI 0)))))) else (z_kd h x0 = 28 ∧ (z_rc (z_or h x0 2) False (fun x_2 => (z_kd h x_2 = 1 ∧ vp_in (nI 0) (z_ln h x_2) ∧ (z_kd (z_pai h x_2 (Int32.toNatClampNeg (nI 0)) (nI 7)) x0 = 28 ∧ ∃ h_3, z_Ev G d k_X12_stepOn [.ref x0] (z_pai h x_2 (Int32.toNatClampNeg (nI 0)) (nI 7)) (.inl none, h_3) ∧ (z_J G (d + 1) (m_X12_scheme z_puC) r) 86 [some (.ref x0), none, none] [] h_3))))))) : (z_J G (d + 1) (m_X12_scheme z_puC) r) 55 [some (.ref x0), none, some (.int x2)] [] h := z_bq (v_X12 z_puC (vP_X12_scheme z_puC) hPu) hd_X12_scheme 13 hT
set_option maxRecDepth 20000 in
theorem b_X12_scheme_86 {G : z_G} {d : Nat} {r : z_Res} (hPu : z_PuV G d (t_X12 z_puC)) {h : z_H} {x0 : Nat} (hT : (z_kd h x0 = 28 ∧ (if (z_oi h x0 12) = (nI 0) then (z_kd h x0 = 28 ∧ (if (z_oi h x0 8) = (nI 0) then (z_J G (d + 1) (m_X12_scheme z_puC) r) 107 [some (.ref x0), none, none] [] h else (z_kd h x0 = 28 ∧ ∃ h_1, z_Ev G d k_X12_readClause [.ref x0] h (.inl none, h_1) ∧ (z_J G (d + 1) (m_X12_scheme z_puC) r) 86 [some (.ref x0), none, none] [] h_1))) else (z_J G (d + 1) (m_X12_scheme z_puC) r) 107 [some (.ref x0), none, none] [] h))) : (z_J G (d + 1) (m_X12_scheme z_puC) r) 86 [some (.ref x0), none, none] [] h := z_bq (v_X12 z_puC (vP_X12_scheme z_puC) hPu) hd_X12_scheme 12 hT
set_option maxRecDepth 20000 in
theorem b_X12_scheme_107 {G : z_G} {d : Nat} {r : z_Res} (hPu : z_PuV G d (t_X12 z_puC)) {h : z_H} {x0 : Nat} (hT : (z_kd h x0 = 28 ∧ (if (z_oi h x0 12) = (nI 0) then (z_J G (d + 1) (m_X12_scheme z_puC) r) 139 [some (.ref x0), none, some (.int (nI 0))] [] h else (z_kd h x0 = 28 ∧ (z_kd h x0 = 28 ∧ (z_kd (z_poi h x0 14 (z_oi h x0 13)) x0 = 28 ∧ (z_rc (z_or (z_poi h x0 14 (z_oi h x0 13)) x0 3) False (fun x_1 => (z_kd (z_poi h x0 14 (z_oi h x0 13)) x_1 = 1 ∧ vp_in (nI 0) (z_ln (z_poi h x0 14 (z_oi h x0 13)) x_1) ∧ (z_kd (z_poi h x0 14 (z_oi h x0 13)) x_1 = 1 ∧ vp_in (nI 0) (z_ln (z_poi h x0 14 (z_oi h x0 13)) x_1) ∧ (z_kd (z_pai (z_poi h x0 14 (z_oi h x0 13)) x_1 (Int32.toNatClampNeg (nI 0)) ((z_ai (z_poi h x0 14 (z_oi h x0 13)) x_1 (Int32.toNatClampNeg (nI 0))) + (nI 1))) x0 = 28 ∧ r = (.inl (some (.int (z_oi (z_pai (z_poi h x0 14 (z_oi h x0 13)) x_1 (Int32.toNatClampNeg (nI 0)) ((z_ai (z_poi h x0 14 (z_oi h x0 13)) x_1 (Int32.toNatClampNeg (nI 0))) + (nI 1))) x0 12))), z_pai (z_poi h x0 14 (z_oi h x0 13)) x_1 (Int32.toNatClampNeg (nI 0)) ((z_ai (z_poi h x0 14 (z_oi h x0 13)) x_1 (Int32.toNatClampNeg (nI 0))) + (nI 1)))))))))))))) : (z_J G (d + 1) (m_X12_scheme z_puC) r) 107 [some (.ref x0), none, none] [] h := z_bq (v_X12 z_puC (vP_X12_scheme z_puC) hPu) hd_X12_scheme 20 hT
set_option maxRecDepth 20000 in
theorem b_X12_scheme_139 {G : z_G} {d : Nat} {r : z_Res} (hPu : z_PuV G d (t_X12 z_puC)) {h : z_H} {x0 : Nat} {x2 : Int32} (hT : (if x2 < (nI 154) then (z_kd h x0 = 28 ∧ (z_rc (z_or h x0 1) (if x2 < (nI 30) then (z_kd h x0 = 28 ∧ (z_rc (z_or h x0 2) False (fun x_2 => (z_kd h x_2 = 1 ∧ vp_in x2 (z_ln h x_2) ∧ False)))) else False) (fun x_1 => (if x2 < (nI 30) then (z_kd h x0 = 28 ∧ (z_rc (z_or h x0 2) False (fun x_3 => (z_kd h x_3 = 1 ∧ vp_in x2 (z_ln h x_3) ∧ (z_kd h x_1 = 1 ∧ vp_in x2 (z_ln h x_1) ∧ (z_J G (d + 1) (m_X12_scheme z_puC) r) 139 [some (.ref x0), none, some (.int (x2 + (nI 1)))] [] (z_pai h x_1 (Int32.toNatClampNeg x2) (z_ai h x_3 (Int32.toNatClampNeg x2)))))))) else (z_kd h x_1 = 1 ∧ vp_in x2 (z_ln h x_1) ∧ (z_J G (d + 1) (m_X12_scheme z_puC) r) 139 [some (.ref x0), none, some (.int (x2 + (nI 1)))] [] (z_pai h x_1 (Int32.toNatClampNeg x2) (nI 0))))))) else (z_kd h x0 = 28 ∧ (z_kd (z_poi h x0 25 (nI 0)) x0 = 28 ∧ z_bz (nI 0) ∧ r = (.inl (some (.int (nI 0))), z_poi (z_poi h x0 25 (nI 0)) x0 47 (nI 0)))))) : (z_J G (d + 1) (m_X12_scheme z_puC) r) 139 [some (.ref x0), none, some (.int x2)] [] h := z_bq (v_X12 z_puC (vP_X12_scheme z_puC) hPu) hd_X12_scheme 20 hT
theorem en_X12_feed {pu : Nat → Option ((List Value → z_H → Prop) × (List Value → z_H → Int32))} {G : z_G} {d : Nat} {r : z_Res} {h : z_H} {x0 : Nat} {x1 : Int32} {x2 : Int32} {x3 : Int32} {x4 : Int32} {x5 : Int32} (hJ : z_J G d (m_X12_feed pu) r 0 [some (.ref x0), some (.int x1), some (.int x2), some (.int x3), some (.int x4), some (.int x5), none, none] [] h) : z_Ev G d k_X12_feed [.ref x0, .int x1, .int x2, .int x3, .int x4, .int x5] h r := z_enter (μ := m_X12_feed pu) rfl (by decide) rfl rfl (fun q => by cases q) (Nat.le_of_ble_eq_true rfl) hJ
def hd_X12_feed : Nat → Option (List Bool) := (fun k => (cond (Nat.blt k 125) (cond (Nat.beq k 23) (some [true, true, true, true, true, true, true, false]) none) none))
set_option maxRecDepth 20000 in
theorem b_X12_feed_0 {G : z_G} {d : Nat} {r : z_Res} (hPu : z_PuV G d (t_X12 z_puC)) {h : z_H} {x0 : Nat} {x1 : Int32} {x2 : Int32} {x3 : Int32} {x4 : Int32} {x5 : Int32} (hT : (z_kd h x0 = 28 ∧ (z_kd (z_poi h x0 0 (nI 0)) x0 = 28 ∧ (if (nI 400) < ((z_oi (z_poi h x0 0 (nI 0)) x0 5) + (nI 20)) then r = (.inl (some (.int mI)), z_poi h x0 0 (nI 0)) else (z_J G (d + 1) (m_X12_feed z_puC) r) 23 [some (.ref x0), some (.int x1), some (.int x2), some (.int x3), some (.int x4), some (.int x5), some (.int (nI 0)), none] [] (z_poi h x0 0 (nI 0)))))) : (z_J G (d + 1) (m_X12_feed z_puC) r) 0 [some (.ref x0), some (.int x1), some (.int x2), some (.int x3), some (.int x4), some (.int x5), none, none] [] h := z_bq (v_X12 z_puC (vP_X12_feed z_puC) hPu) hd_X12_feed 14 hT
set_option maxRecDepth 20000 in
theorem b_X12_feed_23 {G : z_G} {d : Nat} {r : z_Res} (hPu : z_PuV G d (t_X12 z_puC)) {h : z_H} {x0 : Nat} {x1 : Int32} {x2 : Int32} {x3 : Int32} {x4 : Int32} {x5 : Int32} {x6 : Int32} (hT : (if x6 < (nI 20) then (if x6 < (nI 4) then (z_kd h x0 = 28 ∧ (z_rc (z_or h x0 4) (z_kd h x0 = 28 ∧ (¬ (nI 4) = (nI 0) ∧ False)) (fun x_1 => (z_kd h x0 = 28 ∧ (¬ (nI 4) = (nI 0) ∧ (z_kd h x_1 = 1 ∧ vp_in (z_oi h x0 5) (z_ln h x_1) ∧ (z_kd (z_pai h x_1 (Int32.toNatClampNeg (z_oi h x0 5)) ((x1 >>> (((nI 24) - ((nI 8) * (x6 - x6 / (nI 4) * (nI 4)))) &&& (nI 31))) &&& (nI 255))) x0 = 28 ∧ (z_kd (z_pai h x_1 (Int32.toNatClampNeg (z_oi h x0 5)) ((x1 >>> (((nI 24) - ((nI 8) * (x6 - x6 / (nI 4) * (nI 4)))) &&& (nI 31))) &&& (nI 255))) x0 = 28 ∧ (z_J G (d + 1) (m_X12_feed z_puC) r) 23 [some (.ref x0), some (.int x1), some (.int x2), some (.int x3), some (.int x4), some (.int x5), some (.int (x6 + (nI 1))), none] [] (z_poi (z_pai h x_1 (Int32.toNatClampNeg (z_oi h x0 5)) ((x1 >>> (((nI 24) - ((nI 8) * (x6 - x6 / (nI 4) * (nI 4)))) &&& (nI 31))) &&& (nI 255))) x0 5 ((z_oi (z_pai h x_1 (Int32.toNatClampNeg (z_oi h x0 5)) ((x1 >>> (((nI 24) - ((nI 8) * (x6 - x6 / (nI 4) * (nI 4)))) &&& (nI 31))) &&& (nI 255))) x0 5) + (nI 1))))))))))) else (if x6 < (nI 8) then (z_kd h x0 = 28 ∧ (z_rc (z_or h x0 4) (z_kd h x0 = 28 ∧ (¬ (nI 4) = (nI 0) ∧ False)) (fun x_2 => (z_kd h x0 = 28 ∧ (¬ (nI 4) = (nI 0) ∧ (z_kd h x_2 = 1 ∧ vp_in (z_oi h x0 5) (z_ln h x_2) ∧ (z_kd (z_pai h x_2 (Int32.toNatClampNeg (z_oi h x0 5)) ((x2 >>> (((nI 24) - ((nI 8) * (x6 - x6 / (nI 4) * (nI 4)))) &&& (nI 31))) &&& (nI 255))) x0 = 28 ∧ (z_kd (z_pai h x_2 (Int32.toNatClampNeg (z_oi h x0 5)) ((x2 >>> (((nI 24) - ((nI 8) * (x6 - x6 / (nI 4) * (nI 4)))) &&& (nI 31))) &&& (nI 255))) x0 = 28 ∧ (z_J G (d + 1) (m_X12_feed z_puC) r) 23 [some (.ref x0), some (.int x1), some (.int x2), some (.int x3), some (.int x4), some (.int x5), some (.int (x6 + (nI 1))), none] [] (z_poi (z_pai h x_2 (Int32.toNatClampNeg (z_oi h x0 5)) ((x2 >>> (((nI 24) - ((nI 8) * (x6 - x6 / (nI 4) * (nI 4)))) &&& (nI 31))) &&& (nI 255))) x0 5 ((z_oi (z_pai h x_2 (Int32.toNatClampNeg (z_oi h x0 5)) ((x2 >>> (((nI 24) - ((nI 8) * (x6 - x6 / (nI 4) * (nI 4)))) &&& (nI 31))) &&& (nI 255))) x0 5) + (nI 1))))))))))) else (if x6 < (nI 12) then (z_kd h x0 = 28 ∧ (z_rc (z_or h x0 4) (z_kd h x0 = 28 ∧ (¬ (nI 4) = (nI 0) ∧ False)) (fun x_3 => (z_kd h x0 = 28 ∧ (¬ (nI 4) = (nI 0) ∧ (z_kd h x_3 = 1 ∧ vp_in (z_oi h x0 5) (z_ln h x_3) ∧ (z_kd (z_pai h x_3 (Int32.toNatClampNeg (z_oi h x0 5)) ((x3 >>> (((nI 24) - ((nI 8) * (x6 - x6 / (nI 4) * (nI 4)))) &&& (nI 31))) &&& (nI 255))) x0 = 28 ∧ (z_kd (z_pai h x_3 (Int32.toNatClampNeg (z_oi h x0 5)) ((x3 >>> (((nI 24) - ((nI 8) * (x6 - x6 / (nI 4) * (nI 4)))) &&& (nI 31))) &&& (nI 255))) x0 = 28 ∧ (z_J G (d + 1) (m_X12_feed z_puC) r) 23 [some (.ref x0), some (.int x1), some (.int x2), some (.int x3), some (.int x4), some (.int x5), some (.int (x6 + (nI 1))), none] [] (z_poi (z_pai h x_3 (Int32.toNatClampNeg (z_oi h x0 5)) ((x3 >>> (((nI 24) - ((nI 8) * (x6 - x6 / (nI 4) * (nI 4)))) &&& (nI 31))) &&& (nI 255))) x0 5 ((z_oi (z_pai h x_3 (Int32.toNatClampNeg (z_oi h x0 5)) ((x3 >>> (((nI 24) - ((nI 8) * (x6 - x6 / (nI 4) * (nI 4)))) &&& (nI 31))) &&& (nI 255))) x0 5) + (nI 1))))))))))) else (if x6 < (nI 16) then (z_kd h x0 = 28 ∧ (z_rc (z_or h x0 4) (z_kd h x0 = 28 ∧ (¬ (nI 4) = (nI 0) ∧ False)) (fun x_4 => (z_kd h x0 = 28 ∧ (¬ (nI 4) = (nI 0) ∧ (z_kd h x_4 = 1 ∧ vp_in (z_oi h x0 5) (z_ln h x_4) ∧ (z_kd (z_pai h x_4 (Int32.toNatClampNeg (z_oi h x0 5)) ((x4 >>> (((nI 24) - ((nI 8) * (x6 - x6 / (nI 4) * (nI 4)))) &&& (nI 31))) &&& (nI 255))) x0 = 28 ∧ (z_kd (z_pai h x_4 (Int32.toNatClampNeg (z_oi h x0 5)) ((x4 >>> (((nI 24) - ((nI 8) * (x6 - x6 / (nI 4) * (nI 4)))) &&& (nI 31))) &&& (nI 255))) x0 = 28 ∧ (z_J G (d + 1) (m_X12_feed z_puC) r) 23 [some (.ref x0), some (.int x1), some (.int x2), some (.int x3), some (.int x4), some (.int x5), some (.int (x6 + (nI 1))), none] [] (z_poi (z_pai h x_4 (Int32.toNatClampNeg (z_oi h x0 5)) ((x4 >>> (((nI 24) - ((nI 8) * (x6 - x6 / (nI 4) * (nI 4)))) &&& (nI 31))) &&& (nI 255))) x0 5 ((z_oi (z_pai h x_4 (Int32.toNatClampNeg (z_oi h x0 5)) ((x4 >>> (((nI 24) - ((nI 8) * (x6 - x6 / (nI 4) * (nI 4)))) &&& (nI 31))) &&& (nI 255))) x0 5) + (nI 1))))))))))) else (z_kd h x0 = 28 ∧ (z_rc (z_or h x0 4) (z_kd h x0 = 28 ∧ (¬ (nI 4) = (nI 0) ∧ False)) (fun x_5 => (z_kd h x0 = 28 ∧ (¬ (nI 4) = (nI 0) ∧ (z_kd h x_5 = 1 ∧ vp_in (z_oi h x0 5) (z_ln h x_5) ∧ (z_kd (z_pai h x_5 (Int32.toNatClampNeg (z_oi h x0 5)) ((x5 >>> (((nI 24) - ((nI 8) * (x6 - x6 / (nI 4) * (nI 4)))) &&& (nI 31))) &&& (nI 255))) x0 = 28 ∧ (z_kd (z_pai h x_5 (Int32.toNatClampNeg (z_oi h x0 5)) ((x5 >>> (((nI 24) - ((nI 8) * (x6 - x6 / (nI 4) * (nI 4)))) &&& (nI 31))) &&& (nI 255))) x0 = 28 ∧ (z_J G (d + 1) (m_X12_feed z_puC) r) 23 [some (.ref x0), some (.int x1), some (.int x2), some (.int x3), some (.int x4), some (.int x5), some (.int (x6 + (nI 1))), none] [] (z_poi (z_pai h x_5 (Int32.toNatClampNeg (z_oi h x0 5)) ((x5 >>> (((nI 24) - ((nI 8) * (x6 - x6 / (nI 4) * (nI 4)))) &&& (nI 31))) &&& (nI 255))) x0 5 ((z_oi (z_pai h x_5 (Int32.toNatClampNeg (z_oi h x0 5)) ((x5 >>> (((nI 24) - ((nI 8) * (x6 - x6 / (nI 4) * (nI 4)))) &&& (nI 31))) &&& (nI 255))) x0 5) + (nI 1))))))))))))))) else (z_kd h x0 = 28 ∧ r = (.inl (some (.int (z_oi h x0 5))), h)))) : (z_J G (d + 1) (m_X12_feed z_puC) r) 23 [some (.ref x0), some (.int x1), some (.int x2), some (.int x3), some (.int x4), some (.int x5), some (.int x6), none] [] h := z_bq (v_X12 z_puC (vP_X12_feed z_puC) hPu) hd_X12_feed 45 hT
/-! signed numbers, points, words -/
def errR (F F' : Nat → Int32) (c pl : Nat) : Prop := F' 12 = nI c ∧ F' 13 = nI pl ∧ agrF [6, 8, 9, 10, 11, 12, 13] F F'
def p_pt (T : Nat → Nat) (n i np : Nat) : (Nat × Nat) ⊕ Nat := match p_num T n i 0 9 with
  | .inl v => if v.1 < np then .inl v else .inr 3
  | .inr c => .inr c
def p_sg (T : Nat → Nat) (n i : Nat) : (Int32 × Nat) ⊕ (Nat × Nat) := if tk_k T n i = 3 ∧ T (tk_b T n i) = 45 then (match p_num T n (tk_e T n i) 0 9 with
  | .inl v => .inl (-(nI v.1), v.2)
  | .inr c => .inr (c, tk_b T n (tk_e T n i))) else (match p_num T n i 0 9 with
  | .inl v => .inl (nI v.1, v.2)
  | .inr c => .inr (c, tk_b T n i))
def w_byt (i : Nat) : List Nat := match i with
  | 3 => [112, 111, 105, 110, 116, 115]
  | 4 => [108, 105, 110, 101]
  | _ => [97, 116]
def c_isw (T : Nat → Nat) (n i w : Nat) : Bool := decide (tk_k T n i = 1 ∧ tk_e T n i = tk_b T n i + (w_byt w).length) && !c_any (fun k => !decide (T (tk_b T n i + k) = (w_byt w).getD k 0)) (w_byt w).length
theorem agrF_tr {K : List Nat} {F F' F'' : Nat → Int32} (h1 : agrF K F F') (h2 : agrF K F' F'') : agrF K F F'' := fun k hk => (h2 k hk).trans (h1 k hk)
theorem agrF_mono {K K' : List Nat} {F F' : Nat → Int32} (h : agrF K F F') (hs : ∀ k, k ∈ K → k ∈ K') : agrF K' F F' := fun k hk => h k (fun q => hk (hs k q))
theorem txt_agr {T : Nat → Nat} {n : Nat} {F F' : Nat → Int32} {A A' : Nat → Nat → Int32} (ht : txt T n F A) (hF : F' 7 = F 7) (hA : A' 4 = A 4) : txt T n F' A' := ⟨by rw [hF]; exact ht.1, ht.2.1, by rw [hA]; exact ht.2.2⟩
theorem errF_R {T : Nat → Nat} {n i c : Nat} {F : Nat → Int32} (hF : tokF T n F i) : errR F (errF F c) c (tk_b T n i) := by
  unfold errF
  refine ⟨by rw [u_ne _ _ (by decide), u_eq], by rw [u_eq]; exact hF.1, agrF_u (agrF_u agrF_rf (by decide) _) (by decide) _⟩
section DD
variable {G : z_G} {d : Nat} {h : z_H} {M : Nat} {F : Nat → Int32} {A : Nat → Nat → Int32} {T : Nat → Nat} {n : Nat}
theorem e_mark (hM : z_sh M h) (ht : txt T n F A) {i c : Nat} (hi : i ≤ n) (hF : tokF T n F i) (h12 : F 12 = nI 0) (hc : c < 256) : s_X12_isMarked M (nI c) (z_rs h M F A) ∧ f_X12_isMarked M (nI c) (z_rs h M F A) = nI (decide (tk_k T n i = 3 ∧ T (tk_b T n i) = c)).toNat := by
  have hn := ht.2.1
  have hbn := tk_bn (T := T) hi
  have hk4 : tk_k T n i ≤ 4 := by unfold tk_k; split; omega; split; omega; split; omega; split <;> omega
  have hb : tk_k T n i = 3 → tk_b T n i < n := fun q => by
    by_cases e : tk_b T n i = n
    · unfold tk_k at q; rw [if_pos e] at q; cases q
    · omega
  refine ⟨⟨hM, fun _ q => ?_⟩, ?_⟩
  · rw [rs_oi, hF.2.2.2.1] at q
    have := hb ((nI_eq (b := 3) (by omega) (by omega)).mp q)
    rw [rs_oi, hF.1]; exact vp_in_nI (by omega) (by omega)
  · unfold f_X12_isMarked
    simp only [rs_oi]
    rw [show F 12 = 0 from h12, if_pos rfl, hF.2.2.2.1, hF.1, rs_ai _ _ _ _ (by omega) (by omega), nI_clamp (by omega)]
    by_cases q : tk_k T n i = 3
    · have hlt := hb q
      have h256 := (ht.2.2 _ hlt)
      rw [if_pos (show nI (tk_k T n i) = 3 by rw [q]; rfl), h256.1]
      by_cases q2 : T (tk_b T n i) = c
      · rw [if_pos (by rw [q2]), decide_eq_true ⟨q, q2⟩]; rfl
      · rw [if_neg (fun e => q2 ((nI_eq (by omega) (by omega)).mp e)), decide_eq_false (fun e => q2 e.2)]; rfl
    · rw [if_neg (show ¬ nI (tk_k T n i) = 3 from fun e => q ((nI_eq (b := 3) (by omega) (by omega)).mp e)), decide_eq_false (fun e => q e.1)]; rfl
theorem e_markB (hM : z_sh M h) (h12 : ¬ F 12 = nI 0) (c : Int32) : s_X12_isMarked M c (z_rs h M F A) ∧ f_X12_isMarked M c (z_rs h M F A) = nI 0 := by
  refine ⟨⟨hM, fun q => absurd (by rw [rs_oi] at q; exact q) h12⟩, ?_⟩
  unfold f_X12_isMarked
  simp only [rs_oi]
  rw [if_neg (show ¬ F 12 = 0 from h12)]; rfl
theorem e_pointNow (hM : z_sh M h) (ht : txt T n F A) {i np : Nat} (hi : i ≤ n) (hF : tokF T n F i) (h12 : F 12 = nI 0) (hnp : np ≤ 8) (h2 : A 2 0 = nI np) : match p_pt T n i np with | .inl v => z_Ev G (d + 6) k_X12_pointNow [.ref M] (z_rs h M F A) (.inl (some (.int (nI v.1))), z_rs h M F A) | .inr c => ∃ p, p < 10 ∧ z_Ev G (d + 6) k_X12_pointNow [.ref M] (z_rs h M F A) (.inl (some (.int (nI p))), z_rs h M (errF F c) A) := by
  have e := e_numberNow (G := G) (d := d) (lo := 0) (hi := 9) hM ht hi hF h12 (by omega) (by omega)
  unfold p_pt
  cases hp : p_num T n i 0 9 with
  | inl v =>
    rw [hp] at e
    have hv := p_num_9 hi hp
    dsimp only at e ⊢
    have go : ∀ r, (if v.1 < np then r = (.inl (some (.int (nI v.1))), z_rs h M F A) else (∃ h_4, z_Ev G (d + 5) k_X12_wrong [.ref M, .int (nI 3)] (z_rs h M F A) (.inl none, h_4) ∧ r = (.inl (some (.int (nI v.1))), h_4))) → z_Ev G (d + 6) k_X12_pointNow [.ref M] (z_rs h M F A) r := by
      intro r hr
      refine en_X12_pointNow (b_X12_pointNow_0 z_puCV ⟨sh_kd hM, _, _, e, sh_kd hM, ?_⟩)
      rw [rs_oi, h12, if_pos rfl]
      refine ⟨sh_kd hM, ?_⟩
      rw [show z_or (z_rs h M F A) M 2 = some (M + 2) from (sh_read hM).1, z_rcs, rs_ai _ _ _ _ (by omega) (by omega), nI_clamp (show 0 < 2 ^ 31 by decide), h2]
      refine ⟨(sh_read hM).2.1, by show vp_in (nI 0) (z_ln h (M + 2)); rw [(sh_read hM).2.2]; exact vp_in_nI (by omega) (by omega), ?_⟩
      by_cases c1 : v.1 < np
      · rw [if_pos c1] at hr; rw [if_pos (nI_lt c1 (by omega))]; exact hr
      · rw [if_neg c1] at hr; rw [if_neg (fun q => c1 ((nI_ltI (by omega) (by omega)).mp q))]; exact ⟨sh_kd hM, hr⟩
    by_cases c1 : v.1 < np
    · rw [if_pos c1]
      exact go _ (by rw [if_pos c1])
    · rw [if_neg c1]
      exact ⟨v.1, by omega, go _ (by rw [if_neg c1]; exact ⟨_, e_wrong hM h12 3, rfl⟩)⟩
  | inr c =>
    rw [hp] at e
    have hc : c = 1 ∨ c = 2 := by
      unfold p_num at hp
      split at hp
      · split at hp
        · cases hp
        · cases hp; exact Or.inr rfl
      · cases hp; exact Or.inl rfl
    refine ⟨0, by omega, en_X12_pointNow (b_X12_pointNow_0 z_puCV ⟨sh_kd hM, _, _, e, sh_kd hM, ?_⟩)⟩
    rw [rs_oi, if_neg (errF_12 (by omega) (by omega))]
theorem e_pointB (hM : z_sh M h) (h12 : ¬ F 12 = nI 0) : z_Ev G (d + 6) k_X12_pointNow [.ref M] (z_rs h M F A) (.inl (some (.int (nI 0))), z_rs h M F A) := by
  refine en_X12_pointNow (b_X12_pointNow_0 z_puCV ⟨sh_kd hM, _, _, e_numberB hM h12, sh_kd hM, ?_⟩)
  rw [rs_oi, if_neg h12]
theorem e_readSigned (hM : z_sh M h) (ht : txt T n F A) {i : Nat} (hi : i ≤ n) (hF : tokF T n F i) (h12 : F 12 = nI 0) : match p_sg T n i with | .inl v => ∃ F', agrF [6, 8, 9, 10, 11] F F' ∧ tokF T n F' v.2 ∧ v.2 ≤ n ∧ z_Ev G (d + 7) k_X12_readSigned [.ref M] (z_rs h M F A) (.inl (some (.int v.1)), z_rs h M F' A) | .inr e => ∃ F' v, errR F F' e.1 e.2 ∧ (0 < e.1 ∧ e.1 < 6) ∧ z_Ev G (d + 7) k_X12_readSigned [.ref M] (z_rs h M F A) (.inl (some (.int v)), z_rs h M F' A) := by
  obtain ⟨m1, m2⟩ := e_mark hM ht hi hF h12 (show 45 < 256 by decide)
  have cc : ∀ j c, p_num T n j 0 9 = .inr c → c = 1 ∨ c = 2 := fun j c hp => by
    unfold p_num at hp
    split at hp
    · split at hp
      · cases hp
      · cases hp; exact Or.inr rfl
    · cases hp; exact Or.inl rfl
  unfold p_sg
  by_cases hm : tk_k T n i = 3 ∧ T (tk_b T n i) = 45
  · rw [decide_eq_true hm] at m2
    rw [if_pos hm]
    have hen := tk_en (T := T) hi
    obtain ⟨F1, g1, g2, g3⟩ := e_stepOn (G := G) (d := d + 2) (A := A) hM ht (i := tk_e T n i) hen.2 hF.2.2.1
    have ht1 : txt T n F1 A := txt_agr ht (g1 7 (by decide)) rfl
    have h121 : F1 12 = nI 0 := (g1 12 (by decide)).trans h12
    have e := e_readNumber (G := G) (d := d) (lo := 0) (hi := 9) hM ht1 hen.2 g2 h121 (by omega) (by omega)
    cases hp : p_num T n (tk_e T n i) 0 9 with
    | inl v =>
      rw [hp] at e
      obtain ⟨F', k1, k2, k3⟩ := e
      refine ⟨F', agrF_tr g1 k1, k2, by rw [(p_num_9 hen.2 hp).2.2.2.1]; exact (tk_en hen.2).2, en_X12_readSigned (b_X12_readSigned_0 z_puCV ⟨sh_kd hM, m1, ?_⟩)⟩
      rw [m2, if_neg (by decide)]
      refine ⟨sh_kd hM, _, g3, sh_kd hM, _, _, k3, ?_⟩
      rw [if_neg (by decide)]
    | inr c =>
      rw [hp] at e
      have hc := cc _ _ hp
      have er := errF_R (c := c) g2
      refine ⟨errF F1 c, -(nI 0), ⟨er.1, er.2.1, agrF_tr (agrF_mono g1 (by decide)) er.2.2⟩, by show 0 < c ∧ c < 6; omega, en_X12_readSigned (b_X12_readSigned_0 z_puCV ⟨sh_kd hM, m1, ?_⟩)⟩
      rw [m2, if_neg (by decide)]
      refine ⟨sh_kd hM, _, g3, sh_kd hM, _, _, e, ?_⟩
      rw [if_neg (by decide)]
  · rw [decide_eq_false hm] at m2
    rw [if_neg hm]
    have e := e_readNumber (G := G) (d := d) (lo := 0) (hi := 9) hM ht hi hF h12 (by omega) (by omega)
    cases hp : p_num T n i 0 9 with
    | inl v =>
      rw [hp] at e
      obtain ⟨F', k1, k2, k3⟩ := e
      refine ⟨F', k1, k2, by rw [(p_num_9 hi hp).2.2.2.1]; exact (tk_en hi).2, en_X12_readSigned (b_X12_readSigned_0 z_puCV ⟨sh_kd hM, m1, ?_⟩)⟩
      rw [m2, if_pos (by decide)]
      refine ⟨sh_kd hM, _, _, k3, ?_⟩
      rw [if_pos (by decide)]
    | inr c =>
      rw [hp] at e
      have hc := cc _ _ hp
      have er := errF_R (c := c) hF
      refine ⟨errF F c, nI 0, er, by show 0 < c ∧ c < 6; omega, en_X12_readSigned (b_X12_readSigned_0 z_puCV ⟨sh_kd hM, m1, ?_⟩)⟩
      rw [m2, if_pos (by decide)]
      refine ⟨sh_kd hM, _, _, e, ?_⟩
      rw [if_pos (by decide)]
theorem e_readSgnB (hM : z_sh M h) (h12 : ¬ F 12 = nI 0) : z_Ev G (d + 7) k_X12_readSigned [.ref M] (z_rs h M F A) (.inl (some (.int (nI 0))), z_rs h M F A) := by
  obtain ⟨m1, m2⟩ := e_markB (A := A) hM h12 (nI 45)
  refine en_X12_readSigned (b_X12_readSigned_0 z_puCV ⟨sh_kd hM, m1, ?_⟩)
  rw [m2, if_pos rfl]
  refine ⟨sh_kd hM, _, _, e_readNumB (d := d) hM h12, ?_⟩
  rw [if_pos rfl]
theorem w_sch : ∀ w, (w = 3 ∨ w = 4 ∨ w = 5) → ∀ k, k < (w_byt w).length → z_sch w (nI k) = nI ((w_byt w).getD k 0) ∧ (w_byt w).getD k 0 < 256 := by
  rintro w (rfl | rfl | rfl)
  · decide +kernel
  · decide +kernel
  · decide +kernel
theorem w_len : ∀ w, (w = 3 ∨ w = 4 ∨ w = 5) → z_slen.getD w 0 = (w_byt w).length ∧ (w_byt w).length ≤ 6 := by
  rintro w (rfl | rfl | rfl) <;> decide
theorem e_is (hM : z_sh M h) (ht : txt T n F A) {i w : Nat} (hw : w = 3 ∨ w = 4 ∨ w = 5) (hi : i ≤ n) (hF : tokF T n F i) (h12 : F 12 = nI 0) : z_Ev G (d + 5) k_X12_is [.ref M, .ref (z_sad G w)] (z_rs h M F A) (.inl (some (.int (nI (c_isw T n i w).toNat))), z_rs h M F A) := by
  have hn := ht.2.1
  have hbn := tk_bn (T := T) hi
  have hen := tk_en (T := T) hi
  have hl := w_len w hw
  have hw6 : w < 6 := by omega
  have hk4 : tk_k T n i ≤ 4 := by unfold tk_k; split; omega; split; omega; split; omega; split <;> omega
  have elen : z_Ev G (d + 4) k_J0_length_8abf5 [.ref (z_sad G w)] (z_rs h M F A) (.inl (some (.int (nI (w_byt w).length))), z_rs h M F A) := by
    have := e_length (G := G) (d := d + 2) (h := z_rs h M F A) hw6
    rw [hl.1] at this
    exact this
  have out : ∀ j, c_isw T n i w = false → z_J G (d + 5) (m_X12_is z_puC) (.inl (some (.int (nI (c_isw T n i w).toNat))), z_rs h M F A) 39 [some (.ref M), some (.ref (z_sad G w)), some (.int (nI 0)), some (.int (nI j))] [] (z_rs h M F A) := by
    intro j hf
    refine b_X12_is_39 z_puCV ?_
    rw [if_pos (show nI 0 = nI 0 from rfl), hf]
    exact ⟨Or.inl rfl, rfl⟩
  refine en_X12_is (b_X12_is_0 z_puCV ⟨sh_kd hM, ?_⟩)
  simp only [rs_oi]
  rw [h12, if_pos rfl, hF.2.2.2.1]
  refine ⟨sh_kd hM, ?_⟩
  by_cases hk : tk_k T n i = 1
  · rw [if_pos (by rw [hk])]
    refine ⟨w, hw6, rfl, _, _, elen, sh_kd hM, sh_kd hM, ?_⟩
    rw [rs_oi, hF.2.1, hF.1, q_sub hen.1]
    by_cases he : tk_e T n i = tk_b T n i + (w_byt w).length
    · rw [if_pos (by rw [he, Nat.add_sub_cancel_left])]
      refine z_fnd (fun k => [some (.ref M), some (.ref (z_sad G w)), some (.int (nI 1)), some (.int (nI k))]) (fun k => !decide (T (tk_b T n i + k) = (w_byt w).getD k 0)) (w_byt w).length ?_ ?_
      · intro k hkk hno hJ
        have hs := w_sch w hw k hkk
        have hlt : tk_b T n i + k < n := by omega
        have h256 := ht.2.2 _ hlt
        have ech : z_Ev G (d + 4) k_J0_charAt_5068e [.ref (z_sad G w), .int (nI k)] (z_rs h M F A) (.inl (some (.int (nI ((w_byt w).getD k 0)))), z_rs h M F A) := by
          have := e_charAt (G := G) (d := d) (h := z_rs h M F A) hw6 (j := nI k) (by rw [hl.1]; exact vp_in_nI hkk (by omega))
          rw [hs.1] at this
          exact this
        refine b_X12_is_39 z_puCV ?_
        rw [if_neg (show ¬ nI 1 = nI 0 by decide)]
        refine ⟨w, hw6, rfl, _, _, elen, ?_⟩
        rw [if_pos (nI_lt hkk (by omega))]
        refine ⟨w, hw6, rfl, _, _, ech, sh_kd hM, ?_⟩
        rw [show z_or (z_rs h M F A) M 4 = some (M + 4) from (sh_tape hM).1, z_rcs, rs_oi, hF.1, nI_add, nI_clamp (by omega), rs_ai _ _ _ _ (by omega) (by omega), h256.1, nI_add]
        refine ⟨sh_kd hM, (sh_tape hM).2.1, by show vp_in (nI (tk_b T n i + k)) (z_ln h (M + 4)); rw [(sh_tape hM).2.2]; exact vp_in_nI (by omega) (by omega), ?_⟩
        by_cases hc : T (tk_b T n i + k) = (w_byt w).getD k 0
        · rw [if_pos (by rw [hc])]
          exact hJ (by rw [decide_eq_true hc]; rfl)
        · rw [if_neg (fun e => hc ((nI_eq (by omega) (by omega)).mp e).symm)]
          refine out (k + 1) ?_
          unfold c_isw
          rw [any_t hkk (by rw [decide_eq_false hc]; rfl)]
          simp
      · intro hno
        refine b_X12_is_39 z_puCV ?_
        rw [if_neg (show ¬ nI 1 = nI 0 by decide)]
        refine ⟨w, hw6, rfl, _, _, elen, ?_⟩
        rw [if_neg (nI_nlt (Nat.le_refl _) (by omega))]
        have : c_isw T n i w = true := by
          unfold c_isw
          rw [any_f hno, decide_eq_true ⟨hk, he⟩]; rfl
        rw [this]
        exact ⟨Or.inr rfl, rfl⟩
    · rw [if_neg (fun e => he (by have := (nI_eq (by omega) (by omega)).mp e; omega))]
      exact out 0 (by unfold c_isw; rw [decide_eq_false (fun q => he q.2)]; rfl)
  · rw [if_neg (fun e => hk ((nI_eq (by omega) (by omega)).mp e))]
    exact out 0 (by unfold c_isw; rw [decide_eq_false (fun q => hk q.1)]; rfl)
end DD
