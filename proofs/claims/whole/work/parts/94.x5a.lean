theorem en_X5_holds {pu : Nat → Option ((List Value → z_H → Prop) × (List Value → z_H → Int32))} {G : z_G} {d : Nat} {r : z_Res} {h : z_H} {x0 : Nat} {x1 : Int32} {x2 : Int32} (hJ : z_J G d (m_X5_holds pu) r 0 [some (.ref x0), some (.int x1), some (.int x2)] [] h) : z_Ev G d k_X5_holds [.ref x0, .int x1, .int x2] h r := z_enter (μ := m_X5_holds pu) rfl (by decide) rfl rfl (fun q => by cases q) (Nat.le_of_ble_eq_true rfl) hJ
def hd_X5_holds : Nat → Option (List Bool) := (fun k => none)
set_option maxRecDepth 20000 in
theorem b_X5_holds_0 {G : z_G} {d : Nat} {r : z_Res} (hPu : z_PuV G d (t_X5 z_pu0)) {h : z_H} {x0 : Nat} {x1 : Int32} {x2 : Int32} (hT : (z_kd h x0 = 21 ∧ (if (z_oi h x0 4) = (nI 0) then (z_kd h x0 = 21 ∧ (z_rc (z_or h x0 1) False (fun x_1 => (z_kd h x_1 = 24 ∧ (z_rc (z_or h x_1 3) False (fun x_2 => (z_kd h x_2 = 1 ∧ vp_in x1 (z_ln h x_2) ∧ (z_kd h x0 = 21 ∧ (z_rc (z_or h x0 0) False (fun x_3 => (z_kd h x_3 = 24 ∧ (z_rc (z_or h x_3 3) False (fun x_4 => (z_kd h x_4 = 1 ∧ vp_in x2 (z_ln h x_4) ∧ (if (z_ai h x_2 (Int32.toNatClampNeg x1)) < (z_ai h x_4 (Int32.toNatClampNeg x2)) then (z_bz (nI 0) ∧ r = (.inl (some (.int (nI 0))), h)) else (z_bz (nI 1) ∧ r = (.inl (some (.int (nI 1))), h))))))))))))))))) else (z_kd h x0 = 21 ∧ (z_rc (z_or h x0 1) False (fun x_5 => (z_kd h x_5 = 24 ∧ (z_rc (z_or h x_5 3) False (fun x_6 => (z_kd h x_6 = 1 ∧ vp_in x1 (z_ln h x_6) ∧ (z_kd h x0 = 21 ∧ (z_rc (z_or h x0 0) False (fun x_7 => (z_kd h x_7 = 24 ∧ (z_rc (z_or h x_7 3) False (fun x_8 => (z_kd h x_8 = 1 ∧ vp_in x2 (z_ln h x_8) ∧ (if (z_ai h x_6 (Int32.toNatClampNeg x1)) = (z_ai h x_8 (Int32.toNatClampNeg x2)) then (z_bz (nI 1) ∧ r = (.inl (some (.int (nI 1))), h)) else (z_bz (nI 0) ∧ r = (.inl (some (.int (nI 0))), h)))))))))))))))))))) : (z_J G (d + 1) (m_X5_holds z_pu0) r) 0 [some (.ref x0), some (.int x1), some (.int x2)] [] h := z_bq (v_X5 z_pu0 (vP_X5_holds z_pu0) hPu) hd_X5_holds 19 hT
theorem en_X5_fit {pu : Nat → Option ((List Value → z_H → Prop) × (List Value → z_H → Int32))} {G : z_G} {d : Nat} {r : z_Res} {h : z_H} {x0 : Nat} {x1 : Int32} {x2 : Int32} {x3 : Int32} (hJ : z_J G d (m_X5_fit pu) r 0 [some (.ref x0), some (.int x1), some (.int x2), some (.int x3), none, none, none, none, none] [] h) : z_Ev G d k_X5_fit [.ref x0, .int x1, .int x2, .int x3] h r := z_enter (μ := m_X5_fit pu) rfl (by decide) rfl rfl (fun q => by cases q) (Nat.le_of_ble_eq_true rfl) hJ
def hd_X5_fit : Nat → Option (List Bool) := (fun k => (cond (Nat.blt k 226) (cond (Nat.blt k 129) (cond (Nat.blt k 88) (cond (Nat.beq k 43) (some [true, true, true, false, true, true, true, false, false]) none) (cond (Nat.beq k 88) (some [true, true, true, false, true, true, true, true, true]) none)) (cond (Nat.blt k 170) (cond (Nat.beq k 129) (some [true, true, true, false, true, true, true, true, true]) none) (cond (Nat.blt k 217) (cond (Nat.beq k 170) (some [true, true, true, false, true, true, true, true, true]) none) (cond (Nat.beq k 217) (some [true, true, true, false, true, true, true, false, false]) none)))) none))
set_option maxRecDepth 20000 in
theorem b_X5_fit_0 {G : z_G} {d : Nat} {r : z_Res} (hPu : z_PuV G d (t_X5 z_pu0)) {h : z_H} {x0 : Nat} {x1 : Int32} {x2 : Int32} {x3 : Int32} (hT : (z_kd h x0 = 21 ∧ (if (z_oi h x0 4) = (nI 0) then (z_J G (d + 1) (m_X5_fit z_pu0) r) 43 [some (.ref x0), some (.int x1), some (.int x2), none, some (.int (((nI 1) <<< (x1 &&& (nI 31))) - (nI 1))), some (.int x3), some (.int (nI 0)), none, none] [] h else (z_kd h x0 = 21 ∧ (z_rc (z_or h x0 0) False (fun x_1 => (z_kd h x_1 = 24 ∧ (z_rc (z_or h x_1 5) False (fun x_2 => (z_kd h x_2 = 1 ∧ vp_in x1 (z_ln h x_2) ∧ (z_kd h x0 = 21 ∧ (z_rc (z_or h x0 1) False (fun x_3 => (z_kd h x_3 = 24 ∧ (z_rc (z_or h x_3 5) False (fun x_4 => (z_kd h x_4 = 1 ∧ vp_in x2 (z_ln h x_4) ∧ (if (z_ai h x_2 (Int32.toNatClampNeg x1)) = (z_ai h x_4 (Int32.toNatClampNeg x2)) then (z_J G (d + 1) (m_X5_fit z_pu0) r) 43 [some (.ref x0), some (.int x1), some (.int x2), none, some (.int (((nI 1) <<< (x1 &&& (nI 31))) - (nI 1))), some (.int x3), some (.int (nI 0)), none, none] [] h else r = (.inl (some (.int mI)), h))))))))))))))))))) : (z_J G (d + 1) (m_X5_fit z_pu0) r) 0 [some (.ref x0), some (.int x1), some (.int x2), some (.int x3), none, none, none, none, none] [] h := z_bq (v_X5 z_pu0 (vP_X5_fit z_pu0) hPu) hd_X5_fit 27 hT
set_option maxRecDepth 20000 in
theorem b_X5_fit_43 {G : z_G} {d : Nat} {r : z_Res} (hPu : z_PuV G d (t_X5 z_pu0)) {h : z_H} {x0 : Nat} {x1 : Int32} {x2 : Int32} {x4 : Int32} {x5 : Int32} {x6 : Int32} (hT : (if x6 < x1 then (z_kd h x0 = 21 ∧ (z_rc (z_or h x0 0) False (fun x_1 => (z_kd h x_1 = 24 ∧ (z_rc (z_or h x_1 7) False (fun x_2 => (z_kd h x_2 = 1 ∧ vp_in ((x1 * (nI 8)) + x6) (z_ln h x_2) ∧ (z_kd h x0 = 21 ∧ (z_rc (z_or h x0 1) False (fun x_3 => (z_kd h x_3 = 24 ∧ (z_rc (z_or h x_3 7) (z_kd h x0 = 21 ∧ (z_rc (z_or h x0 5) False (fun x_5 => (z_kd h x_5 = 1 ∧ vp_in x6 (z_ln h x_5) ∧ False)))) (fun x_4 => (z_kd h x0 = 21 ∧ (z_rc (z_or h x0 5) False (fun x_6 => (z_kd h x_6 = 1 ∧ vp_in x6 (z_ln h x_6) ∧ (z_kd h x_4 = 1 ∧ vp_in ((x2 * (nI 8)) + (z_ai h x_6 (Int32.toNatClampNeg x6))) (z_ln h x_4) ∧ (z_J G (d + 1) (m_X5_fit z_pu0) r) 88 [some (.ref x0), some (.int x1), some (.int x2), none, some (.int x4), some (.int x5), some (.int x6), some (.int (z_ai h x_2 (Int32.toNatClampNeg ((x1 * (nI 8)) + x6)))), some (.int (z_ai h x_4 (Int32.toNatClampNeg ((x2 * (nI 8)) + (z_ai h x_6 (Int32.toNatClampNeg x6))))))] [] h)))))))))))))))))) else r = (.inl (some (.int x5)), h))) : (z_J G (d + 1) (m_X5_fit z_pu0) r) 43 [some (.ref x0), some (.int x1), some (.int x2), none, some (.int x4), some (.int x5), some (.int x6), none, none] [] h := z_bq (v_X5 z_pu0 (vP_X5_fit z_pu0) hPu) hd_X5_fit 29 hT
set_option maxRecDepth 20000 in
theorem b_X5_fit_88 {G : z_G} {d : Nat} {r : z_Res} (hPu : z_PuV G d (t_X5 z_pu0)) {h : z_H} {x0 : Nat} {x1 : Int32} {x2 : Int32} {x4 : Int32} {x5 : Int32} {x6 : Int32} {x7 : Int32} {x8 : Int32} (hT : (if x7 = mI then (z_kd h x0 = 21 ∧ (if (z_oi h x0 4) = (nI 0) then (z_J G (d + 1) (m_X5_fit z_pu0) r) 129 [some (.ref x0), some (.int x1), some (.int x2), none, some (.int x4), some (.int x5), some (.int x6), some (.int x7), some (.int x8)] [] h else (if x8 = mI then (z_J G (d + 1) (m_X5_fit z_pu0) r) 129 [some (.ref x0), some (.int x1), some (.int x2), none, some (.int x4), some (.int x5), some (.int x6), some (.int x7), some (.int x8)] [] h else r = (.inl (some (.int mI)), h)))) else (if x8 = mI then r = (.inl (some (.int mI)), h) else (z_kd h x0 = 21 ∧ ∃ x_2 h_1, z_Ev G d k_X5_holds [.ref x0, .int x8, .int x7] h (.inl (some (.int x_2)), h_1) ∧ (if x_2 = (nI 0) then r = (.inl (some (.int mI)), h_1) else (z_J G (d + 1) (m_X5_fit z_pu0) r) 129 [some (.ref x0), some (.int x1), some (.int x2), none, some (.int x4), some (.int x5), some (.int x6), some (.int x7), some (.int x8)] [] h_1))))) : (z_J G (d + 1) (m_X5_fit z_pu0) r) 88 [some (.ref x0), some (.int x1), some (.int x2), none, some (.int x4), some (.int x5), some (.int x6), some (.int x7), some (.int x8)] [] h := z_bq (v_X5 z_pu0 (vP_X5_fit z_pu0) hPu) hd_X5_fit 15 hT
set_option maxRecDepth 20000 in
theorem b_X5_fit_129 {G : z_G} {d : Nat} {r : z_Res} (hPu : z_PuV G d (t_X5 z_pu0)) {h : z_H} {x0 : Nat} {x1 : Int32} {x2 : Int32} {x4 : Int32} {x5 : Int32} {x6 : Int32} {x7 : Int32} {x8 : Int32} (hT : (if x7 = mI then (z_J G (d + 1) (m_X5_fit z_pu0) r) 170 [some (.ref x0), some (.int x1), some (.int x2), none, some (.int x4), some (.int x5), some (.int x6), some (.int x7), some (.int x8)] [] h else (z_kd h x0 = 21 ∧ (z_rc (z_or h x0 1) False (fun x_1 => (z_kd h x_1 = 24 ∧ (z_rc (z_or h x_1 7) (z_kd h x0 = 21 ∧ (z_rc (z_or h x0 5) (z_kd h x0 = 21 ∧ (z_rc (z_or h x0 0) False (fun x_4 => (z_kd h x_4 = 24 ∧ (z_rc (z_or h x_4 4) False (fun x_5 => (z_kd h x_5 = 1 ∧ vp_in x7 (z_ln h x_5) ∧ False))))))) (fun x_3 => (z_kd h x0 = 21 ∧ (z_rc (z_or h x0 0) False (fun x_6 => (z_kd h x_6 = 24 ∧ (z_rc (z_or h x_6 4) False (fun x_7 => (z_kd h x_7 = 1 ∧ vp_in x7 (z_ln h x_7) ∧ (z_kd h x_3 = 1 ∧ vp_in (z_ai h x_7 (Int32.toNatClampNeg x7)) (z_ln h x_3) ∧ False))))))))))) (fun x_2 => (z_kd h x0 = 21 ∧ (z_rc (z_or h x0 5) (z_kd h x0 = 21 ∧ (z_rc (z_or h x0 0) False (fun x_9 => (z_kd h x_9 = 24 ∧ (z_rc (z_or h x_9 4) False (fun x_10 => (z_kd h x_10 = 1 ∧ vp_in x7 (z_ln h x_10) ∧ False))))))) (fun x_8 => (z_kd h x0 = 21 ∧ (z_rc (z_or h x0 0) False (fun x_11 => (z_kd h x_11 = 24 ∧ (z_rc (z_or h x_11 4) False (fun x_12 => (z_kd h x_12 = 1 ∧ vp_in x7 (z_ln h x_12) ∧ (z_kd h x_8 = 1 ∧ vp_in (z_ai h x_12 (Int32.toNatClampNeg x7)) (z_ln h x_8) ∧ (z_kd h x_2 = 1 ∧ vp_in ((x2 * (nI 8)) + (z_ai h x_8 (Int32.toNatClampNeg (z_ai h x_12 (Int32.toNatClampNeg x7))))) (z_ln h x_2) ∧ (if (z_ai h x_2 (Int32.toNatClampNeg ((x2 * (nI 8)) + (z_ai h x_8 (Int32.toNatClampNeg (z_ai h x_12 (Int32.toNatClampNeg x7))))))) = x8 then (z_J G (d + 1) (m_X5_fit z_pu0) r) 170 [some (.ref x0), some (.int x1), some (.int x2), none, some (.int x4), some (.int x5), some (.int x6), some (.int x7), some (.int x8)] [] h else r = (.inl (some (.int mI)), h)))))))))))))))))))))) : (z_J G (d + 1) (m_X5_fit z_pu0) r) 129 [some (.ref x0), some (.int x1), some (.int x2), none, some (.int x4), some (.int x5), some (.int x6), some (.int x7), some (.int x8)] [] h := z_bq (v_X5 z_pu0 (vP_X5_fit z_pu0) hPu) hd_X5_fit 25 hT
set_option maxRecDepth 20000 in
theorem b_X5_fit_170 {G : z_G} {d : Nat} {r : z_Res} (hPu : z_PuV G d (t_X5 z_pu0)) {h : z_H} {x0 : Nat} {x1 : Int32} {x2 : Int32} {x4 : Int32} {x5 : Int32} {x6 : Int32} {x7 : Int32} {x8 : Int32} (hT : (if x7 = mI then (z_J G (d + 1) (m_X5_fit z_pu0) r) 217 [some (.ref x0), some (.int x1), some (.int x2), none, some (.int x4), some (.int x5), some (.int x6), none, none] [] h else (z_kd h x0 = 21 ∧ (z_rc (z_or h x0 0) False (fun x_1 => (z_kd h x_1 = 24 ∧ (z_rc (z_or h x_1 2) False (fun x_2 => (z_kd h x_2 = 1 ∧ vp_in x7 (z_ln h x_2) ∧ (if ((z_ai h x_2 (Int32.toNatClampNeg x7)) &&& x4) = ((nI 1) <<< (x6 &&& (nI 31))) then (if ((x5 >>> (x8 &&& (nI 31))) &&& (nI 1)) = (nI 0) then (z_J G (d + 1) (m_X5_fit z_pu0) r) 217 [some (.ref x0), some (.int x1), some (.int x2), none, some (.int x4), some (.int (x5 ||| ((nI 1) <<< (x8 &&& (nI 31))))), some (.int x6), none, none] [] h else r = (.inl (some (.int mI)), h)) else (z_J G (d + 1) (m_X5_fit z_pu0) r) 217 [some (.ref x0), some (.int x1), some (.int x2), none, some (.int x4), some (.int x5), some (.int x6), none, none] [] h)))))))))) : (z_J G (d + 1) (m_X5_fit z_pu0) r) 170 [some (.ref x0), some (.int x1), some (.int x2), none, some (.int x4), some (.int x5), some (.int x6), some (.int x7), some (.int x8)] [] h := z_bq (v_X5 z_pu0 (vP_X5_fit z_pu0) hPu) hd_X5_fit 29 hT
set_option maxRecDepth 20000 in
theorem b_X5_fit_217 {G : z_G} {d : Nat} {r : z_Res} (hPu : z_PuV G d (t_X5 z_pu0)) {h : z_H} {x0 : Nat} {x1 : Int32} {x2 : Int32} {x4 : Int32} {x5 : Int32} {x6 : Int32} (hT : (z_J G (d + 1) (m_X5_fit z_pu0) r) 43 [some (.ref x0), some (.int x1), some (.int x2), none, some (.int x4), some (.int x5), some (.int (x6 + (nI 1))), none, none] [] h) : (z_J G (d + 1) (m_X5_fit z_pu0) r) 217 [some (.ref x0), some (.int x1), some (.int x2), none, some (.int x4), some (.int x5), some (.int x6), none, none] [] h := z_bq (v_X5 z_pu0 (vP_X5_fit z_pu0) hPu) hd_X5_fit 5 hT
theorem en_X5_isMutual {pu : Nat → Option ((List Value → z_H → Prop) × (List Value → z_H → Int32))} {G : z_G} {d : Nat} {r : z_Res} {h : z_H} {x0 : Nat} {x1 : Int32} {x2 : Int32} (hJ : z_J G d (m_X5_isMutual pu) r 0 [some (.ref x0), some (.int x1), some (.int x2), none] [] h) : z_Ev G d k_X5_isMutual [.ref x0, .int x1, .int x2] h r := z_enter (μ := m_X5_isMutual pu) rfl (by decide) rfl rfl (fun q => by cases q) (Nat.le_of_ble_eq_true rfl) hJ
def hd_X5_isMutual : Nat → Option (List Bool) := (fun k => (cond (Nat.blt k 51) (cond (Nat.beq k 2) (some [true, true, true, true]) none) none))
set_option maxRecDepth 20000 in
theorem b_X5_isMutual_0 {G : z_G} {d : Nat} {r : z_Res} (hPu : z_PuV G d (t_X5 z_pu0)) {h : z_H} {x0 : Nat} {x1 : Int32} {x2 : Int32} (hT : (z_J G (d + 1) (m_X5_isMutual z_pu0) r) 2 [some (.ref x0), some (.int x1), some (.int x2), some (.int (nI 0))] [] h) : (z_J G (d + 1) (m_X5_isMutual z_pu0) r) 0 [some (.ref x0), some (.int x1), some (.int x2), none] [] h := z_bq (v_X5 z_pu0 (vP_X5_isMutual z_pu0) hPu) hd_X5_isMutual 5 hT
set_option maxRecDepth 20000 in
theorem b_X5_isMutual_2 {G : z_G} {d : Nat} {r : z_Res} (hPu : z_PuV G d (t_X5 z_pu0)) {h : z_H} {x0 : Nat} {x1 : Int32} {x2 : Int32} {x3 : Int32} (hT : (if x3 < x1 then (z_kd h x0 = 21 ∧ (z_rc (z_or h x0 0) False (fun x_1 => (z_kd h x_1 = 24 ∧ (z_rc (z_or h x_1 2) (z_kd h x0 = 21 ∧ (z_rc (z_or h x0 5) False (fun x_3 => (z_kd h x_3 = 1 ∧ vp_in x3 (z_ln h x_3) ∧ False)))) (fun x_2 => (z_kd h x0 = 21 ∧ (z_rc (z_or h x0 5) False (fun x_4 => (z_kd h x_4 = 1 ∧ vp_in x3 (z_ln h x_4) ∧ (z_kd h x_2 = 1 ∧ vp_in (z_ai h x_4 (Int32.toNatClampNeg x3)) (z_ln h x_2) ∧ (z_kd h x0 = 21 ∧ (z_rc (z_or h x0 0) False (fun x_5 => (z_kd h x_5 = 24 ∧ (z_rc (z_or h x_5 2) False (fun x_6 => (z_kd h x_6 = 1 ∧ vp_in x2 (z_ln h x_6) ∧ (if (((z_ai h x_2 (Int32.toNatClampNeg (z_ai h x_4 (Int32.toNatClampNeg x3)))) >>> (x1 &&& (nI 31))) &&& (nI 1)) = (((z_ai h x_6 (Int32.toNatClampNeg x2)) >>> (x3 &&& (nI 31))) &&& (nI 1)) then (z_J G (d + 1) (m_X5_isMutual z_pu0) r) 2 [some (.ref x0), some (.int x1), some (.int x2), some (.int (x3 + (nI 1)))] [] h else (z_bz (nI 0) ∧ r = (.inl (some (.int (nI 0))), h))))))))))))))))))))) else (z_bz (nI 1) ∧ r = (.inl (some (.int (nI 1))), h)))) : (z_J G (d + 1) (m_X5_isMutual z_pu0) r) 2 [some (.ref x0), some (.int x1), some (.int x2), some (.int x3)] [] h := z_bq (v_X5 z_pu0 (vP_X5_isMutual z_pu0) hPu) hd_X5_isMutual 30 hT
theorem en_X5_leastName {pu : Nat → Option ((List Value → z_H → Prop) × (List Value → z_H → Int32))} {G : z_G} {d : Nat} {r : z_Res} {h : z_H} {x0 : Nat} {x1 : Int32} (hJ : z_J G d (m_X5_leastName pu) r 0 [some (.ref x0), some (.int x1), none] [] h) : z_Ev G d k_X5_leastName [.ref x0, .int x1] h r := z_enter (μ := m_X5_leastName pu) rfl (by decide) rfl rfl (fun q => by cases q) (Nat.le_of_ble_eq_true rfl) hJ
def hd_X5_leastName : Nat → Option (List Bool) := (fun k => (cond (Nat.blt k 38) (cond (Nat.beq k 4) (some [true, true, true]) none) none))
set_option maxRecDepth 20000 in
theorem b_X5_leastName_0 {G : z_G} {d : Nat} {r : z_Res} (hPu : z_PuV G d (t_X5 z_pu0)) {h : z_H} {x0 : Nat} {x1 : Int32} (hT : (z_J G (d + 1) (m_X5_leastName z_pu0) r) 4 [some (.ref x0), some (.int x1), some (.int (x1 - (nI 1)))] [] h) : (z_J G (d + 1) (m_X5_leastName z_pu0) r) 0 [some (.ref x0), some (.int x1), none] [] h := z_bq (v_X5 z_pu0 (vP_X5_leastName z_pu0) hPu) hd_X5_leastName 7 hT
set_option maxRecDepth 20000 in
theorem b_X5_leastName_4 {G : z_G} {d : Nat} {r : z_Res} (hPu : z_PuV G d (t_X5 z_pu0)) {h : z_H} {x0 : Nat} {x1 : Int32} {x2 : Int32} (hT : (if x2 < (nI 0) then r = (.inl (some (.int (nI 0))), h) else (z_kd h x0 = 21 ∧ (z_rc (z_or h x0 2) False (fun x_1 => (z_kd h x_1 = 1 ∧ vp_in x1 (z_ln h x_1) ∧ (if (((z_ai h x_1 (Int32.toNatClampNeg x1)) >>> (x2 &&& (nI 31))) &&& (nI 1)) = (nI 0) then (z_J G (d + 1) (m_X5_leastName z_pu0) r) 4 [some (.ref x0), some (.int x1), some (.int (x2 + mI))] [] h else (z_kd h x0 = 21 ∧ (z_rc (z_or h x0 5) False (fun x_2 => (z_kd h x_2 = 1 ∧ vp_in x2 (z_ln h x_2) ∧ r = (.inl (some (.int ((z_ai h x_2 (Int32.toNatClampNeg x2)) + (nI 1)))), h)))))))))))) : (z_J G (d + 1) (m_X5_leastName z_pu0) r) 4 [some (.ref x0), some (.int x1), some (.int x2)] [] h := z_bq (v_X5 z_pu0 (vP_X5_leastName z_pu0) hPu) hd_X5_leastName 20 hT
theorem en_X5_twinOrders {pu : Nat → Option ((List Value → z_H → Prop) × (List Value → z_H → Int32))} {G : z_G} {d : Nat} {r : z_Res} {h : z_H} {x0 : Nat} (hJ : z_J G d (m_X5_twinOrders pu) r 0 [some (.ref x0), none, none] [] h) : z_Ev G d k_X5_twinOrders [.ref x0] h r := z_enter (μ := m_X5_twinOrders pu) rfl (by decide) rfl rfl (fun q => by cases q) (Nat.le_of_ble_eq_true rfl) hJ
def hd_X5_twinOrders : Nat → Option (List Bool) := (fun k => (cond (Nat.blt k 43) (cond (Nat.beq k 4) (some [true, true, true]) none) none))
set_option maxRecDepth 20000 in
theorem b_X5_twinOrders_0 {G : z_G} {d : Nat} {r : z_Res} (hPu : z_PuV G d (t_X5 z_pu0)) {h : z_H} {x0 : Nat} (hT : (z_J G (d + 1) (m_X5_twinOrders z_pu0) r) 4 [some (.ref x0), some (.int (nI 1)), some (.int (nI 0))] [] h) : (z_J G (d + 1) (m_X5_twinOrders z_pu0) r) 0 [some (.ref x0), none, none] [] h := z_bq (v_X5 z_pu0 (vP_X5_twinOrders z_pu0) hPu) hd_X5_twinOrders 7 hT
set_option maxRecDepth 20000 in
theorem b_X5_twinOrders_4 {G : z_G} {d : Nat} {r : z_Res} (hPu : z_PuV G d (t_X5 z_pu0)) {h : z_H} {x0 : Nat} {x1 : Int32} {x2 : Int32} (hT : (z_kd h x0 = 21 ∧ (z_rc (z_or h x0 0) False (fun x_1 => (z_kd h x_1 = 24 ∧ (if x2 < (z_oi h x_1 0) then (z_kd h x0 = 21 ∧ (z_rc (z_or h x0 2) False (fun x_2 => (z_kd h x_2 = 1 ∧ vp_in x2 (z_ln h x_2) ∧ (∃ x_4 h_3, z_Ev G d k_J6_bitCount_0f7a4 [.int ((z_ai h x_2 (Int32.toNatClampNeg x2)) &&& (((nI 1) <<< (x2 &&& (nI 31))) - (nI 1)))] h (.inl (some (.int x_4)), h_3) ∧ (z_J G (d + 1) (m_X5_twinOrders z_pu0) r) 4 [some (.ref x0), some (.int (x1 * ((nI 1) + x_4))), some (.int (x2 + (nI 1)))] [] h_3))))) else r = (.inl (some (.int x1)), h))))))) : (z_J G (d + 1) (m_X5_twinOrders z_pu0) r) 4 [some (.ref x0), some (.int x1), some (.int x2)] [] h := z_bq (v_X5 z_pu0 (vP_X5_twinOrders z_pu0) hPu) hd_X5_twinOrders 26 hT
/-! THE MATCHER -/
/-- the line of two points -/
def jn (S : Sc) (p r : Nat) : Option Nat := if p = r then none else if c_of S (2 ^ p ||| 2 ^ r) < S.2.1 then some (c_of S (2 ^ p ||| 2 ^ r)) else none
theorem y_Jn {q b : Nat} {h : z_H} {S : Sc} (hA : sc_at q b h S) {p r : Nat} (hp : p < 8) (hr : r < 8) : z_ai h (b + 2) (8 * p + r) = oI (jn S p r) := by
  rw [hA.2.2.2.2.2.2 p r hp hr]
  unfold jn c_ofI
  by_cases c : p = r
  · rw [if_pos c, if_pos c]; rfl
  · rw [if_neg c, if_neg c]
    by_cases c2 : c_of S (2 ^ p ||| 2 ^ r) < S.2.1
    · rw [if_pos c2, if_pos c2]; rfl
    · rw [if_neg c2, if_neg c2]; rfl
theorem jn_lt {S : Sc} {p r l : Nat} (e : jn S p r = some l) : l < S.2.1 := by
  unfold jn at e
  split at e
  · cases e
  · split at e
    · cases e; assumption
    · cases e
theorem jn_bits {S : Sc} {p r l : Nat} (e : jn S p r = some l) : (S.2.2 l).testBit p = true ∧ (S.2.2 l).testBit r = true := by
  unfold jn at e
  split at e
  · cases e
  · split at e
    · rename_i h
      cases e
      have y := fa_first_yes (fun l => S.2.2 l &&& (2 ^ p ||| 2 ^ r) == 2 ^ p ||| 2 ^ r) S.2.1 h
      rw [two_in, Bool.and_eq_true] at y
      exact y
    · cases e
theorem tz_le : ∀ x, x < 256 → ∀ p, p < 8 → x.testBit p = true → n_tz x ≤ p := by decide +kernel
theorem oI_m {o : Option Nat} (ho : ∀ l, o = some l → l < 2 ^ 31) : (oI o = mI) = (o = none) := by
  cases o with
  | none => exact propext ⟨fun _ => rfl, fun _ => rfl⟩
  | some l => exact propext ⟨fun e => (t_ne1 (ho l rfl) e).elim, fun e => (by cases e)⟩
theorem oI_eq {o o' : Option Nat} (ho : ∀ l, o = some l → l < 2 ^ 31) (ho' : ∀ l, o' = some l → l < 2 ^ 31) : (oI o = oI o') = (o = o') := by
  cases o with
  | none =>
    cases o' with
    | none => exact propext ⟨fun _ => rfl, fun _ => rfl⟩
    | some l => exact propext ⟨fun e => (t_ne1 (ho' l rfl) e.symm).elim, fun e => (by cases e)⟩
  | some l =>
    cases o' with
    | none => exact propext ⟨fun e => (t_ne1 (ho l rfl) e).elim, fun e => (by cases e)⟩
    | some k => exact propext ⟨fun e => (by rw [(nI_eq (ho l rfl) (ho' k rfl)).mp e]), fun e => (by cases e; rfl)⟩
theorem y_Jm {q b : Nat} {h : z_H} {S : Sc} (hA : sc_at q b h S) {p r : Nat} (hp : p < 8) (hr : r < 8) : z_ai h (b + 2) (p * 8 + r) = oI (jn S p r) := by rw [Nat.mul_comm]; exact y_Jn hA hp hr
/-- the matcher at work on two schemes -/
def mt_at (mt mn qf qt af at' : Nat) (ex : Bool) (h : z_H) (F T : Sc) : Prop := z_kd h mt = 21 ∧ z_or h mt 0 = some qf ∧ z_or h mt 1 = some qt ∧ (z_or h mt 2 = some af ∧ z_kd h af = 1 ∧ z_ln h af = 8 ∧ ∀ p, p < 8 → z_ai h af p = nI (g_twT F p)) ∧ (z_or h mt 3 = some at' ∧ z_kd h at' = 1 ∧ z_ln h at' = 8 ∧ ∀ p, p < 8 → z_ai h at' p = nI (g_twT T p)) ∧ z_oi h mt 4 = nI ex.toNat ∧ z_or h mt 5 = some mn ∧ z_kd h mn = 1 ∧ z_ln h mn = 8
def g_hold (F T : Sc) (ex : Bool) (o l : Nat) : Bool := if ex then decide (n_pc (T.2.2 o) = n_pc (F.2.2 l)) else decide (n_pc (F.2.2 l) ≤ n_pc (T.2.2 o))
def g_fitS (F T : Sc) (ex : Bool) (N : Nat → Nat) (p v q t : Nat) : Nat ⊕ Unit := match jn F p q with
  | none => if ex = true ∧ jn T v (N q) ≠ none then .inr () else .inl t
  | some l => match jn T v (N q) with
    | none => .inr ()
    | some o => if g_hold F T ex o l = false then .inr () else if jn T v (N (n_tz (F.2.2 l))) ≠ some o then .inr () else if F.2.2 l &&& (2 ^ p - 1) = 2 ^ q then (if t.testBit o then .inr () else .inl (t ||| 2 ^ o)) else .inl t
def g_fit (F T : Sc) (ex : Bool) (N : Nat → Nat) (p v t : Nat) : Option Nat := if ex = true ∧ n_pc (c_on F p) ≠ n_pc (c_on T v) then none else match its (g_fitS F T ex N p v) t p with
  | .inl t => some t
  | .inr _ => none
section FW
variable {G : z_G} {d mt mn qf bf qt bt af at' : Nat} {ex : Bool} {h : z_H} {F T : Sc} {N : Nat → Nat}
theorem e5_holds (hM : mt_at mt mn qf qt af at' ex h F T) (hF : sc_at qf bf h F) (hT : sc_at qt bt h T) (hN : ∀ i, i < 8 → z_ai h mn i = nI (N i)) {o l : Nat} (ho : o < T.2.1) (hl : l < F.2.1) : z_Ev G (d + 4) k_X5_holds [.ref mt, .int (nI o), .int (nI l)] h (.inl (some (.int (nI (g_hold F T ex o l).toNat))), h) := by
  have m1 := y_m12 hF
  have m2 := y_m12 hT
  have l1 := n_pc12 _ (show T.2.2 o < 4096 by have := y_256 hT o; omega)
  have l2 := n_pc12 _ (show F.2.2 l < 4096 by have := y_256 hF l; omega)
  refine en_X5_holds (b_X5_holds_0 (z_pu0V rfl) ?_)
  simp (disch := omega) only [l0, l1, l2, l3, l4, l5, l6, l7, l8, l9, l10, l11, l12, l13, l14, l15, l16, l18, l20, l22, l24, l30, l31, l39, l40, l48, l60, l154, l255, l256, l400, l2000, l6160, l14000, lm1, q_lt, q_le, q_eq, q_mI, q_mI', q_ltmI, q_in, q_bz0, q_bz1, q_bzn0, q_bzn1, q_bzb, q_bn0, q_bn1, q_shr, q_shl, q_1s, b_one, b_two, fa_and, fa_or, nI_add, n_mul, nI_clamp, z_rcs, true_and, and_true, if_true, if_false, y_kd hF, y_n hF, y_m hF, (y_row hF).1, (y_row hF).2.1, (y_row hF).2.2, (y_size hF).1, (y_size hF).2.1, (y_size hF).2.2, (y_first hF).1, (y_first hF).2.1, (y_first hF).2.2, (y_deg hF).1, (y_deg hF).2.1, (y_deg hF).2.2, (y_on hF).1, (y_on hF).2.1, (y_on hF).2.2, (y_join hF).1, (y_join hF).2.1, (y_join hF).2.2, y_Ln hF, y_Sz hF, y_Ft hF, y_Dg hF, y_On hF, y_kd hT, y_n hT, y_m hT, (y_row hT).1, (y_row hT).2.1, (y_row hT).2.2, (y_size hT).1, (y_size hT).2.1, (y_size hT).2.2, (y_first hT).1, (y_first hT).2.1, (y_first hT).2.2, (y_deg hT).1, (y_deg hT).2.1, (y_deg hT).2.2, (y_on hT).1, (y_on hT).2.1, (y_on hT).2.2, (y_join hT).1, (y_join hT).2.1, (y_join hT).2.2, y_Ln hT, y_Sz hT, y_Ft hT, y_Dg hT, y_On hT, hM.1, hM.2.1, hM.2.2.1, hM.2.2.2.1.1, hM.2.2.2.1.2.1, hM.2.2.2.1.2.2.1, hM.2.2.2.2.1.1, hM.2.2.2.2.1.2.1, hM.2.2.2.2.1.2.2.1, hM.2.2.2.2.2.1, hM.2.2.2.2.2.2.1, hM.2.2.2.2.2.2.2.1, hM.2.2.2.2.2.2.2.2, y_Jm hF, y_Jm hT, hN, ho, hl]
  cases ex
  · rw [if_pos rfl, show g_hold F T false o l = decide (n_pc (F.2.2 l) ≤ n_pc (T.2.2 o)) from rfl]
    by_cases c : n_pc (T.2.2 o) < n_pc (F.2.2 l)
    · rw [if_pos c, decide_eq_false (by omega)]; rfl
    · rw [if_neg c, decide_eq_true (by omega)]; rfl
  · rw [if_neg (by decide), show g_hold F T true o l = decide (n_pc (T.2.2 o) = n_pc (F.2.2 l)) from rfl]
    by_cases c : n_pc (T.2.2 o) = n_pc (F.2.2 l)
    · rw [if_pos c, decide_eq_true c]; rfl
    · rw [if_neg c, decide_eq_false c]; rfl
theorem fitS_lt (hT : T.2.1 ≤ 12) {p v q t t' : Nat} (ht : t < 4096) (e : g_fitS F T ex N p v q t = .inl t') : t' < 4096 := by
  unfold g_fitS at e
  split at e
  · split at e
    · cases e
    · cases e; exact ht
  · split at e
    · cases e
    · rename_i o ho
      split at e
      · cases e
      · split at e
        · cases e
        · split at e
          · split at e
            · cases e
            · cases e
              refine Nat.or_lt_two_pow (n := 12) ht ?_
              exact Nat.pow_lt_pow_right (by decide) (by have := jn_lt ho; omega)
          · cases e; exact ht
theorem e5_fit (hM : mt_at mt mn qf qt af at' ex h F T) (hF : sc_at qf bf h F) (hT : sc_at qt bt h T) (hN : ∀ i, i < 8 → z_ai h mn i = nI (N i)) {p v t : Nat} (hp : p < 8) (hv : v < 8) (ht : t < 4096) (hb : ∀ i, i < p → N i < 8) : z_Ev G (d + 5) k_X5_fit [.ref mt, .int (nI p), .int (nI v), .int (nI t)] h (.inl (some (.int (oI (g_fit F T ex N p v t)))), h) := by
  have m1 := y_m12 hF
  have m2 := y_m12 hT
  have on1 := n_pc12 _ (Nat.lt_of_lt_of_le (c_on_lt F p) (show 2 ^ F.2.1 ≤ 2 ^ 12 from Nat.pow_le_pow_right (by decide) m1))
  have on2 := n_pc12 _ (Nat.lt_of_lt_of_le (c_on_lt T v) (show 2 ^ T.2.1 ≤ 2 ^ 12 from Nat.pow_le_pow_right (by decide) m2))
  have jF : ∀ a b l, jn F a b = some l → l < 2 ^ 31 := fun a b l e => by have := jn_lt e; omega
  have jT : ∀ a b l, jn T a b = some l → l < 2 ^ 31 := fun a b l e => by have := jn_lt e; omega
  have pw := t_pow hp
  have pw0 := Nat.two_pow_pos p
  refine en_X5_fit (b_X5_fit_0 (z_pu0V rfl) ?_)
  have main : ∀ r : z_Res, (its (g_fitS F T ex N p v) t p = .inr () → r = (.inl (some (.int mI)), h)) → (∀ t', its (g_fitS F T ex N p v) t p = .inl t' → r = (.inl (some (.int (nI t'))), h)) → z_J G (d + 5) (m_X5_fit z_pu0) r 43 [some (.ref mt), some (.int (nI p)), some (.int (nI v)), none, some (.int (nI (2 ^ p - 1))), some (.int (nI t)), some (.int (nI 0)), none, none] [] h := by
    intro r hr1 hr2
    refine z_fors (fun q (t : Nat) => [some (.ref mt), some (.int (nI p)), some (.int (nI v)), none, some (.int (nI (2 ^ p - 1))), some (.int (nI t)), some (.int (nI q)), none, none]) (fun _ _ => h) (fun _ t => t < 4096) (g_fitS F T ex N p v) t p ht ?_ ?_ ?_
    · intro q t1 w hq hI hf hw
      have hNq := hb q hq
      refine b_X5_fit_43 (z_pu0V rfl) ?_
      simp (disch := omega) only [l0, l1, l2, l3, l4, l5, l6, l7, l8, l9, l10, l11, l12, l13, l14, l15, l16, l18, l20, l22, l24, l30, l31, l39, l40, l48, l60, l154, l255, l256, l400, l2000, l6160, l14000, lm1, q_lt, q_le, q_eq, q_mI, q_mI', q_ltmI, q_in, q_bz0, q_bz1, q_bzn0, q_bzn1, q_bzb, q_bn0, q_bn1, q_shr, q_shl, q_1s, b_one, b_two, fa_and, fa_or, nI_add, n_mul, nI_clamp, z_rcs, true_and, and_true, if_true, if_false, y_kd hF, y_n hF, y_m hF, (y_row hF).1, (y_row hF).2.1, (y_row hF).2.2, (y_size hF).1, (y_size hF).2.1, (y_size hF).2.2, (y_first hF).1, (y_first hF).2.1, (y_first hF).2.2, (y_deg hF).1, (y_deg hF).2.1, (y_deg hF).2.2, (y_on hF).1, (y_on hF).2.1, (y_on hF).2.2, (y_join hF).1, (y_join hF).2.1, (y_join hF).2.2, y_Ln hF, y_Sz hF, y_Ft hF, y_Dg hF, y_On hF, y_kd hT, y_n hT, y_m hT, (y_row hT).1, (y_row hT).2.1, (y_row hT).2.2, (y_size hT).1, (y_size hT).2.1, (y_size hT).2.2, (y_first hT).1, (y_first hT).2.1, (y_first hT).2.2, (y_deg hT).1, (y_deg hT).2.1, (y_deg hT).2.2, (y_on hT).1, (y_on hT).2.1, (y_on hT).2.2, (y_join hT).1, (y_join hT).2.1, (y_join hT).2.2, y_Ln hT, y_Sz hT, y_Ft hT, y_Dg hT, y_On hT, hM.1, hM.2.1, hM.2.2.1, hM.2.2.2.1.1, hM.2.2.2.1.2.1, hM.2.2.2.1.2.2.1, hM.2.2.2.2.1.1, hM.2.2.2.2.1.2.1, hM.2.2.2.2.1.2.2.1, hM.2.2.2.2.2.1, hM.2.2.2.2.2.2.1, hM.2.2.2.2.2.2.2.1, hM.2.2.2.2.2.2.2.2, y_Jm hF, y_Jm hT, hN, hq]
      refine b_X5_fit_88 (z_pu0V rfl) ?_
      simp only [oI_m (jF p q), oI_m (jT v (N q))]
      unfold g_fitS at hf
      split at hf
      · rename_i e1
        split at hf
        · rename_i e2
          rw [if_pos e1, hM.2.2.2.2.2.1, e2.1, if_neg (show ¬ nI (Bool.toNat true) = nI 0 by decide), if_neg e2.2]
          exact ⟨hM.1, hr1 hw⟩
        · cases hf
      · rename_i l e1
        have hl := jn_lt e1
        have htz := tz_le _ (y_256 hF l) q (by omega) (jn_bits e1).2
        have hNt := hb _ (show n_tz (F.2.2 l) < p by omega)
        rw [e1, if_neg (by intro e; cases e)]
        split at hf
        · rename_i e2
          rw [if_pos e2]
          exact hr1 hw
        · rename_i o e2
          have ho := jn_lt e2
          rw [e2, if_neg (by intro e; cases e)]
          refine ⟨hM.1, _, _, e5_holds hM hF hT hN ho hl, ?_⟩
          split at hf
          · rename_i e3
            rw [e3, if_pos (by rfl)]
            exact hr1 hw
          · rename_i e3
            rw [Bool.not_eq_false] at e3
            rw [e3, if_neg (by decide)]
            refine b_X5_fit_129 (z_pu0V rfl) ?_
            rw [if_neg (show ¬ oI (some l) = mI from t_ne1 (by omega)), show oI (some l) = nI l from rfl]
            simp (disch := omega) only [l0, l1, l2, l3, l4, l5, l6, l7, l8, l9, l10, l11, l12, l13, l14, l15, l16, l18, l20, l22, l24, l30, l31, l39, l40, l48, l60, l154, l255, l256, l400, l2000, l6160, l14000, lm1, q_lt, q_le, q_eq, q_mI, q_mI', q_ltmI, q_in, q_bz0, q_bz1, q_bzn0, q_bzn1, q_bzb, q_bn0, q_bn1, q_shr, q_shl, q_1s, b_one, b_two, fa_and, fa_or, nI_add, n_mul, nI_clamp, z_rcs, true_and, and_true, if_true, if_false, y_kd hF, y_n hF, y_m hF, (y_row hF).1, (y_row hF).2.1, (y_row hF).2.2, (y_size hF).1, (y_size hF).2.1, (y_size hF).2.2, (y_first hF).1, (y_first hF).2.1, (y_first hF).2.2, (y_deg hF).1, (y_deg hF).2.1, (y_deg hF).2.2, (y_on hF).1, (y_on hF).2.1, (y_on hF).2.2, (y_join hF).1, (y_join hF).2.1, (y_join hF).2.2, y_Ln hF, y_Sz hF, y_Ft hF, y_Dg hF, y_On hF, y_kd hT, y_n hT, y_m hT, (y_row hT).1, (y_row hT).2.1, (y_row hT).2.2, (y_size hT).1, (y_size hT).2.1, (y_size hT).2.2, (y_first hT).1, (y_first hT).2.1, (y_first hT).2.2, (y_deg hT).1, (y_deg hT).2.1, (y_deg hT).2.2, (y_on hT).1, (y_on hT).2.1, (y_on hT).2.2, (y_join hT).1, (y_join hT).2.1, (y_join hT).2.2, y_Ln hT, y_Sz hT, y_Ft hT, y_Dg hT, y_On hT, hM.1, hM.2.1, hM.2.2.1, hM.2.2.2.1.1, hM.2.2.2.1.2.1, hM.2.2.2.1.2.2.1, hM.2.2.2.2.1.1, hM.2.2.2.2.1.2.1, hM.2.2.2.2.1.2.2.1, hM.2.2.2.2.2.1, hM.2.2.2.2.2.2.1, hM.2.2.2.2.2.2.2.1, hM.2.2.2.2.2.2.2.2, y_Jm hF, y_Jm hT, hN, hl, htz]
            have q4 := oI_eq (jT v (N (n_tz (F.2.2 l)))) (o' := some o) (fun k e => by cases e; omega)
            simp only [q4]
            split at hf
            · rename_i e4
              rw [if_neg e4]
              exact hr1 hw
            · rename_i e4
              rw [if_pos (Classical.not_not.mp e4)]
              refine b_X5_fit_170 (z_pu0V rfl) ?_
              have x1 := and_lt256 (b := 2 ^ p - 1) (y_256 hF l)
              have pq := t_pow (show q < 8 by omega)
              rw [if_neg (show ¬ nI l = mI from t_ne1 (by omega)), show oI (some o) = nI o from rfl]
              simp (disch := omega) only [l0, l1, l2, l3, l4, l5, l6, l7, l8, l9, l10, l11, l12, l13, l14, l15, l16, l18, l20, l22, l24, l30, l31, l39, l40, l48, l60, l154, l255, l256, l400, l2000, l6160, l14000, lm1, q_lt, q_le, q_eq, q_mI, q_mI', q_ltmI, q_in, q_bz0, q_bz1, q_bzn0, q_bzn1, q_bzb, q_bn0, q_bn1, q_shr, q_shl, q_1s, b_one, b_two, fa_and, fa_or, nI_add, n_mul, nI_clamp, z_rcs, true_and, and_true, if_true, if_false, y_kd hF, y_n hF, y_m hF, (y_row hF).1, (y_row hF).2.1, (y_row hF).2.2, (y_size hF).1, (y_size hF).2.1, (y_size hF).2.2, (y_first hF).1, (y_first hF).2.1, (y_first hF).2.2, (y_deg hF).1, (y_deg hF).2.1, (y_deg hF).2.2, (y_on hF).1, (y_on hF).2.1, (y_on hF).2.2, (y_join hF).1, (y_join hF).2.1, (y_join hF).2.2, y_Ln hF, y_Sz hF, y_Ft hF, y_Dg hF, y_On hF, y_kd hT, y_n hT, y_m hT, (y_row hT).1, (y_row hT).2.1, (y_row hT).2.2, (y_size hT).1, (y_size hT).2.1, (y_size hT).2.2, (y_first hT).1, (y_first hT).2.1, (y_first hT).2.2, (y_deg hT).1, (y_deg hT).2.1, (y_deg hT).2.2, (y_on hT).1, (y_on hT).2.1, (y_on hT).2.2, (y_join hT).1, (y_join hT).2.1, (y_join hT).2.2, y_Ln hT, y_Sz hT, y_Ft hT, y_Dg hT, y_On hT, hM.1, hM.2.1, hM.2.2.1, hM.2.2.2.1.1, hM.2.2.2.1.2.1, hM.2.2.2.1.2.2.1, hM.2.2.2.2.1.1, hM.2.2.2.2.1.2.1, hM.2.2.2.2.1.2.2.1, hM.2.2.2.2.2.1, hM.2.2.2.2.2.2.1, hM.2.2.2.2.2.2.2.1, hM.2.2.2.2.2.2.2.2, y_Jm hF, y_Jm hT, hN, hl]
              split at hf
              · rename_i e5
                rw [if_pos e5]
                split at hf
                · rename_i e6
                  rw [e6, if_neg (by decide)]
                  exact hr1 hw
                · cases hf
              · cases hf
    · intro q t1 t2 hq hI hf
      refine ⟨fitS_lt m2 hI hf, fun hJ => ?_⟩
      have hNq := hb q hq
      refine b_X5_fit_43 (z_pu0V rfl) ?_
      simp (disch := omega) only [l0, l1, l2, l3, l4, l5, l6, l7, l8, l9, l10, l11, l12, l13, l14, l15, l16, l18, l20, l22, l24, l30, l31, l39, l40, l48, l60, l154, l255, l256, l400, l2000, l6160, l14000, lm1, q_lt, q_le, q_eq, q_mI, q_mI', q_ltmI, q_in, q_bz0, q_bz1, q_bzn0, q_bzn1, q_bzb, q_bn0, q_bn1, q_shr, q_shl, q_1s, b_one, b_two, fa_and, fa_or, nI_add, n_mul, nI_clamp, z_rcs, true_and, and_true, if_true, if_false, y_kd hF, y_n hF, y_m hF, (y_row hF).1, (y_row hF).2.1, (y_row hF).2.2, (y_size hF).1, (y_size hF).2.1, (y_size hF).2.2, (y_first hF).1, (y_first hF).2.1, (y_first hF).2.2, (y_deg hF).1, (y_deg hF).2.1, (y_deg hF).2.2, (y_on hF).1, (y_on hF).2.1, (y_on hF).2.2, (y_join hF).1, (y_join hF).2.1, (y_join hF).2.2, y_Ln hF, y_Sz hF, y_Ft hF, y_Dg hF, y_On hF, y_kd hT, y_n hT, y_m hT, (y_row hT).1, (y_row hT).2.1, (y_row hT).2.2, (y_size hT).1, (y_size hT).2.1, (y_size hT).2.2, (y_first hT).1, (y_first hT).2.1, (y_first hT).2.2, (y_deg hT).1, (y_deg hT).2.1, (y_deg hT).2.2, (y_on hT).1, (y_on hT).2.1, (y_on hT).2.2, (y_join hT).1, (y_join hT).2.1, (y_join hT).2.2, y_Ln hT, y_Sz hT, y_Ft hT, y_Dg hT, y_On hT, hM.1, hM.2.1, hM.2.2.1, hM.2.2.2.1.1, hM.2.2.2.1.2.1, hM.2.2.2.1.2.2.1, hM.2.2.2.2.1.1, hM.2.2.2.2.1.2.1, hM.2.2.2.2.1.2.2.1, hM.2.2.2.2.2.1, hM.2.2.2.2.2.2.1, hM.2.2.2.2.2.2.2.1, hM.2.2.2.2.2.2.2.2, y_Jm hF, y_Jm hT, hN, hq]
      refine b_X5_fit_88 (z_pu0V rfl) ?_
      simp only [oI_m (jF p q), oI_m (jT v (N q))]
      unfold g_fitS at hf
      split at hf
      · rename_i e1
        split at hf
        · cases hf
        · rename_i e2
          cases hf
          rw [if_pos e1, hM.2.2.2.2.2.1]
          have fin : z_J G (d + 5) (m_X5_fit z_pu0) r 129 [some (.ref mt), some (.int (nI p)), some (.int (nI v)), none, some (.int (nI (2 ^ p - 1))), some (.int (nI t1)), some (.int (nI q)), some (.int (oI (jn F p q))), some (.int (oI (jn T v (N q))))] [] h := by
            refine b_X5_fit_129 (z_pu0V rfl) ?_
            rw [if_pos (show oI (jn F p q) = mI by rw [e1]; rfl)]
            refine b_X5_fit_170 (z_pu0V rfl) ?_
            rw [if_pos (show oI (jn F p q) = mI by rw [e1]; rfl)]
            refine b_X5_fit_217 (z_pu0V rfl) ?_
            rw [nI_add]
            exact hJ
          refine ⟨hM.1, ?_⟩
          cases ex
          · rw [if_pos (by rfl)]; exact fin
          · rw [if_neg (by decide), if_pos (Classical.byContradiction (fun n => e2 ⟨rfl, n⟩))]; exact fin
      · rename_i l e1
        have hl := jn_lt e1
        have htz := tz_le _ (y_256 hF l) q (by omega) (jn_bits e1).2
        have hNt := hb _ (show n_tz (F.2.2 l) < p by omega)
        rw [e1, if_neg (by intro e; cases e)]
        split at hf
        · cases hf
        · rename_i o e2
          have ho := jn_lt e2
          rw [e2, if_neg (by intro e; cases e)]
          refine ⟨hM.1, _, _, e5_holds hM hF hT hN ho hl, ?_⟩
          split at hf
          · cases hf
          · rename_i e3
            rw [Bool.not_eq_false] at e3
            rw [e3, if_neg (by decide)]
            refine b_X5_fit_129 (z_pu0V rfl) ?_
            rw [if_neg (show ¬ oI (some l) = mI from t_ne1 (by omega)), show oI (some l) = nI l from rfl]
            simp (disch := omega) only [l0, l1, l2, l3, l4, l5, l6, l7, l8, l9, l10, l11, l12, l13, l14, l15, l16, l18, l20, l22, l24, l30, l31, l39, l40, l48, l60, l154, l255, l256, l400, l2000, l6160, l14000, lm1, q_lt, q_le, q_eq, q_mI, q_mI', q_ltmI, q_in, q_bz0, q_bz1, q_bzn0, q_bzn1, q_bzb, q_bn0, q_bn1, q_shr, q_shl, q_1s, b_one, b_two, fa_and, fa_or, nI_add, n_mul, nI_clamp, z_rcs, true_and, and_true, if_true, if_false, y_kd hF, y_n hF, y_m hF, (y_row hF).1, (y_row hF).2.1, (y_row hF).2.2, (y_size hF).1, (y_size hF).2.1, (y_size hF).2.2, (y_first hF).1, (y_first hF).2.1, (y_first hF).2.2, (y_deg hF).1, (y_deg hF).2.1, (y_deg hF).2.2, (y_on hF).1, (y_on hF).2.1, (y_on hF).2.2, (y_join hF).1, (y_join hF).2.1, (y_join hF).2.2, y_Ln hF, y_Sz hF, y_Ft hF, y_Dg hF, y_On hF, y_kd hT, y_n hT, y_m hT, (y_row hT).1, (y_row hT).2.1, (y_row hT).2.2, (y_size hT).1, (y_size hT).2.1, (y_size hT).2.2, (y_first hT).1, (y_first hT).2.1, (y_first hT).2.2, (y_deg hT).1, (y_deg hT).2.1, (y_deg hT).2.2, (y_on hT).1, (y_on hT).2.1, (y_on hT).2.2, (y_join hT).1, (y_join hT).2.1, (y_join hT).2.2, y_Ln hT, y_Sz hT, y_Ft hT, y_Dg hT, y_On hT, hM.1, hM.2.1, hM.2.2.1, hM.2.2.2.1.1, hM.2.2.2.1.2.1, hM.2.2.2.1.2.2.1, hM.2.2.2.2.1.1, hM.2.2.2.2.1.2.1, hM.2.2.2.2.1.2.2.1, hM.2.2.2.2.2.1, hM.2.2.2.2.2.2.1, hM.2.2.2.2.2.2.2.1, hM.2.2.2.2.2.2.2.2, y_Jm hF, y_Jm hT, hN, hl, htz]
            have q4 := oI_eq (jT v (N (n_tz (F.2.2 l)))) (o' := some o) (fun k e => by cases e; omega)
            simp only [q4]
            split at hf
            · cases hf
            · rename_i e4
              rw [if_pos (Classical.not_not.mp e4)]
              refine b_X5_fit_170 (z_pu0V rfl) ?_
              have x1 := and_lt256 (b := 2 ^ p - 1) (y_256 hF l)
              have pq := t_pow (show q < 8 by omega)
              rw [if_neg (show ¬ nI l = mI from t_ne1 (by omega)), show oI (some o) = nI o from rfl]
              simp (disch := omega) only [l0, l1, l2, l3, l4, l5, l6, l7, l8, l9, l10, l11, l12, l13, l14, l15, l16, l18, l20, l22, l24, l30, l31, l39, l40, l48, l60, l154, l255, l256, l400, l2000, l6160, l14000, lm1, q_lt, q_le, q_eq, q_mI, q_mI', q_ltmI, q_in, q_bz0, q_bz1, q_bzn0, q_bzn1, q_bzb, q_bn0, q_bn1, q_shr, q_shl, q_1s, b_one, b_two, fa_and, fa_or, nI_add, n_mul, nI_clamp, z_rcs, true_and, and_true, if_true, if_false, y_kd hF, y_n hF, y_m hF, (y_row hF).1, (y_row hF).2.1, (y_row hF).2.2, (y_size hF).1, (y_size hF).2.1, (y_size hF).2.2, (y_first hF).1, (y_first hF).2.1, (y_first hF).2.2, (y_deg hF).1, (y_deg hF).2.1, (y_deg hF).2.2, (y_on hF).1, (y_on hF).2.1, (y_on hF).2.2, (y_join hF).1, (y_join hF).2.1, (y_join hF).2.2, y_Ln hF, y_Sz hF, y_Ft hF, y_Dg hF, y_On hF, y_kd hT, y_n hT, y_m hT, (y_row hT).1, (y_row hT).2.1, (y_row hT).2.2, (y_size hT).1, (y_size hT).2.1, (y_size hT).2.2, (y_first hT).1, (y_first hT).2.1, (y_first hT).2.2, (y_deg hT).1, (y_deg hT).2.1, (y_deg hT).2.2, (y_on hT).1, (y_on hT).2.1, (y_on hT).2.2, (y_join hT).1, (y_join hT).2.1, (y_join hT).2.2, y_Ln hT, y_Sz hT, y_Ft hT, y_Dg hT, y_On hT, hM.1, hM.2.1, hM.2.2.1, hM.2.2.2.1.1, hM.2.2.2.1.2.1, hM.2.2.2.1.2.2.1, hM.2.2.2.2.1.1, hM.2.2.2.2.1.2.1, hM.2.2.2.2.1.2.2.1, hM.2.2.2.2.2.1, hM.2.2.2.2.2.2.1, hM.2.2.2.2.2.2.2.1, hM.2.2.2.2.2.2.2.2, y_Jm hF, y_Jm hT, hN, hl]
              split at hf
              · rename_i e5
                rw [if_pos e5]
                split at hf
                · cases hf
                · rename_i e6
                  cases hf
                  rw [Bool.not_eq_true] at e6
                  rw [e6, if_pos rfl]
                  refine b_X5_fit_217 (z_pu0V rfl) ?_
                  rw [nI_add]
                  exact hJ
              · rename_i e5
                cases hf
                rw [if_neg e5]
                refine b_X5_fit_217 (z_pu0V rfl) ?_
                rw [nI_add]
                exact hJ
    · intro t' hI hw
      refine b_X5_fit_43 (z_pu0V rfl) ?_
      rw [if_neg (nI_nlt (Nat.le_refl _) (by omega))]
      exact hr2 t' hw
  have fin : z_J G (d + 5) (m_X5_fit z_pu0) (.inl (some (.int (oI (match its (g_fitS F T ex N p v) t p with
      | .inl t => some t
      | .inr _ => none)))), h) 43 [some (.ref mt), some (.int (nI p)), some (.int (nI v)), none, some (.int (nI (2 ^ p - 1))), some (.int (nI t)), some (.int (nI 0)), none, none] [] h := by
    refine main _ (fun e => ?_) (fun t' e => ?_)
    · rw [e]; rfl
    · rw [e]; rfl
  unfold g_fit
  rw [hM.2.2.2.2.2.1, show nI 1 <<< (nI p &&& nI 31) = nI (2 ^ p) from n_one (by omega), q_sub (show 1 ≤ 2 ^ p by omega)]
  refine ⟨hM.1, ?_⟩
  cases ex
  · rw [if_pos (by rfl), if_neg (by rintro ⟨e, -⟩; cases e)]
    exact fin
  · rw [if_neg (by decide)]
    simp (disch := omega) only [l0, l1, l2, l3, l4, l5, l6, l7, l8, l9, l10, l11, l12, l13, l14, l15, l16, l18, l20, l22, l24, l30, l31, l39, l40, l48, l60, l154, l255, l256, l400, l2000, l6160, l14000, lm1, q_lt, q_le, q_eq, q_mI, q_mI', q_ltmI, q_in, q_bz0, q_bz1, q_bzn0, q_bzn1, q_bzb, q_bn0, q_bn1, q_shr, q_shl, q_1s, b_one, b_two, fa_and, fa_or, nI_add, n_mul, nI_clamp, z_rcs, true_and, and_true, if_true, if_false, y_kd hF, y_n hF, y_m hF, (y_row hF).1, (y_row hF).2.1, (y_row hF).2.2, (y_size hF).1, (y_size hF).2.1, (y_size hF).2.2, (y_first hF).1, (y_first hF).2.1, (y_first hF).2.2, (y_deg hF).1, (y_deg hF).2.1, (y_deg hF).2.2, (y_on hF).1, (y_on hF).2.1, (y_on hF).2.2, (y_join hF).1, (y_join hF).2.1, (y_join hF).2.2, y_Ln hF, y_Sz hF, y_Ft hF, y_Dg hF, y_On hF, y_kd hT, y_n hT, y_m hT, (y_row hT).1, (y_row hT).2.1, (y_row hT).2.2, (y_size hT).1, (y_size hT).2.1, (y_size hT).2.2, (y_first hT).1, (y_first hT).2.1, (y_first hT).2.2, (y_deg hT).1, (y_deg hT).2.1, (y_deg hT).2.2, (y_on hT).1, (y_on hT).2.1, (y_on hT).2.2, (y_join hT).1, (y_join hT).2.1, (y_join hT).2.2, y_Ln hT, y_Sz hT, y_Ft hT, y_Dg hT, y_On hT, hM.1, hM.2.1, hM.2.2.1, hM.2.2.2.1.1, hM.2.2.2.1.2.1, hM.2.2.2.1.2.2.1, hM.2.2.2.2.1.1, hM.2.2.2.2.1.2.1, hM.2.2.2.2.1.2.2.1, hM.2.2.2.2.2.1, hM.2.2.2.2.2.2.1, hM.2.2.2.2.2.2.2.1, hM.2.2.2.2.2.2.2.2, y_Jm hF, y_Jm hT, hN]
    by_cases c : n_pc (c_on F p) = n_pc (c_on T v)
    · rw [if_pos c, if_neg (fun e => e c)]
      exact fin
    · rw [if_neg c, if_pos c]
      rfl
end FW
