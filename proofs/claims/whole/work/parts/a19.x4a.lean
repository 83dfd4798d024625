theorem en_X4_sortUp {pu : Nat → Option ((List Value → z_H → Prop) × (List Value → z_H → Int32))} {G : z_G} {d : Nat} {r : z_Res} {h : z_H} {x0 : Nat} {x1 : Int32} (hJ : z_J G d (m_X4_sortUp pu) r 0 [some (.ref x0), some (.int x1), none, none, none] [] h) : z_Ev G d k_X4_sortUp [.ref x0, .int x1] h r := z_enter (μ := m_X4_sortUp pu) rfl (by decide) rfl rfl (fun q => by cases q) (Nat.le_of_ble_eq_true rfl) hJ
def hd_X4_sortUp : Nat → Option (List Bool) := (fun k => (cond (Nat.blt k 57) (cond (Nat.blt k 14) (cond (Nat.beq k 2) (some [true, true, true, false, false]) none) (cond (Nat.beq k 14) (some [true, true, true, true, true]) none)) none))
set_option maxRecDepth 20000 in
theorem b_X4_sortUp_0 {G : z_G} {d : Nat} {r : z_Res} (hPu : z_PuV G d (t_X4 z_pu0)) {h : z_H} {x0 : Nat} {x1 : Int32} (hT : (z_J G (d + 1) (m_X4_sortUp z_pu0) r) 2 [some (.ref x0), some (.int x1), some (.int (nI 1)), none, none] [] h) : (z_J G (d + 1) (m_X4_sortUp z_pu0) r) 0 [some (.ref x0), some (.int x1), none, none, none] [] h := z_bq (v_X4 z_pu0 (vP_X4_sortUp z_pu0) hPu) hd_X4_sortUp 5 hT
set_option maxRecDepth 20000 in
theorem b_X4_sortUp_2 {G : z_G} {d : Nat} {r : z_Res} (hPu : z_PuV G d (t_X4 z_pu0)) {h : z_H} {x0 : Nat} {x1 : Int32} {x2 : Int32} (hT : (if x2 < x1 then (z_kd h x0 = 1 ∧ vp_in x2 (z_ln h x0) ∧ (z_J G (d + 1) (m_X4_sortUp z_pu0) r) 14 [some (.ref x0), some (.int x1), some (.int x2), some (.int (z_ai h x0 (Int32.toNatClampNeg x2))), some (.int x2)] [] h) else r = (.inl none, h))) : (z_J G (d + 1) (m_X4_sortUp z_pu0) r) 2 [some (.ref x0), some (.int x1), some (.int x2), none, none] [] h := z_bq (v_X4 z_pu0 (vP_X4_sortUp z_pu0) hPu) hd_X4_sortUp 12 hT
set_option maxRecDepth 20000 in
theorem b_X4_sortUp_14 {G : z_G} {d : Nat} {r : z_Res} (hPu : z_PuV G d (t_X4 z_pu0)) {h : z_H} {x0 : Nat} {x1 : Int32} {x2 : Int32} {x3 : Int32} {x4 : Int32} (hT : (if (nI 0) < x4 then (z_kd h x0 = 1 ∧ vp_in (x4 - (nI 1)) (z_ln h x0) ∧ (if x3 < (z_ai h x0 (Int32.toNatClampNeg (x4 - (nI 1)))) then (z_kd h x0 = 1 ∧ vp_in (x4 - (nI 1)) (z_ln h x0) ∧ (z_kd h x0 = 1 ∧ vp_in x4 (z_ln h x0) ∧ (z_J G (d + 1) (m_X4_sortUp z_pu0) r) 14 [some (.ref x0), some (.int x1), some (.int x2), some (.int x3), some (.int (x4 + mI))] [] (z_pai h x0 (Int32.toNatClampNeg x4) (z_ai h x0 (Int32.toNatClampNeg (x4 - (nI 1))))))) else (z_kd h x0 = 1 ∧ vp_in x4 (z_ln h x0) ∧ (z_J G (d + 1) (m_X4_sortUp z_pu0) r) 2 [some (.ref x0), some (.int x1), some (.int (x2 + (nI 1))), none, none] [] (z_pai h x0 (Int32.toNatClampNeg x4) x3)))) else (z_kd h x0 = 1 ∧ vp_in x4 (z_ln h x0) ∧ (z_J G (d + 1) (m_X4_sortUp z_pu0) r) 2 [some (.ref x0), some (.int x1), some (.int (x2 + (nI 1))), none, none] [] (z_pai h x0 (Int32.toNatClampNeg x4) x3)))) : (z_J G (d + 1) (m_X4_sortUp z_pu0) r) 14 [some (.ref x0), some (.int x1), some (.int x2), some (.int x3), some (.int x4)] [] h := z_bq (v_X4 z_pu0 (vP_X4_sortUp z_pu0) hPu) hd_X4_sortUp 22 hT
theorem en_X4_isFirstTwin {pu : Nat → Option ((List Value → z_H → Prop) × (List Value → z_H → Int32))} {G : z_G} {d : Nat} {r : z_Res} {h : z_H} {x0 : Nat} {x1 : Int32} {x2 : Int32} (hJ : z_J G d (m_X4_isFirstTwin pu) r 0 [some (.ref x0), some (.int x1), some (.int x2)] [] h) : z_Ev G d k_X4_isFirstTwin [.ref x0, .int x1, .int x2] h r := z_enter (μ := m_X4_isFirstTwin pu) rfl (by decide) rfl rfl (fun q => by cases q) (Nat.le_of_ble_eq_true rfl) hJ
def hd_X4_isFirstTwin : Nat → Option (List Bool) := (fun k => none)
set_option maxRecDepth 20000 in
theorem b_X4_isFirstTwin_0 {G : z_G} {d : Nat} {r : z_Res} (hPu : z_PuV G d (t_X4 z_pu0)) {h : z_H} {x0 : Nat} {x1 : Int32} {x2 : Int32} (hT : (if ((x2 >>> (x1 &&& (nI 31))) &&& (nI 1)) = (nI 0) then (z_kd h x0 = 20 ∧ (z_rc (z_or h x0 1) False (fun x_1 => (z_kd h x_1 = 1 ∧ vp_in x1 (z_ln h x_1) ∧ (if (((z_ai h x_1 (Int32.toNatClampNeg x1)) &&& (((nI 1) <<< (x1 &&& (nI 31))) - (nI 1))) &&& (x2 ^^^ mI)) = (nI 0) then (z_bz (nI 1) ∧ r = (.inl (some (.int (nI 1))), h)) else (z_bz (nI 0) ∧ r = (.inl (some (.int (nI 0))), h))))))) else (z_bz (nI 0) ∧ r = (.inl (some (.int (nI 0))), h)))) : (z_J G (d + 1) (m_X4_isFirstTwin z_pu0) r) 0 [some (.ref x0), some (.int x1), some (.int x2)] [] h := z_bq (v_X4 z_pu0 (vP_X4_isFirstTwin z_pu0) hPu) hd_X4_isFirstTwin 26 hT
theorem en_X4_rename {pu : Nat → Option ((List Value → z_H → Prop) × (List Value → z_H → Int32))} {G : z_G} {d : Nat} {r : z_Res} {h : z_H} {x0 : Nat} {x1 : Int32} {x2 : Int32} (hJ : z_J G d (m_X4_rename pu) r 0 [some (.ref x0), some (.int x1), some (.int x2), none, none, none] [] h) : z_Ev G d k_X4_rename [.ref x0, .int x1, .int x2] h r := z_enter (μ := m_X4_rename pu) rfl (by decide) rfl rfl (fun q => by cases q) (Nat.le_of_ble_eq_true rfl) hJ
def hd_X4_rename : Nat → Option (List Bool) := (fun k => (cond (Nat.blt k 78) (cond (Nat.beq k 8) (some [true, true, true, true, true, false]) none) none))
set_option maxRecDepth 20000 in
theorem b_X4_rename_0 {G : z_G} {d : Nat} {r : z_Res} (hPu : z_PuV G d (t_X4 z_pu0)) {h : z_H} {x0 : Nat} {x1 : Int32} {x2 : Int32} (hT : (z_J G (d + 1) (m_X4_rename z_pu0) r) 8 [some (.ref x0), some (.int x1), some (.int x2), some (.int (x2 * (nI 12))), some (.int (nI 0)), none] [] h) : (z_J G (d + 1) (m_X4_rename z_pu0) r) 0 [some (.ref x0), some (.int x1), some (.int x2), none, none, none] [] h := z_bq (v_X4 z_pu0 (vP_X4_rename z_pu0) hPu) hd_X4_rename 9 hT
set_option maxRecDepth 20000 in
theorem b_X4_rename_8 {G : z_G} {d : Nat} {r : z_Res} (hPu : z_PuV G d (t_X4 z_pu0)) {h : z_H} {x0 : Nat} {x1 : Int32} {x2 : Int32} {x3 : Int32} {x4 : Int32} (hT : (z_kd h x0 = 20 ∧ (z_rc (z_or h x0 0) False (fun x_1 => (z_kd h x_1 = 24 ∧ (if x4 < (z_oi h x_1 1) then (z_kd h x0 = 20 ∧ (z_rc (z_or h x0 0) False (fun x_2 => (z_kd h x_2 = 24 ∧ (z_rc (z_or h x_2 2) False (fun x_3 => (z_kd h x_3 = 1 ∧ vp_in x4 (z_ln h x_3) ∧ (z_kd h x0 = 20 ∧ (z_rc (z_or h x0 6) (if x2 = (nI 0) then False else (z_kd h x0 = 20 ∧ (z_rc (z_or h x0 6) False (fun x_5 => (z_kd h x_5 = 1 ∧ vp_in (x3 + x4) (z_ln h x_5) ∧ False))))) (fun x_4 => (if x2 = (nI 0) then (z_kd h x_4 = 1 ∧ vp_in ((x3 + (nI 12)) + x4) (z_ln h x_4) ∧ (z_J G (d + 1) (m_X4_rename z_pu0) r) 8 [some (.ref x0), some (.int x1), some (.int x2), some (.int x3), some (.int (x4 + (nI 1))), none] [] (z_pai h x_4 (Int32.toNatClampNeg ((x3 + (nI 12)) + x4)) ((((z_ai h x_3 (Int32.toNatClampNeg x4)) >>> (x1 &&& (nI 31))) &&& (nI 1)) <<< (x2 &&& (nI 31))))) else (z_kd h x0 = 20 ∧ (z_rc (z_or h x0 6) False (fun x_6 => (z_kd h x_6 = 1 ∧ vp_in (x3 + x4) (z_ln h x_6) ∧ (z_kd h x_4 = 1 ∧ vp_in ((x3 + (nI 12)) + x4) (z_ln h x_4) ∧ (z_J G (d + 1) (m_X4_rename z_pu0) r) 8 [some (.ref x0), some (.int x1), some (.int x2), some (.int x3), some (.int (x4 + (nI 1))), none] [] (z_pai h x_4 (Int32.toNatClampNeg ((x3 + (nI 12)) + x4)) ((z_ai h x_6 (Int32.toNatClampNeg (x3 + x4))) ||| ((((z_ai h x_3 (Int32.toNatClampNeg x4)) >>> (x1 &&& (nI 31))) &&& (nI 1)) <<< (x2 &&& (nI 31))))))))))))))))))))) else r = (.inl none, h))))))) : (z_J G (d + 1) (m_X4_rename z_pu0) r) 8 [some (.ref x0), some (.int x1), some (.int x2), some (.int x3), some (.int x4), none] [] h := z_bq (v_X4 z_pu0 (vP_X4_rename z_pu0) hPu) hd_X4_rename 40 hT
theorem en_X4_keyOf {pu : Nat → Option ((List Value → z_H → Prop) × (List Value → z_H → Int32))} {G : z_G} {d : Nat} {r : z_Res} {h : z_H} {x0 : Nat} {x1 : Int32} {x2 : Int32} {x3 : Int32} (hJ : z_J G d (m_X4_keyOf pu) r 0 [some (.ref x0), some (.int x1), some (.int x2), some (.int x3), none, none, none, none] [] h) : z_Ev G d k_X4_keyOf [.ref x0, .int x1, .int x2, .int x3] h r := z_enter (μ := m_X4_keyOf pu) rfl (by decide) rfl rfl (fun q => by cases q) (Nat.le_of_ble_eq_true rfl) hJ
def hd_X4_keyOf : Nat → Option (List Bool) := (fun k => (cond (Nat.blt k 135) (cond (Nat.blt k 88) (cond (Nat.beq k 6) (some [true, true, true, true, true, true, false, false]) none) (cond (Nat.beq k 88) (some [true, false, false, false, true, true, false, true]) none)) none))
set_option maxRecDepth 20000 in
theorem b_X4_keyOf_0 {G : z_G} {d : Nat} {r : z_Res} (hPu : z_PuV G d (t_X4 z_pu0)) {h : z_H} {x0 : Nat} {x1 : Int32} {x2 : Int32} {x3 : Int32} (hT : (z_J G (d + 1) (m_X4_keyOf z_pu0) r) 6 [some (.ref x0), some (.int x1), some (.int x2), some (.int x3), some (.int (nI 0)), some (.int (nI 0)), none, none] [] h) : (z_J G (d + 1) (m_X4_keyOf z_pu0) r) 0 [some (.ref x0), some (.int x1), some (.int x2), some (.int x3), none, none, none, none] [] h := z_bq (v_X4 z_pu0 (vP_X4_keyOf z_pu0) hPu) hd_X4_keyOf 7 hT
set_option maxRecDepth 20000 in
theorem b_X4_keyOf_6 {G : z_G} {d : Nat} {r : z_Res} (hPu : z_PuV G d (t_X4 z_pu0)) {h : z_H} {x0 : Nat} {x1 : Int32} {x2 : Int32} {x3 : Int32} {x4 : Int32} {x5 : Int32} (hT : (z_kd h x0 = 20 ∧ (z_rc (z_or h x0 0) False (fun x_1 => (z_kd h x_1 = 24 ∧ (if x5 < (z_oi h x_1 1) then (z_kd h x0 = 20 ∧ (z_rc (z_or h x0 0) False (fun x_2 => (z_kd h x_2 = 24 ∧ (z_rc (z_or h x_2 2) False (fun x_3 => (z_kd h x_3 = 1 ∧ vp_in x5 (z_ln h x_3) ∧ (if ((z_ai h x_3 (Int32.toNatClampNeg x5)) &&& (x2 ^^^ mI)) = ((nI 1) <<< (x1 &&& (nI 31))) then (z_kd h x0 = 20 ∧ (z_rc (z_or h x0 8) (z_kd h x0 = 20 ∧ (z_rc (z_or h x0 6) False (fun x_5 => (z_kd h x_5 = 1 ∧ vp_in ((x3 * (nI 12)) + x5) (z_ln h x_5) ∧ False)))) (fun x_4 => (z_kd h x0 = 20 ∧ (z_rc (z_or h x0 6) False (fun x_6 => (z_kd h x_6 = 1 ∧ vp_in ((x3 * (nI 12)) + x5) (z_ln h x_6) ∧ (z_kd h x_4 = 1 ∧ vp_in x4 (z_ln h x_4) ∧ (z_J G (d + 1) (m_X4_keyOf z_pu0) r) 6 [some (.ref x0), some (.int x1), some (.int x2), some (.int x3), some (.int (x4 + (nI 1))), some (.int (x5 + (nI 1))), none, none] [] (z_pai h x_4 (Int32.toNatClampNeg x4) (z_ai h x_6 (Int32.toNatClampNeg ((x3 * (nI 12)) + x5)))))))))))) else (z_J G (d + 1) (m_X4_keyOf z_pu0) r) 6 [some (.ref x0), some (.int x1), some (.int x2), some (.int x3), some (.int x4), some (.int (x5 + (nI 1))), none, none] [] h)))))))) else (if x4 = (nI 0) then r = (.inl (some (.long (0 : Int64))), h) else (z_kd h x0 = 20 ∧ (z_rc (z_or h x0 8) (∃ h_8, z_Ev G d k_X4_sortUp [.null, .int x4] h (.inl none, h_8) ∧ (z_J G (d + 1) (m_X4_keyOf z_pu0) r) 88 [some (.ref x0), none, none, none, some (.int x4), some (.long (0 : Int64)), none, some (.int (nI 0))] [] h_8) (fun x_7 => (∃ h_9, z_Ev G d k_X4_sortUp [.ref x_7, .int x4] h (.inl none, h_9) ∧ (z_J G (d + 1) (m_X4_keyOf z_pu0) r) 88 [some (.ref x0), none, none, none, some (.int x4), some (.long (0 : Int64)), none, some (.int (nI 0))] [] h_9))))))))))) : (z_J G (d + 1) (m_X4_keyOf z_pu0) r) 6 [some (.ref x0), some (.int x1), some (.int x2), some (.int x3), some (.int x4), some (.int x5), none, none] [] h := z_bq (v_X4 z_pu0 (vP_X4_keyOf z_pu0) hPu) hd_X4_keyOf 36 hT
set_option maxRecDepth 20000 in
theorem b_X4_keyOf_88 {G : z_G} {d : Nat} {r : z_Res} (hPu : z_PuV G d (t_X4 z_pu0)) {h : z_H} {x0 : Nat} {x4 : Int32} {x5 : Int64} {x7 : Int32} (hT : (if x7 < (nI 7) then (if x7 < x4 then (z_kd h x0 = 20 ∧ (z_rc (z_or h x0 8) False (fun x_1 => (z_kd h x_1 = 1 ∧ vp_in x7 (z_ln h x_1) ∧ (z_J G (d + 1) (m_X4_keyOf z_pu0) r) 88 [some (.ref x0), none, none, none, some (.int x4), some (.long ((x5 <<< (Int32.toInt64 (nI 7) &&& 63)) ||| (Int32.toInt64 ((nI 128) - (z_ai h x_1 (Int32.toNatClampNeg x7)))))), none, some (.int (x7 + (nI 1)))] [] h)))) else (z_J G (d + 1) (m_X4_keyOf z_pu0) r) 88 [some (.ref x0), none, none, none, some (.int x4), some (.long ((x5 <<< (Int32.toInt64 (nI 7) &&& 63)) ||| (Int32.toInt64 (nI 0)))), none, some (.int (x7 + (nI 1)))] [] h) else r = (.inl (some (.long x5)), h))) : (z_J G (d + 1) (m_X4_keyOf z_pu0) r) 88 [some (.ref x0), none, none, none, some (.int x4), some (.long x5), none, some (.int x7)] [] h := z_bq (v_X4 z_pu0 (vP_X4_keyOf z_pu0) hPu) hd_X4_keyOf 24 hT
theorem en_X4_keepBest {pu : Nat → Option ((List Value → z_H → Prop) × (List Value → z_H → Int32))} {G : z_G} {d : Nat} {r : z_Res} {h : z_H} {x0 : Nat} (hJ : z_J G d (m_X4_keepBest pu) r 0 [some (.ref x0)] [] h) : z_Ev G d k_X4_keepBest [.ref x0] h r := z_enter (μ := m_X4_keepBest pu) rfl (by decide) rfl rfl (fun q => by cases q) (Nat.le_of_ble_eq_true rfl) hJ
def hd_X4_keepBest : Nat → Option (List Bool) := (fun k => (cond (Nat.blt k 40) (cond (Nat.beq k 15) (some [true]) none) none))
set_option maxRecDepth 20000 in
theorem b_X4_keepBest_0 {G : z_G} {d : Nat} {r : z_Res} (hPu : z_PuV G d (t_X4 z_pu0)) {h : z_H} {x0 : Nat} (hT : (z_kd h x0 = 20 ∧ (z_rc (z_or h x0 2) (z_kd h x0 = 20 ∧ (z_rc (z_or h x0 3) False (fun x_2 => False))) (fun x_1 => (z_kd h x0 = 20 ∧ (z_rc (z_or h x0 3) False (fun x_3 => ((¬ (nI 0) < 0 ∧ ¬ (nI 0) < 0 ∧ ¬ (nI 8) < 0 ∧ (Int32.toNatClampNeg (nI 0)) + (Int32.toNatClampNeg (nI 8)) ≤ z_ln h x_1 ∧ (Int32.toNatClampNeg (nI 0)) + (Int32.toNatClampNeg (nI 8)) ≤ z_ln h x_3) ∧ ((z_kd h x_1 = 1 ∧ z_kd h x_3 = 1 ∧ (z_J G (d + 1) (m_X4_keepBest z_pu0) r) 15 [some (.ref x0)] [] (z_pax h x_3 (va_cpy (z_ai h x_1) (z_ai h x_3) (Int32.toNatClampNeg (nI 0)) (Int32.toNatClampNeg (nI 0)) (Int32.toNatClampNeg (nI 8))))) ∨ (z_kd h x_1 = 2 ∧ z_kd h x_3 = 2 ∧ (z_J G (d + 1) (m_X4_keepBest z_pu0) r) 15 [some (.ref x0)] [] (z_plx h x_3 (va_cpy (z_al h x_1) (z_al h x_3) (Int32.toNatClampNeg (nI 0)) (Int32.toNatClampNeg (nI 0)) (Int32.toNatClampNeg (nI 8)))))))))))))) : (z_J G (d + 1) (m_X4_keepBest z_pu0) r) 0 [some (.ref x0)] [] h := z_bq (v_X4 z_pu0 (vP_X4_keepBest z_pu0) hPu) hd_X4_keepBest 11 hT
set_option maxRecDepth 20000 in
theorem b_X4_keepBest_15 {G : z_G} {d : Nat} {r : z_Res} (hPu : z_PuV G d (t_X4 z_pu0)) {h : z_H} {x0 : Nat} (hT : (z_kd h x0 = 20 ∧ (z_rc (z_or h x0 6) (z_kd h x0 = 20 ∧ (z_rc (z_or h x0 0) False (fun x_2 => (z_kd h x_2 = 24 ∧ (z_kd h x0 = 20 ∧ (z_rc (z_or h x0 7) False (fun x_3 => False))))))) (fun x_1 => (z_kd h x0 = 20 ∧ (z_rc (z_or h x0 0) False (fun x_4 => (z_kd h x_4 = 24 ∧ (z_kd h x0 = 20 ∧ (z_rc (z_or h x0 7) False (fun x_5 => ((¬ ((z_oi h x_4 0) * (nI 12)) < 0 ∧ ¬ (nI 0) < 0 ∧ ¬ (nI 12) < 0 ∧ (Int32.toNatClampNeg ((z_oi h x_4 0) * (nI 12))) + (Int32.toNatClampNeg (nI 12)) ≤ z_ln h x_1 ∧ (Int32.toNatClampNeg (nI 0)) + (Int32.toNatClampNeg (nI 12)) ≤ z_ln h x_5) ∧ ((z_kd h x_1 = 1 ∧ z_kd h x_5 = 1 ∧ r = (.inl none, z_pax h x_5 (va_cpy (z_ai h x_1) (z_ai h x_5) (Int32.toNatClampNeg ((z_oi h x_4 0) * (nI 12))) (Int32.toNatClampNeg (nI 0)) (Int32.toNatClampNeg (nI 12))))) ∨ (z_kd h x_1 = 2 ∧ z_kd h x_5 = 2 ∧ r = (.inl none, z_plx h x_5 (va_cpy (z_al h x_1) (z_al h x_5) (Int32.toNatClampNeg ((z_oi h x_4 0) * (nI 12))) (Int32.toNatClampNeg (nI 0)) (Int32.toNatClampNeg (nI 12)))))))))))))))))) : (z_J G (d + 1) (m_X4_keepBest z_pu0) r) 15 [some (.ref x0)] [] h := z_bq (v_X4 z_pu0 (vP_X4_keepBest z_pu0) hPu) hd_X4_keepBest 15 hT
theorem en_X4_descend {pu : Nat → Option ((List Value → z_H → Prop) × (List Value → z_H → Int32))} {G : z_G} {d : Nat} {r : z_Res} {h : z_H} {x0 : Nat} {x1 : Int32} {x2 : Int32} {x3 : Int32} (hJ : z_J G d (m_X4_descend pu) r 0 [some (.ref x0), some (.int x1), some (.int x2), some (.int x3), none, none, none, none, none, none] [] h) : z_Ev G d k_X4_descend [.ref x0, .int x1, .int x2, .int x3] h r := z_enter (μ := m_X4_descend pu) rfl (by decide) rfl rfl (fun q => by cases q) (Nat.le_of_ble_eq_true rfl) hJ
def hd_X4_descend : Nat → Option (List Bool) := (fun k => (cond (Nat.blt k 150) (cond (Nat.blt k 101) (cond (Nat.blt k 78) (cond (Nat.beq k 31) (some [true, true, true, true, true, false, true, true, false, false]) none) (cond (Nat.beq k 78) (some [true, true, true, true, true, false, true, true, true, false]) none)) (cond (Nat.blt k 118) (cond (Nat.beq k 101) (some [true, true, true, true, true, false, true, false, false, false]) none) (cond (Nat.beq k 118) (some [true, true, true, true, true, false, true, false, false, false]) none))) none))
set_option maxRecDepth 20000 in
theorem b_X4_descend_0 {G : z_G} {d : Nat} {r : z_Res} (hPu : z_PuV G d (t_X4 z_pu0)) {h : z_H} {x0 : Nat} {x1 : Int32} {x2 : Int32} {x3 : Int32} (hT : (z_kd h x0 = 20 ∧ (z_rc (z_or h x0 0) False (fun x_1 => (z_kd h x_1 = 24 ∧ (if x1 < (z_oi h x_1 0) then (z_J G (d + 1) (m_X4_descend z_pu0) r) 31 [some (.ref x0), some (.int x1), some (.int x2), some (.int x3), some (.long (-1 : Int64)), none, some (.int (nI 0)), some (.int (nI 0)), none, none] [] h else (if x3 = (nI 0) then r = (.inl none, h) else (z_kd h x0 = 20 ∧ ∃ h_2, z_Ev G d k_X4_keepBest [.ref x0] h (.inl none, h_2) ∧ r = (.inl none, h_2))))))))) : (z_J G (d + 1) (m_X4_descend z_pu0) r) 0 [some (.ref x0), some (.int x1), some (.int x2), some (.int x3), none, none, none, none, none, none] [] h := z_bq (v_X4 z_pu0 (vP_X4_descend z_pu0) hPu) hd_X4_descend 14 hT
set_option maxRecDepth 20000 in
theorem b_X4_descend_31 {G : z_G} {d : Nat} {r : z_Res} (hPu : z_PuV G d (t_X4 z_pu0)) {h : z_H} {x0 : Nat} {x1 : Int32} {x2 : Int32} {x3 : Int32} {x4 : Int64} {x6 : Int32} {x7 : Int32} (hT : (z_kd h x0 = 20 ∧ (z_rc (z_or h x0 0) False (fun x_1 => (z_kd h x_1 = 24 ∧ (if x7 < (z_oi h x_1 0) then (z_kd h x0 = 20 ∧ ∃ x_3 h_2, z_Ev G d k_X4_isFirstTwin [.ref x0, .int x7, .int x2] h (.inl (some (.int x_3)), h_2) ∧ (if x_3 = (nI 0) then (z_J G (d + 1) (m_X4_descend z_pu0) r) 31 [some (.ref x0), some (.int x1), some (.int x2), some (.int x3), some (.long x4), none, some (.int x6), some (.int (x7 + (nI 1))), none, none] [] h_2 else (z_kd h_2 x0 = 20 ∧ ∃ x_5 h_4, z_Ev G d k_X4_keyOf [.ref x0, .int x7, .int x2, .int x1] h_2 (.inl (some (.long x_5)), h_4) ∧ (if (nI 0) < (lg_cmp x_5 x4) then (z_J G (d + 1) (m_X4_descend z_pu0) r) 78 [some (.ref x0), some (.int x1), some (.int x2), some (.int x3), some (.long x_5), none, some (.int (nI 0)), some (.int x7), some (.long x_5), none] [] h_4 else (z_J G (d + 1) (m_X4_descend z_pu0) r) 78 [some (.ref x0), some (.int x1), some (.int x2), some (.int x3), some (.long x4), none, some (.int x6), some (.int x7), some (.long x_5), none] [] h_4)))) else (z_J G (d + 1) (m_X4_descend z_pu0) r) 101 [some (.ref x0), some (.int x1), some (.int x2), some (.int x3), some (.long x4), none, some (.int x6), none, none, none] [] h)))))) : (z_J G (d + 1) (m_X4_descend z_pu0) r) 31 [some (.ref x0), some (.int x1), some (.int x2), some (.int x3), some (.long x4), none, some (.int x6), some (.int x7), none, none] [] h := z_bq (v_X4 z_pu0 (vP_X4_descend z_pu0) hPu) hd_X4_descend 27 hT
set_option maxRecDepth 20000 in
theorem b_X4_descend_78 {G : z_G} {d : Nat} {r : z_Res} (hPu : z_PuV G d (t_X4 z_pu0)) {h : z_H} {x0 : Nat} {x1 : Int32} {x2 : Int32} {x3 : Int32} {x4 : Int64} {x6 : Int32} {x7 : Int32} {x8 : Int64} (hT : (if (lg_cmp x8 x4) = (nI 0) then (z_J G (d + 1) (m_X4_descend z_pu0) r) 31 [some (.ref x0), some (.int x1), some (.int x2), some (.int x3), some (.long x4), none, some (.int (x6 ||| ((nI 1) <<< (x7 &&& (nI 31))))), some (.int (x7 + (nI 1))), none, none] [] h else (z_J G (d + 1) (m_X4_descend z_pu0) r) 31 [some (.ref x0), some (.int x1), some (.int x2), some (.int x3), some (.long x4), none, some (.int x6), some (.int (x7 + (nI 1))), none, none] [] h)) : (z_J G (d + 1) (m_X4_descend z_pu0) r) 78 [some (.ref x0), some (.int x1), some (.int x2), some (.int x3), some (.long x4), none, some (.int x6), some (.int x7), some (.long x8), none] [] h := z_bq (v_X4 z_pu0 (vP_X4_descend z_pu0) hPu) hd_X4_descend 15 hT
set_option maxRecDepth 20000 in
theorem b_X4_descend_101 {G : z_G} {d : Nat} {r : z_Res} (hPu : z_PuV G d (t_X4 z_pu0)) {h : z_H} {x0 : Nat} {x1 : Int32} {x2 : Int32} {x3 : Int32} {x4 : Int64} {x6 : Int32} (hT : (if x3 = (nI 0) then (z_kd h x0 = 20 ∧ (z_rc (z_or h x0 3) False (fun x_1 => (z_kd h x_1 = 2 ∧ vp_in x1 (z_ln h x_1) ∧ (if (lg_cmp x4 (z_al h x_1 (Int32.toNatClampNeg x1))) < (nI 0) then r = (.inl none, h) else (z_J G (d + 1) (m_X4_descend z_pu0) r) 118 [some (.ref x0), some (.int x1), some (.int x2), some (.int x3), some (.long x4), none, some (.int x6), none, none, none] [] h))))) else (z_J G (d + 1) (m_X4_descend z_pu0) r) 118 [some (.ref x0), some (.int x1), some (.int x2), some (.int x3), some (.long x4), none, some (.int x6), none, none, none] [] h)) : (z_J G (d + 1) (m_X4_descend z_pu0) r) 101 [some (.ref x0), some (.int x1), some (.int x2), some (.int x3), some (.long x4), none, some (.int x6), none, none, none] [] h := z_bq (v_X4 z_pu0 (vP_X4_descend z_pu0) hPu) hd_X4_descend 12 hT
set_option maxRecDepth 20000 in
theorem b_X4_descend_118 {G : z_G} {d : Nat} {r : z_Res} (hPu : z_PuV G d (t_X4 z_pu0)) {h : z_H} {x0 : Nat} {x1 : Int32} {x2 : Int32} {x3 : Int32} {x4 : Int64} {x6 : Int32} (hT : (if x3 = (nI 0) then (z_kd h x0 = 20 ∧ (z_rc (z_or h x0 3) False (fun x_1 => (z_kd h x_1 = 2 ∧ vp_in x1 (z_ln h x_1) ∧ (if (nI 0) < (lg_cmp x4 (z_al h x_1 (Int32.toNatClampNeg x1))) then (z_kd h x0 = 20 ∧ ∃ h_2, z_Ev G d k_X4_follow [.ref x0, .int x1, .int x2, .int x6, .long x4, .int (nI 1)] h (.inl none, h_2) ∧ r = (.inl none, h_2)) else (z_kd h x0 = 20 ∧ ∃ h_3, z_Ev G d k_X4_follow [.ref x0, .int x1, .int x2, .int x6, .long x4, .int (nI 0)] h (.inl none, h_3) ∧ r = (.inl none, h_3))))))) else (z_kd h x0 = 20 ∧ ∃ h_4, z_Ev G d k_X4_follow [.ref x0, .int x1, .int x2, .int x6, .long x4, .int (nI 1)] h (.inl none, h_4) ∧ r = (.inl none, h_4)))) : (z_J G (d + 1) (m_X4_descend z_pu0) r) 118 [some (.ref x0), some (.int x1), some (.int x2), some (.int x3), some (.long x4), none, some (.int x6), none, none, none] [] h := z_bq (v_X4 z_pu0 (vP_X4_descend z_pu0) hPu) hd_X4_descend 20 hT
theorem en_X4_follow {pu : Nat → Option ((List Value → z_H → Prop) × (List Value → z_H → Int32))} {G : z_G} {d : Nat} {r : z_Res} {h : z_H} {x0 : Nat} {x1 : Int32} {x2 : Int32} {x3 : Int32} {x4 : Int64} {x6 : Int32} (hJ : z_J G d (m_X4_follow pu) r 0 [some (.ref x0), some (.int x1), some (.int x2), some (.int x3), some (.long x4), none, some (.int x6), none, none] [] h) : z_Ev G d k_X4_follow [.ref x0, .int x1, .int x2, .int x3, .long x4, .int x6] h r := z_enter (μ := m_X4_follow pu) rfl (by decide) rfl rfl (fun q => by cases q) (Nat.le_of_ble_eq_true rfl) hJ
def hd_X4_follow : Nat → Option (List Bool) := (fun k => (cond (Nat.blt k 100) (cond (Nat.beq k 33) (some [true, true, true, true, false, false, false, true, true]) none) none))
set_option maxRecDepth 20000 in
theorem b_X4_follow_0 {G : z_G} {d : Nat} {r : z_Res} (hPu : z_PuV G d (t_X4 z_pu0)) {h : z_H} {x0 : Nat} {x1 : Int32} {x2 : Int32} {x3 : Int32} {x4 : Int64} {x6 : Int32} (hT : (if x6 = (nI 0) then (z_kd h x0 = 20 ∧ (z_rc (z_or h x0 2) False (fun x_1 => (z_kd h x_1 = 2 ∧ vp_in x1 (z_ln h x_1) ∧ (z_J G (d + 1) (m_X4_follow z_pu0) r) 33 [some (.ref x0), some (.int x1), some (.int x2), some (.int x3), none, none, none, some (.int x6), some (.int (nI 0))] [] (z_pal h x_1 (Int32.toNatClampNeg x1) x4))))) else (z_kd h x0 = 20 ∧ (if (z_oi h x0 5) = (nI 0) then (z_kd h x0 = 20 ∧ (z_rc (z_or h x0 2) False (fun x_2 => (z_kd h x_2 = 2 ∧ vp_in x1 (z_ln h x_2) ∧ (z_J G (d + 1) (m_X4_follow z_pu0) r) 33 [some (.ref x0), some (.int x1), some (.int x2), some (.int x3), none, none, none, some (.int x6), some (.int (nI 0))] [] (z_pal h x_2 (Int32.toNatClampNeg x1) x4))))) else (z_kd h x0 = 20 ∧ z_bz (nI 1) ∧ r = (.inl none, z_poi h x0 4 (nI 1))))))) : (z_J G (d + 1) (m_X4_follow z_pu0) r) 0 [some (.ref x0), some (.int x1), some (.int x2), some (.int x3), some (.long x4), none, some (.int x6), none, none] [] h := z_bq (v_X4 z_pu0 (vP_X4_follow z_pu0) hPu) hd_X4_follow 17 hT
set_option maxRecDepth 20000 in
theorem b_X4_follow_33 {G : z_G} {d : Nat} {r : z_Res} (hPu : z_PuV G d (t_X4 z_pu0)) {h : z_H} {x0 : Nat} {x1 : Int32} {x2 : Int32} {x3 : Int32} {x7 : Int32} {x8 : Int32} (hT : (z_kd h x0 = 20 ∧ (z_rc (z_or h x0 0) False (fun x_1 => (z_kd h x_1 = 24 ∧ (if x8 < (z_oi h x_1 0) then (z_kd h x0 = 20 ∧ (if (z_oi h x0 4) = (nI 0) then (if ((x3 >>> (x8 &&& (nI 31))) &&& (nI 1)) = (nI 0) then (z_J G (d + 1) (m_X4_follow z_pu0) r) 33 [some (.ref x0), some (.int x1), some (.int x2), some (.int x3), none, none, none, some (.int x7), some (.int (x8 + (nI 1)))] [] h else (z_kd h x0 = 20 ∧ ∃ h_2, z_Ev G d k_X4_rename [.ref x0, .int x8, .int x1] h (.inl none, h_2) ∧ (z_kd h_2 x0 = 20 ∧ ∃ h_3, z_Ev G d k_X4_descend [.ref x0, .int (x1 + (nI 1)), .int (x2 ||| ((nI 1) <<< (x8 &&& (nI 31)))), .int x7] h_2 (.inl none, h_3) ∧ (z_J G (d + 1) (m_X4_follow z_pu0) r) 33 [some (.ref x0), some (.int x1), some (.int x2), some (.int x3), none, none, none, some (.int (nI 0)), some (.int (x8 + (nI 1)))] [] h_3))) else (z_kd h x0 = 20 ∧ (if (z_oi h x0 5) = (nI 0) then (if ((x3 >>> (x8 &&& (nI 31))) &&& (nI 1)) = (nI 0) then (z_J G (d + 1) (m_X4_follow z_pu0) r) 33 [some (.ref x0), some (.int x1), some (.int x2), some (.int x3), none, none, none, some (.int x7), some (.int (x8 + (nI 1)))] [] h else (z_kd h x0 = 20 ∧ ∃ h_4, z_Ev G d k_X4_rename [.ref x0, .int x8, .int x1] h (.inl none, h_4) ∧ (z_kd h_4 x0 = 20 ∧ ∃ h_5, z_Ev G d k_X4_descend [.ref x0, .int (x1 + (nI 1)), .int (x2 ||| ((nI 1) <<< (x8 &&& (nI 31)))), .int x7] h_4 (.inl none, h_5) ∧ (z_J G (d + 1) (m_X4_follow z_pu0) r) 33 [some (.ref x0), some (.int x1), some (.int x2), some (.int x3), none, none, none, some (.int (nI 0)), some (.int (x8 + (nI 1)))] [] h_5))) else r = (.inl none, h))))) else r = (.inl none, h))))))) : (z_J G (d + 1) (m_X4_follow z_pu0) r) 33 [some (.ref x0), some (.int x1), some (.int x2), some (.int x3), none, none, none, some (.int x7), some (.int x8)] [] h := z_bq (v_X4 z_pu0 (vP_X4_follow z_pu0) hPu) hd_X4_follow 39 hT
theorem en_X4_begin {pu : Nat → Option ((List Value → z_H → Prop) × (List Value → z_H → Int32))} {G : z_G} {d : Nat} {r : z_Res} {h : z_H} {x0 : Nat} {x1 : Nat} {x2 : Int32} (hJ : z_J G d (m_X4_begin pu) r 0 [some (.ref x0), some (.ref x1), some (.int x2)] [] h) : z_Ev G d k_X4_begin [.ref x0, .ref x1, .int x2] h r := z_enter (μ := m_X4_begin pu) rfl (by decide) rfl rfl (fun q => by cases q) (Nat.le_of_ble_eq_true rfl) hJ
def hd_X4_begin : Nat → Option (List Bool) := (fun k => none)
set_option maxRecDepth 20000 in
theorem b_X4_begin_0 {G : z_G} {d : Nat} {r : z_Res} (hPu : z_PuV G d (t_X4 z_pu0)) {h : z_H} {x0 : Nat} {x1 : Nat} {x2 : Int32} (hT : (z_kd h x0 = 20 ∧ (z_kd (z_por h x0 0 (some x1)) x1 = 24 ∧ ∃ o_2 h_1, z_Ev G d k_X8_twins [.ref x1] (z_por h x0 0 (some x1)) (.inl (some (va_rf o_2)), h_1) ∧ (z_rc o_2 (z_kd h_1 x0 = 20 ∧ (z_kd (z_por h_1 x0 1 none) x0 = 20 ∧ z_bz x2 ∧ (z_kd (z_poi (z_por h_1 x0 1 none) x0 5 x2) x0 = 20 ∧ z_bz (nI 0) ∧ r = (.inl none, z_poi (z_poi (z_por h_1 x0 1 none) x0 5 x2) x0 4 (nI 0))))) (fun x_3 => (z_kd h_1 x0 = 20 ∧ (z_kd (z_por h_1 x0 1 (some x_3)) x0 = 20 ∧ z_bz x2 ∧ (z_kd (z_poi (z_por h_1 x0 1 (some x_3)) x0 5 x2) x0 = 20 ∧ z_bz (nI 0) ∧ r = (.inl none, z_poi (z_poi (z_por h_1 x0 1 (some x_3)) x0 5 x2) x0 4 (nI 0)))))))))) : (z_J G (d + 1) (m_X4_begin z_pu0) r) 0 [some (.ref x0), some (.ref x1), some (.int x2)] [] h := z_bq (v_X4 z_pu0 (vP_X4_begin z_pu0) hPu) hd_X4_begin 16 hT
theorem en_X4_leastRow {pu : Nat → Option ((List Value → z_H → Prop) × (List Value → z_H → Int32))} {G : z_G} {d : Nat} {r : z_Res} {h : z_H} {x0 : Nat} {x1 : Nat} (hJ : z_J G d (m_X4_leastRow pu) r 0 [some (.ref x0), some (.ref x1), none] [] h) : z_Ev G d k_X4_leastRow [.ref x0, .ref x1] h r := z_enter (μ := m_X4_leastRow pu) rfl (by decide) rfl rfl (fun q => by cases q) (Nat.le_of_ble_eq_true rfl) hJ
def hd_X4_leastRow : Nat → Option (List Bool) := (fun k => (cond (Nat.blt k 60) (cond (Nat.blt k 42) (cond (Nat.blt k 23) (cond (Nat.beq k 13) (some [true, true, false]) none) (cond (Nat.blt k 30) (cond (Nat.beq k 23) (some [true, true, false]) none) (cond (Nat.beq k 30) (some [true, true, false]) none))) (cond (Nat.blt k 50) (cond (Nat.beq k 42) (some [false, true, true]) none) (cond (Nat.blt k 55) (cond (Nat.beq k 50) (some [false, true, true]) none) (cond (Nat.beq k 55) (some [false, true, false]) none)))) none))
set_option maxRecDepth 20000 in
theorem b_X4_leastRow_0 {G : z_G} {d : Nat} {r : z_Res} (hPu : z_PuV G d (t_X4 z_pu0)) {h : z_H} {x0 : Nat} {x1 : Nat} (hT : (z_kd h x1 = 24 ∧ (z_rc (z_or h x1 10) (z_kd h x0 = 20 ∧ ∃ h_2, z_Ev G d k_X4_begin [.ref x0, .ref x1, .int (nI 0)] h (.inl none, h_2) ∧ (z_J G (d + 1) (m_X4_leastRow z_pu0) r) 13 [some (.ref x0), some (.ref x1), none] [] h_2) (fun x_1 => (z_J G (d + 1) (m_X4_leastRow z_pu0) r) 55 [none, some (.ref x1), none] [] h)))) : (z_J G (d + 1) (m_X4_leastRow z_pu0) r) 0 [some (.ref x0), some (.ref x1), none] [] h := z_bq (v_X4 z_pu0 (vP_X4_leastRow z_pu0) hPu) hd_X4_leastRow 10 hT
set_option maxRecDepth 20000 in
theorem b_X4_leastRow_13 {G : z_G} {d : Nat} {r : z_Res} (hPu : z_PuV G d (t_X4 z_pu0)) {h : z_H} {x0 : Nat} {x1 : Nat} (hT : (z_kd h x0 = 20 ∧ (z_rc (z_or h x0 3) (∃ h_2, z_Ev G d k_J7_fill_d0a16 [.null, .long (-1 : Int64)] h (.inl none, h_2) ∧ (z_J G (d + 1) (m_X4_leastRow z_pu0) r) 23 [some (.ref x0), some (.ref x1), none] [] h_2) (fun x_1 => (∃ h_3, z_Ev G d k_J7_fill_d0a16 [.ref x_1, .long (-1 : Int64)] h (.inl none, h_3) ∧ (z_J G (d + 1) (m_X4_leastRow z_pu0) r) 23 [some (.ref x0), some (.ref x1), none] [] h_3))))) : (z_J G (d + 1) (m_X4_leastRow z_pu0) r) 13 [some (.ref x0), some (.ref x1), none] [] h := z_bq (v_X4 z_pu0 (vP_X4_leastRow z_pu0) hPu) hd_X4_leastRow 7 hT
set_option maxRecDepth 20000 in
theorem b_X4_leastRow_55 {G : z_G} {d : Nat} {r : z_Res} (hPu : z_PuV G d (t_X4 z_pu0)) {h : z_H} {x1 : Nat} (hT : (z_kd h x1 = 24 ∧ (z_rc (z_or h x1 10) (r = (.inl (some (va_rf none)), h)) (fun x_1 => r = (.inl (some (va_rf (some x_1))), h))))) : (z_J G (d + 1) (m_X4_leastRow z_pu0) r) 55 [none, some (.ref x1), none] [] h := z_bq (v_X4 z_pu0 (vP_X4_leastRow z_pu0) hPu) hd_X4_leastRow 5 hT
set_option maxRecDepth 20000 in
theorem b_X4_leastRow_23 {G : z_G} {d : Nat} {r : z_Res} (hPu : z_PuV G d (t_X4 z_pu0)) {h : z_H} {x0 : Nat} {x1 : Nat} (hT : (z_kd h x0 = 20 ∧ ∃ h_1, z_Ev G d k_X4_descend [.ref x0, .int (nI 0), .int (nI 0), .int (nI 0)] h (.inl none, h_1) ∧ (z_J G (d + 1) (m_X4_leastRow z_pu0) r) 30 [some (.ref x0), some (.ref x1), none] [] h_1)) : (z_J G (d + 1) (m_X4_leastRow z_pu0) r) 23 [some (.ref x0), some (.ref x1), none] [] h := z_bq (v_X4 z_pu0 (vP_X4_leastRow z_pu0) hPu) hd_X4_leastRow 8 hT
set_option maxRecDepth 20000 in
theorem b_X4_leastRow_30 {G : z_G} {d : Nat} {r : z_Res} (hPu : z_PuV G d (t_X4 z_pu0)) {h : z_H} {x0 : Nat} {x1 : Nat} (hT : (z_kd h x0 = 20 ∧ (z_rc (z_or h x0 7) (z_kd h x1 = 24 ∧ (∃ o_3 h_2, z_Ev G d k_J7_copyOf_59c91 [.null, .int (z_oi h x1 1)] h (.inl (some (va_rf o_3)), h_2) ∧ (z_rc o_3 ((z_J G (d + 1) (m_X4_leastRow z_pu0) r) 42 [none, some (.ref x1), some (.null)] [] h_2) (fun x_4 => (z_J G (d + 1) (m_X4_leastRow z_pu0) r) 42 [none, some (.ref x1), some (.ref x_4)] [] h_2)))) (fun x_1 => (z_kd h x1 = 24 ∧ (∃ o_6 h_5, z_Ev G d k_J7_copyOf_59c91 [.ref x_1, .int (z_oi h x1 1)] h (.inl (some (va_rf o_6)), h_5) ∧ (z_rc o_6 ((z_J G (d + 1) (m_X4_leastRow z_pu0) r) 42 [none, some (.ref x1), some (.null)] [] h_5) (fun x_7 => (z_J G (d + 1) (m_X4_leastRow z_pu0) r) 42 [none, some (.ref x1), some (.ref x_7)] [] h_5)))))))) : (z_J G (d + 1) (m_X4_leastRow z_pu0) r) 30 [some (.ref x0), some (.ref x1), none] [] h := z_bq (v_X4 z_pu0 (vP_X4_leastRow z_pu0) hPu) hd_X4_leastRow 9 hT
set_option maxRecDepth 20000 in
theorem b_X4_leastRow_42 {G : z_G} {d : Nat} {r : z_Res} (hPu : z_PuV G d (t_X4 z_pu0)) {h : z_H} {x1 : Nat} (hT : (z_kd h x1 = 24 ∧ (∃ h_1, z_Ev G d k_X4_sortUp [.null, .int (z_oi h x1 1)] h (.inl none, h_1) ∧ (z_J G (d + 1) (m_X4_leastRow z_pu0) r) 50 [none, some (.ref x1), some (.null)] [] h_1))) : (z_J G (d + 1) (m_X4_leastRow z_pu0) r) 42 [none, some (.ref x1), some (.null)] [] h := z_bq (v_X4 z_pu0 (vP_X4_leastRow z_pu0) hPu) hd_X4_leastRow 7 hT
set_option maxRecDepth 20000 in
theorem b_X4_leastRow_42b {G : z_G} {d : Nat} {r : z_Res} (hPu : z_PuV G d (t_X4 z_pu0)) {h : z_H} {x1 : Nat} {x2 : Nat} (hT : (z_kd h x1 = 24 ∧ (∃ h_1, z_Ev G d k_X4_sortUp [.ref x2, .int (z_oi h x1 1)] h (.inl none, h_1) ∧ (z_J G (d + 1) (m_X4_leastRow z_pu0) r) 50 [none, some (.ref x1), some (.ref x2)] [] h_1))) : (z_J G (d + 1) (m_X4_leastRow z_pu0) r) 42 [none, some (.ref x1), some (.ref x2)] [] h := z_bq (v_X4 z_pu0 (vP_X4_leastRow z_pu0) hPu) hd_X4_leastRow 7 hT
set_option maxRecDepth 20000 in
theorem b_X4_leastRow_50 {G : z_G} {d : Nat} {r : z_Res} (hPu : z_PuV G d (t_X4 z_pu0)) {h : z_H} {x1 : Nat} (hT : (z_kd h x1 = 24 ∧ (z_J G (d + 1) (m_X4_leastRow z_pu0) r) 55 [none, some (.ref x1), none] [] (z_por h x1 10 none))) : (z_J G (d + 1) (m_X4_leastRow z_pu0) r) 50 [none, some (.ref x1), some (.null)] [] h := z_bq (v_X4 z_pu0 (vP_X4_leastRow z_pu0) hPu) hd_X4_leastRow 6 hT
set_option maxRecDepth 20000 in
theorem b_X4_leastRow_50b {G : z_G} {d : Nat} {r : z_Res} (hPu : z_PuV G d (t_X4 z_pu0)) {h : z_H} {x1 : Nat} {x2 : Nat} (hT : (z_kd h x1 = 24 ∧ (z_J G (d + 1) (m_X4_leastRow z_pu0) r) 55 [none, some (.ref x1), none] [] (z_por h x1 10 (some x2)))) : (z_J G (d + 1) (m_X4_leastRow z_pu0) r) 50 [none, some (.ref x1), some (.ref x2)] [] h := z_bq (v_X4 z_pu0 (vP_X4_leastRow z_pu0) hPu) hd_X4_leastRow 6 hT
theorem en_X4_isLeast {pu : Nat → Option ((List Value → z_H → Prop) × (List Value → z_H → Int32))} {G : z_G} {d : Nat} {r : z_Res} {h : z_H} {x0 : Nat} {x1 : Nat} (hJ : z_J G d (m_X4_isLeast pu) r 0 [some (.ref x0), some (.ref x1), none] [] h) : z_Ev G d k_X4_isLeast [.ref x0, .ref x1] h r := z_enter (μ := m_X4_isLeast pu) rfl (by decide) rfl rfl (fun q => by cases q) (Nat.le_of_ble_eq_true rfl) hJ
def hd_X4_isLeast : Nat → Option (List Bool) := (fun k => (cond (Nat.blt k 65) (cond (Nat.beq k 8) (some [true, true, true]) none) none))
set_option maxRecDepth 20000 in
theorem b_X4_isLeast_0 {G : z_G} {d : Nat} {r : z_Res} (hPu : z_PuV G d (t_X4 z_pu0)) {h : z_H} {x0 : Nat} {x1 : Nat} (hT : (z_kd h x0 = 20 ∧ ∃ h_1, z_Ev G d k_X4_begin [.ref x0, .ref x1, .int (nI 1)] h (.inl none, h_1) ∧ (z_J G (d + 1) (m_X4_isLeast z_pu0) r) 8 [some (.ref x0), some (.ref x1), some (.int (nI 0))] [] h_1)) : (z_J G (d + 1) (m_X4_isLeast z_pu0) r) 0 [some (.ref x0), some (.ref x1), none] [] h := z_bq (v_X4 z_pu0 (vP_X4_isLeast z_pu0) hPu) hd_X4_isLeast 9 hT
set_option maxRecDepth 20000 in
theorem b_X4_isLeast_8 {G : z_G} {d : Nat} {r : z_Res} (hPu : z_PuV G d (t_X4 z_pu0)) {h : z_H} {x0 : Nat} {x1 : Nat} {x2 : Int32} (hT : (z_kd h x1 = 24 ∧ (if x2 < (z_oi h x1 0) then (z_kd h x0 = 20 ∧ (z_rc (z_or h x0 3) (z_kd h x0 = 20 ∧ ∃ x_3 h_2, z_Ev G d k_X4_keyOf [.ref x0, .int x2, .int (((nI 1) <<< (x2 &&& (nI 31))) - (nI 1)), .int x2] h (.inl (some (.long x_3)), h_2) ∧ False) (fun x_1 => (z_kd h x0 = 20 ∧ ∃ x_5 h_4, z_Ev G d k_X4_keyOf [.ref x0, .int x2, .int (((nI 1) <<< (x2 &&& (nI 31))) - (nI 1)), .int x2] h (.inl (some (.long x_5)), h_4) ∧ (z_kd h_4 x_1 = 2 ∧ vp_in x2 (z_ln h_4 x_1) ∧ (z_kd (z_pal h_4 x_1 (Int32.toNatClampNeg x2) x_5) x0 = 20 ∧ ∃ h_6, z_Ev G d k_X4_rename [.ref x0, .int x2, .int x2] (z_pal h_4 x_1 (Int32.toNatClampNeg x2) x_5) (.inl none, h_6) ∧ (z_J G (d + 1) (m_X4_isLeast z_pu0) r) 8 [some (.ref x0), some (.ref x1), some (.int (x2 + (nI 1)))] [] h_6)))))) else (z_kd h x0 = 20 ∧ ∃ h_7, z_Ev G d k_X4_descend [.ref x0, .int (nI 0), .int (nI 0), .int (nI 0)] h (.inl none, h_7) ∧ (z_kd h_7 x0 = 20 ∧ (if (z_oi h_7 x0 4) = (nI 0) then (z_bz (nI 1) ∧ r = (.inl (some (.int (nI 1))), h_7)) else (z_bz (nI 0) ∧ r = (.inl (some (.int (nI 0))), h_7)))))))) : (z_J G (d + 1) (m_X4_isLeast z_pu0) r) 8 [some (.ref x0), some (.ref x1), some (.int x2)] [] h := z_bq (v_X4 z_pu0 (vP_X4_isLeast z_pu0) hPu) hd_X4_isLeast 26 hT
/-! THE LEAST ROW: numbers of 64 bits -/
theorem l_or (a b : Nat) : lN a ||| lN b = lN (a ||| b) := by
  apply Int64.toBitVec_inj.mp
  rw [Int64.toBitVec_or]
  show BitVec.ofNat 64 a ||| BitVec.ofNat 64 b = BitVec.ofNat 64 (a ||| b)
  apply BitVec.eq_of_getLsbD_eq
  intro i hi
  simp [BitVec.getLsbD_ofNat, hi]
theorem l_shl (k : Nat) : lN k <<< (Int32.toInt64 (nI 7) &&& 63) = lN (k <<< 7) := by
  apply Int64.toBitVec_inj.mp
  have e : (Int32.toInt64 (nI 7) &&& 63) = (7 : Int64) := by decide
  rw [e, Int64.toBitVec_shiftLeft]
  have e2 : ((7 : Int64).toBitVec.smod 64) = 7#64 := by decide
  rw [e2]
  show (BitVec.ofNat 64 k) <<< 7#64 = BitVec.ofNat 64 (k <<< 7)
  apply BitVec.eq_of_getLsbD_eq
  intro i hi
  rw [BitVec.shiftLeft_eq', show (7#64).toNat = 7 from rfl, BitVec.getLsbD_shiftLeft, BitVec.getLsbD_ofNat, BitVec.getLsbD_ofNat, Nat.testBit_shiftLeft]
  by_cases c : 7 ≤ i
  · rw [decide_eq_true hi, decide_eq_false (show ¬ i < 7 by omega), decide_eq_true (show i - 7 < 64 by omega), decide_eq_true (show i ≥ 7 from c)]
    rfl
  · rw [decide_eq_true hi, decide_eq_true (show i < 7 by omega), decide_eq_false (show ¬ i ≥ 7 from c)]
    rfl
theorem l_wide {d : Nat} (hd : d < 2 ^ 31) : Int32.toInt64 (nI d) = lN d := by
  apply Int64.toInt_inj.mp
  rw [Int32.toInt_toInt64, nI_toInt hd, pk_lT (by omega)]
/-- a key by its code: 0 is less than all -/
def k64 (c : Nat) : Int64 := match c with
  | 0 => -1
  | n + 1 => lN n
theorem k64_int {c : Nat} (h : c < 2 ^ 62) : (k64 c).toInt = (c : Int) - 1 := by
  cases c with
  | zero => rfl
  | succ n =>
    show (lN n).toInt = _
    rw [pk_lT (by omega)]
    omega
theorem cmp_gt {a b : Nat} (ha : a < 2 ^ 62) (hb : b < 2 ^ 62) : (nI 0 < lg_cmp (k64 a) (k64 b)) ↔ b < a := by
  have i1 := k64_int ha
  have i2 := k64_int hb
  unfold lg_cmp
  by_cases c : k64 a > k64 b
  · rw [if_pos c]
    have := (fa_lt64 _ _).mp c
    exact ⟨fun _ => by omega, fun _ => by decide⟩
  · rw [if_neg c]
    have c' : ¬ (k64 b).toInt < (k64 a).toInt := fun e => c ((fa_lt64 _ _).mpr e)
    constructor
    · intro e
      exfalso
      revert e
      split
      · decide
      · decide
    · intro e; omega
theorem cmp_eq {a b : Nat} (ha : a < 2 ^ 62) (hb : b < 2 ^ 62) : (lg_cmp (k64 a) (k64 b) = nI 0) ↔ a = b := by
  have i1 := k64_int ha
  have i2 := k64_int hb
  unfold lg_cmp
  constructor
  · intro e
    split at e
    · exact absurd e (by decide)
    · split at e
      · rename_i h
        have := congrArg Int64.toInt h
        omega
      · exact absurd e (by decide)
  · intro e
    subst e
    rw [if_neg (fun h => by have := (fa_lt64 _ _).mp h; omega), if_pos rfl]
    rfl
theorem cmp_lt {a b : Nat} (ha : a < 2 ^ 62) (hb : b < 2 ^ 62) : (lg_cmp (k64 a) (k64 b) < nI 0) ↔ a < b := by
  have i1 := k64_int ha
  have i2 := k64_int hb
  unfold lg_cmp
  constructor
  · intro e
    split at e
    · exact absurd e (by decide)
    · rename_i h1
      split at e
      · exact absurd e (by decide)
      · rename_i h2
        have n1 : ¬ (k64 b).toInt < (k64 a).toInt := fun e => h1 ((fa_lt64 _ _).mpr e)
        have n2 : (k64 a).toInt ≠ (k64 b).toInt := fun e => h2 (Int64.toInt_inj.mp e)
        omega
  · intro e
    rw [if_neg (fun h => by have := (fa_lt64 _ _).mp h; omega), if_neg (fun h => by have := congrArg Int64.toInt h; omega)]
    decide
/-! sorting -/
def insW (num : Nat) : Nat → (Nat → Nat) → (Nat → Nat)
  | 0, R => z_u R 0 num
  | k + 1, R => if num < R k then insW num k (z_u R (k + 1) (R k)) else z_u R (k + 1) num
def srt (R : Nat → Nat) (size : Nat) : Nat → Nat := it (fun k R => insW (R (1 + k)) (1 + k) R) R (size - 1)
section HN
variable {G : z_G} {d a : Nat} {h : z_H}
theorem insW_lt {num B N : Nat} (hn : num < B) : ∀ k R, k < N → (∀ i, i < N → R i < B) → ∀ i, i < N → insW num k R i < B := by
  intro k
  induction k with
  | zero =>
    intro R hk hR i hi
    show z_u R 0 num i < B
    by_cases e : i = 0
    · rw [e, u_eq]; exact hn
    · rw [u_ne _ _ e]; exact hR i hi
  | succ k ih =>
    intro R hk hR i hi
    unfold insW
    split
    · refine ih _ (by omega) (fun j hj => ?_) i hi
      by_cases e : j = k + 1
      · rw [e, u_eq]; exact hR k (by omega)
      · rw [u_ne _ _ e]; exact hR j hj
    · by_cases e : i = k + 1
      · rw [e, u_eq]; exact hn
      · rw [u_ne _ _ e]; exact hR i hi
theorem srt_lt {B N : Nat} {R : Nat → Nat} {size : Nat} (hs : size ≤ N) (hR : ∀ i, i < N → R i < B) : ∀ i, i < N → srt R size i < B := by
  have key : ∀ k, k ≤ size - 1 → ∀ i, i < N → it (fun k R => insW (R (1 + k)) (1 + k) R) R k i < B := by
    intro k
    induction k with
    | zero => intro _; exact hR
    | succ k ih =>
      intro hk
      rw [it_s]
      have ih' := ih (by omega)
      exact insW_lt (ih' (1 + k) (by omega)) (1 + k) _ (by omega) ih'
  exact key _ (Nat.le_refl _)
theorem e4_sortUp {N : Nat} (k1 : z_kd h a = 1) (k2 : z_ln h a = N) (hN : N < 2 ^ 31) {R : Nat → Nat} {size : Nat} (hs : size ≤ N) (hR : ∀ i, i < N → R i < 2 ^ 31) : z_Ev G (d + 4) k_X4_sortUp [.ref a, .int (nI size)] (z_pax h a (fun i => nI (R i))) (.inl none, z_pax h a (fun i => nI (srt R size i))) := by
  have vi : ∀ f i, i < N → vp_in (nI i) (z_ln (z_pax h a f) a) := fun f i hi => by
    show vp_in (nI i) (z_ln h a); rw [k2]; exact vp_in_nI hi hN
  have hlt : ∀ k, k ≤ size - 1 → ∀ i, i < N → it (fun k R => insW (R (1 + k)) (1 + k) R) R k i < 2 ^ 31 := by
    intro k
    induction k with
    | zero => intro _; exact hR
    | succ k ih =>
      intro hk
      rw [it_s]
      have ih' := ih (by omega)
      exact insW_lt (ih' (1 + k) (by omega)) (1 + k) _ (by omega) ih'
  refine en_X4_sortUp (b_X4_sortUp_0 (z_pu0V rfl) ?_)
  have key := z_forH (G := G) (d := d + 4) (μ := m_X4_sortUp z_pu0) (r := (.inl none, z_pax h a (fun i => nI (srt R size i)))) (pc := 2) (fun k (_ : Nat → Nat) => [some (.ref a), some (.int (nI size)), some (.int (nI (1 + k))), none, none]) (fun _ R => z_pax h a (fun i => nI (R i))) (fun k R => insW (R (1 + k)) (1 + k) R) R (size - 1) ?_ ?_
  · exact key
  · intro k hk hJ
    have hl := hlt k (by omega)
    obtain ⟨Q, eQ⟩ : ∃ Q, Q = it (fun k R => insW (R (1 + k)) (1 + k) R) R k := ⟨_, rfl⟩
    rw [← eQ] at hJ hl ⊢
    have num := hl (1 + k) (by omega)
    obtain ⟨v, ev⟩ : ∃ v, v = Q (1 + k) := ⟨_, rfl⟩
    rw [← ev] at hJ num
    refine b_X4_sortUp_2 (z_pu0V rfl) ?_
    rw [if_pos (nI_lt (by omega) (by omega)), nI_clamp (by omega), pax_ai, ← ev]
    refine ⟨k1, vi _ _ (by omega), ?_⟩
    have inner : ∀ at' Q', at' ≤ 1 + k → (∀ i, i < N → Q' i < 2 ^ 31) → z_J G (d + 4) (m_X4_sortUp z_pu0) (.inl none, z_pax h a (fun i => nI (srt R size i))) 2 [some (.ref a), some (.int (nI size)), some (.int (nI (1 + (k + 1)))), none, none] [] (z_pax h a (fun i => nI (insW v at' Q' i))) → z_J G (d + 4) (m_X4_sortUp z_pu0) (.inl none, z_pax h a (fun i => nI (srt R size i))) 14 [some (.ref a), some (.int (nI size)), some (.int (nI (1 + k))), some (.int (nI v)), some (.int (nI at'))] [] (z_pax h a (fun i => nI (Q' i))) := by
      intro at'
      induction at' with
      | zero =>
        intro Q' h1 hQ hJ2
        refine b_X4_sortUp_14 (z_pu0V rfl) ?_
        rw [if_neg (show ¬ nI 0 < nI 0 by decide), nI_clamp (by decide), pax_pai, nu, nI_add]
        exact ⟨k1, vi _ _ (by omega), hJ2⟩
      | succ at' ih =>
        intro Q' h1 hQ hJ2
        have q1 := hQ at' (by omega)
        refine b_X4_sortUp_14 (z_pu0V rfl) ?_
        rw [if_pos (nI_lt (by omega) (by omega)), q_sub (show 1 ≤ at' + 1 by omega), show at' + 1 - 1 = at' from rfl, nI_clamp (show at' < 2 ^ 31 by omega), nI_clamp (show at' + 1 < 2 ^ 31 by omega), pax_ai]
        refine ⟨k1, vi _ _ (by omega), ?_⟩
        unfold insW at hJ2
        by_cases c : v < Q' at'
        · rw [if_pos c] at hJ2
          rw [if_pos (nI_lt c q1), pax_pai, nu, q_pred]
          refine ⟨k1, vi _ _ (by omega), k1, vi _ _ (by omega), ih _ (by omega) (fun i hi => ?_) hJ2⟩
          by_cases e : i = at' + 1
          · rw [e, u_eq]; exact q1
          · rw [u_ne _ _ e]; exact hQ i hi
        · rw [if_neg c] at hJ2
          rw [if_neg (nI_nlt (by omega) num), pax_pai, nu, nI_add]
          exact ⟨k1, vi _ _ (by omega), hJ2⟩
    exact inner (1 + k) Q (Nat.le_refl _) hl hJ
  · refine b_X4_sortUp_2 (z_pu0V rfl) ?_
    rw [if_neg (nI_nlt (by omega) (by omega))]
    rfl
end HN
