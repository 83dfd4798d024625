theorem en_X5_finish {pu : Nat → Option ((List Value → z_H → Prop) × (List Value → z_H → Int32))} {G : z_G} {d : Nat} {r : z_Res} {h : z_H} {x0 : Nat} {x1 : Int32} {x2 : Int32} {x3 : Int32} (hJ : z_J G d (m_X5_finish pu) r 0 [some (.ref x0), some (.int x1), some (.int x2), some (.int x3), none, none, none] [] h) : z_Ev G d k_X5_finish [.ref x0, .int x1, .int x2, .int x3] h r := z_enter (μ := m_X5_finish pu) rfl (by decide) rfl rfl (fun q => by cases q) (Nat.le_of_ble_eq_true rfl) hJ
def hd_X5_finish : Nat → Option (List Bool) := (fun k => (cond (Nat.blt k 114) (cond (Nat.beq k 19) (some [true, true, true, true, true, true, false]) none) none))
set_option maxRecDepth 20000 in
theorem b_X5_finish_0 {G : z_G} {d : Nat} {r : z_Res} (hPu : z_PuV G d (t_X5 z_pu0)) {h : z_H} {x0 : Nat} {x1 : Int32} {x2 : Int32} {x3 : Int32} (hT : (z_kd h x0 = 21 ∧ (z_rc (z_or h x0 0) False (fun x_1 => (z_kd h x_1 = 24 ∧ (if x1 < (z_oi h x_1 0) then (z_J G (d + 1) (m_X5_finish z_pu0) r) 19 [some (.ref x0), some (.int x1), some (.int x2), some (.int x3), some (.int (nI 0)), some (.int (nI 0)), none] [] h else (z_bz (nI 1) ∧ r = (.inl (some (.int (nI 1))), h)))))))) : (z_J G (d + 1) (m_X5_finish z_pu0) r) 0 [some (.ref x0), some (.int x1), some (.int x2), some (.int x3), none, none, none] [] h := z_bq (v_X5 z_pu0 (vP_X5_finish z_pu0) hPu) hd_X5_finish 12 hT
set_option maxRecDepth 20000 in
theorem b_X5_finish_19 {G : z_G} {d : Nat} {r : z_Res} (hPu : z_PuV G d (t_X5 z_pu0)) {h : z_H} {x0 : Nat} {x1 : Int32} {x2 : Int32} {x3 : Int32} {x4 : Int32} {x5 : Int32} (hT : (z_kd h x0 = 21 ∧ (z_rc (z_or h x0 1) False (fun x_1 => (z_kd h x_1 = 24 ∧ (if x5 < (z_oi h x_1 0) then (if ((x2 >>> (x5 &&& (nI 31))) &&& (nI 1)) = (nI 0) then (z_kd h x0 = 21 ∧ (z_rc (z_or h x0 3) False (fun x_2 => (z_kd h x_2 = 1 ∧ vp_in x5 (z_ln h x_2) ∧ (if ((z_ai h x_2 (Int32.toNatClampNeg x5)) &&& x4) = (nI 0) then (z_kd h x0 = 21 ∧ ∃ x_4 h_3, z_Ev G d k_X5_fit [.ref x0, .int x1, .int x5, .int x3] h (.inl (some (.int x_4)), h_3) ∧ (if x_4 = mI then (z_J G (d + 1) (m_X5_finish z_pu0) r) 19 [some (.ref x0), some (.int x1), some (.int x2), some (.int x3), some (.int (x4 ||| ((nI 1) <<< (x5 &&& (nI 31))))), some (.int (x5 + (nI 1))), none] [] h_3 else (z_kd h_3 x0 = 21 ∧ (z_rc (z_or h_3 x0 5) False (fun x_5 => (z_kd h_3 x_5 = 1 ∧ vp_in x1 (z_ln h_3 x_5) ∧ (z_kd (z_pai h_3 x_5 (Int32.toNatClampNeg x1) x5) x0 = 21 ∧ ∃ x_7 h_6, z_Ev G d k_X5_finish [.ref x0, .int (x1 + (nI 1)), .int (x2 ||| ((nI 1) <<< (x5 &&& (nI 31)))), .int x_4] (z_pai h_3 x_5 (Int32.toNatClampNeg x1) x5) (.inl (some (.int x_7)), h_6) ∧ (if x_7 = (nI 0) then (z_J G (d + 1) (m_X5_finish z_pu0) r) 19 [some (.ref x0), some (.int x1), some (.int x2), some (.int x3), some (.int (x4 ||| ((nI 1) <<< (x5 &&& (nI 31))))), some (.int (x5 + (nI 1))), none] [] h_6 else (z_bz (nI 1) ∧ r = (.inl (some (.int (nI 1))), h_6)))))))))) else (z_J G (d + 1) (m_X5_finish z_pu0) r) 19 [some (.ref x0), some (.int x1), some (.int x2), some (.int x3), some (.int x4), some (.int (x5 + (nI 1))), none] [] h))))) else (z_J G (d + 1) (m_X5_finish z_pu0) r) 19 [some (.ref x0), some (.int x1), some (.int x2), some (.int x3), some (.int x4), some (.int (x5 + (nI 1))), none] [] h) else (z_bz (nI 0) ∧ r = (.inl (some (.int (nI 0))), h)))))))) : (z_J G (d + 1) (m_X5_finish z_pu0) r) 19 [some (.ref x0), some (.int x1), some (.int x2), some (.int x3), some (.int x4), some (.int x5), none] [] h := z_bq (v_X5 z_pu0 (vP_X5_finish z_pu0) hPu) hd_X5_finish 55 hT
theorem en_X5_tally {pu : Nat → Option ((List Value → z_H → Prop) × (List Value → z_H → Int32))} {G : z_G} {d : Nat} {r : z_Res} {h : z_H} {x0 : Nat} {x1 : Int32} {x2 : Int32} {x3 : Int32} (hJ : z_J G d (m_X5_tally pu) r 0 [some (.ref x0), some (.int x1), some (.int x2), some (.int x3), none, none, none] [] h) : z_Ev G d k_X5_tally [.ref x0, .int x1, .int x2, .int x3] h r := z_enter (μ := m_X5_tally pu) rfl (by decide) rfl rfl (fun q => by cases q) (Nat.le_of_ble_eq_true rfl) hJ
def hd_X5_tally : Nat → Option (List Bool) := (fun k => (cond (Nat.blt k 97) (cond (Nat.beq k 23) (some [true, true, true, true, true, true, false]) none) none))
set_option maxRecDepth 20000 in
theorem b_X5_tally_0 {G : z_G} {d : Nat} {r : z_Res} (hPu : z_PuV G d (t_X5 z_pu0)) {h : z_H} {x0 : Nat} {x1 : Int32} {x2 : Int32} {x3 : Int32} (hT : (z_kd h x0 = 21 ∧ (z_rc (z_or h x0 0) False (fun x_1 => (z_kd h x_1 = 24 ∧ (if x1 < (z_oi h x_1 0) then (z_kd h x0 = 21 ∧ ∃ x_3 h_2, z_Ev G d k_X5_leastName [.ref x0, .int x1] h (.inl (some (.int x_3)), h_2) ∧ (z_J G (d + 1) (m_X5_tally z_pu0) r) 23 [some (.ref x0), some (.int x1), some (.int x2), some (.int x3), some (.int (nI 0)), some (.int x_3), none] [] h_2) else r = (.inl (some (.int (nI 1))), h))))))) : (z_J G (d + 1) (m_X5_tally z_pu0) r) 0 [some (.ref x0), some (.int x1), some (.int x2), some (.int x3), none, none, none] [] h := z_bq (v_X5 z_pu0 (vP_X5_tally z_pu0) hPu) hd_X5_tally 14 hT
set_option maxRecDepth 20000 in
theorem b_X5_tally_23 {G : z_G} {d : Nat} {r : z_Res} (hPu : z_PuV G d (t_X5 z_pu0)) {h : z_H} {x0 : Nat} {x1 : Int32} {x2 : Int32} {x3 : Int32} {x4 : Int32} {x5 : Int32} (hT : (z_kd h x0 = 21 ∧ (z_rc (z_or h x0 1) False (fun x_1 => (z_kd h x_1 = 24 ∧ (if x5 < (z_oi h x_1 0) then (if ((x2 >>> (x5 &&& (nI 31))) &&& (nI 1)) = (nI 0) then (z_kd h x0 = 21 ∧ ∃ x_3 h_2, z_Ev G d k_X5_fit [.ref x0, .int x1, .int x5, .int x3] h (.inl (some (.int x_3)), h_2) ∧ (if x_3 = mI then (z_J G (d + 1) (m_X5_tally z_pu0) r) 23 [some (.ref x0), some (.int x1), some (.int x2), some (.int x3), some (.int x4), some (.int (x5 + (nI 1))), none] [] h_2 else (z_kd h_2 x0 = 21 ∧ (z_rc (z_or h_2 x0 5) False (fun x_4 => (z_kd h_2 x_4 = 1 ∧ vp_in x1 (z_ln h_2 x_4) ∧ (z_kd (z_pai h_2 x_4 (Int32.toNatClampNeg x1) x5) x0 = 21 ∧ ∃ x_6 h_5, z_Ev G d k_X5_tally [.ref x0, .int (x1 + (nI 1)), .int (x2 ||| ((nI 1) <<< (x5 &&& (nI 31)))), .int x_3] (z_pai h_2 x_4 (Int32.toNatClampNeg x1) x5) (.inl (some (.int x_6)), h_5) ∧ (z_J G (d + 1) (m_X5_tally z_pu0) r) 23 [some (.ref x0), some (.int x1), some (.int x2), some (.int x3), some (.int (x4 + x_6)), some (.int (x5 + (nI 1))), none] [] h_5))))))) else (z_J G (d + 1) (m_X5_tally z_pu0) r) 23 [some (.ref x0), some (.int x1), some (.int x2), some (.int x3), some (.int x4), some (.int (x5 + (nI 1))), none] [] h) else r = (.inl (some (.int x4)), h))))))) : (z_J G (d + 1) (m_X5_tally z_pu0) r) 23 [some (.ref x0), some (.int x1), some (.int x2), some (.int x3), some (.int x4), some (.int x5), none] [] h := z_bq (v_X5 z_pu0 (vP_X5_tally z_pu0) hPu) hd_X5_tally 44 hT
theorem en_X5_polaritiesFrom {pu : Nat → Option ((List Value → z_H → Prop) × (List Value → z_H → Int32))} {G : z_G} {d : Nat} {r : z_Res} {h : z_H} {x0 : Nat} {x1 : Int32} {x2 : Int32} (hJ : z_J G d (m_X5_polaritiesFrom pu) r 0 [some (.ref x0), some (.int x1), some (.int x2), none, none] [] h) : z_Ev G d k_X5_polaritiesFrom [.ref x0, .int x1, .int x2] h r := z_enter (μ := m_X5_polaritiesFrom pu) rfl (by decide) rfl rfl (fun q => by cases q) (Nat.le_of_ble_eq_true rfl) hJ
def hd_X5_polaritiesFrom : Nat → Option (List Bool) := (fun k => (cond (Nat.blt k 93) (cond (Nat.beq k 18) (some [true, true, true, true, true]) none) none))
set_option maxRecDepth 20000 in
theorem b_X5_polaritiesFrom_0 {G : z_G} {d : Nat} {r : z_Res} (hPu : z_PuV G d (t_X5 z_pu0)) {h : z_H} {x0 : Nat} {x1 : Int32} {x2 : Int32} (hT : (z_kd h x0 = 21 ∧ (z_rc (z_or h x0 0) False (fun x_1 => (z_kd h x_1 = 24 ∧ (if x1 < (z_oi h x_1 0) then (z_J G (d + 1) (m_X5_polaritiesFrom z_pu0) r) 18 [some (.ref x0), some (.int x1), some (.int x2), some (.int (nI 0)), some (.int (nI 0))] [] h else r = (.inl (some (.int (nI 1))), h))))))) : (z_J G (d + 1) (m_X5_polaritiesFrom z_pu0) r) 0 [some (.ref x0), some (.int x1), some (.int x2), none, none] [] h := z_bq (v_X5 z_pu0 (vP_X5_polaritiesFrom z_pu0) hPu) hd_X5_polaritiesFrom 12 hT
set_option maxRecDepth 20000 in
theorem b_X5_polaritiesFrom_18 {G : z_G} {d : Nat} {r : z_Res} (hPu : z_PuV G d (t_X5 z_pu0)) {h : z_H} {x0 : Nat} {x1 : Int32} {x2 : Int32} {x3 : Int32} {x4 : Int32} (hT : (z_kd h x0 = 21 ∧ (z_rc (z_or h x0 1) False (fun x_1 => (z_kd h x_1 = 24 ∧ (if x4 < (z_oi h x_1 0) then (if ((x2 >>> (x4 &&& (nI 31))) &&& (nI 1)) = (nI 0) then (z_kd h x0 = 21 ∧ ∃ x_3 h_2, z_Ev G d k_X5_isMutual [.ref x0, .int x1, .int x4] h (.inl (some (.int x_3)), h_2) ∧ (if x_3 = (nI 0) then (z_J G (d + 1) (m_X5_polaritiesFrom z_pu0) r) 18 [some (.ref x0), some (.int x1), some (.int x2), some (.int x3), some (.int (x4 + (nI 1)))] [] h_2 else (z_kd h_2 x0 = 21 ∧ ∃ x_5 h_4, z_Ev G d k_X5_fit [.ref x0, .int x1, .int x4, .int (nI 0)] h_2 (.inl (some (.int x_5)), h_4) ∧ (if x_5 = mI then (z_J G (d + 1) (m_X5_polaritiesFrom z_pu0) r) 18 [some (.ref x0), some (.int x1), some (.int x2), some (.int x3), some (.int (x4 + (nI 1)))] [] h_4 else (z_kd h_4 x0 = 21 ∧ (z_rc (z_or h_4 x0 5) False (fun x_6 => (z_kd h_4 x_6 = 1 ∧ vp_in x1 (z_ln h_4 x_6) ∧ (z_kd (z_pai h_4 x_6 (Int32.toNatClampNeg x1) x4) x0 = 21 ∧ ∃ x_8 h_7, z_Ev G d k_X5_polaritiesFrom [.ref x0, .int (x1 + (nI 1)), .int (x2 ||| ((nI 1) <<< (x4 &&& (nI 31))))] (z_pai h_4 x_6 (Int32.toNatClampNeg x1) x4) (.inl (some (.int x_8)), h_7) ∧ (z_J G (d + 1) (m_X5_polaritiesFrom z_pu0) r) 18 [some (.ref x0), some (.int x1), some (.int x2), some (.int (x3 + x_8)), some (.int (x4 + (nI 1)))] [] h_7))))))))) else (z_J G (d + 1) (m_X5_polaritiesFrom z_pu0) r) 18 [some (.ref x0), some (.int x1), some (.int x2), some (.int x3), some (.int (x4 + (nI 1)))] [] h) else r = (.inl (some (.int x3)), h))))))) : (z_J G (d + 1) (m_X5_polaritiesFrom z_pu0) r) 18 [some (.ref x0), some (.int x1), some (.int x2), some (.int x3), some (.int x4)] [] h := z_bq (v_X5 z_pu0 (vP_X5_polaritiesFrom z_pu0) hPu) hd_X5_polaritiesFrom 46 hT
theorem en_X5_unite {pu : Nat → Option ((List Value → z_H → Prop) × (List Value → z_H → Int32))} {G : z_G} {d : Nat} {r : z_Res} {h : z_H} {x0 : Nat} {x1 : Int32} {x2 : Int32} (hJ : z_J G d (m_X5_unite pu) r 0 [some (.ref x0), some (.int x1), some (.int x2), none, none, none] [] h) : z_Ev G d k_X5_unite [.ref x0, .int x1, .int x2] h r := z_enter (μ := m_X5_unite pu) rfl (by decide) rfl rfl (fun q => by cases q) (Nat.le_of_ble_eq_true rfl) hJ
def hd_X5_unite : Nat → Option (List Bool) := (fun k => (cond (Nat.blt k 52) (cond (Nat.beq k 24) (some [true, false, false, true, true, true]) none) none))
set_option maxRecDepth 20000 in
theorem b_X5_unite_0 {G : z_G} {d : Nat} {r : z_Res} (hPu : z_PuV G d (t_X5 z_pu0)) {h : z_H} {x0 : Nat} {x1 : Int32} {x2 : Int32} (hT : (z_kd h x0 = 1 ∧ vp_in x1 (z_ln h x0) ∧ (z_kd h x0 = 1 ∧ vp_in x2 (z_ln h x0) ∧ (∃ x_2 h_1, z_Ev G d k_J9_min_7cf53 [.int (z_ai h x0 (Int32.toNatClampNeg x1)), .int (z_ai h x0 (Int32.toNatClampNeg x2))] h (.inl (some (.int x_2)), h_1) ∧ (z_kd h_1 x0 = 1 ∧ vp_in x1 (z_ln h_1 x0) ∧ (z_kd h_1 x0 = 1 ∧ vp_in x2 (z_ln h_1 x0) ∧ (∃ x_4 h_3, z_Ev G d k_J9_max_7cf53 [.int (z_ai h_1 x0 (Int32.toNatClampNeg x1)), .int (z_ai h_1 x0 (Int32.toNatClampNeg x2))] h_1 (.inl (some (.int x_4)), h_3) ∧ (z_J G (d + 1) (m_X5_unite z_pu0) r) 24 [some (.ref x0), none, none, some (.int x_2), some (.int x_4), some (.int (nI 0))] [] h_3))))))) : (z_J G (d + 1) (m_X5_unite z_pu0) r) 0 [some (.ref x0), some (.int x1), some (.int x2), none, none, none] [] h := z_bq (v_X5 z_pu0 (vP_X5_unite z_pu0) hPu) hd_X5_unite 21 hT
set_option maxRecDepth 20000 in
theorem b_X5_unite_24 {G : z_G} {d : Nat} {r : z_Res} (hPu : z_PuV G d (t_X5 z_pu0)) {h : z_H} {x0 : Nat} {x3 : Int32} {x4 : Int32} {x5 : Int32} (hT : (if x5 < (nI 8) then (z_kd h x0 = 1 ∧ vp_in x5 (z_ln h x0) ∧ (if (z_ai h x0 (Int32.toNatClampNeg x5)) = x4 then (z_kd h x0 = 1 ∧ vp_in x5 (z_ln h x0) ∧ (z_J G (d + 1) (m_X5_unite z_pu0) r) 24 [some (.ref x0), none, none, some (.int x3), some (.int x4), some (.int (x5 + (nI 1)))] [] (z_pai h x0 (Int32.toNatClampNeg x5) x3)) else (z_J G (d + 1) (m_X5_unite z_pu0) r) 24 [some (.ref x0), none, none, some (.int x3), some (.int x4), some (.int (x5 + (nI 1)))] [] h)) else r = (.inl none, h))) : (z_J G (d + 1) (m_X5_unite z_pu0) r) 24 [some (.ref x0), none, none, some (.int x3), some (.int x4), some (.int x5)] [] h := z_bq (v_X5 z_pu0 (vP_X5_unite z_pu0) hPu) hd_X5_unite 17 hT
theorem en_X5_uniteNamed {pu : Nat → Option ((List Value → z_H → Prop) × (List Value → z_H → Int32))} {G : z_G} {d : Nat} {r : z_Res} {h : z_H} {x0 : Nat} {x1 : Nat} (hJ : z_J G d (m_X5_uniteNamed pu) r 0 [some (.ref x0), some (.ref x1), none] [] h) : z_Ev G d k_X5_uniteNamed [.ref x0, .ref x1] h r := z_enter (μ := m_X5_uniteNamed pu) rfl (by decide) rfl rfl (fun q => by cases q) (Nat.le_of_ble_eq_true rfl) hJ
def hd_X5_uniteNamed : Nat → Option (List Bool) := (fun k => (cond (Nat.blt k 31) (cond (Nat.beq k 2) (some [true, true, true]) none) none))
set_option maxRecDepth 20000 in
theorem b_X5_uniteNamed_0 {G : z_G} {d : Nat} {r : z_Res} (hPu : z_PuV G d (t_X5 z_pu0)) {h : z_H} {x0 : Nat} {x1 : Nat} (hT : (z_J G (d + 1) (m_X5_uniteNamed z_pu0) r) 2 [some (.ref x0), some (.ref x1), some (.int (nI 0))] [] h) : (z_J G (d + 1) (m_X5_uniteNamed z_pu0) r) 0 [some (.ref x0), some (.ref x1), none] [] h := z_bq (v_X5 z_pu0 (vP_X5_uniteNamed z_pu0) hPu) hd_X5_uniteNamed 5 hT
set_option maxRecDepth 20000 in
theorem b_X5_uniteNamed_2 {G : z_G} {d : Nat} {r : z_Res} (hPu : z_PuV G d (t_X5 z_pu0)) {h : z_H} {x0 : Nat} {x1 : Nat} {x2 : Int32} (hT : (z_kd h x0 = 21 ∧ (z_rc (z_or h x0 0) False (fun x_1 => (z_kd h x_1 = 24 ∧ (if x2 < (z_oi h x_1 0) then (z_kd h x0 = 21 ∧ (z_rc (z_or h x0 5) False (fun x_2 => (z_kd h x_2 = 1 ∧ vp_in x2 (z_ln h x_2) ∧ (∃ h_3, z_Ev G d k_X5_unite [.ref x1, .int x2, .int (z_ai h x_2 (Int32.toNatClampNeg x2))] h (.inl none, h_3) ∧ (z_J G (d + 1) (m_X5_uniteNamed z_pu0) r) 2 [some (.ref x0), some (.ref x1), some (.int (x2 + (nI 1)))] [] h_3))))) else r = (.inl none, h))))))) : (z_J G (d + 1) (m_X5_uniteNamed z_pu0) r) 2 [some (.ref x0), some (.ref x1), some (.int x2)] [] h := z_bq (v_X5 z_pu0 (vP_X5_uniteNamed z_pu0) hPu) hd_X5_uniteNamed 17 hT
theorem en_X5_moves {pu : Nat → Option ((List Value → z_H → Prop) × (List Value → z_H → Int32))} {G : z_G} {d : Nat} {r : z_Res} {h : z_H} {x0 : Nat} {x1 : Int32} {x2 : Nat} (hJ : z_J G d (m_X5_moves pu) r 0 [some (.ref x0), some (.int x1), some (.ref x2), none, none, none] [] h) : z_Ev G d k_X5_moves [.ref x0, .int x1, .ref x2] h r := z_enter (μ := m_X5_moves pu) rfl (by decide) rfl rfl (fun q => by cases q) (Nat.le_of_ble_eq_true rfl) hJ
def hd_X5_moves : Nat → Option (List Bool) := (fun k => (cond (Nat.blt k 131) (cond (Nat.blt k 38) (cond (Nat.beq k 5) (some [true, true, true, true, true, false]) none) (cond (Nat.beq k 38) (some [true, true, true, true, true, true]) none)) none))
set_option maxRecDepth 20000 in
theorem b_X5_moves_0 {G : z_G} {d : Nat} {r : z_Res} (hPu : z_PuV G d (t_X5 z_pu0)) {h : z_H} {x0 : Nat} {x1 : Int32} {x2 : Nat} (hT : (z_J G (d + 1) (m_X5_moves z_pu0) r) 5 [some (.ref x0), some (.int x1), some (.ref x2), some (.int (nI 1)), some (.int (nI 0)), none] [] h) : (z_J G (d + 1) (m_X5_moves z_pu0) r) 0 [some (.ref x0), some (.int x1), some (.ref x2), none, none, none] [] h := z_bq (v_X5 z_pu0 (vP_X5_moves z_pu0) hPu) hd_X5_moves 7 hT
set_option maxRecDepth 20000 in
theorem b_X5_moves_5 {G : z_G} {d : Nat} {r : z_Res} (hPu : z_PuV G d (t_X5 z_pu0)) {h : z_H} {x0 : Nat} {x1 : Int32} {x2 : Nat} {x3 : Int32} {x4 : Int32} (hT : (if x4 < x1 then (z_kd h x0 = 21 ∧ (z_rc (z_or h x0 5) False (fun x_1 => (z_kd h x_1 = 1 ∧ vp_in x4 (z_ln h x_1) ∧ (z_J G (d + 1) (m_X5_moves z_pu0) r) 5 [some (.ref x0), some (.int x1), some (.ref x2), some (.int x3), some (.int (x4 + (nI 1))), none] [] (z_pai h x_1 (Int32.toNatClampNeg x4) x4))))) else (z_J G (d + 1) (m_X5_moves z_pu0) r) 38 [some (.ref x0), some (.int x1), some (.ref x2), some (.int x3), some (.int (((nI 1) <<< (x1 &&& (nI 31))) - (nI 1))), some (.int (x1 + (nI 1)))] [] h)) : (z_J G (d + 1) (m_X5_moves z_pu0) r) 5 [some (.ref x0), some (.int x1), some (.ref x2), some (.int x3), some (.int x4), none] [] h := z_bq (v_X5 z_pu0 (vP_X5_moves z_pu0) hPu) hd_X5_moves 16 hT
set_option maxRecDepth 20000 in
theorem b_X5_moves_38 {G : z_G} {d : Nat} {r : z_Res} (hPu : z_PuV G d (t_X5 z_pu0)) {h : z_H} {x0 : Nat} {x1 : Int32} {x2 : Nat} {x3 : Int32} {x4 : Int32} {x5 : Int32} (hT : (z_kd h x0 = 21 ∧ (z_rc (z_or h x0 0) False (fun x_1 => (z_kd h x_1 = 24 ∧ (if x5 < (z_oi h x_1 0) then (z_kd h x0 = 21 ∧ (z_rc (z_or h x0 2) False (fun x_2 => (z_kd h x_2 = 1 ∧ vp_in x1 (z_ln h x_2) ∧ (if (((z_ai h x_2 (Int32.toNatClampNeg x1)) >>> (x5 &&& (nI 31))) &&& (nI 1)) = (nI 0) then (z_kd h x0 = 21 ∧ ∃ x_4 h_3, z_Ev G d k_X5_fit [.ref x0, .int x1, .int x5, .int (nI 0)] h (.inl (some (.int x_4)), h_3) ∧ (if x_4 = mI then (z_J G (d + 1) (m_X5_moves z_pu0) r) 38 [some (.ref x0), some (.int x1), some (.ref x2), some (.int x3), some (.int x4), some (.int (x5 + (nI 1)))] [] h_3 else (z_kd h_3 x0 = 21 ∧ (z_rc (z_or h_3 x0 5) False (fun x_5 => (z_kd h_3 x_5 = 1 ∧ vp_in x1 (z_ln h_3 x_5) ∧ (z_kd (z_pai h_3 x_5 (Int32.toNatClampNeg x1) x5) x0 = 21 ∧ ∃ x_7 h_6, z_Ev G d k_X5_finish [.ref x0, .int (x1 + (nI 1)), .int (x4 ||| ((nI 1) <<< (x5 &&& (nI 31)))), .int (nI 0)] (z_pai h_3 x_5 (Int32.toNatClampNeg x1) x5) (.inl (some (.int x_7)), h_6) ∧ (if x_7 = (nI 0) then (z_J G (d + 1) (m_X5_moves z_pu0) r) 38 [some (.ref x0), some (.int x1), some (.ref x2), some (.int x3), some (.int x4), some (.int (x5 + (nI 1)))] [] h_6 else (z_kd h_6 x0 = 21 ∧ ∃ h_8, z_Ev G d k_X5_uniteNamed [.ref x0, .ref x2] h_6 (.inl none, h_8) ∧ (z_J G (d + 1) (m_X5_moves z_pu0) r) 38 [some (.ref x0), some (.int x1), some (.ref x2), some (.int (x3 + (nI 1))), some (.int x4), some (.int (x5 + (nI 1)))] [] h_8))))))))) else (∃ h_9, z_Ev G d k_X5_unite [.ref x2, .int x1, .int x5] h (.inl none, h_9) ∧ (z_J G (d + 1) (m_X5_moves z_pu0) r) 38 [some (.ref x0), some (.int x1), some (.ref x2), some (.int (x3 + (nI 1))), some (.int x4), some (.int (x5 + (nI 1)))] [] h_9)))))) else r = (.inl (some (.int x3)), h))))))) : (z_J G (d + 1) (m_X5_moves z_pu0) r) 38 [some (.ref x0), some (.int x1), some (.ref x2), some (.int x3), some (.int x4), some (.int x5)] [] h := z_bq (v_X5 z_pu0 (vP_X5_moves z_pu0) hPu) hd_X5_moves 47 hT
theorem en_X5_nameAfter {pu : Nat → Option ((List Value → z_H → Prop) × (List Value → z_H → Int32))} {G : z_G} {d : Nat} {r : z_Res} {h : z_H} {x0 : Nat} {x1 : Int32} {x2 : Int32} {x3 : Int32} (hJ : z_J G d (m_X5_nameAfter pu) r 0 [some (.ref x0), some (.int x1), some (.int x2), some (.int x3), none, none] [] h) : z_Ev G d k_X5_nameAfter [.ref x0, .int x1, .int x2, .int x3] h r := z_enter (μ := m_X5_nameAfter pu) rfl (by decide) rfl rfl (fun q => by cases q) (Nat.le_of_ble_eq_true rfl) hJ
def hd_X5_nameAfter : Nat → Option (List Bool) := (fun k => (cond (Nat.blt k 84) (cond (Nat.beq k 6) (some [true, true, true, true, true, true]) none) none))
set_option maxRecDepth 20000 in
theorem b_X5_nameAfter_0 {G : z_G} {d : Nat} {r : z_Res} (hPu : z_PuV G d (t_X5 z_pu0)) {h : z_H} {x0 : Nat} {x1 : Int32} {x2 : Int32} {x3 : Int32} (hT : (z_J G (d + 1) (m_X5_nameAfter z_pu0) r) 6 [some (.ref x0), some (.int x1), some (.int x2), some (.int x3), some (.int (nI 0)), some (.int (nI 0))] [] h) : (z_J G (d + 1) (m_X5_nameAfter z_pu0) r) 0 [some (.ref x0), some (.int x1), some (.int x2), some (.int x3), none, none] [] h := z_bq (v_X5 z_pu0 (vP_X5_nameAfter z_pu0) hPu) hd_X5_nameAfter 7 hT
set_option maxRecDepth 20000 in
theorem b_X5_nameAfter_6 {G : z_G} {d : Nat} {r : z_Res} (hPu : z_PuV G d (t_X5 z_pu0)) {h : z_H} {x0 : Nat} {x1 : Int32} {x2 : Int32} {x3 : Int32} {x4 : Int32} {x5 : Int32} (hT : (z_kd h x0 = 21 ∧ (z_rc (z_or h x0 1) False (fun x_1 => (z_kd h x_1 = 24 ∧ (if x5 < (z_oi h x_1 0) then (if ((x2 >>> (x5 &&& (nI 31))) &&& (nI 1)) = (nI 0) then (z_kd h x0 = 21 ∧ ∃ x_3 h_2, z_Ev G d k_X5_fit [.ref x0, .int x1, .int x5, .int (nI 0)] h (.inl (some (.int x_3)), h_2) ∧ (if x_3 = mI then (z_J G (d + 1) (m_X5_nameAfter z_pu0) r) 6 [some (.ref x0), some (.int x1), some (.int x2), some (.int x3), some (.int x4), some (.int (x5 + (nI 1)))] [] h_2 else (z_kd h_2 x0 = 21 ∧ (z_rc (z_or h_2 x0 5) False (fun x_4 => (z_kd h_2 x_4 = 1 ∧ vp_in x1 (z_ln h_2 x_4) ∧ (z_kd (z_pai h_2 x_4 (Int32.toNatClampNeg x1) x5) x0 = 21 ∧ ∃ x_6 h_5, z_Ev G d k_X5_finish [.ref x0, .int (x1 + (nI 1)), .int (x2 ||| ((nI 1) <<< (x5 &&& (nI 31)))), .int (nI 0)] (z_pai h_2 x_4 (Int32.toNatClampNeg x1) x5) (.inl (some (.int x_6)), h_5) ∧ (if x_6 = (nI 0) then (z_J G (d + 1) (m_X5_nameAfter z_pu0) r) 6 [some (.ref x0), some (.int x1), some (.int x2), some (.int x3), some (.int x4), some (.int (x5 + (nI 1)))] [] h_5 else (if x4 = x3 then r = (.inl (some (.int x5)), h_5) else (z_J G (d + 1) (m_X5_nameAfter z_pu0) r) 6 [some (.ref x0), some (.int x1), some (.int x2), some (.int x3), some (.int (x4 + (nI 1))), some (.int (x5 + (nI 1)))] [] h_5))))))))) else (z_J G (d + 1) (m_X5_nameAfter z_pu0) r) 6 [some (.ref x0), some (.int x1), some (.int x2), some (.int x3), some (.int x4), some (.int (x5 + (nI 1)))] [] h) else r = (.inl (some (.int (nI 0))), h))))))) : (z_J G (d + 1) (m_X5_nameAfter z_pu0) r) 6 [some (.ref x0), some (.int x1), some (.int x2), some (.int x3), some (.int x4), some (.int x5)] [] h := z_bq (v_X5 z_pu0 (vP_X5_nameAfter z_pu0) hPu) hd_X5_nameAfter 44 hT
/-! the matcher: its searches -/
def mw (mt mn qf bf qt bt af at' : Nat) (ex : Bool) (h : z_H) (F T : Sc) : Prop := mt_at mt mn qf qt af at' ex h F T ∧ sc_at qf bf h F ∧ sc_at qt bt h T ∧ mn ≠ af ∧ mn ≠ at' ∧ (mn < bf ∨ bf + 8 ≤ mn) ∧ (mn < bt ∨ bt + 8 ≤ mn)
section FX
variable {G : z_G} {d mt mn qf bf qt bt af at' : Nat} {ex : Bool} {h : z_H} {F T : Sc} {N : Nat → Nat}
theorem sc_px {q b a : Nat} {S : Sc} {f : Nat → Int32} (hA : sc_at q b h S) (ha : ∀ j, j < 8 → j ≠ 3 → j ≠ 4 → a ≠ b + j) : sc_at q b (z_pax h a f) S := sc_at_of hA (fun _ _ => ⟨rfl, rfl⟩) rfl (fun _ _ => rfl) (fun j hj j3 j4 => u_ne _ _ (fun e => ha j hj j3 j4 e.symm))
theorem mw_px {a : Nat} {f : Nat → Int32} (hW : mw mt mn qf bf qt bt af at' ex h F T) (h1 : a ≠ af) (h2 : a ≠ at') (h3 : ∀ j, j < 8 → j ≠ 3 → j ≠ 4 → a ≠ bf + j) (h4 : ∀ j, j < 8 → j ≠ 3 → j ≠ 4 → a ≠ bt + j) : mw mt mn qf bf qt bt af at' ex (z_pax h a f) F T := by
  obtain ⟨⟨m1, m2, m3, ⟨m4, m5, m6, m7⟩, ⟨m8, m9, m10, m11⟩, m12, m13, m14, m15⟩, hF, hT, d1, d2, d3, d4⟩ := hW
  exact ⟨⟨m1, m2, m3, ⟨m4, m5, m6, fun p hp => by rw [show z_ai (z_pax h a f) af = z_ai h af from u_ne _ _ (fun e => h1 e.symm)]; exact m7 p hp⟩, ⟨m8, m9, m10, fun p hp => by rw [show z_ai (z_pax h a f) at' = z_ai h at' from u_ne _ _ (fun e => h2 e.symm)]; exact m11 p hp⟩, m12, m13, m14, m15⟩, sc_px hF h3, sc_px hT h4, d1, d2, d3, d4⟩
theorem mw_n {f : Nat → Int32} (hW : mw mt mn qf bf qt bt af at' ex h F T) : mw mt mn qf bf qt bt af at' ex (z_pax h mn f) F T := mw_px hW hW.2.2.2.1 hW.2.2.2.2.1 (fun j hj _ _ => by have := hW.2.2.2.2.2.1; omega) (fun j hj _ _ => by have := hW.2.2.2.2.2.2; omega)
theorem pax_ai (h : z_H) (a : Nat) (f : Nat → Int32) : z_ai (z_pax h a f) a = f := u_eq _ _ _
theorem pax_pai (h : z_H) (a : Nat) (f : Nat → Int32) (k : Nat) (v : Int32) : z_pai (z_pax h a f) a k v = z_pax h a (z_u f k v) := by
  have e : z_uu (z_u (z_ai h) a f) a k v = z_u (z_ai h) a (z_u f k v) := by
    unfold z_uu
    rw [u_eq, u_u]
  show (h.1, z_kd h, z_ln h, z_oi h, z_or h, z_uu (z_u (z_ai h) a f) a k v, z_al h, z_ar h) = _
  rw [e]
  rfl
theorem tw_lt {S : Sc} (hS : S.1 ≤ 8) (p : Nat) : g_twT S p < 256 := by
  unfold g_twT
  have key : ∀ k, k ≤ S.1 → ∀ i, it (fun p T => it (fun q T => if g_tw S p q then z_u (z_u T p (T p ||| 2 ^ q)) q (z_u T p (T p ||| 2 ^ q) q ||| 2 ^ p) else T) T p) (fun _ => 0) k i < 256 := by
    intro k
    induction k with
    | zero => intro _ i; show 0 < 256; decide
    | succ k ih =>
      intro hk
      rw [it_s]
      have inner : ∀ j, j ≤ k → ∀ i, it (fun q T => if g_tw S k q then z_u (z_u T k (T k ||| 2 ^ q)) q (z_u T k (T k ||| 2 ^ q) q ||| 2 ^ k) else T) (it (fun p T => it (fun q T => if g_tw S p q then z_u (z_u T p (T p ||| 2 ^ q)) q (z_u T p (T p ||| 2 ^ q) q ||| 2 ^ p) else T) T p) (fun _ => 0) k) j i < 256 := by
        intro j
        induction j with
        | zero => intro _ i; exact ih (by omega) i
        | succ j ihj =>
          intro hj i
          rw [it_s]
          obtain ⟨T, eT⟩ : ∃ T, T = it (fun q T => if g_tw S k q then z_u (z_u T k (T k ||| 2 ^ q)) q (z_u T k (T k ||| 2 ^ q) q ||| 2 ^ k) else T) (it (fun p T => it (fun q T => if g_tw S p q then z_u (z_u T p (T p ||| 2 ^ q)) q (z_u T p (T p ||| 2 ^ q) q ||| 2 ^ p) else T) T p) (fun _ => 0) k) j := ⟨_, rfl⟩
          have hT : ∀ i, T i < 256 := fun i => by rw [eT]; exact ihj (by omega) i
          rw [← eT]
          have pk := t_pow (show k < 8 by omega)
          have pj := t_pow (show j < 8 by omega)
          split
          · have h1 : ∀ i, z_u T k (T k ||| 2 ^ j) i < 256 := fun i => by
              by_cases e : i = k
              · rw [e, u_eq]; exact or_lt256 (hT k) pj
              · rw [u_ne _ _ e]; exact hT i
            by_cases e : i = j
            · rw [e, u_eq]; exact or_lt256 (h1 j) pk
            · rw [u_ne _ _ e]; exact h1 i
          · exact hT i
      exact inner k (Nat.le_refl _)
  exact key _ (Nat.le_refl _) p
theorem fit_lt (hT : T.2.1 ≤ 12) {p v t t' : Nat} (ht : t < 4096) (e : g_fit F T ex N p v t = some t') : t' < 4096 := by
  have key : ∀ k t', its (g_fitS F T ex N p v) t k = .inl t' → t' < 4096 := by
    intro k
    induction k with
    | zero => intro t' e; cases e; exact ht
    | succ k ih =>
      intro t' e
      unfold its at e
      cases c : its (g_fitS F T ex N p v) t k with
      | inr r => rw [c] at e; cases e
      | inl a =>
        rw [c] at e
        exact fitS_lt hT (ih a c) e
  unfold g_fit at e
  split at e
  · cases e
  · split at e
    · rename_i t1 e1
      cases e
      exact key p t' e1
    · cases e
/-- finish -/
def finV (go : Nat → Nat → (Nat → Nat) → Bool × (Nat → Nat)) (F T : Sc) (ex : Bool) (p us t : Nat) : Nat → Nat → Nat → (Nat → Nat) → Bool × (Nat → Nat)
  | 0, _, _, N => (false, N)
  | r + 1, v, fl, N => if us.testBit v = false ∧ g_twT T v &&& fl = 0 then
      match g_fit F T ex N p v t with
      | none => finV go F T ex p us t r (v + 1) (fl ||| 2 ^ v) N
      | some t' => if (go (us ||| 2 ^ v) t' (z_u N p v)).1 then (true, (go (us ||| 2 ^ v) t' (z_u N p v)).2) else finV go F T ex p us t r (v + 1) (fl ||| 2 ^ v) (go (us ||| 2 ^ v) t' (z_u N p v)).2
    else finV go F T ex p us t r (v + 1) fl N
def g_fin (F T : Sc) (ex : Bool) : Nat → Nat → Nat → Nat → (Nat → Nat) → Bool × (Nat → Nat)
  | 0, _, _, _, N => (true, N)
  | k + 1, p, us, t, N => finV (fun u t N => g_fin F T ex k (p + 1) u t N) F T ex p us t T.1 0 0 N
theorem finV_pre {go : Nat → Nat → (Nat → Nat) → Bool × (Nat → Nat)} {p us t : Nat} (hgo : ∀ u t N i, i < p → (go u t N).2 i = N i) : ∀ r v fl N i, i < p → (finV go F T ex p us t r v fl N).2 i = N i := by
  intro r
  induction r with
  | zero => intro v fl N i hi; rfl
  | succ r ih =>
    intro v fl N i hi
    unfold finV
    have hg : ∀ t', (go (us ||| 2 ^ v) t' (z_u N p v)).2 i = N i := fun t' => by rw [hgo _ _ _ i hi, u_ne _ _ (by omega)]
    split
    · split
      · exact ih _ _ _ i hi
      · split
        · exact hg _
        · rw [ih _ _ _ i hi]; exact hg _
    · exact ih _ _ _ i hi
theorem fin_pre : ∀ k p us t N i, i < p → (g_fin F T ex k p us t N).2 i = N i := by
  intro k
  induction k with
  | zero => intro p us t N i _; rfl
  | succ k ih =>
    intro p us t N i hi
    unfold g_fin
    exact finV_pre (fun u t N i hi => ih (p + 1) u t N i (by omega)) _ _ _ _ i hi
theorem e5_finish (hW : mw mt mn qf bf qt bt af at' ex h F T) : ∀ k p us t N, p + k = F.1 → us < 256 → t < 4096 → (∀ i, i < p → N i < 8) → z_Ev G (d + k + 6) k_X5_finish [.ref mt, .int (nI p), .int (nI us), .int (nI t)] (z_pax h mn (fun i => nI (N i))) (.inl (some (.int (nI (g_fin F T ex k p us t N).1.toNat))), z_pax h mn (fun i => nI ((g_fin F T ex k p us t N).2 i))) := by
  have n1 := y_n8 hW.2.1
  have n2 := y_n8 hW.2.2.1
  have m2 := y_m12 hW.2.2.1
  intro k
  induction k with
  | zero =>
    intro p us t N hk hu ht hb
    have hW' := mw_n (f := fun i => nI (N i)) hW
    have hM := hW'.1
    have hF := hW'.2.1
    have hT := hW'.2.2.1
    have hN : ∀ i, i < 8 → z_ai (z_pax h mn (fun i => nI (N i))) mn i = nI (N i) := fun i _ => by rw [pax_ai]
    refine en_X5_finish (b_X5_finish_0 (z_pu0V rfl) ?_)
    simp (disch := omega) only [l0, l1, l2, l3, l4, l5, l6, l7, l8, l9, l10, l11, l12, l13, l14, l15, l16, l18, l20, l22, l24, l30, l31, l39, l40, l48, l60, l154, l255, l256, l400, l2000, l6160, l14000, lm1, q_lt, q_le, q_eq, q_mI, q_mI', q_ltmI, q_in, q_bz0, q_bz1, q_bzn0, q_bzn1, q_bzb, q_bn0, q_bn1, q_shr, q_shl, q_1s, b_one, b_two, fa_and, fa_or, nI_add, n_mul, nI_clamp, z_rcs, true_and, and_true, if_true, if_false, y_kd hF, y_n hF, y_m hF, (y_row hF).1, (y_row hF).2.1, (y_row hF).2.2, (y_size hF).1, (y_size hF).2.1, (y_size hF).2.2, (y_first hF).1, (y_first hF).2.1, (y_first hF).2.2, (y_deg hF).1, (y_deg hF).2.1, (y_deg hF).2.2, (y_on hF).1, (y_on hF).2.1, (y_on hF).2.2, (y_join hF).1, (y_join hF).2.1, (y_join hF).2.2, y_Ln hF, y_Sz hF, y_Ft hF, y_Dg hF, y_On hF, y_kd hT, y_n hT, y_m hT, (y_row hT).1, (y_row hT).2.1, (y_row hT).2.2, (y_size hT).1, (y_size hT).2.1, (y_size hT).2.2, (y_first hT).1, (y_first hT).2.1, (y_first hT).2.2, (y_deg hT).1, (y_deg hT).2.1, (y_deg hT).2.2, (y_on hT).1, (y_on hT).2.1, (y_on hT).2.2, (y_join hT).1, (y_join hT).2.1, (y_join hT).2.2, y_Ln hT, y_Sz hT, y_Ft hT, y_Dg hT, y_On hT, hM.1, hM.2.1, hM.2.2.1, hM.2.2.2.1.1, hM.2.2.2.1.2.1, hM.2.2.2.1.2.2.1, hM.2.2.2.2.1.1, hM.2.2.2.2.1.2.1, hM.2.2.2.2.1.2.2.1, hM.2.2.2.2.2.1, hM.2.2.2.2.2.2.1, hM.2.2.2.2.2.2.2.1, hM.2.2.2.2.2.2.2.2, y_Jm hF, y_Jm hT, hN]
    rw [if_neg (by omega)]
    rfl
  | succ k ih =>
    intro p us t N hk hu ht hb
    have main : ∀ r v fl N, v + r = T.1 → fl < 256 → (∀ i, i < p → N i < 8) → z_J G (d + (k + 1) + 6) (m_X5_finish z_pu0) (.inl (some (.int (nI (finV (fun u t N => g_fin F T ex k (p + 1) u t N) F T ex p us t r v fl N).1.toNat))), z_pax h mn (fun i => nI ((finV (fun u t N => g_fin F T ex k (p + 1) u t N) F T ex p us t r v fl N).2 i))) 19 [some (.ref mt), some (.int (nI p)), some (.int (nI us)), some (.int (nI t)), some (.int (nI fl)), some (.int (nI v)), none] [] (z_pax h mn (fun i => nI (N i))) := by
      intro r
      induction r with
      | zero =>
        intro v fl N hv hfl hb
        have hW' := mw_n (f := fun i => nI (N i)) hW
        have hM := hW'.1
        have hF := hW'.2.1
        have hT := hW'.2.2.1
        have hN : ∀ i, i < 8 → z_ai (z_pax h mn (fun i => nI (N i))) mn i = nI (N i) := fun i _ => by rw [pax_ai]
        refine b_X5_finish_19 (z_pu0V rfl) ?_
        simp (disch := omega) only [l0, l1, l2, l3, l4, l5, l6, l7, l8, l9, l10, l11, l12, l13, l14, l15, l16, l18, l20, l22, l24, l30, l31, l39, l40, l48, l60, l154, l255, l256, l400, l2000, l6160, l14000, lm1, q_lt, q_le, q_eq, q_mI, q_mI', q_ltmI, q_in, q_bz0, q_bz1, q_bzn0, q_bzn1, q_bzb, q_bn0, q_bn1, q_shr, q_shl, q_1s, b_one, b_two, fa_and, fa_or, nI_add, n_mul, nI_clamp, z_rcs, true_and, and_true, if_true, if_false, y_kd hF, y_n hF, y_m hF, (y_row hF).1, (y_row hF).2.1, (y_row hF).2.2, (y_size hF).1, (y_size hF).2.1, (y_size hF).2.2, (y_first hF).1, (y_first hF).2.1, (y_first hF).2.2, (y_deg hF).1, (y_deg hF).2.1, (y_deg hF).2.2, (y_on hF).1, (y_on hF).2.1, (y_on hF).2.2, (y_join hF).1, (y_join hF).2.1, (y_join hF).2.2, y_Ln hF, y_Sz hF, y_Ft hF, y_Dg hF, y_On hF, y_kd hT, y_n hT, y_m hT, (y_row hT).1, (y_row hT).2.1, (y_row hT).2.2, (y_size hT).1, (y_size hT).2.1, (y_size hT).2.2, (y_first hT).1, (y_first hT).2.1, (y_first hT).2.2, (y_deg hT).1, (y_deg hT).2.1, (y_deg hT).2.2, (y_on hT).1, (y_on hT).2.1, (y_on hT).2.2, (y_join hT).1, (y_join hT).2.1, (y_join hT).2.2, y_Ln hT, y_Sz hT, y_Ft hT, y_Dg hT, y_On hT, hM.1, hM.2.1, hM.2.2.1, hM.2.2.2.1.1, hM.2.2.2.1.2.1, hM.2.2.2.1.2.2.1, hM.2.2.2.2.1.1, hM.2.2.2.2.1.2.1, hM.2.2.2.2.1.2.2.1, hM.2.2.2.2.2.1, hM.2.2.2.2.2.2.1, hM.2.2.2.2.2.2.2.1, hM.2.2.2.2.2.2.2.2, y_Jm hF, y_Jm hT, hN]
        rw [if_neg (by omega)]
        rfl
      | succ r ihr =>
        intro v fl N hv hfl hb
        have hW' := mw_n (f := fun i => nI (N i)) hW
        have hM := hW'.1
        have hF := hW'.2.1
        have hT := hW'.2.2.1
        have hN : ∀ i, i < 8 → z_ai (z_pax h mn (fun i => nI (N i))) mn i = nI (N i) := fun i _ => by rw [pax_ai]
        have hv8 : v < 8 := by omega
        have pv := t_pow hv8
        have tl := tw_lt (S := T) n2.2 v
        have tl2 := and_lt256 (b := fl) tl
        have fl2 := or_lt256 hfl pv
        have us2 := or_lt256 hu pv
        have hM7 := hM.2.2.2.2.1.2.2.2 v hv8
        refine b_X5_finish_19 (z_pu0V rfl) ?_
        simp (disch := omega) only [l0, l1, l2, l3, l4, l5, l6, l7, l8, l9, l10, l11, l12, l13, l14, l15, l16, l18, l20, l22, l24, l30, l31, l39, l40, l48, l60, l154, l255, l256, l400, l2000, l6160, l14000, lm1, q_lt, q_le, q_eq, q_mI, q_mI', q_ltmI, q_in, q_bz0, q_bz1, q_bzn0, q_bzn1, q_bzb, q_bn0, q_bn1, q_shr, q_shl, q_1s, b_one, b_two, fa_and, fa_or, nI_add, n_mul, nI_clamp, z_rcs, true_and, and_true, if_true, if_false, y_kd hF, y_n hF, y_m hF, (y_row hF).1, (y_row hF).2.1, (y_row hF).2.2, (y_size hF).1, (y_size hF).2.1, (y_size hF).2.2, (y_first hF).1, (y_first hF).2.1, (y_first hF).2.2, (y_deg hF).1, (y_deg hF).2.1, (y_deg hF).2.2, (y_on hF).1, (y_on hF).2.1, (y_on hF).2.2, (y_join hF).1, (y_join hF).2.1, (y_join hF).2.2, y_Ln hF, y_Sz hF, y_Ft hF, y_Dg hF, y_On hF, y_kd hT, y_n hT, y_m hT, (y_row hT).1, (y_row hT).2.1, (y_row hT).2.2, (y_size hT).1, (y_size hT).2.1, (y_size hT).2.2, (y_first hT).1, (y_first hT).2.1, (y_first hT).2.2, (y_deg hT).1, (y_deg hT).2.1, (y_deg hT).2.2, (y_on hT).1, (y_on hT).2.1, (y_on hT).2.2, (y_join hT).1, (y_join hT).2.1, (y_join hT).2.2, y_Ln hT, y_Sz hT, y_Ft hT, y_Dg hT, y_On hT, hM.1, hM.2.1, hM.2.2.1, hM.2.2.2.1.1, hM.2.2.2.1.2.1, hM.2.2.2.1.2.2.1, hM.2.2.2.2.1.1, hM.2.2.2.2.1.2.1, hM.2.2.2.2.1.2.2.1, hM.2.2.2.2.2.1, hM.2.2.2.2.2.2.1, hM.2.2.2.2.2.2.2.1, hM.2.2.2.2.2.2.2.2, y_Jm hF, y_Jm hT, hN, hM7]
        rw [if_pos (by omega)]
        unfold finV
        by_cases c1 : us.testBit v = false
        · rw [if_pos c1]
          by_cases c2 : g_twT T v &&& fl = 0
          · rw [if_pos c2, if_pos ⟨c1, c2⟩]
            refine ⟨_, _, e5_fit hM hF hT hN (by omega) hv8 ht hb, ?_⟩
            cases c3 : g_fit F T ex N p v t with
            | none =>
              rw [if_pos (by rfl)]
              exact ihr (v + 1) _ N (by omega) fl2 hb
            | some t' =>
              have ht' := fit_lt m2 ht c3
              rw [if_neg (show ¬ oI (some t') = mI from t_ne1 (by omega)), show oI (some t') = nI t' from rfl]
              simp (disch := omega) only [l0, l1, l2, l3, l4, l5, l6, l7, l8, l9, l10, l11, l12, l13, l14, l15, l16, l18, l20, l22, l24, l30, l31, l39, l40, l48, l60, l154, l255, l256, l400, l2000, l6160, l14000, lm1, q_lt, q_le, q_eq, q_mI, q_mI', q_ltmI, q_in, q_bz0, q_bz1, q_bzn0, q_bzn1, q_bzb, q_bn0, q_bn1, q_shr, q_shl, q_1s, b_one, b_two, fa_and, fa_or, nI_add, n_mul, nI_clamp, z_rcs, true_and, and_true, if_true, if_false, y_kd hF, y_n hF, y_m hF, (y_row hF).1, (y_row hF).2.1, (y_row hF).2.2, (y_size hF).1, (y_size hF).2.1, (y_size hF).2.2, (y_first hF).1, (y_first hF).2.1, (y_first hF).2.2, (y_deg hF).1, (y_deg hF).2.1, (y_deg hF).2.2, (y_on hF).1, (y_on hF).2.1, (y_on hF).2.2, (y_join hF).1, (y_join hF).2.1, (y_join hF).2.2, y_Ln hF, y_Sz hF, y_Ft hF, y_Dg hF, y_On hF, y_kd hT, y_n hT, y_m hT, (y_row hT).1, (y_row hT).2.1, (y_row hT).2.2, (y_size hT).1, (y_size hT).2.1, (y_size hT).2.2, (y_first hT).1, (y_first hT).2.1, (y_first hT).2.2, (y_deg hT).1, (y_deg hT).2.1, (y_deg hT).2.2, (y_on hT).1, (y_on hT).2.1, (y_on hT).2.2, (y_join hT).1, (y_join hT).2.1, (y_join hT).2.2, y_Ln hT, y_Sz hT, y_Ft hT, y_Dg hT, y_On hT, hM.1, hM.2.1, hM.2.2.1, hM.2.2.2.1.1, hM.2.2.2.1.2.1, hM.2.2.2.1.2.2.1, hM.2.2.2.2.1.1, hM.2.2.2.2.1.2.1, hM.2.2.2.2.1.2.2.1, hM.2.2.2.2.2.1, hM.2.2.2.2.2.2.1, hM.2.2.2.2.2.2.2.1, hM.2.2.2.2.2.2.2.2, y_Jm hF, y_Jm hT, hN, pax_pai, nu]
              have hb' : ∀ i, i < p + 1 → z_u N p v i < 8 := fun i hi => by
                by_cases e : i = p
                · rw [e, u_eq]; exact hv8
                · rw [u_ne _ _ e]; exact hb i (by omega)
              refine ⟨hM.1, _, _, ih (p + 1) (us ||| 2 ^ v) t' (z_u N p v) (by omega) us2 ht' hb', ?_⟩
              have pre := fin_pre (F := F) (T := T) (ex := ex) k (p + 1) (us ||| 2 ^ v) t' (z_u N p v)
              cases c4 : (g_fin F T ex k (p + 1) (us ||| 2 ^ v) t' (z_u N p v)).1
              · rw [if_pos (by rfl), if_neg (by decide)]
                exact ihr (v + 1) _ _ (by omega) fl2 (fun i hi => by rw [pre i (by omega)]; exact hb' i (by omega))
              · rw [if_neg (by decide), if_pos rfl]
                rfl
          · rw [if_neg c2, if_neg (fun e => c2 e.2)]
            exact ihr (v + 1) fl N (by omega) hfl hb
        · rw [if_neg c1, if_neg (fun e => c1 e.1)]
          exact ihr (v + 1) fl N (by omega) hfl hb
    have hW' := mw_n (f := fun i => nI (N i)) hW
    have hM := hW'.1
    have hF := hW'.2.1
    have hT := hW'.2.2.1
    have hN : ∀ i, i < 8 → z_ai (z_pax h mn (fun i => nI (N i))) mn i = nI (N i) := fun i _ => by rw [pax_ai]
    refine en_X5_finish (b_X5_finish_0 (z_pu0V rfl) ?_)
    simp (disch := omega) only [l0, l1, l2, l3, l4, l5, l6, l7, l8, l9, l10, l11, l12, l13, l14, l15, l16, l18, l20, l22, l24, l30, l31, l39, l40, l48, l60, l154, l255, l256, l400, l2000, l6160, l14000, lm1, q_lt, q_le, q_eq, q_mI, q_mI', q_ltmI, q_in, q_bz0, q_bz1, q_bzn0, q_bzn1, q_bzb, q_bn0, q_bn1, q_shr, q_shl, q_1s, b_one, b_two, fa_and, fa_or, nI_add, n_mul, nI_clamp, z_rcs, true_and, and_true, if_true, if_false, y_kd hF, y_n hF, y_m hF, (y_row hF).1, (y_row hF).2.1, (y_row hF).2.2, (y_size hF).1, (y_size hF).2.1, (y_size hF).2.2, (y_first hF).1, (y_first hF).2.1, (y_first hF).2.2, (y_deg hF).1, (y_deg hF).2.1, (y_deg hF).2.2, (y_on hF).1, (y_on hF).2.1, (y_on hF).2.2, (y_join hF).1, (y_join hF).2.1, (y_join hF).2.2, y_Ln hF, y_Sz hF, y_Ft hF, y_Dg hF, y_On hF, y_kd hT, y_n hT, y_m hT, (y_row hT).1, (y_row hT).2.1, (y_row hT).2.2, (y_size hT).1, (y_size hT).2.1, (y_size hT).2.2, (y_first hT).1, (y_first hT).2.1, (y_first hT).2.2, (y_deg hT).1, (y_deg hT).2.1, (y_deg hT).2.2, (y_on hT).1, (y_on hT).2.1, (y_on hT).2.2, (y_join hT).1, (y_join hT).2.1, (y_join hT).2.2, y_Ln hT, y_Sz hT, y_Ft hT, y_Dg hT, y_On hT, hM.1, hM.2.1, hM.2.2.1, hM.2.2.2.1.1, hM.2.2.2.1.2.1, hM.2.2.2.1.2.2.1, hM.2.2.2.2.1.1, hM.2.2.2.2.1.2.1, hM.2.2.2.2.1.2.2.1, hM.2.2.2.2.2.1, hM.2.2.2.2.2.2.1, hM.2.2.2.2.2.2.2.1, hM.2.2.2.2.2.2.2.2, y_Jm hF, y_Jm hT, hN]
    rw [if_pos (by omega)]
    exact main T.1 0 0 N (by omega) (by decide) hb
end FX
