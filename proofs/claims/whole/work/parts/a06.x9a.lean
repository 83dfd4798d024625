theorem en_X9_holdsLine {pu : Nat → Option ((List Value → z_H → Prop) × (List Value → z_H → Int32))} {G : z_G} {d : Nat} {r : z_Res} {h : z_H} {x0 : Nat} {x1 : Int32} (hJ : z_J G d (m_X9_holdsLine pu) r 0 [some (.ref x0), some (.int x1), none] [] h) : z_Ev G d k_X9_holdsLine [.ref x0, .int x1] h r := z_enter (μ := m_X9_holdsLine pu) rfl (by decide) rfl rfl (fun q => by cases q) (Nat.le_of_ble_eq_true rfl) hJ
def hd_X9_holdsLine : Nat → Option (List Bool) := (fun k => (cond (Nat.blt k 33) (cond (Nat.beq k 2) (some [true, true, true]) none) none))
set_option maxRecDepth 20000 in
theorem b_X9_holdsLine_0 {G : z_G} {d : Nat} {r : z_Res} (hPu : z_PuV G d (t_X9 z_pu0)) {h : z_H} {x0 : Nat} {x1 : Int32} (hT : (z_J G (d + 1) (m_X9_holdsLine z_pu0) r) 2 [some (.ref x0), some (.int x1), some (.int (nI 0))] [] h) : (z_J G (d + 1) (m_X9_holdsLine z_pu0) r) 0 [some (.ref x0), some (.int x1), none] [] h := z_bq (v_X9 z_pu0 (vP_X9_holdsLine z_pu0) hPu) hd_X9_holdsLine 5 hT
set_option maxRecDepth 20000 in
theorem b_X9_holdsLine_2 {G : z_G} {d : Nat} {r : z_Res} (hPu : z_PuV G d (t_X9 z_pu0)) {h : z_H} {x0 : Nat} {x1 : Int32} {x2 : Int32} (hT : (z_kd h x0 = 24 ∧ (if x2 < (z_oi h x0 1) then (z_kd h x0 = 24 ∧ (z_rc (z_or h x0 2) False (fun x_1 => (z_kd h x_1 = 1 ∧ vp_in x2 (z_ln h x_1) ∧ (if ((z_ai h x_1 (Int32.toNatClampNeg x2)) &&& (x1 ^^^ mI)) = (nI 0) then (z_bz (nI 1) ∧ r = (.inl (some (.int (nI 1))), h)) else (z_J G (d + 1) (m_X9_holdsLine z_pu0) r) 2 [some (.ref x0), some (.int x1), some (.int (x2 + (nI 1)))] [] h))))) else (z_bz (nI 0) ∧ r = (.inl (some (.int (nI 0))), h))))) : (z_J G (d + 1) (m_X9_holdsLine z_pu0) r) 2 [some (.ref x0), some (.int x1), some (.int x2)] [] h := z_bq (v_X9 z_pu0 (vP_X9_holdsLine z_pu0) hPu) hd_X9_holdsLine 18 hT
theorem en_X9_cover {pu : Nat → Option ((List Value → z_H → Prop) × (List Value → z_H → Int32))} {G : z_G} {d : Nat} {r : z_Res} {h : z_H} {x0 : Nat} {x1 : Nat} (hJ : z_J G d (m_X9_cover pu) r 0 [some (.ref x0), some (.ref x1), none, none, none] [] h) : z_Ev G d k_X9_cover [.ref x0, .ref x1] h r := z_enter (μ := m_X9_cover pu) rfl (by decide) rfl rfl (fun q => by cases q) (Nat.le_of_ble_eq_true rfl) hJ
def hd_X9_cover : Nat → Option (List Bool) := (fun k => (cond (Nat.blt k 56) (cond (Nat.beq k 14) (some [false, true, true, true, true]) none) none))
set_option maxRecDepth 20000 in
theorem b_X9_cover_0 {G : z_G} {d : Nat} {r : z_Res} (hPu : z_PuV G d (t_X9 z_pu0)) {h : z_H} {x0 : Nat} {x1 : Nat} (hT : (z_kd h x1 = 24 ∧ (z_J G (d + 1) (m_X9_cover z_pu0) r) 14 [none, some (.ref x1), some (.int (((nI 1) <<< ((z_oi h x1 0) &&& (nI 31))) - (nI 1))), some (.int (((nI 1) <<< ((z_oi h x1 0) &&& (nI 31))) - (nI 1))), some (.int (nI 0))] [] h)) : (z_J G (d + 1) (m_X9_cover z_pu0) r) 0 [some (.ref x0), some (.ref x1), none, none, none] [] h := z_bq (v_X9 z_pu0 (vP_X9_cover z_pu0) hPu) hd_X9_cover 14 hT
set_option maxRecDepth 20000 in
theorem b_X9_cover_14 {G : z_G} {d : Nat} {r : z_Res} (hPu : z_PuV G d (t_X9 z_pu0)) {h : z_H} {x1 : Nat} {x2 : Int32} {x3 : Int32} {x4 : Int32} (hT : (if x4 < x2 then (∃ x_2 h_1, z_Ev G d k_J6_bitCount_0f7a4 [.int x4] h (.inl (some (.int x_2)), h_1) ∧ (∃ x_4 h_3, z_Ev G d k_J6_bitCount_0f7a4 [.int x3] h_1 (.inl (some (.int x_4)), h_3) ∧ (if x_2 < x_4 then (∃ x_6 h_5, z_Ev G d k_X9_holdsLine [.ref x1, .int (x2 &&& (x4 ^^^ mI))] h_3 (.inl (some (.int x_6)), h_5) ∧ (if x_6 = (nI 0) then (z_J G (d + 1) (m_X9_cover z_pu0) r) 14 [none, some (.ref x1), some (.int x2), some (.int x4), some (.int (x4 + (nI 1)))] [] h_5 else (z_J G (d + 1) (m_X9_cover z_pu0) r) 14 [none, some (.ref x1), some (.int x2), some (.int x3), some (.int (x4 + (nI 1)))] [] h_5)) else (z_J G (d + 1) (m_X9_cover z_pu0) r) 14 [none, some (.ref x1), some (.int x2), some (.int x3), some (.int (x4 + (nI 1)))] [] h_3))) else r = (.inl (some (.int x3)), h))) : (z_J G (d + 1) (m_X9_cover z_pu0) r) 14 [none, some (.ref x1), some (.int x2), some (.int x3), some (.int x4)] [] h := z_bq (v_X9 z_pu0 (vP_X9_cover z_pu0) hPu) hd_X9_cover 23 hT
theorem en_X9_cap {pu : Nat → Option ((List Value → z_H → Prop) × (List Value → z_H → Int32))} {G : z_G} {d : Nat} {r : z_Res} {h : z_H} {x0 : Nat} {x1 : Nat} (hJ : z_J G d (m_X9_cap pu) r 0 [some (.ref x0), some (.ref x1), none, none] [] h) : z_Ev G d k_X9_cap [.ref x0, .ref x1] h r := z_enter (μ := m_X9_cap pu) rfl (by decide) rfl rfl (fun q => by cases q) (Nat.le_of_ble_eq_true rfl) hJ
def hd_X9_cap : Nat → Option (List Bool) := (fun k => (cond (Nat.blt k 43) (cond (Nat.beq k 4) (some [false, true, true, true]) none) none))
set_option maxRecDepth 20000 in
theorem b_X9_cap_0 {G : z_G} {d : Nat} {r : z_Res} (hPu : z_PuV G d (t_X9 z_pu0)) {h : z_H} {x0 : Nat} {x1 : Nat} (hT : (z_J G (d + 1) (m_X9_cap z_pu0) r) 4 [none, some (.ref x1), some (.int (nI 0)), some (.int (nI 1))] [] h) : (z_J G (d + 1) (m_X9_cap z_pu0) r) 0 [some (.ref x0), some (.ref x1), none, none] [] h := z_bq (v_X9 z_pu0 (vP_X9_cap z_pu0) hPu) hd_X9_cap 7 hT
set_option maxRecDepth 20000 in
theorem b_X9_cap_4 {G : z_G} {d : Nat} {r : z_Res} (hPu : z_PuV G d (t_X9 z_pu0)) {h : z_H} {x1 : Nat} {x2 : Int32} {x3 : Int32} (hT : (z_kd h x1 = 24 ∧ (if x3 < ((nI 1) <<< ((z_oi h x1 0) &&& (nI 31))) then (∃ x_2 h_1, z_Ev G d k_J6_bitCount_0f7a4 [.int x3] h (.inl (some (.int x_2)), h_1) ∧ (∃ x_4 h_3, z_Ev G d k_J6_bitCount_0f7a4 [.int x2] h_1 (.inl (some (.int x_4)), h_3) ∧ (if x_4 < x_2 then (∃ x_6 h_5, z_Ev G d k_X9_holdsLine [.ref x1, .int x3] h_3 (.inl (some (.int x_6)), h_5) ∧ (if x_6 = (nI 0) then (z_J G (d + 1) (m_X9_cap z_pu0) r) 4 [none, some (.ref x1), some (.int x3), some (.int (x3 + (nI 1)))] [] h_5 else (z_J G (d + 1) (m_X9_cap z_pu0) r) 4 [none, some (.ref x1), some (.int x2), some (.int (x3 + (nI 1)))] [] h_5)) else (z_J G (d + 1) (m_X9_cap z_pu0) r) 4 [none, some (.ref x1), some (.int x2), some (.int (x3 + (nI 1)))] [] h_3))) else r = (.inl (some (.int x2)), h)))) : (z_J G (d + 1) (m_X9_cap z_pu0) r) 4 [none, some (.ref x1), some (.int x2), some (.int x3)] [] h := z_bq (v_X9 z_pu0 (vP_X9_cap z_pu0) hPu) hd_X9_cap 22 hT
theorem en_X9_halves {pu : Nat → Option ((List Value → z_H → Prop) × (List Value → z_H → Int32))} {G : z_G} {d : Nat} {r : z_Res} {h : z_H} {x0 : Nat} {x1 : Nat} (hJ : z_J G d (m_X9_halves pu) r 0 [some (.ref x0), some (.ref x1), none, none] [] h) : z_Ev G d k_X9_halves [.ref x0, .ref x1] h r := z_enter (μ := m_X9_halves pu) rfl (by decide) rfl rfl (fun q => by cases q) (Nat.le_of_ble_eq_true rfl) hJ
def hd_X9_halves : Nat → Option (List Bool) := (fun k => (cond (Nat.blt k 33) (cond (Nat.beq k 4) (some [false, true, true, true]) none) none))
set_option maxRecDepth 20000 in
theorem b_X9_halves_0 {G : z_G} {d : Nat} {r : z_Res} (hPu : z_PuV G d (t_X9 z_pu0)) {h : z_H} {x0 : Nat} {x1 : Nat} (hT : (z_J G (d + 1) (m_X9_halves z_pu0) r) 4 [none, some (.ref x1), some (.int (nI 0)), some (.int (nI 1))] [] h) : (z_J G (d + 1) (m_X9_halves z_pu0) r) 0 [some (.ref x0), some (.ref x1), none, none] [] h := z_bq (v_X9 z_pu0 (vP_X9_halves z_pu0) hPu) hd_X9_halves 7 hT
set_option maxRecDepth 20000 in
theorem b_X9_halves_4 {G : z_G} {d : Nat} {r : z_Res} (hPu : z_PuV G d (t_X9 z_pu0)) {h : z_H} {x1 : Nat} {x2 : Int32} {x3 : Int32} (hT : (z_kd h x1 = 24 ∧ (if x3 < ((nI 1) <<< ((z_oi h x1 0) &&& (nI 31))) then (∃ x_2 h_1, z_Ev G d k_X9_isHalf [.ref x1, .int x3] h (.inl (some (.int x_2)), h_1) ∧ (if x_2 = (nI 0) then (z_J G (d + 1) (m_X9_halves z_pu0) r) 4 [none, some (.ref x1), some (.int x2), some (.int (x3 + (nI 2)))] [] h_1 else (z_J G (d + 1) (m_X9_halves z_pu0) r) 4 [none, some (.ref x1), some (.int (x2 + (nI 1))), some (.int (x3 + (nI 2)))] [] h_1)) else r = (.inl (some (.int x2)), h)))) : (z_J G (d + 1) (m_X9_halves z_pu0) r) 4 [none, some (.ref x1), some (.int x2), some (.int x3)] [] h := z_bq (v_X9 z_pu0 (vP_X9_halves z_pu0) hPu) hd_X9_halves 16 hT
theorem en_X9_firstHalf {pu : Nat → Option ((List Value → z_H → Prop) × (List Value → z_H → Int32))} {G : z_G} {d : Nat} {r : z_Res} {h : z_H} {x0 : Nat} {x1 : Nat} (hJ : z_J G d (m_X9_firstHalf pu) r 0 [some (.ref x0), some (.ref x1), none] [] h) : z_Ev G d k_X9_firstHalf [.ref x0, .ref x1] h r := z_enter (μ := m_X9_firstHalf pu) rfl (by decide) rfl rfl (fun q => by cases q) (Nat.le_of_ble_eq_true rfl) hJ
def hd_X9_firstHalf : Nat → Option (List Bool) := (fun k => (cond (Nat.blt k 30) (cond (Nat.beq k 2) (some [false, true, true]) none) none))
set_option maxRecDepth 20000 in
theorem b_X9_firstHalf_0 {G : z_G} {d : Nat} {r : z_Res} (hPu : z_PuV G d (t_X9 z_pu0)) {h : z_H} {x0 : Nat} {x1 : Nat} (hT : (z_J G (d + 1) (m_X9_firstHalf z_pu0) r) 2 [none, some (.ref x1), some (.int (nI 1))] [] h) : (z_J G (d + 1) (m_X9_firstHalf z_pu0) r) 0 [some (.ref x0), some (.ref x1), none] [] h := z_bq (v_X9 z_pu0 (vP_X9_firstHalf z_pu0) hPu) hd_X9_firstHalf 5 hT
set_option maxRecDepth 20000 in
theorem b_X9_firstHalf_2 {G : z_G} {d : Nat} {r : z_Res} (hPu : z_PuV G d (t_X9 z_pu0)) {h : z_H} {x1 : Nat} {x2 : Int32} (hT : (z_kd h x1 = 24 ∧ (if x2 < ((nI 1) <<< ((z_oi h x1 0) &&& (nI 31))) then (∃ x_2 h_1, z_Ev G d k_X9_isHalf [.ref x1, .int x2] h (.inl (some (.int x_2)), h_1) ∧ (if x_2 = (nI 0) then (z_J G (d + 1) (m_X9_firstHalf z_pu0) r) 2 [none, some (.ref x1), some (.int (x2 + (nI 2)))] [] h_1 else r = (.inl (some (.int x2)), h_1))) else r = (.inl (some (.int mI)), h)))) : (z_J G (d + 1) (m_X9_firstHalf z_pu0) r) 2 [none, some (.ref x1), some (.int x2)] [] h := z_bq (v_X9 z_pu0 (vP_X9_firstHalf z_pu0) hPu) hd_X9_firstHalf 15 hT
theorem en_X9_isHalf {pu : Nat → Option ((List Value → z_H → Prop) × (List Value → z_H → Int32))} {G : z_G} {d : Nat} {r : z_Res} {h : z_H} {x0 : Nat} {x1 : Int32} (hJ : z_J G d (m_X9_isHalf pu) r 0 [some (.ref x0), some (.int x1)] [] h) : z_Ev G d k_X9_isHalf [.ref x0, .int x1] h r := z_enter (μ := m_X9_isHalf pu) rfl (by decide) rfl rfl (fun q => by cases q) (Nat.le_of_ble_eq_true rfl) hJ
def hd_X9_isHalf : Nat → Option (List Bool) := (fun k => none)
set_option maxRecDepth 20000 in
theorem b_X9_isHalf_0 {G : z_G} {d : Nat} {r : z_Res} (hPu : z_PuV G d (t_X9 z_pu0)) {h : z_H} {x0 : Nat} {x1 : Int32} (hT : (∃ x_2 h_1, z_Ev G d k_X9_holdsLine [.ref x0, .int x1] h (.inl (some (.int x_2)), h_1) ∧ (if x_2 = (nI 0) then (z_kd h_1 x0 = 24 ∧ (∃ x_4 h_3, z_Ev G d k_X9_holdsLine [.ref x0, .int ((((nI 1) <<< ((z_oi h_1 x0 0) &&& (nI 31))) - (nI 1)) &&& (x1 ^^^ mI))] h_1 (.inl (some (.int x_4)), h_3) ∧ (if x_4 = (nI 0) then (z_bz (nI 1) ∧ r = (.inl (some (.int (nI 1))), h_3)) else (z_bz (nI 0) ∧ r = (.inl (some (.int (nI 0))), h_3))))) else (z_bz (nI 0) ∧ r = (.inl (some (.int (nI 0))), h_1))))) : (z_J G (d + 1) (m_X9_isHalf z_pu0) r) 0 [some (.ref x0), some (.int x1)] [] h := z_bq (v_X9 z_pu0 (vP_X9_isHalf z_pu0) hPu) hd_X9_isHalf 22 hT
theorem en_X9_spreads {pu : Nat → Option ((List Value → z_H → Prop) × (List Value → z_H → Int32))} {G : z_G} {d : Nat} {r : z_Res} {h : z_H} {x0 : Nat} {x1 : Nat} (hJ : z_J G d (m_X9_spreads pu) r 0 [some (.ref x0), some (.ref x1)] [] h) : z_Ev G d k_X9_spreads [.ref x0, .ref x1] h r := z_enter (μ := m_X9_spreads pu) rfl (by decide) rfl rfl (fun q => by cases q) (Nat.le_of_ble_eq_true rfl) hJ
def hd_X9_spreads : Nat → Option (List Bool) := (fun k => none)
set_option maxRecDepth 20000 in
theorem b_X9_spreads_0 {G : z_G} {d : Nat} {r : z_Res} (hPu : z_PuV G d (t_X9 z_pu0)) {h : z_H} {x0 : Nat} {x1 : Nat} (hT : (z_kd h x0 = 25 ∧ ∃ h_1, z_Ev G d k_X9_findSpreads [.ref x0, .ref x1] h (.inl none, h_1) ∧ (z_kd h_1 x0 = 25 ∧ r = (.inl (some (.int (z_oi h_1 x0 0))), h_1)))) : (z_J G (d + 1) (m_X9_spreads z_pu0) r) 0 [some (.ref x0), some (.ref x1)] [] h := z_bq (v_X9 z_pu0 (vP_X9_spreads z_pu0) hPu) hd_X9_spreads 8 hT
theorem en_X9_leastSpread {pu : Nat → Option ((List Value → z_H → Prop) × (List Value → z_H → Int32))} {G : z_G} {d : Nat} {r : z_Res} {h : z_H} {x0 : Nat} {x1 : Nat} (hJ : z_J G d (m_X9_leastSpread pu) r 0 [some (.ref x0), some (.ref x1)] [] h) : z_Ev G d k_X9_leastSpread [.ref x0, .ref x1] h r := z_enter (μ := m_X9_leastSpread pu) rfl (by decide) rfl rfl (fun q => by cases q) (Nat.le_of_ble_eq_true rfl) hJ
def hd_X9_leastSpread : Nat → Option (List Bool) := (fun k => none)
set_option maxRecDepth 20000 in
theorem b_X9_leastSpread_0 {G : z_G} {d : Nat} {r : z_Res} (hPu : z_PuV G d (t_X9 z_pu0)) {h : z_H} {x0 : Nat} {x1 : Nat} (hT : (z_kd h x0 = 25 ∧ ∃ h_1, z_Ev G d k_X9_findSpreads [.ref x0, .ref x1] h (.inl none, h_1) ∧ (z_kd h_1 x0 = 25 ∧ r = (.inl (some (.int (z_oi h_1 x0 1))), h_1)))) : (z_J G (d + 1) (m_X9_leastSpread z_pu0) r) 0 [some (.ref x0), some (.ref x1)] [] h := z_bq (v_X9 z_pu0 (vP_X9_leastSpread z_pu0) hPu) hd_X9_leastSpread 8 hT
theorem en_X9_findSpreads {pu : Nat → Option ((List Value → z_H → Prop) × (List Value → z_H → Int32))} {G : z_G} {d : Nat} {r : z_Res} {h : z_H} {x0 : Nat} {x1 : Nat} (hJ : z_J G d (m_X9_findSpreads pu) r 0 [some (.ref x0), some (.ref x1)] [] h) : z_Ev G d k_X9_findSpreads [.ref x0, .ref x1] h r := z_enter (μ := m_X9_findSpreads pu) rfl (by decide) rfl rfl (fun q => by cases q) (Nat.le_of_ble_eq_true rfl) hJ
def hd_X9_findSpreads : Nat → Option (List Bool) := (fun k => none)
set_option maxRecDepth 20000 in
theorem b_X9_findSpreads_0 {G : z_G} {d : Nat} {r : z_Res} (hPu : z_PuV G d (t_X9 z_pu0)) {h : z_H} {x0 : Nat} {x1 : Nat} (hT : (z_kd h x0 = 25 ∧ (z_kd (z_poi h x0 0 (nI 0)) x0 = 25 ∧ (z_kd (z_poi (z_poi h x0 0 (nI 0)) x0 1 mI) x0 = 25 ∧ ∃ h_1, z_Ev G d k_X9_coverFrom [.ref x0, .ref x1, .int (nI 0), .int (nI 0), .int (nI 0)] (z_poi (z_poi h x0 0 (nI 0)) x0 1 mI) (.inl none, h_1) ∧ r = (.inl none, h_1))))) : (z_J G (d + 1) (m_X9_findSpreads z_pu0) r) 0 [some (.ref x0), some (.ref x1)] [] h := z_bq (v_X9 z_pu0 (vP_X9_findSpreads z_pu0) hPu) hd_X9_findSpreads 15 hT
theorem en_X9_coverFrom {pu : Nat → Option ((List Value → z_H → Prop) × (List Value → z_H → Int32))} {G : z_G} {d : Nat} {r : z_Res} {h : z_H} {x0 : Nat} {x1 : Nat} {x2 : Int32} {x3 : Int32} {x4 : Int32} (hJ : z_J G d (m_X9_coverFrom pu) r 0 [some (.ref x0), some (.ref x1), some (.int x2), some (.int x3), some (.int x4), none, none] [] h) : z_Ev G d k_X9_coverFrom [.ref x0, .ref x1, .int x2, .int x3, .int x4] h r := z_enter (μ := m_X9_coverFrom pu) rfl (by decide) rfl rfl (fun q => by cases q) (Nat.le_of_ble_eq_true rfl) hJ
def hd_X9_coverFrom : Nat → Option (List Bool) := (fun k => (cond (Nat.blt k 144) (cond (Nat.blt k 27) (cond (Nat.beq k 3) (some [true, true, false, true, true, true, false]) none) (cond (Nat.blt k 76) (cond (Nat.beq k 27) (some [true, true, false, true, true, true, false]) none) (cond (Nat.beq k 76) (some [true, true, false, true, true, true, true]) none))) none))
set_option maxRecDepth 20000 in
theorem b_X9_coverFrom_0 {G : z_G} {d : Nat} {r : z_Res} (hPu : z_PuV G d (t_X9 z_pu0)) {h : z_H} {x0 : Nat} {x1 : Nat} {x2 : Int32} {x3 : Int32} {x4 : Int32} (hT : (z_J G (d + 1) (m_X9_coverFrom z_pu0) r) 3 [some (.ref x0), some (.ref x1), none, some (.int x3), some (.int x4), some (.int x2), none] [] h) : (z_J G (d + 1) (m_X9_coverFrom z_pu0) r) 0 [some (.ref x0), some (.ref x1), some (.int x2), some (.int x3), some (.int x4), none, none] [] h := z_bq (v_X9 z_pu0 (vP_X9_coverFrom z_pu0) hPu) hd_X9_coverFrom 5 hT
set_option maxRecDepth 20000 in
theorem b_X9_coverFrom_3 {G : z_G} {d : Nat} {r : z_Res} (hPu : z_PuV G d (t_X9 z_pu0)) {h : z_H} {x0 : Nat} {x1 : Nat} {x3 : Int32} {x4 : Int32} {x5 : Int32} (hT : (z_kd h x1 = 24 ∧ (if x5 < (z_oi h x1 0) then (if ((x3 >>> (x5 &&& (nI 31))) &&& (nI 1)) = (nI 0) then (z_J G (d + 1) (m_X9_coverFrom z_pu0) r) 27 [some (.ref x0), some (.ref x1), none, some (.int x3), some (.int x4), some (.int x5), none] [] h else (z_J G (d + 1) (m_X9_coverFrom z_pu0) r) 3 [some (.ref x0), some (.ref x1), none, some (.int x3), some (.int x4), some (.int (x5 + (nI 1))), none] [] h) else (z_J G (d + 1) (m_X9_coverFrom z_pu0) r) 27 [some (.ref x0), some (.ref x1), none, some (.int x3), some (.int x4), some (.int x5), none] [] h))) : (z_J G (d + 1) (m_X9_coverFrom z_pu0) r) 3 [some (.ref x0), some (.ref x1), none, some (.int x3), some (.int x4), some (.int x5), none] [] h := z_bq (v_X9 z_pu0 (vP_X9_coverFrom z_pu0) hPu) hd_X9_coverFrom 15 hT
set_option maxRecDepth 20000 in
theorem b_X9_coverFrom_27 {G : z_G} {d : Nat} {r : z_Res} (hPu : z_PuV G d (t_X9 z_pu0)) {h : z_H} {x0 : Nat} {x1 : Nat} {x3 : Int32} {x4 : Int32} {x5 : Int32} (hT : (z_kd h x1 = 24 ∧ (if x5 < (z_oi h x1 0) then (z_J G (d + 1) (m_X9_coverFrom z_pu0) r) 76 [some (.ref x0), some (.ref x1), none, some (.int x3), some (.int x4), some (.int x5), some (.int (nI 0))] [] h else (z_kd h x0 = 25 ∧ (z_kd h x0 = 25 ∧ (z_kd (z_poi h x0 0 ((z_oi h x0 0) + (nI 1))) x0 = 25 ∧ (if (z_oi (z_poi h x0 0 ((z_oi h x0 0) + (nI 1))) x0 1) = mI then (z_kd (z_poi h x0 0 ((z_oi h x0 0) + (nI 1))) x0 = 25 ∧ r = (.inl none, z_poi (z_poi h x0 0 ((z_oi h x0 0) + (nI 1))) x0 1 x4)) else (z_kd (z_poi h x0 0 ((z_oi h x0 0) + (nI 1))) x0 = 25 ∧ (∃ x_2 h_1, z_Ev G d k_J9_min_7cf53 [.int (z_oi (z_poi h x0 0 ((z_oi h x0 0) + (nI 1))) x0 1), .int x4] (z_poi h x0 0 ((z_oi h x0 0) + (nI 1))) (.inl (some (.int x_2)), h_1) ∧ (z_kd h_1 x0 = 25 ∧ r = (.inl none, z_poi h_1 x0 1 x_2))))))))))) : (z_J G (d + 1) (m_X9_coverFrom z_pu0) r) 27 [some (.ref x0), some (.ref x1), none, some (.int x3), some (.int x4), some (.int x5), none] [] h := z_bq (v_X9 z_pu0 (vP_X9_coverFrom z_pu0) hPu) hd_X9_coverFrom 23 hT
set_option maxRecDepth 20000 in
theorem b_X9_coverFrom_76 {G : z_G} {d : Nat} {r : z_Res} (hPu : z_PuV G d (t_X9 z_pu0)) {h : z_H} {x0 : Nat} {x1 : Nat} {x3 : Int32} {x4 : Int32} {x5 : Int32} {x6 : Int32} (hT : (z_kd h x1 = 24 ∧ (if x6 < (z_oi h x1 1) then (z_kd h x1 = 24 ∧ (z_rc (z_or h x1 2) False (fun x_1 => (z_kd h x_1 = 1 ∧ vp_in x6 (z_ln h x_1) ∧ (if (((z_ai h x_1 (Int32.toNatClampNeg x6)) >>> (x5 &&& (nI 31))) &&& (nI 1)) = (nI 0) then (z_J G (d + 1) (m_X9_coverFrom z_pu0) r) 76 [some (.ref x0), some (.ref x1), none, some (.int x3), some (.int x4), some (.int x5), some (.int (x6 + (nI 1)))] [] h else (z_kd h x1 = 24 ∧ (z_rc (z_or h x1 2) False (fun x_2 => (z_kd h x_2 = 1 ∧ vp_in x6 (z_ln h x_2) ∧ (if ((z_ai h x_2 (Int32.toNatClampNeg x6)) &&& x3) = (nI 0) then (z_kd h x1 = 24 ∧ (z_rc (z_or h x1 2) False (fun x_3 => (z_kd h x_3 = 1 ∧ vp_in x6 (z_ln h x_3) ∧ (z_kd h x0 = 25 ∧ ∃ h_4, z_Ev G d k_X9_coverFrom [.ref x0, .ref x1, .int (x5 + (nI 1)), .int (x3 ||| (z_ai h x_3 (Int32.toNatClampNeg x6))), .int (x4 ||| ((nI 1) <<< (x6 &&& (nI 31))))] h (.inl none, h_4) ∧ (z_J G (d + 1) (m_X9_coverFrom z_pu0) r) 76 [some (.ref x0), some (.ref x1), none, some (.int x3), some (.int x4), some (.int x5), some (.int (x6 + (nI 1)))] [] h_4))))) else (z_J G (d + 1) (m_X9_coverFrom z_pu0) r) 76 [some (.ref x0), some (.ref x1), none, some (.int x3), some (.int x4), some (.int x5), some (.int (x6 + (nI 1)))] [] h)))))))))) else r = (.inl none, h)))) : (z_J G (d + 1) (m_X9_coverFrom z_pu0) r) 76 [some (.ref x0), some (.ref x1), none, some (.int x3), some (.int x4), some (.int x5), some (.int x6)] [] h := z_bq (v_X9 z_pu0 (vP_X9_coverFrom z_pu0) hPu) hd_X9_coverFrom 42 hT
/-! SETS -/
def cvR (S : Sc) : Nat → Nat → Nat → Nat → Nat × Int32 → Nat × Int32
  | 0, _, _, _, st => st
  | k + 1, p, cov, ch, st => if S.1 ≤ p then (st.1 + 1, if st.2 = mI then nI ch else if nI ch < st.2 then nI ch else st.2) else if cov.testBit p then cvR S k (p + 1) cov ch st else it (fun i st => if (S.2.2 i).testBit p ∧ S.2.2 i &&& cov = 0 then cvR S k (p + 1) (cov ||| S.2.2 i) (ch ||| 2 ^ i) st else st) st S.2.1
section HA
variable {G : z_G} {d q b sx : Nat} {h : z_H} {S : Sc}
theorem has_any (S : Sc) (a : Nat) : c_has S a = c_any (fun l => S.2.2 l &&& a == S.2.2 l) S.2.1 := it_or _ _
theorem e9_holdsLine (hA : sc_at q b h S) {x : Nat} : z_Ev G (d + 4) k_X9_holdsLine [.ref q, .int (nI x)] h (.inl (some (.int (nI (c_has S x).toNat))), h) := by
  have hm := y_m12 hA
  rw [has_any]
  refine en_X9_holdsLine (b_X9_holdsLine_0 (z_pu0V rfl) ?_)
  refine z_fnd (fun k => [some (.ref q), some (.int (nI x)), some (.int (nI k))]) (fun l => S.2.2 l &&& x == S.2.2 l) S.2.1 ?_ ?_
  · intro l hl hno hJ
    have h4 := y_256 hA l
    refine b_X9_holdsLine_2 (z_pu0V rfl) ⟨y_kd hA, ?_⟩
    rw [y_m hA, if_pos (nI_lt hl (by omega)), (y_row hA).1, z_rcs, nI_clamp (by omega), y_Ln hA hl, nI_add]
    refine ⟨y_kd hA, (y_row hA).2.1, by rw [(y_row hA).2.2]; exact vp_in_nI hl (by omega), ?_⟩
    have iff : (nI (S.2.2 l) &&& (nI x ^^^ mI) = nI 0) ↔ S.2.2 l &&& x = S.2.2 l := n_sub_iff (x := S.2.2 l) (a := x) (by omega)
    by_cases c : S.2.2 l &&& x = S.2.2 l
    · rw [if_pos (iff.mpr c), any_t (p := fun l => S.2.2 l &&& x == S.2.2 l) hl (beq_iff_eq.mpr c)]
      exact ⟨Or.inr rfl, rfl⟩
    · rw [if_neg (fun e => c (iff.mp e))]
      exact hJ (beq_false_of_ne c)
  · intro hno
    refine b_X9_holdsLine_2 (z_pu0V rfl) ⟨y_kd hA, ?_⟩
    rw [y_m hA, if_neg (nI_nlt (Nat.le_refl _) (by omega)), any_f hno]
    exact ⟨Or.inl rfl, rfl⟩
theorem anot_all : ∀ n, n < 9 → ∀ k, k < 256 → k < 2 ^ n → anot (2 ^ n - 1) k = 2 ^ n - 1 - k := by decide +kernel
theorem pc_all : ∀ n, n < 9 → ∀ k, k < 256 → k < 2 ^ n → n_pc k ≤ n_pc (2 ^ n - 1) := by decide +kernel
theorem p2_9 {n : Nat} (hn : n ≤ 8) : 2 ^ n ≤ 256 := Nat.pow_le_pow_right (n := 2) (by decide) hn
theorem e9_cover (hA : sc_at q b h S) : z_Ev G (d + 5) k_X9_cover [.ref sx, .ref q] h (.inl (some (.int (nI (c_cov S)))), h) := by
  have hn := y_n8 hA
  have p9 := p2_9 hn.2
  have p0 := Nat.two_pow_pos S.1
  refine en_X9_cover (b_X9_cover_0 (z_pu0V rfl) ⟨y_kd hA, ?_⟩)
  rw [y_n hA, show nI 1 <<< (nI S.1 &&& nI 31) = nI (2 ^ S.1) from n_one (by omega), q_sub (show 1 ≤ 2 ^ S.1 by omega)]
  have hb : ∀ k, k ≤ 2 ^ S.1 → it (fun k x => if n_pc k < n_pc x ∧ c_has S (2 ^ S.1 - 1 - k) = false then k else x) (2 ^ S.1 - 1) k < 2 ^ S.1 := by
    intro k
    induction k with
    | zero => intro _; show 2 ^ S.1 - 1 < _; omega
    | succ k ih =>
      intro hk
      rw [it_s]
      split
      · omega
      · exact ih (by omega)
  have ecov : c_cov S = it (fun k x => if n_pc k < n_pc x ∧ c_has S (2 ^ S.1 - 1 - k) = false then k else x) (2 ^ S.1 - 1) (2 ^ S.1 - 1) := by
    unfold c_cov
    obtain ⟨m, em⟩ : ∃ m, 2 ^ S.1 = m + 1 := ⟨2 ^ S.1 - 1, by omega⟩
    have hm := hb m (by omega)
    have := pc_all S.1 (by omega) _ (by omega) hm
    rw [show it (fun k x => if n_pc k < n_pc x ∧ c_has S (2 ^ S.1 - 1 - k) = false then k else x) (2 ^ S.1 - 1) (2 ^ S.1) = it (fun k x => if n_pc k < n_pc x ∧ c_has S (2 ^ S.1 - 1 - k) = false then k else x) (2 ^ S.1 - 1) (m + 1) by rw [← em], it_s, if_neg (by rw [show 2 ^ S.1 - 1 = m by omega] at this ⊢; omega), show 2 ^ S.1 - 1 = m by omega]
  rw [ecov]
  refine z_for (fun k x => [none, some (.ref q), some (.int (nI (2 ^ S.1 - 1))), some (.int (nI x)), some (.int (nI k))]) (fun k x => if n_pc k < n_pc x ∧ c_has S (2 ^ S.1 - 1 - k) = false then k else x) (2 ^ S.1 - 1) (2 ^ S.1 - 1) ?_ ?_
  · intro k hk hJ
    have hx := hb k (by omega)
    obtain ⟨x, ex⟩ : ∃ x, x = it (fun k x => if n_pc k < n_pc x ∧ c_has S (2 ^ S.1 - 1 - k) = false then k else x) (2 ^ S.1 - 1) k := ⟨_, rfl⟩
    rw [← ex] at hx hJ ⊢
    have c1 := n_pc12 k (by omega)
    have c2 := n_pc12 x (by omega)
    refine b_X9_cover_14 (z_pu0V rfl) ?_
    rw [if_pos (nI_lt hk (by omega)), nI_add]
    refine ⟨_, _, e_bits (by omega), _, _, e_bits (by omega), ?_⟩
    by_cases d1 : n_pc k < n_pc x
    · rw [if_pos (nI_lt d1 (by omega)), q_anot, anot_all S.1 (by omega) k (by omega) (by omega)]
      refine ⟨_, _, e9_holdsLine hA, ?_⟩
      cases d2 : c_has S (2 ^ S.1 - 1 - k)
      · rw [d2, if_pos ⟨d1, rfl⟩] at hJ
        rw [if_pos (by rfl)]; exact hJ
      · rw [d2, if_neg (fun e => by cases e.2)] at hJ
        rw [if_neg (by decide)]; exact hJ
    · rw [if_neg (fun e => d1 e.1)] at hJ
      rw [if_neg (nI_nlt (by omega) (by omega))]; exact hJ
  · refine b_X9_cover_14 (z_pu0V rfl) ?_
    rw [if_neg (nI_nlt (Nat.le_refl _) (by omega))]
theorem e9_cap (hA : sc_at q b h S) : z_Ev G (d + 5) k_X9_cap [.ref sx, .ref q] h (.inl (some (.int (nI (c_cap S)))), h) := by
  have hn := y_n8 hA
  have p9 := p2_9 hn.2
  have p0 := Nat.two_pow_pos S.1
  refine en_X9_cap (b_X9_cap_0 (z_pu0V rfl) ?_)
  have hb : ∀ k, k ≤ 2 ^ S.1 - 1 → it (fun k x => if n_pc x < n_pc (1 + k) ∧ c_has S (1 + k) = false then 1 + k else x) 0 k < 2 ^ S.1 := by
    intro k
    induction k with
    | zero => intro _; show 0 < _; omega
    | succ k ih =>
      intro hk
      rw [it_s]
      split
      · omega
      · exact ih (by omega)
  refine z_for (fun k x => [none, some (.ref q), some (.int (nI x)), some (.int (nI (1 + k)))]) (fun k x => if n_pc x < n_pc (1 + k) ∧ c_has S (1 + k) = false then 1 + k else x) 0 (2 ^ S.1 - 1) ?_ ?_
  · intro k hk hJ
    have hx := hb k (by omega)
    obtain ⟨x, ex⟩ : ∃ x, x = it (fun k x => if n_pc x < n_pc (1 + k) ∧ c_has S (1 + k) = false then 1 + k else x) 0 k := ⟨_, rfl⟩
    rw [← ex] at hx hJ ⊢
    have c1 := n_pc12 (1 + k) (by omega)
    have c2 := n_pc12 x (by omega)
    refine b_X9_cap_4 (z_pu0V rfl) ⟨y_kd hA, ?_⟩
    rw [y_n hA, show nI 1 <<< (nI S.1 &&& nI 31) = nI (2 ^ S.1) from n_one (by omega), if_pos (nI_lt (by omega) (by omega)), nI_add]
    refine ⟨_, _, e_bits (by omega), _, _, e_bits (by omega), ?_⟩
    by_cases d1 : n_pc x < n_pc (1 + k)
    · rw [if_pos (nI_lt d1 (by omega))]
      refine ⟨_, _, e9_holdsLine hA, ?_⟩
      cases d2 : c_has S (1 + k)
      · rw [d2, if_pos ⟨d1, rfl⟩] at hJ
        rw [if_pos (by rfl)]; exact hJ
      · rw [d2, if_neg (fun e => by cases e.2)] at hJ
        rw [if_neg (by decide)]; exact hJ
    · rw [if_neg (fun e => d1 e.1)] at hJ
      rw [if_neg (nI_nlt (by omega) (by omega))]; exact hJ
  · refine b_X9_cap_4 (z_pu0V rfl) ⟨y_kd hA, ?_⟩
    rw [y_n hA, show nI 1 <<< (nI S.1 &&& nI 31) = nI (2 ^ S.1) from n_one (by omega), if_neg (nI_nlt (by omega) (by omega))]
    rfl
theorem e9_isHalf (hA : sc_at q b h S) {x : Nat} (hx : x < 2 ^ S.1) : z_Ev G (d + 5) k_X9_isHalf [.ref q, .int (nI x)] h (.inl (some (.int (nI (c_half S x).toNat))), h) := by
  have hn := y_n8 hA
  have p9 := p2_9 hn.2
  refine en_X9_isHalf (b_X9_isHalf_0 (z_pu0V rfl) ⟨_, _, e9_holdsLine hA, ?_⟩)
  unfold c_half
  cases c1 : c_has S x
  · rw [if_pos (by rfl), y_n hA, show nI 1 <<< (nI S.1 &&& nI 31) = nI (2 ^ S.1) from n_one (by omega), q_sub (show 1 ≤ 2 ^ S.1 by omega), q_anot, anot_all S.1 (by omega) x (by omega) hx]
    refine ⟨y_kd hA, _, _, e9_holdsLine hA, ?_⟩
    cases c2 : c_has S (2 ^ S.1 - 1 - x)
    · rw [if_pos (by rfl)]; exact ⟨Or.inr rfl, rfl⟩
    · rw [if_neg (by decide)]; exact ⟨Or.inl rfl, rfl⟩
  · rw [if_neg (by decide)]
    exact ⟨Or.inl rfl, rfl⟩
theorem e9_halves (hA : sc_at q b h S) : z_Ev G (d + 6) k_X9_halves [.ref sx, .ref q] h (.inl (some (.int (nI (c_hv S).1))), h) := by
  have hn := y_n8 hA
  have p9 := p2_9 hn.2
  have e2 : 2 ^ S.1 = 2 * 2 ^ (S.1 - 1) := by rw [← Nat.pow_succ']; congr 1; omega
  refine en_X9_halves (b_X9_halves_0 (z_pu0V rfl) ?_)
  refine z_for (fun k (a : Nat × Int32) => [none, some (.ref q), some (.int (nI a.1)), some (.int (nI (1 + 2 * k)))]) (c_hvF S) (0, mI) (2 ^ (S.1 - 1)) ?_ ?_
  · intro k hk hJ
    obtain ⟨a, ea⟩ : ∃ a, a = it (c_hvF S) (0, mI) k := ⟨_, rfl⟩
    rw [← ea] at hJ ⊢
    refine b_X9_halves_4 (z_pu0V rfl) ⟨y_kd hA, ?_⟩
    rw [y_n hA, show nI 1 <<< (nI S.1 &&& nI 31) = nI (2 ^ S.1) from n_one (by omega), if_pos (nI_lt (by omega) (by omega)), nI_add, nI_add]
    refine ⟨_, _, e9_isHalf hA (by omega), ?_⟩
    unfold c_hvF at hJ
    cases c : c_half S (1 + 2 * k)
    · rw [c, if_neg (by decide)] at hJ
      rw [if_pos (by rfl)]; exact hJ
    · rw [c, if_pos rfl] at hJ
      rw [if_neg (by decide)]; exact hJ
  · refine b_X9_halves_4 (z_pu0V rfl) ⟨y_kd hA, ?_⟩
    rw [y_n hA, show nI 1 <<< (nI S.1 &&& nI 31) = nI (2 ^ S.1) from n_one (by omega), if_neg (nI_nlt (by omega) (by omega))]
    rfl
theorem hv_no (S : Sc) : ∀ k, (∀ i, i < k → c_half S (1 + 2 * i) = false) → it (c_hvF S) (0, mI) k = (0, mI) := by
  intro k
  induction k with
  | zero => intro _; rfl
  | succ k ih =>
    intro hn
    rw [it_s, ih (fun i hi => hn i (by omega))]
    unfold c_hvF
    rw [hn k (by omega), if_neg (by decide)]
theorem hv_yes (S : Sc) {k0 : Nat} (h31 : 1 + 2 * k0 < 2 ^ 31) (hn : ∀ i, i < k0 → c_half S (1 + 2 * i) = false) (hy : c_half S (1 + 2 * k0) = true) : ∀ k, (it (c_hvF S) (0, mI) (k0 + 1 + k)).2 = nI (1 + 2 * k0) := by
  intro k
  induction k with
  | zero =>
    rw [Nat.add_zero, it_s, hv_no S k0 hn]
    unfold c_hvF
    rw [hy, if_pos rfl]
    rfl
  | succ k ih =>
    rw [show k0 + 1 + (k + 1) = (k0 + 1 + k) + 1 by omega, it_s]
    obtain ⟨a, ea⟩ : ∃ a, a = it (c_hvF S) (0, mI) (k0 + 1 + k) := ⟨_, rfl⟩
    rw [← ea] at ih ⊢
    unfold c_hvF
    split
    · show (if a.2 = mI then _ else a.2) = _
      rw [ih, if_neg (show ¬ nI (1 + 2 * k0) = mI from t_ne1 h31)]
    · exact ih
theorem e9_firstHalf (hA : sc_at q b h S) : z_Ev G (d + 6) k_X9_firstHalf [.ref sx, .ref q] h (.inl (some (.int (c_hv S).2)), h) := by
  have hn := y_n8 hA
  have p9 := p2_9 hn.2
  have e2 : 2 ^ S.1 = 2 * 2 ^ (S.1 - 1) := by rw [← Nat.pow_succ']; congr 1; omega
  refine en_X9_firstHalf (b_X9_firstHalf_0 (z_pu0V rfl) ?_)
  refine z_fnd (fun k => [none, some (.ref q), some (.int (nI (1 + 2 * k)))]) (fun k => c_half S (1 + 2 * k)) (2 ^ (S.1 - 1)) ?_ ?_
  · intro k hk hno hJ
    refine b_X9_firstHalf_2 (z_pu0V rfl) ⟨y_kd hA, ?_⟩
    rw [y_n hA, show nI 1 <<< (nI S.1 &&& nI 31) = nI (2 ^ S.1) from n_one (by omega), if_pos (nI_lt (by omega) (by omega)), nI_add]
    refine ⟨_, _, e9_isHalf hA (by omega), ?_⟩
    cases c : c_half S (1 + 2 * k)
    · rw [if_pos (by rfl)]; exact hJ c
    · rw [if_neg (by decide)]
      obtain ⟨j, ej⟩ : ∃ j, 2 ^ (S.1 - 1) = k + 1 + j := ⟨2 ^ (S.1 - 1) - (k + 1), by omega⟩
      unfold c_hv
      rw [ej, hv_yes S (by omega) hno c]
  · intro hno
    refine b_X9_firstHalf_2 (z_pu0V rfl) ⟨y_kd hA, ?_⟩
    unfold c_hv
    rw [y_n hA, show nI 1 <<< (nI S.1 &&& nI 31) = nI (2 ^ S.1) from n_one (by omega), if_neg (nI_nlt (by omega) (by omega)), hv_no S _ hno]
/-- the places of the sets' object: how many spreads, the least one -/
def spH (h : z_H) (sx : Nat) (st : Nat × Int32) : z_H := z_poi (z_poi h sx 0 (nI st.1)) sx 1 st.2
theorem sp_oi0 (h : z_H) (sx : Nat) (st : Nat × Int32) : z_oi (spH h sx st) sx 0 = nI st.1 := by
  show z_u (z_u (z_oi h) sx (z_u (z_oi h sx) 0 (nI st.1))) sx (z_u (z_u (z_oi h) sx (z_u (z_oi h sx) 0 (nI st.1)) sx) 1 st.2) sx 0 = _
  rw [u_eq, u_ne _ _ (by decide), u_eq, u_eq]
theorem sp_oi1 (h : z_H) (sx : Nat) (st : Nat × Int32) : z_oi (spH h sx st) sx 1 = st.2 := by
  show z_u (z_u (z_oi h) sx (z_u (z_oi h sx) 0 (nI st.1))) sx (z_u (z_u (z_oi h) sx (z_u (z_oi h sx) 0 (nI st.1)) sx) 1 st.2) sx 1 = _
  rw [u_eq, u_eq]
theorem poi_poi (h : z_H) (a k : Nat) (v w : Int32) : z_poi (z_poi h a k v) a k w = z_poi h a k w := by
  have e : z_uu (z_uu (z_oi h) a k v) a k w = z_uu (z_oi h) a k w := by
    unfold z_uu
    rw [u_eq, u_u, u_u]
  show (h.1, z_kd h, z_ln h, z_uu (z_uu (z_oi h) a k v) a k w, z_or h, z_ai h, z_al h, z_ar h) = _
  rw [e]
  rfl
theorem poi_comm (h : z_H) (a : Nat) {k j : Nat} (v w : Int32) (hkj : k ≠ j) : z_poi (z_poi h a k v) a j w = z_poi (z_poi h a j w) a k v := by
  have e : z_uu (z_uu (z_oi h) a k v) a j w = z_uu (z_uu (z_oi h) a j w) a k v := by
    unfold z_uu
    rw [u_eq, u_eq, u_u, u_u, u_comm _ _ _ hkj]
  show (h.1, z_kd h, z_ln h, z_uu (z_uu (z_oi h) a k v) a j w, z_or h, z_ai h, z_al h, z_ar h) = (h.1, z_kd h, z_ln h, z_uu (z_uu (z_oi h) a j w) a k v, z_or h, z_ai h, z_al h, z_ar h)
  rw [e]
theorem sp_0 (h : z_H) (sx : Nat) (st : Nat × Int32) (m : Nat) : z_poi (spH h sx st) sx 0 (nI m) = spH h sx (m, st.2) := by
  unfold spH
  rw [poi_comm _ _ _ _ (show 1 ≠ 0 by decide), poi_poi]
theorem sp_1 (h : z_H) (sx : Nat) (st : Nat × Int32) (v : Int32) : z_poi (spH h sx st) sx 1 v = spH h sx (st.1, v) := by
  unfold spH
  rw [poi_poi]
theorem sp_sc {st : Nat × Int32} (hA : sc_at q b h S) (hx : sx ≠ q) : sc_at q b (spH h sx st) S := sc_at_of hA (fun _ _ => ⟨rfl, rfl⟩) (by
  show z_u (z_u (z_oi h) sx (z_u (z_oi h sx) 0 (nI st.1))) sx (z_u (z_u (z_oi h) sx (z_u (z_oi h sx) 0 (nI st.1)) sx) 1 st.2) q = _
  rw [u_ne _ _ (fun e => hx e.symm), u_ne _ _ (fun e => hx e.symm)]) (fun _ _ => rfl) (fun _ _ _ _ => rfl)
theorem cov_loop (hA : sc_at q b h S) (hx : sx ≠ q) (ks : z_kd h sx = 25) {D : Nat} {K : Nat} (hD : 1 ≤ D) (hcall : ∀ p' cov' ch' st' j, j < K → 1 ≤ j → p' + j = S.1 + 1 → cov' < 256 → z_Ev G (D + 1) k_X9_coverFrom [.ref sx, .ref q, .int (nI p'), .int (nI cov'), .int (nI ch')] (spH h sx st') (.inl none, spH h sx (cvR S j p' cov' ch' st'))) : ∀ k p cov ch st (R : z_Res), k < K → p + k = S.1 → cov < 256 → R = (.inl none, spH h sx (cvR S (k + 1) p cov ch st)) → z_J G (D + 2) (m_X9_coverFrom z_pu0) R 3 [some (.ref sx), some (.ref q), none, some (.int (nI cov)), some (.int (nI ch)), some (.int (nI p)), none] [] (spH h sx st) := by
  have hn := y_n8 hA
  have hm := y_m12 hA
  have hAs : ∀ st, sc_at q b (spH h sx st) S := fun st => sp_sc hA hx
  have kss : ∀ st, z_kd (spH h sx st) sx = 25 := fun st => ks
  intro k
  induction k with
  | zero =>
    intro p cov ch st R hK hp hc eR
    refine b_X9_coverFrom_3 (z_pu0V rfl) ⟨y_kd (hAs st), ?_⟩
    rw [y_n (hAs st), if_neg (nI_nlt (by omega) (by omega))]
    refine b_X9_coverFrom_27 (z_pu0V rfl) ⟨y_kd (hAs st), ?_⟩
    rw [y_n (hAs st), if_neg (nI_nlt (by omega) (by omega)), sp_oi0, nI_add, sp_0, sp_oi1]
    refine ⟨kss _, kss _, kss _, ?_⟩
    unfold cvR at eR
    rw [if_pos (by omega)] at eR
    by_cases c : st.2 = mI
    · rw [if_pos c] at eR
      rw [if_pos c, sp_1]
      exact ⟨kss _, eR⟩
    · rw [if_neg c] at eR
      rw [if_neg c]
      refine ⟨kss _, _, _, e_min, kss _, ?_⟩
      rw [sp_1]
      exact eR
  | succ k ih =>
    intro p cov ch st R hK hp hc eR
    have pl : p < S.1 := by omega
    refine b_X9_coverFrom_3 (z_pu0V rfl) ⟨y_kd (hAs st), ?_⟩
    rw [y_n (hAs st), if_pos (nI_lt pl (by omega)), show (nI cov >>> (nI p &&& nI 31)) &&& nI 1 = nI (cov.testBit p).toNat from n_bit (by omega) (by omega), nI_add]
    unfold cvR at eR
    rw [if_neg (by omega)] at eR
    cases c1 : cov.testBit p
    · rw [c1, if_neg (by decide)] at eR
      rw [if_pos (by rfl)]
      refine b_X9_coverFrom_27 (z_pu0V rfl) ⟨y_kd (hAs st), ?_⟩
      rw [y_n (hAs st), if_pos (nI_lt pl (by omega))]
      have key := z_forH (G := G) (d := D + 2) (μ := m_X9_coverFrom z_pu0) (r := R) (pc := 76) (fun i (_ : Nat × Int32) => [some (.ref sx), some (.ref q), none, some (.int (nI cov)), some (.int (nI ch)), some (.int (nI p)), some (.int (nI i))]) (fun _ st => spH h sx st) (fun i st => if (S.2.2 i).testBit p ∧ S.2.2 i &&& cov = 0 then cvR S (k + 1) (p + 1) (cov ||| S.2.2 i) (ch ||| 2 ^ i) st else st) st S.2.1 ?_ ?_
      · exact key
      · intro i hi hJ
        obtain ⟨st1, e1⟩ : ∃ st1, st1 = it (fun i st => if (S.2.2 i).testBit p ∧ S.2.2 i &&& cov = 0 then cvR S (k + 1) (p + 1) (cov ||| S.2.2 i) (ch ||| 2 ^ i) st else st) st i := ⟨_, rfl⟩
        rw [← e1] at hJ ⊢
        have l1 := y_256 hA i
        have l2 := and_lt256 (b := cov) l1
        have hAi := hAs st1
        refine b_X9_coverFrom_76 (z_pu0V rfl) ⟨y_kd hAi, ?_⟩
        rw [y_m hAi, if_pos (nI_lt hi (by omega)), (y_row hAi).1, z_rcs, z_rcs, z_rcs, nI_clamp (by omega), y_Ln hAi hi, show (nI (S.2.2 i) >>> (nI p &&& nI 31)) &&& nI 1 = nI ((S.2.2 i).testBit p).toNat from n_bit (by omega) (by omega), fa_and, fa_or, show nI 1 <<< (nI i &&& nI 31) = nI (2 ^ i) from n_one (by omega), fa_or, nI_add, nI_add]
        refine ⟨y_kd hAi, (y_row hAi).2.1, by rw [(y_row hAi).2.2]; exact vp_in_nI hi (by omega), ?_⟩
        cases c2 : (S.2.2 i).testBit p
        · rw [c2, if_neg (fun e => by cases e.1)] at hJ
          rw [if_pos (by rfl)]; exact hJ
        · rw [if_neg (by decide)]
          refine ⟨y_kd hAi, (y_row hAi).2.1, by rw [(y_row hAi).2.2]; exact vp_in_nI hi (by omega), ?_⟩
          by_cases c3 : S.2.2 i &&& cov = 0
          · rw [if_pos ⟨c2, c3⟩] at hJ
            rw [if_pos (by rw [c3])]
            refine ⟨y_kd hAi, (y_row hAi).2.1, by rw [(y_row hAi).2.2]; exact vp_in_nI hi (by omega), kss _, _, hcall (p + 1) (cov ||| S.2.2 i) (ch ||| 2 ^ i) st1 (k + 1) hK (by omega) (by omega) (or_lt256 hc l1), hJ⟩
          · rw [if_neg (fun e => c3 e.2)] at hJ
            rw [if_neg (fun e => c3 ((nI_eq (by omega) (by decide)).mp e))]; exact hJ
      · refine b_X9_coverFrom_76 (z_pu0V rfl) ⟨y_kd (hAs _), ?_⟩
        rw [y_m (hAs _), if_neg (nI_nlt (Nat.le_refl _) (by omega))]
        exact eR
    · rw [c1, if_pos rfl] at eR
      rw [if_neg (by decide)]
      exact ih (p + 1) cov ch st R (by omega) (by omega) hc eR
theorem e9_coverFrom (hA : sc_at q b h S) (hx : sx ≠ q) (ks : z_kd h sx = 25) : ∀ K d k p cov ch st, k < K → p + k = S.1 → cov < 256 → z_Ev G (d + K + 3) k_X9_coverFrom [.ref sx, .ref q, .int (nI p), .int (nI cov), .int (nI ch)] (spH h sx st) (.inl none, spH h sx (cvR S (k + 1) p cov ch st)) := by
  intro K
  induction K with
  | zero => intro d k p cov ch st hk; omega
  | succ K ih =>
    intro d k p cov ch st hk hp hc
    refine en_X9_coverFrom (b_X9_coverFrom_0 (z_pu0V rfl) ?_)
    refine cov_loop (D := d + K + 2) (K := K + 1) hA hx ks (by omega) (fun p' cov' ch' st' j hj1 hj2 hp' hc' => ?_) k p cov ch st _ hk hp hc rfl
    obtain ⟨j', rfl⟩ : ∃ j', j = j' + 1 := ⟨j - 1, by omega⟩
    exact ih d j' p' cov' ch' st' (by omega) (by omega) hc'
def g_sp (S : Sc) : Nat × Int32 := cvR S (S.1 + 1) 0 0 0 (0, mI)
theorem e9_findSpreads (hA : sc_at q b h S) (hx : sx ≠ q) (ks : z_kd h sx = 25) : z_Ev G (d + 14) k_X9_findSpreads [.ref sx, .ref q] h (.inl none, spH h sx (g_sp S)) := by
  have hn := y_n8 hA
  refine en_X9_findSpreads (b_X9_findSpreads_0 (z_pu0V rfl) ⟨ks, ks, ks, _, ?_, rfl⟩)
  have := e9_coverFrom (G := G) hA hx ks 10 d S.1 0 0 0 (0, mI) (by omega) (by omega) (by decide)
  exact this
theorem e9_spreads (hA : sc_at q b h S) (hx : sx ≠ q) (ks : z_kd h sx = 25) : z_Ev G (d + 15) k_X9_spreads [.ref sx, .ref q] h (.inl (some (.int (nI (g_sp S).1))), spH h sx (g_sp S)) := by
  refine en_X9_spreads (b_X9_spreads_0 (z_pu0V rfl) ⟨ks, _, e9_findSpreads hA hx ks, ks, ?_⟩)
  rw [sp_oi0]
theorem e9_leastSpread (hA : sc_at q b h S) (hx : sx ≠ q) (ks : z_kd h sx = 25) : z_Ev G (d + 15) k_X9_leastSpread [.ref sx, .ref q] h (.inl (some (.int (g_sp S).2)), spH h sx (g_sp S)) := by
  refine en_X9_leastSpread (b_X9_leastSpread_0 (z_pu0V rfl) ⟨ks, _, e9_findSpreads hA hx ks, ks, ?_⟩)
  rw [sp_oi1]
end HA
