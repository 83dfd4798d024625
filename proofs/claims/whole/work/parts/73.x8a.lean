theorem en_X8_isTriangle {pu : Nat → Option ((List Value → z_H → Prop) × (List Value → z_H → Int32))} {G : z_G} {d : Nat} {r : z_Res} {h : z_H} {x0 : Int32} {x1 : Int32} {x2 : Int32} (hJ : z_J G d (m_X8_isTriangle pu) r 0 [some (.int x0), some (.int x1), some (.int x2)] [] h) : z_Ev G d k_X8_isTriangle [.int x0, .int x1, .int x2] h r := z_enter (μ := m_X8_isTriangle pu) rfl (by decide) rfl rfl (fun q => by cases q) (Nat.le_of_ble_eq_true rfl) hJ
def hd_X8_isTriangle : Nat → Option (List Bool) := (fun k => none)
set_option maxRecDepth 20000 in
theorem b_X8_isTriangle_0 {G : z_G} {d : Nat} {r : z_Res} (hPu : z_PuV G d (t_X8 z_pu0)) {h : z_H} {x0 : Int32} {x1 : Int32} {x2 : Int32} (hT : (if (x0 &&& x1) = (nI 0) then (z_bz (nI 0) ∧ r = (.inl (some (.int (nI 0))), h)) else (if (x0 &&& x2) = (nI 0) then (z_bz (nI 0) ∧ r = (.inl (some (.int (nI 0))), h)) else (if (x1 &&& x2) = (nI 0) then (z_bz (nI 0) ∧ r = (.inl (some (.int (nI 0))), h)) else (if ((x0 &&& x1) &&& x2) = (nI 0) then (z_bz (nI 1) ∧ r = (.inl (some (.int (nI 1))), h)) else (z_bz (nI 0) ∧ r = (.inl (some (.int (nI 0))), h))))))) : (z_J G (d + 1) (m_X8_isTriangle z_pu0) r) 0 [some (.int x0), some (.int x1), some (.int x2)] [] h := z_bq (v_X8 z_pu0 (vP_X8_isTriangle z_pu0) hPu) hd_X8_isTriangle 23 hT
theorem en_X8_flags {pu : Nat → Option ((List Value → z_H → Prop) × (List Value → z_H → Int32))} {G : z_G} {d : Nat} {r : z_Res} {h : z_H} {x0 : Nat} (hJ : z_J G d (m_X8_flags pu) r 0 [some (.ref x0), none, none] [] h) : z_Ev G d k_X8_flags [.ref x0] h r := z_enter (μ := m_X8_flags pu) rfl (by decide) rfl rfl (fun q => by cases q) (Nat.le_of_ble_eq_true rfl) hJ
def hd_X8_flags : Nat → Option (List Bool) := (fun k => (cond (Nat.blt k 29) (cond (Nat.beq k 4) (some [true, true, true]) none) none))
set_option maxRecDepth 20000 in
theorem b_X8_flags_0 {G : z_G} {d : Nat} {r : z_Res} (hPu : z_PuV G d (t_X8 z_pu0)) {h : z_H} {x0 : Nat} (hT : (z_J G (d + 1) (m_X8_flags z_pu0) r) 4 [some (.ref x0), some (.int (nI 0)), some (.int (nI 0))] [] h) : (z_J G (d + 1) (m_X8_flags z_pu0) r) 0 [some (.ref x0), none, none] [] h := z_bq (v_X8 z_pu0 (vP_X8_flags z_pu0) hPu) hd_X8_flags 7 hT
set_option maxRecDepth 20000 in
theorem b_X8_flags_4 {G : z_G} {d : Nat} {r : z_Res} (hPu : z_PuV G d (t_X8 z_pu0)) {h : z_H} {x0 : Nat} {x1 : Int32} {x2 : Int32} (hT : (z_kd h x0 = 24 ∧ (if x2 < (z_oi h x0 1) then (z_kd h x0 = 24 ∧ (z_rc (z_or h x0 3) False (fun x_1 => (z_kd h x_1 = 1 ∧ vp_in x2 (z_ln h x_1) ∧ (z_J G (d + 1) (m_X8_flags z_pu0) r) 4 [some (.ref x0), some (.int (x1 + (z_ai h x_1 (Int32.toNatClampNeg x2)))), some (.int (x2 + (nI 1)))] [] h)))) else r = (.inl (some (.int x1)), h)))) : (z_J G (d + 1) (m_X8_flags z_pu0) r) 4 [some (.ref x0), some (.int x1), some (.int x2)] [] h := z_bq (v_X8 z_pu0 (vP_X8_flags z_pu0) hPu) hd_X8_flags 16 hT
theorem en_X8_firstSize {pu : Nat → Option ((List Value → z_H → Prop) × (List Value → z_H → Int32))} {G : z_G} {d : Nat} {r : z_Res} {h : z_H} {x0 : Nat} (hJ : z_J G d (m_X8_firstSize pu) r 0 [some (.ref x0)] [] h) : z_Ev G d k_X8_firstSize [.ref x0] h r := z_enter (μ := m_X8_firstSize pu) rfl (by decide) rfl rfl (fun q => by cases q) (Nat.le_of_ble_eq_true rfl) hJ
def hd_X8_firstSize : Nat → Option (List Bool) := (fun k => none)
set_option maxRecDepth 20000 in
theorem b_X8_firstSize_0 {G : z_G} {d : Nat} {r : z_Res} (hPu : z_PuV G d (t_X8 z_pu0)) {h : z_H} {x0 : Nat} (hT : (z_kd h x0 = 24 ∧ (if (z_oi h x0 1) = (nI 0) then r = (.inl (some (.int (nI 0))), h) else (z_kd h x0 = 24 ∧ (z_rc (z_or h x0 3) False (fun x_1 => (z_kd h x_1 = 1 ∧ vp_in (nI 0) (z_ln h x_1) ∧ r = (.inl (some (.int (z_ai h x_1 (Int32.toNatClampNeg (nI 0))))), h)))))))) : (z_J G (d + 1) (m_X8_firstSize z_pu0) r) 0 [some (.ref x0)] [] h := z_bq (v_X8 z_pu0 (vP_X8_firstSize z_pu0) hPu) hd_X8_firstSize 10 hT
theorem en_X8_trianglesOf {pu : Nat → Option ((List Value → z_H → Prop) × (List Value → z_H → Int32))} {G : z_G} {d : Nat} {r : z_Res} {h : z_H} {x0 : Nat} {x1 : Int32} (hJ : z_J G d (m_X8_trianglesOf pu) r 0 [some (.ref x0), some (.int x1), none, none, none, none] [] h) : z_Ev G d k_X8_trianglesOf [.ref x0, .int x1] h r := z_enter (μ := m_X8_trianglesOf pu) rfl (by decide) rfl rfl (fun q => by cases q) (Nat.le_of_ble_eq_true rfl) hJ
def hd_X8_trianglesOf : Nat → Option (List Bool) := (fun k => (cond (Nat.blt k 72) (cond (Nat.blt k 14) (cond (Nat.beq k 4) (some [true, true, true, true, false, false]) none) (cond (Nat.blt k 26) (cond (Nat.beq k 14) (some [true, true, true, true, true, false]) none) (cond (Nat.beq k 26) (some [true, true, true, true, true, true]) none))) none))
set_option maxRecDepth 20000 in
theorem b_X8_trianglesOf_0 {G : z_G} {d : Nat} {r : z_Res} (hPu : z_PuV G d (t_X8 z_pu0)) {h : z_H} {x0 : Nat} {x1 : Int32} (hT : (z_J G (d + 1) (m_X8_trianglesOf z_pu0) r) 4 [some (.ref x0), some (.int x1), some (.int (nI 0)), some (.int (nI 0)), none, none] [] h) : (z_J G (d + 1) (m_X8_trianglesOf z_pu0) r) 0 [some (.ref x0), some (.int x1), none, none, none, none] [] h := z_bq (v_X8 z_pu0 (vP_X8_trianglesOf z_pu0) hPu) hd_X8_trianglesOf 7 hT
set_option maxRecDepth 20000 in
theorem b_X8_trianglesOf_4 {G : z_G} {d : Nat} {r : z_Res} (hPu : z_PuV G d (t_X8 z_pu0)) {h : z_H} {x0 : Nat} {x1 : Int32} {x2 : Int32} {x3 : Int32} (hT : (if x3 < x1 then (z_J G (d + 1) (m_X8_trianglesOf z_pu0) r) 14 [some (.ref x0), some (.int x1), some (.int x2), some (.int x3), some (.int (x3 + (nI 1))), none] [] h else r = (.inl (some (.int x2)), h))) : (z_J G (d + 1) (m_X8_trianglesOf z_pu0) r) 4 [some (.ref x0), some (.int x1), some (.int x2), some (.int x3), none, none] [] h := z_bq (v_X8 z_pu0 (vP_X8_trianglesOf z_pu0) hPu) hd_X8_trianglesOf 10 hT
set_option maxRecDepth 20000 in
theorem b_X8_trianglesOf_14 {G : z_G} {d : Nat} {r : z_Res} (hPu : z_PuV G d (t_X8 z_pu0)) {h : z_H} {x0 : Nat} {x1 : Int32} {x2 : Int32} {x3 : Int32} {x4 : Int32} (hT : (if x4 < x1 then (z_J G (d + 1) (m_X8_trianglesOf z_pu0) r) 26 [some (.ref x0), some (.int x1), some (.int x2), some (.int x3), some (.int x4), some (.int (x4 + (nI 1)))] [] h else (z_J G (d + 1) (m_X8_trianglesOf z_pu0) r) 4 [some (.ref x0), some (.int x1), some (.int x2), some (.int (x3 + (nI 1))), none, none] [] h)) : (z_J G (d + 1) (m_X8_trianglesOf z_pu0) r) 14 [some (.ref x0), some (.int x1), some (.int x2), some (.int x3), some (.int x4), none] [] h := z_bq (v_X8 z_pu0 (vP_X8_trianglesOf z_pu0) hPu) hd_X8_trianglesOf 10 hT
set_option maxRecDepth 20000 in
theorem b_X8_trianglesOf_26 {G : z_G} {d : Nat} {r : z_Res} (hPu : z_PuV G d (t_X8 z_pu0)) {h : z_H} {x0 : Nat} {x1 : Int32} {x2 : Int32} {x3 : Int32} {x4 : Int32} {x5 : Int32} (hT : (if x5 < x1 then (z_kd h x0 = 1 ∧ vp_in x3 (z_ln h x0) ∧ (z_kd h x0 = 1 ∧ vp_in x4 (z_ln h x0) ∧ (z_kd h x0 = 1 ∧ vp_in x5 (z_ln h x0) ∧ (∃ x_2 h_1, z_Ev G d k_X8_isTriangle [.int (z_ai h x0 (Int32.toNatClampNeg x3)), .int (z_ai h x0 (Int32.toNatClampNeg x4)), .int (z_ai h x0 (Int32.toNatClampNeg x5))] h (.inl (some (.int x_2)), h_1) ∧ (if x_2 = (nI 0) then (z_J G (d + 1) (m_X8_trianglesOf z_pu0) r) 26 [some (.ref x0), some (.int x1), some (.int x2), some (.int x3), some (.int x4), some (.int (x5 + (nI 1)))] [] h_1 else (z_J G (d + 1) (m_X8_trianglesOf z_pu0) r) 26 [some (.ref x0), some (.int x1), some (.int (x2 + (nI 1))), some (.int x3), some (.int x4), some (.int (x5 + (nI 1)))] [] h_1))))) else (z_J G (d + 1) (m_X8_trianglesOf z_pu0) r) 14 [some (.ref x0), some (.int x1), some (.int x2), some (.int x3), some (.int (x4 + (nI 1))), none] [] h)) : (z_J G (d + 1) (m_X8_trianglesOf z_pu0) r) 26 [some (.ref x0), some (.int x1), some (.int x2), some (.int x3), some (.int x4), some (.int x5)] [] h := z_bq (v_X8 z_pu0 (vP_X8_trianglesOf z_pu0) hPu) hd_X8_trianglesOf 20 hT
theorem en_X8_triangles {pu : Nat → Option ((List Value → z_H → Prop) × (List Value → z_H → Int32))} {G : z_G} {d : Nat} {r : z_Res} {h : z_H} {x0 : Nat} (hJ : z_J G d (m_X8_triangles pu) r 0 [some (.ref x0)] [] h) : z_Ev G d k_X8_triangles [.ref x0] h r := z_enter (μ := m_X8_triangles pu) rfl (by decide) rfl rfl (fun q => by cases q) (Nat.le_of_ble_eq_true rfl) hJ
def hd_X8_triangles : Nat → Option (List Bool) := (fun k => none)
set_option maxRecDepth 20000 in
theorem b_X8_triangles_0 {G : z_G} {d : Nat} {r : z_Res} (hPu : z_PuV G d (t_X8 z_pu0)) {h : z_H} {x0 : Nat} (hT : (z_kd h x0 = 24 ∧ (z_rc (z_or h x0 2) (z_kd h x0 = 24 ∧ (∃ x_3 h_2, z_Ev G d k_X8_trianglesOf [.null, .int (z_oi h x0 1)] h (.inl (some (.int x_3)), h_2) ∧ r = (.inl (some (.int x_3)), h_2))) (fun x_1 => (z_kd h x0 = 24 ∧ (∃ x_5 h_4, z_Ev G d k_X8_trianglesOf [.ref x_1, .int (z_oi h x0 1)] h (.inl (some (.int x_5)), h_4) ∧ r = (.inl (some (.int x_5)), h_4))))))) : (z_J G (d + 1) (m_X8_triangles z_pu0) r) 0 [some (.ref x0)] [] h := z_bq (v_X8 z_pu0 (vP_X8_triangles z_pu0) hPu) hd_X8_triangles 8 hT
theorem en_X8_apart {pu : Nat → Option ((List Value → z_H → Prop) × (List Value → z_H → Int32))} {G : z_G} {d : Nat} {r : z_Res} {h : z_H} {x0 : Nat} (hJ : z_J G d (m_X8_apart pu) r 0 [some (.ref x0), none, none, none] [] h) : z_Ev G d k_X8_apart [.ref x0] h r := z_enter (μ := m_X8_apart pu) rfl (by decide) rfl rfl (fun q => by cases q) (Nat.le_of_ble_eq_true rfl) hJ
def hd_X8_apart : Nat → Option (List Bool) := (fun k => (cond (Nat.blt k 57) (cond (Nat.blt k 16) (cond (Nat.beq k 4) (some [true, true, true, false]) none) (cond (Nat.beq k 16) (some [true, true, true, true]) none)) none))
set_option maxRecDepth 20000 in
theorem b_X8_apart_0 {G : z_G} {d : Nat} {r : z_Res} (hPu : z_PuV G d (t_X8 z_pu0)) {h : z_H} {x0 : Nat} (hT : (z_J G (d + 1) (m_X8_apart z_pu0) r) 4 [some (.ref x0), some (.int (nI 0)), some (.int (nI 0)), none] [] h) : (z_J G (d + 1) (m_X8_apart z_pu0) r) 0 [some (.ref x0), none, none, none] [] h := z_bq (v_X8 z_pu0 (vP_X8_apart z_pu0) hPu) hd_X8_apart 7 hT
set_option maxRecDepth 20000 in
theorem b_X8_apart_4 {G : z_G} {d : Nat} {r : z_Res} (hPu : z_PuV G d (t_X8 z_pu0)) {h : z_H} {x0 : Nat} {x1 : Int32} {x2 : Int32} (hT : (z_kd h x0 = 24 ∧ (if x2 < (z_oi h x0 1) then (z_J G (d + 1) (m_X8_apart z_pu0) r) 16 [some (.ref x0), some (.int x1), some (.int x2), some (.int (x2 + (nI 1)))] [] h else r = (.inl (some (.int x1)), h)))) : (z_J G (d + 1) (m_X8_apart z_pu0) r) 4 [some (.ref x0), some (.int x1), some (.int x2), none] [] h := z_bq (v_X8 z_pu0 (vP_X8_apart z_pu0) hPu) hd_X8_apart 11 hT
set_option maxRecDepth 20000 in
theorem b_X8_apart_16 {G : z_G} {d : Nat} {r : z_Res} (hPu : z_PuV G d (t_X8 z_pu0)) {h : z_H} {x0 : Nat} {x1 : Int32} {x2 : Int32} {x3 : Int32} (hT : (z_kd h x0 = 24 ∧ (if x3 < (z_oi h x0 1) then (z_kd h x0 = 24 ∧ (z_rc (z_or h x0 2) False (fun x_1 => (z_kd h x_1 = 1 ∧ vp_in x2 (z_ln h x_1) ∧ (z_kd h x0 = 24 ∧ (z_rc (z_or h x0 2) False (fun x_2 => (z_kd h x_2 = 1 ∧ vp_in x3 (z_ln h x_2) ∧ (if ((z_ai h x_1 (Int32.toNatClampNeg x2)) &&& (z_ai h x_2 (Int32.toNatClampNeg x3))) = (nI 0) then (z_J G (d + 1) (m_X8_apart z_pu0) r) 16 [some (.ref x0), some (.int (x1 + (nI 1))), some (.int x2), some (.int (x3 + (nI 1)))] [] h else (z_J G (d + 1) (m_X8_apart z_pu0) r) 16 [some (.ref x0), some (.int x1), some (.int x2), some (.int (x3 + (nI 1)))] [] h))))))))) else (z_J G (d + 1) (m_X8_apart z_pu0) r) 4 [some (.ref x0), some (.int x1), some (.int (x2 + (nI 1))), none] [] h))) : (z_J G (d + 1) (m_X8_apart z_pu0) r) 16 [some (.ref x0), some (.int x1), some (.int x2), some (.int x3)] [] h := z_bq (v_X8 z_pu0 (vP_X8_apart z_pu0) hPu) hd_X8_apart 20 hT
theorem en_X8_spreadOut {pu : Nat → Option ((List Value → z_H → Prop) × (List Value → z_H → Int32))} {G : z_G} {d : Nat} {r : z_Res} {h : z_H} {x0 : Nat} {x1 : Int32} {x2 : Int32} (hJ : z_J G d (m_X8_spreadOut pu) r 0 [some (.ref x0), some (.int x1), some (.int x2), none, none] [] h) : z_Ev G d k_X8_spreadOut [.ref x0, .int x1, .int x2] h r := z_enter (μ := m_X8_spreadOut pu) rfl (by decide) rfl rfl (fun q => by cases q) (Nat.le_of_ble_eq_true rfl) hJ
def hd_X8_spreadOut : Nat → Option (List Bool) := (fun k => (cond (Nat.blt k 50) (cond (Nat.beq k 5) (some [true, true, true, true, true]) none) none))
set_option maxRecDepth 20000 in
theorem b_X8_spreadOut_0 {G : z_G} {d : Nat} {r : z_Res} (hPu : z_PuV G d (t_X8 z_pu0)) {h : z_H} {x0 : Nat} {x1 : Int32} {x2 : Int32} (hT : (z_J G (d + 1) (m_X8_spreadOut z_pu0) r) 5 [some (.ref x0), some (.int x1), some (.int x2), some (.int x1), some (.int (nI 0))] [] h) : (z_J G (d + 1) (m_X8_spreadOut z_pu0) r) 0 [some (.ref x0), some (.int x1), some (.int x2), none, none] [] h := z_bq (v_X8 z_pu0 (vP_X8_spreadOut z_pu0) hPu) hd_X8_spreadOut 7 hT
set_option maxRecDepth 20000 in
theorem b_X8_spreadOut_5 {G : z_G} {d : Nat} {r : z_Res} (hPu : z_PuV G d (t_X8 z_pu0)) {h : z_H} {x0 : Nat} {x1 : Int32} {x2 : Int32} {x3 : Int32} {x4 : Int32} (hT : (z_kd h x0 = 24 ∧ (if x4 < (z_oi h x0 1) then (if x4 = x2 then (z_J G (d + 1) (m_X8_spreadOut z_pu0) r) 5 [some (.ref x0), some (.int x1), some (.int x2), some (.int x3), some (.int (x4 + (nI 1)))] [] h else (z_kd h x0 = 24 ∧ (z_rc (z_or h x0 2) False (fun x_1 => (z_kd h x_1 = 1 ∧ vp_in x4 (z_ln h x_1) ∧ (if ((z_ai h x_1 (Int32.toNatClampNeg x4)) &&& x1) = (nI 0) then (z_J G (d + 1) (m_X8_spreadOut z_pu0) r) 5 [some (.ref x0), some (.int x1), some (.int x2), some (.int x3), some (.int (x4 + (nI 1)))] [] h else (z_kd h x0 = 24 ∧ (z_rc (z_or h x0 2) False (fun x_2 => (z_kd h x_2 = 1 ∧ vp_in x4 (z_ln h x_2) ∧ (z_J G (d + 1) (m_X8_spreadOut z_pu0) r) 5 [some (.ref x0), some (.int x1), some (.int x2), some (.int (x3 ||| (z_ai h x_2 (Int32.toNatClampNeg x4)))), some (.int (x4 + (nI 1)))] [] h)))))))))) else r = (.inl (some (.int x3)), h)))) : (z_J G (d + 1) (m_X8_spreadOut z_pu0) r) 5 [some (.ref x0), some (.int x1), some (.int x2), some (.int x3), some (.int x4)] [] h := z_bq (v_X8 z_pu0 (vP_X8_spreadOut z_pu0) hPu) hd_X8_spreadOut 26 hT
theorem en_X8_piece {pu : Nat → Option ((List Value → z_H → Prop) × (List Value → z_H → Int32))} {G : z_G} {d : Nat} {r : z_Res} {h : z_H} {x0 : Nat} {x1 : Int32} (hJ : z_J G d (m_X8_piece pu) r 0 [some (.ref x0), some (.int x1), none, none] [] h) : z_Ev G d k_X8_piece [.ref x0, .int x1] h r := z_enter (μ := m_X8_piece pu) rfl (by decide) rfl rfl (fun q => by cases q) (Nat.le_of_ble_eq_true rfl) hJ
def hd_X8_piece : Nat → Option (List Bool) := (fun k => (cond (Nat.blt k 27) (cond (Nat.beq k 6) (some [true, false, true, true]) none) none))
set_option maxRecDepth 20000 in
theorem b_X8_piece_0 {G : z_G} {d : Nat} {r : z_Res} (hPu : z_PuV G d (t_X8 z_pu0)) {h : z_H} {x0 : Nat} {x1 : Int32} (hT : (z_J G (d + 1) (m_X8_piece z_pu0) r) 6 [some (.ref x0), none, some (.int ((nI 1) <<< (x1 &&& (nI 31)))), some (.int (nI 0))] [] h) : (z_J G (d + 1) (m_X8_piece z_pu0) r) 0 [some (.ref x0), some (.int x1), none, none] [] h := z_bq (v_X8 z_pu0 (vP_X8_piece z_pu0) hPu) hd_X8_piece 9 hT
set_option maxRecDepth 20000 in
theorem b_X8_piece_6 {G : z_G} {d : Nat} {r : z_Res} (hPu : z_PuV G d (t_X8 z_pu0)) {h : z_H} {x0 : Nat} {x2 : Int32} {x3 : Int32} (hT : (if x3 < (nI 8) then (z_kd h x0 = 24 ∧ ∃ x_2 h_1, z_Ev G d k_X8_spreadOut [.ref x0, .int x2, .int mI] h (.inl (some (.int x_2)), h_1) ∧ (z_J G (d + 1) (m_X8_piece z_pu0) r) 6 [some (.ref x0), none, some (.int x_2), some (.int (x3 + (nI 1)))] [] h_1) else r = (.inl (some (.int x2)), h))) : (z_J G (d + 1) (m_X8_piece z_pu0) r) 6 [some (.ref x0), none, some (.int x2), some (.int x3)] [] h := z_bq (v_X8 z_pu0 (vP_X8_piece z_pu0) hPu) hd_X8_piece 13 hT
theorem en_X8_steps {pu : Nat → Option ((List Value → z_H → Prop) × (List Value → z_H → Int32))} {G : z_G} {d : Nat} {r : z_Res} {h : z_H} {x0 : Nat} {x1 : Int32} {x2 : Int32} {x3 : Int32} (hJ : z_J G d (m_X8_steps pu) r 0 [some (.ref x0), some (.int x1), some (.int x2), some (.int x3), none, none] [] h) : z_Ev G d k_X8_steps [.ref x0, .int x1, .int x2, .int x3] h r := z_enter (μ := m_X8_steps pu) rfl (by decide) rfl rfl (fun q => by cases q) (Nat.le_of_ble_eq_true rfl) hJ
def hd_X8_steps : Nat → Option (List Bool) := (fun k => (cond (Nat.blt k 40) (cond (Nat.beq k 6) (some [true, false, true, true, true, true]) none) none))
set_option maxRecDepth 20000 in
theorem b_X8_steps_0 {G : z_G} {d : Nat} {r : z_Res} (hPu : z_PuV G d (t_X8 z_pu0)) {h : z_H} {x0 : Nat} {x1 : Int32} {x2 : Int32} {x3 : Int32} (hT : (z_J G (d + 1) (m_X8_steps z_pu0) r) 6 [some (.ref x0), none, some (.int x2), some (.int x3), some (.int x1), some (.int (nI 0))] [] h) : (z_J G (d + 1) (m_X8_steps z_pu0) r) 0 [some (.ref x0), some (.int x1), some (.int x2), some (.int x3), none, none] [] h := z_bq (v_X8 z_pu0 (vP_X8_steps z_pu0) hPu) hd_X8_steps 7 hT
set_option maxRecDepth 20000 in
theorem b_X8_steps_6 {G : z_G} {d : Nat} {r : z_Res} (hPu : z_PuV G d (t_X8 z_pu0)) {h : z_H} {x0 : Nat} {x2 : Int32} {x3 : Int32} {x4 : Int32} {x5 : Int32} (hT : (if (nI 8) < x5 then r = (.inl (some (.int mI)), h) else (if (x4 &&& x2) = (nI 0) then (z_kd h x0 = 24 ∧ ∃ x_2 h_1, z_Ev G d k_X8_spreadOut [.ref x0, .int x4, .int x3] h (.inl (some (.int x_2)), h_1) ∧ (z_J G (d + 1) (m_X8_steps z_pu0) r) 6 [some (.ref x0), none, some (.int x2), some (.int x3), some (.int x_2), some (.int (x5 + (nI 1)))] [] h_1) else r = (.inl (some (.int x5)), h)))) : (z_J G (d + 1) (m_X8_steps z_pu0) r) 6 [some (.ref x0), none, some (.int x2), some (.int x3), some (.int x4), some (.int x5)] [] h := z_bq (v_X8 z_pu0 (vP_X8_steps z_pu0) hPu) hd_X8_steps 17 hT
/-! THE CLASS: a scheme's object at q, its rows from b on -/
def sc_sh (q b m : Nat) (h : z_H) : Prop := z_kd h q = 24 ∧ (z_or h q 5 = some b ∧ z_kd h b = 1 ∧ z_ln h b = 8) ∧ (z_or h q 6 = some (b + 1) ∧ z_kd h (b + 1) = 1 ∧ z_ln h (b + 1) = 8) ∧ (z_or h q 7 = some (b + 2) ∧ z_kd h (b + 2) = 1 ∧ z_ln h (b + 2) = 64) ∧ (z_or h q 9 = some (b + 3) ∧ z_kd h (b + 3) = 1 ∧ z_ln h (b + 3) = 8) ∧ (z_or h q 2 = some (b + 5) ∧ z_kd h (b + 5) = 1 ∧ z_ln h (b + 5) = m) ∧ (z_or h q 3 = some (b + 6) ∧ z_kd h (b + 6) = 1 ∧ z_ln h (b + 6) = m) ∧ (z_or h q 4 = some (b + 7) ∧ z_kd h (b + 7) = 1 ∧ z_ln h (b + 7) = m)
def sc_at (q b : Nat) (h : z_H) (S : Sc) : Prop := sc_sh q b S.2.1 h ∧ c_sok S ∧ z_oi h q 0 = nI S.1 ∧ z_oi h q 1 = nI S.2.1 ∧ (∀ l, l < S.2.1 → z_ai h (b + 5) l = nI (S.2.2 l) ∧ z_ai h (b + 6) l = nI (n_pc (S.2.2 l)) ∧ z_ai h (b + 7) l = nI (n_tz (S.2.2 l))) ∧ (∀ p, p < 8 → z_ai h b p = nI (n_pc (c_on S p)) ∧ z_ai h (b + 1) p = nI (c_on S p)) ∧ ∀ p r, p < 8 → r < 8 → z_ai h (b + 2) (8 * p + r) = if p = r then mI else c_ofI S (2 ^ p ||| 2 ^ r)
section EA
variable {G : z_G} {d q b : Nat} {h : z_H} {S : Sc}
theorem y_kd (hA : sc_at q b h S) : z_kd h q = 24 := hA.1.1
theorem y_n (hA : sc_at q b h S) : z_oi h q 0 = nI S.1 := hA.2.2.1
theorem y_m (hA : sc_at q b h S) : z_oi h q 1 = nI S.2.1 := hA.2.2.2.1
theorem y_n8 (hA : sc_at q b h S) : 1 ≤ S.1 ∧ S.1 ≤ 8 := hA.2.1.1
theorem y_m12 (hA : sc_at q b h S) : S.2.1 ≤ 12 := hA.2.1.2.1
theorem y_deg (hA : sc_at q b h S) : z_or h q 5 = some b ∧ z_kd h b = 1 ∧ z_ln h b = 8 := hA.1.2.1
theorem y_on (hA : sc_at q b h S) : z_or h q 6 = some (b + 1) ∧ z_kd h (b + 1) = 1 ∧ z_ln h (b + 1) = 8 := hA.1.2.2.1
theorem y_join (hA : sc_at q b h S) : z_or h q 7 = some (b + 2) ∧ z_kd h (b + 2) = 1 ∧ z_ln h (b + 2) = 64 := hA.1.2.2.2.1
theorem y_orb (hA : sc_at q b h S) : z_or h q 9 = some (b + 3) ∧ z_kd h (b + 3) = 1 ∧ z_ln h (b + 3) = 8 := hA.1.2.2.2.2.1
theorem y_row (hA : sc_at q b h S) : z_or h q 2 = some (b + 5) ∧ z_kd h (b + 5) = 1 ∧ z_ln h (b + 5) = S.2.1 := hA.1.2.2.2.2.2.1
theorem y_size (hA : sc_at q b h S) : z_or h q 3 = some (b + 6) ∧ z_kd h (b + 6) = 1 ∧ z_ln h (b + 6) = S.2.1 := hA.1.2.2.2.2.2.2.1
theorem y_first (hA : sc_at q b h S) : z_or h q 4 = some (b + 7) ∧ z_kd h (b + 7) = 1 ∧ z_ln h (b + 7) = S.2.1 := hA.1.2.2.2.2.2.2.2
theorem y_Ln (hA : sc_at q b h S) {l : Nat} (hl : l < S.2.1) : z_ai h (b + 5) l = nI (S.2.2 l) := (hA.2.2.2.2.1 l hl).1
theorem y_Sz (hA : sc_at q b h S) {l : Nat} (hl : l < S.2.1) : z_ai h (b + 6) l = nI (n_pc (S.2.2 l)) := (hA.2.2.2.2.1 l hl).2.1
theorem y_Ft (hA : sc_at q b h S) {l : Nat} (hl : l < S.2.1) : z_ai h (b + 7) l = nI (n_tz (S.2.2 l)) := (hA.2.2.2.2.1 l hl).2.2
theorem y_Dg (hA : sc_at q b h S) {p : Nat} (hp : p < 8) : z_ai h b p = nI (n_pc (c_on S p)) := (hA.2.2.2.2.2.1 p hp).1
theorem y_On (hA : sc_at q b h S) {p : Nat} (hp : p < 8) : z_ai h (b + 1) p = nI (c_on S p) := (hA.2.2.2.2.2.1 p hp).2
theorem y_256 (hA : sc_at q b h S) (l : Nat) : S.2.2 l < 256 := sok_256 hA.2.1 l
theorem e8_flags (hA : sc_at q b h S) : z_Ev G (d + 4) k_X8_flags [.ref q] h (.inl (some (.int (nI (c_flags S)))), h) := by
  have hm := y_m12 hA
  refine en_X8_flags (b_X8_flags_0 (z_pu0V rfl) ?_)
  refine z_for (fun l x => [some (.ref q), some (.int (nI x)), some (.int (nI l))]) (fun l n => n + n_pc (S.2.2 l)) 0 S.2.1 ?_ ?_
  · intro l hl hJ
    refine b_X8_flags_4 (z_pu0V rfl) ?_
    simp (disch := omega) only [l0, l1, l2, l3, l4, l5, l6, l7, l8, l9, l10, l11, l12, l13, l14, l15, l16, l18, l20, l22, l24, l30, l31, l39, l40, l48, l60, l154, l255, l256, l400, l2000, l6160, l14000, lm1, q_lt, q_le, q_eq, q_mI, q_mI', q_ltmI, q_in, q_bz0, q_bz1, q_bzn0, q_bzn1, q_bzb, q_bn0, q_bn1, q_shr, q_shl, q_1s, b_one, b_two, fa_and, fa_or, nI_add, n_mul, nI_clamp, z_rcs, true_and, and_true, if_true, if_false, y_kd hA, y_n hA, y_m hA, (y_row hA).1, (y_row hA).2.1, (y_row hA).2.2, (y_size hA).1, (y_size hA).2.1, (y_size hA).2.2, (y_first hA).1, (y_first hA).2.1, (y_first hA).2.2, (y_deg hA).1, (y_deg hA).2.1, (y_deg hA).2.2, (y_on hA).1, (y_on hA).2.1, (y_on hA).2.2, (y_join hA).1, (y_join hA).2.1, (y_join hA).2.2, y_Ln hA, y_Sz hA, y_Ft hA, y_Dg hA, y_On hA, hl]
    exact hJ
  · refine b_X8_flags_4 (z_pu0V rfl) ?_
    simp (disch := omega) only [l0, l1, l2, l3, l4, l5, l6, l7, l8, l9, l10, l11, l12, l13, l14, l15, l16, l18, l20, l22, l24, l30, l31, l39, l40, l48, l60, l154, l255, l256, l400, l2000, l6160, l14000, lm1, q_lt, q_le, q_eq, q_mI, q_mI', q_ltmI, q_in, q_bz0, q_bz1, q_bzn0, q_bzn1, q_bzb, q_bn0, q_bn1, q_shr, q_shl, q_1s, b_one, b_two, fa_and, fa_or, nI_add, n_mul, nI_clamp, z_rcs, true_and, and_true, if_true, if_false, y_kd hA, y_n hA, y_m hA, (y_row hA).1, (y_row hA).2.1, (y_row hA).2.2, (y_size hA).1, (y_size hA).2.1, (y_size hA).2.2, (y_first hA).1, (y_first hA).2.1, (y_first hA).2.2, (y_deg hA).1, (y_deg hA).2.1, (y_deg hA).2.2, (y_on hA).1, (y_on hA).2.1, (y_on hA).2.2, (y_join hA).1, (y_join hA).2.1, (y_join hA).2.2, y_Ln hA, y_Sz hA, y_Ft hA, y_Dg hA, y_On hA, Nat.lt_irrefl]
    rfl
theorem e8_firstSize (hA : sc_at q b h S) : z_Ev G (d + 4) k_X8_firstSize [.ref q] h (.inl (some (.int (nI (if S.2.1 = 0 then 0 else n_pc (S.2.2 0))))), h) := by
  have hm := y_m12 hA
  refine en_X8_firstSize (b_X8_firstSize_0 (z_pu0V rfl) ?_)
  by_cases c : S.2.1 = 0
  · simp (disch := omega) only [l0, l1, l2, l3, l4, l5, l6, l7, l8, l9, l10, l11, l12, l13, l14, l15, l16, l18, l20, l22, l24, l30, l31, l39, l40, l48, l60, l154, l255, l256, l400, l2000, l6160, l14000, lm1, q_lt, q_le, q_eq, q_mI, q_mI', q_ltmI, q_in, q_bz0, q_bz1, q_bzn0, q_bzn1, q_bzb, q_bn0, q_bn1, q_shr, q_shl, q_1s, b_one, b_two, fa_and, fa_or, nI_add, n_mul, nI_clamp, z_rcs, true_and, and_true, if_true, if_false, y_kd hA, y_n hA, y_m hA, (y_row hA).1, (y_row hA).2.1, (y_row hA).2.2, (y_size hA).1, (y_size hA).2.1, (y_size hA).2.2, (y_first hA).1, (y_first hA).2.1, (y_first hA).2.2, (y_deg hA).1, (y_deg hA).2.1, (y_deg hA).2.2, (y_on hA).1, (y_on hA).2.1, (y_on hA).2.2, (y_join hA).1, (y_join hA).2.1, (y_join hA).2.2, y_Ln hA, y_Sz hA, y_Ft hA, y_Dg hA, y_On hA, c]
  · simp (disch := omega) only [l0, l1, l2, l3, l4, l5, l6, l7, l8, l9, l10, l11, l12, l13, l14, l15, l16, l18, l20, l22, l24, l30, l31, l39, l40, l48, l60, l154, l255, l256, l400, l2000, l6160, l14000, lm1, q_lt, q_le, q_eq, q_mI, q_mI', q_ltmI, q_in, q_bz0, q_bz1, q_bzn0, q_bzn1, q_bzb, q_bn0, q_bn1, q_shr, q_shl, q_1s, b_one, b_two, fa_and, fa_or, nI_add, n_mul, nI_clamp, z_rcs, true_and, and_true, if_true, if_false, y_kd hA, y_n hA, y_m hA, (y_row hA).1, (y_row hA).2.1, (y_row hA).2.2, (y_size hA).1, (y_size hA).2.1, (y_size hA).2.2, (y_first hA).1, (y_first hA).2.1, (y_first hA).2.2, (y_deg hA).1, (y_deg hA).2.1, (y_deg hA).2.2, (y_on hA).1, (y_on hA).2.1, (y_on hA).2.2, (y_join hA).1, (y_join hA).2.1, (y_join hA).2.2, y_Ln hA, y_Sz hA, y_Ft hA, y_Dg hA, y_On hA, c]
def g_tri (x y z : Nat) : Bool := decide (x &&& y ≠ 0 ∧ x &&& z ≠ 0 ∧ y &&& z ≠ 0 ∧ x &&& y &&& z = 0)
theorem e8_isTriangle {x y z : Nat} (hx : x < 256) (hy : y < 256) : z_Ev G (d + 4) k_X8_isTriangle [.int (nI x), .int (nI y), .int (nI z)] h (.inl (some (.int (nI (g_tri x y z).toNat))), h) := by
  have l1 := and_lt256 (b := y) hx
  have l2 := and_lt256 (b := z) hx
  have l3 := and_lt256 (b := z) hy
  have l4 := and_lt256 (b := z) l1
  refine en_X8_isTriangle (b_X8_isTriangle_0 (z_pu0V rfl) ?_)
  unfold g_tri
  simp (disch := omega) only [l0, l1, l2, l3, l4, l5, l6, l7, l8, l9, l10, l11, l12, l13, l14, l15, l16, l18, l20, l22, l24, l30, l31, l39, l40, l48, l60, l154, l255, l256, l400, l2000, l6160, l14000, lm1, q_lt, q_le, q_eq, q_mI, q_mI', q_ltmI, q_in, q_bz0, q_bz1, q_bzn0, q_bzn1, q_bzb, q_bn0, q_bn1, q_shr, q_shl, q_1s, b_one, b_two, fa_and, fa_or, nI_add, n_mul, nI_clamp, z_rcs, true_and, and_true, if_true, if_false]
  by_cases c1 : x &&& y = 0
  · rw [if_pos c1, decide_eq_false (fun e => e.1 c1)]; rfl
  rw [if_neg c1]
  by_cases c2 : x &&& z = 0
  · rw [if_pos c2, decide_eq_false (fun e => e.2.1 c2)]; rfl
  rw [if_neg c2]
  by_cases c3 : y &&& z = 0
  · rw [if_pos c3, decide_eq_false (fun e => e.2.2.1 c3)]; rfl
  rw [if_neg c3]
  by_cases c4 : x &&& y &&& z = 0
  · rw [if_pos c4, decide_eq_true ⟨c1, c2, c3, c4⟩]; rfl
  · rw [if_neg c4, decide_eq_false (fun e => c4 e.2.2.2)]; rfl
def g_tris (S : Sc) : Nat := it (fun a n => itr (fun b n => itr (fun c n => n + (g_tri (S.2.2 a) (S.2.2 b) (S.2.2 c)).toNat) n (b + 1) S.2.1) n (a + 1) S.2.1) 0 S.2.1
theorem e8_trianglesOf {a0 : Nat} (h1 : z_kd h a0 = 1) (h2 : S.2.1 ≤ z_ln h a0) (h3 : z_ln h a0 < 2 ^ 31) (hm : S.2.1 ≤ 12) (hl : ∀ l, l < S.2.1 → z_ai h a0 l = nI (S.2.2 l) ∧ S.2.2 l < 256) : z_Ev G (d + 5) k_X8_trianglesOf [.ref a0, .int (nI S.2.1)] h (.inl (some (.int (nI (g_tris S)))), h) := by
  have vi : ∀ l, l < S.2.1 → vp_in (nI l) (z_ln h a0) := fun l hl => vp_in_nI (Nat.lt_of_lt_of_le hl h2) h3
  refine en_X8_trianglesOf (b_X8_trianglesOf_0 (z_pu0V rfl) ?_)
  refine z_for (fun l x => [some (.ref a0), some (.int (nI S.2.1)), some (.int (nI x)), some (.int (nI l)), none, none]) (fun a n => itr (fun b n => itr (fun c n => n + (g_tri (S.2.2 a) (S.2.2 b) (S.2.2 c)).toNat) n (b + 1) S.2.1) n (a + 1) S.2.1) 0 S.2.1 ?_ ?_
  · intro a ha hJ
    refine b_X8_trianglesOf_4 (z_pu0V rfl) ?_
    rw [if_pos (nI_lt ha (by omega)), nI_add]
    refine z_for (fun k x => [some (.ref a0), some (.int (nI S.2.1)), some (.int (nI x)), some (.int (nI a)), some (.int (nI (a + 1 + k))), none]) (fun k n => itr (fun c n => n + (g_tri (S.2.2 a) (S.2.2 (a + 1 + k)) (S.2.2 c)).toNat) n (a + 1 + k + 1) S.2.1) _ (S.2.1 - (a + 1)) ?_ ?_
    · intro k hk hJ2
      refine b_X8_trianglesOf_14 (z_pu0V rfl) ?_
      rw [if_pos (nI_lt (by omega) (by omega)), nI_add]
      refine z_for (fun j x => [some (.ref a0), some (.int (nI S.2.1)), some (.int (nI x)), some (.int (nI a)), some (.int (nI (a + 1 + k))), some (.int (nI (a + 1 + k + 1 + j)))]) (fun j n => n + (g_tri (S.2.2 a) (S.2.2 (a + 1 + k)) (S.2.2 (a + 1 + k + 1 + j))).toNat) _ (S.2.1 - (a + 1 + k + 1)) ?_ ?_
      · intro j hj hJ3
        refine b_X8_trianglesOf_26 (z_pu0V rfl) ?_
        rw [if_pos (nI_lt (by omega) (by omega)), nI_clamp (by omega), nI_clamp (by omega), nI_clamp (by omega), (hl a ha).1, (hl (a + 1 + k) (by omega)).1, (hl (a + 1 + k + 1 + j) (by omega)).1]
        refine ⟨h1, vi _ (by omega), h1, vi _ (by omega), h1, vi _ (by omega), _, _, e8_isTriangle (hl a ha).2 (hl (a + 1 + k) (by omega)).2, ?_⟩
        cases c : g_tri (S.2.2 a) (S.2.2 (a + 1 + k)) (S.2.2 (a + 1 + k + 1 + j))
        · rw [c] at hJ3
          rw [if_pos (by rfl), nI_add]; exact hJ3
        · rw [c] at hJ3
          rw [if_neg (by decide), nI_add, nI_add]; exact hJ3
      · refine b_X8_trianglesOf_26 (z_pu0V rfl) ?_
        rw [if_neg (nI_nlt (by omega) (by omega)), nI_add]
        exact hJ2
    · refine b_X8_trianglesOf_14 (z_pu0V rfl) ?_
      rw [if_neg (nI_nlt (by omega) (by omega)), nI_add]
      exact hJ
  · refine b_X8_trianglesOf_4 (z_pu0V rfl) ?_
    rw [if_neg (nI_nlt (Nat.le_refl _) (by omega))]
    rfl
theorem e8_triangles (hA : sc_at q b h S) : z_Ev G (d + 6) k_X8_triangles [.ref q] h (.inl (some (.int (nI (g_tris S)))), h) := by
  refine en_X8_triangles (b_X8_triangles_0 (z_pu0V rfl) ?_)
  rw [(y_row hA).1, z_rcs, y_m hA]
  exact ⟨y_kd hA, y_kd hA, _, _, e8_trianglesOf (y_row hA).2.1 (by rw [(y_row hA).2.2]; exact Nat.le_refl _) (by rw [(y_row hA).2.2]; have := y_m12 hA; omega) (y_m12 hA) (fun l hl => ⟨y_Ln hA hl, y_256 hA l⟩), rfl⟩
theorem e8_apart (hA : sc_at q b h S) : z_Ev G (d + 4) k_X8_apart [.ref q] h (.inl (some (.int (nI (c_apart S)))), h) := by
  have hm := y_m12 hA
  refine en_X8_apart (b_X8_apart_0 (z_pu0V rfl) ?_)
  refine z_for (fun l x => [some (.ref q), some (.int (nI x)), some (.int (nI l)), none]) (fun a n => itr (fun b n => n + (decide (S.2.2 a &&& S.2.2 b = 0)).toNat) n (a + 1) S.2.1) 0 S.2.1 ?_ ?_
  · intro a ha hJ
    refine b_X8_apart_4 (z_pu0V rfl) ⟨y_kd hA, ?_⟩
    rw [y_m hA, if_pos (nI_lt ha (by omega)), nI_add]
    refine z_for (fun k x => [some (.ref q), some (.int (nI x)), some (.int (nI a)), some (.int (nI (a + 1 + k)))]) (fun k n => n + (decide (S.2.2 a &&& S.2.2 (a + 1 + k) = 0)).toNat) _ (S.2.1 - (a + 1)) ?_ ?_
    · intro k hk hJ2
      have hl := and_lt256 (b := S.2.2 (a + 1 + k)) (y_256 hA a)
      refine b_X8_apart_16 (z_pu0V rfl) ?_
      have hk2 : a + 1 + k < S.2.1 := by omega
      simp (disch := omega) only [l0, l1, l2, l3, l4, l5, l6, l7, l8, l9, l10, l11, l12, l13, l14, l15, l16, l18, l20, l22, l24, l30, l31, l39, l40, l48, l60, l154, l255, l256, l400, l2000, l6160, l14000, lm1, q_lt, q_le, q_eq, q_mI, q_mI', q_ltmI, q_in, q_bz0, q_bz1, q_bzn0, q_bzn1, q_bzb, q_bn0, q_bn1, q_shr, q_shl, q_1s, b_one, b_two, fa_and, fa_or, nI_add, n_mul, nI_clamp, z_rcs, true_and, and_true, if_true, if_false, y_kd hA, y_n hA, y_m hA, (y_row hA).1, (y_row hA).2.1, (y_row hA).2.2, (y_size hA).1, (y_size hA).2.1, (y_size hA).2.2, (y_first hA).1, (y_first hA).2.1, (y_first hA).2.2, (y_deg hA).1, (y_deg hA).2.1, (y_deg hA).2.2, (y_on hA).1, (y_on hA).2.1, (y_on hA).2.2, (y_join hA).1, (y_join hA).2.1, (y_join hA).2.2, y_Ln hA, y_Sz hA, y_Ft hA, y_Dg hA, y_On hA, ha, hk2]
      by_cases hc : S.2.2 a &&& S.2.2 (a + 1 + k) = 0
      · rw [decide_eq_true hc] at hJ2
        rw [if_pos hc]; exact hJ2
      · rw [decide_eq_false hc] at hJ2
        rw [if_neg hc]; exact hJ2
    · refine b_X8_apart_16 (z_pu0V rfl) ⟨y_kd hA, ?_⟩
      rw [y_m hA, if_neg (nI_nlt (by omega) (by omega)), nI_add]
      exact hJ
  · refine b_X8_apart_4 (z_pu0V rfl) ⟨y_kd hA, ?_⟩
    rw [y_m hA, if_neg (nI_nlt (Nat.le_refl _) (by omega))]; rfl
/-- one step out, without a line -/
def g_spr (S : Sc) (bar : Option Nat) (x : Nat) : Nat := it (fun l y => if bar = some l ∨ S.2.2 l &&& x = 0 then y else y ||| S.2.2 l) x S.2.1
def oI (o : Option Nat) : Int32 := match o with
  | none => mI
  | some l => nI l
theorem spr_lt (hA : sc_at q b h S) {bar : Option Nat} {x : Nat} (hx : x < 256) : ∀ k, it (fun l y => if bar = some l ∨ S.2.2 l &&& x = 0 then y else y ||| S.2.2 l) x k < 256 := by
  refine it_bd (P := fun x => x < 256) hx (fun l y hy => ?_)
  split
  · exact hy
  · exact or_lt256 hy (y_256 hA l)
theorem e8_spreadOut (hA : sc_at q b h S) {bar : Option Nat} (hb : ∀ l, bar = some l → l < 12) {x : Nat} (hx : x < 256) : z_Ev G (d + 4) k_X8_spreadOut [.ref q, .int (nI x), .int (oI bar)] h (.inl (some (.int (nI (g_spr S bar x)))), h) := by
  have hm := y_m12 hA
  refine en_X8_spreadOut (b_X8_spreadOut_0 (z_pu0V rfl) ?_)
  refine z_for (fun l y => [some (.ref q), some (.int (nI x)), some (.int (oI bar)), some (.int (nI y)), some (.int (nI l))]) (fun l y => if bar = some l ∨ S.2.2 l &&& x = 0 then y else y ||| S.2.2 l) x S.2.1 ?_ ?_
  · intro l hl hJ
    have h2 := and_lt256 (b := x) (y_256 hA l)
    refine b_X8_spreadOut_5 (z_pu0V rfl) ⟨y_kd hA, ?_⟩
    rw [y_m hA, if_pos (nI_lt hl (by omega)), (y_row hA).1, z_rcs, z_rcs, nI_clamp (by omega), y_Ln hA hl, fa_and, fa_or, nI_add]
    have e1 : (nI l = oI bar) = (bar = some l) := by
      cases bar with
      | none =>
        refine propext ⟨fun e => (by have e2 : nI l = mI := e; rw [q_mI (a := l) (by omega)] at e2; exact e2.elim), fun e => by cases e⟩
      | some k =>
        have hk := hb k rfl
        refine propext ⟨fun e => by rw [(nI_eq (by omega) (by omega)).mp e], fun e => by cases e; rfl⟩
    by_cases c1 : bar = some l
    · rw [if_pos (by rw [e1]; exact c1)]
      rw [if_pos (Or.inl c1)] at hJ
      exact hJ
    · rw [if_neg (by rw [e1]; exact c1)]
      refine ⟨y_kd hA, (y_row hA).2.1, by rw [(y_row hA).2.2]; exact vp_in_nI hl (by omega), ?_⟩
      by_cases c2 : S.2.2 l &&& x = 0
      · rw [if_pos (by rw [c2])]
        rw [if_pos (Or.inr c2)] at hJ
        exact hJ
      · rw [if_neg (fun e => c2 ((nI_eq (by omega) (by omega)).mp e))]
        rw [if_neg (fun e => e.elim c1 c2)] at hJ
        exact ⟨y_kd hA, (y_row hA).2.1, by rw [(y_row hA).2.2]; exact vp_in_nI hl (by omega), hJ⟩
  · refine b_X8_spreadOut_5 (z_pu0V rfl) ⟨y_kd hA, ?_⟩
    rw [y_m hA, if_neg (nI_nlt (Nat.le_refl _) (by omega))]; rfl
theorem g_spr_lt (hA : sc_at q b h S) {bar : Option Nat} {x : Nat} (hx : x < 256) : g_spr S bar x < 256 := spr_lt hA hx _
def g_piece (S : Sc) (p : Nat) : Nat := it (fun _ x => g_spr S none x) (2 ^ p) 8
theorem e8_piece (hA : sc_at q b h S) {p : Nat} (hp : p < 8) : z_Ev G (d + 5) k_X8_piece [.ref q, .int (nI p)] h (.inl (some (.int (nI (g_piece S p)))), h) := by
  refine en_X8_piece (b_X8_piece_0 (z_pu0V rfl) ?_)
  rw [show nI 1 <<< (nI p &&& nI 31) = nI (2 ^ p) from n_one (by omega)]
  have hb : ∀ k, it (fun _ x => g_spr S none x) (2 ^ p) k < 256 := it_bd (P := fun x => x < 256) (t_pow hp) (fun _ x hx => g_spr_lt hA hx)
  refine z_for (fun l x => [some (.ref q), none, some (.int (nI x)), some (.int (nI l))]) (fun _ x => g_spr S none x) (2 ^ p) 8 ?_ ?_
  · intro l hl hJ
    refine b_X8_piece_6 (z_pu0V rfl) ?_
    rw [if_pos (nI_lt hl (by decide)), nI_add]
    exact ⟨y_kd hA, _, _, e8_spreadOut (bar := none) hA (fun l e => by cases e) (hb l), hJ⟩
  · refine b_X8_piece_6 (z_pu0V rfl) ?_
    rw [if_neg (nI_nlt (Nat.le_refl _) (by decide))]; rfl
end EA
