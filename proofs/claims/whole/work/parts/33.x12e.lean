theorem en_X12_strays {pu : Nat → Option ((List Value → z_H → Prop) × (List Value → z_H → Int32))} {G : z_G} {d : Nat} {r : z_Res} {h : z_H} {x0 : Nat} (hJ : z_J G d (m_X12_strays pu) r 0 [some (.ref x0), none, none, none, none] [] h) : z_Ev G d k_X12_strays [.ref x0] h r := z_enter (μ := m_X12_strays pu) rfl (by decide) rfl rfl (fun q => by cases q) (Nat.le_of_ble_eq_true rfl) hJ
def hd_X12_strays : Nat → Option (List Bool) := (fun k => (cond (Nat.blt k 87) (cond (Nat.blt k 14) (cond (Nat.beq k 4) (some [true, true, true, false, false]) none) (cond (Nat.blt k 22) (cond (Nat.beq k 14) (some [true, true, true, true, false]) none) (cond (Nat.beq k 22) (some [true, true, true, true, true]) none))) none))
set_option maxRecDepth 20000 in
theorem b_X12_strays_0 {G : z_G} {d : Nat} {r : z_Res} (hPu : z_PuV G d (t_X12 z_puC)) {h : z_H} {x0 : Nat} (hT : (z_J G (d + 1) (m_X12_strays z_puC) r) 4 [some (.ref x0), some (.int (0 : Int32)), some (.int (0 : Int32)), none, none] [] h) : (z_J G (d + 1) (m_X12_strays z_puC) r) 0 [some (.ref x0), none, none, none, none] [] h := z_bq (v_X12 z_puC (vP_X12_strays z_puC) hPu) hd_X12_strays 7 hT
set_option maxRecDepth 20000 in
theorem b_X12_strays_4 {G : z_G} {d : Nat} {r : z_Res} (hPu : z_PuV G d (t_X12 z_puC)) {h : z_H} {x0 : Nat} {x1 : Int32} {x2 : Int32} (hT : (z_kd h x0 = 28 ∧ s_X12_points x0 h ∧ (if x2 < (f_X12_points x0 h) then (z_J G (d + 1) (m_X12_strays z_puC) r) 14 [some (.ref x0), some (.int x1), some (.int x2), some (.int (0 : Int32)), none] [] h else r = (.inl (some (.int x1)), h)))) : (z_J G (d + 1) (m_X12_strays z_puC) r) 4 [some (.ref x0), some (.int x1), some (.int x2), none, none] [] h := z_bq (v_X12 z_puC (vP_X12_strays z_puC) hPu) hd_X12_strays 9 hT
set_option maxRecDepth 20000 in
theorem b_X12_strays_14 {G : z_G} {d : Nat} {r : z_Res} (hPu : z_PuV G d (t_X12 z_puC)) {h : z_H} {x0 : Nat} {x1 : Int32} {x2 : Int32} {x3 : Int32} (hT : (if x3 < x2 then (z_J G (d + 1) (m_X12_strays z_puC) r) 22 [some (.ref x0), some (.int x1), some (.int x2), some (.int x3), some (.int (0 : Int32))] [] h else (z_J G (d + 1) (m_X12_strays z_puC) r) 4 [some (.ref x0), some (.int x1), some (.int (x2 + (1 : Int32))), none, none] [] h)) : (z_J G (d + 1) (m_X12_strays z_puC) r) 14 [some (.ref x0), some (.int x1), some (.int x2), some (.int x3), none] [] h := z_bq (v_X12 z_puC (vP_X12_strays z_puC) hPu) hd_X12_strays 8 hT
set_option maxRecDepth 20000 in
theorem b_X12_strays_22 {G : z_G} {d : Nat} {r : z_Res} (hPu : z_PuV G d (t_X12 z_puC)) {h : z_H} {x0 : Nat} {x1 : Int32} {x2 : Int32} {x3 : Int32} {x4 : Int32} (hT : (if x4 < x3 then (z_kd h x0 = 28 ∧ s_X12_lineOf x0 ((((1 : Int32) <<< (x2 &&& 31)) ||| ((1 : Int32) <<< (x3 &&& 31))) ||| ((1 : Int32) <<< (x4 &&& 31))) h ∧ (if (f_X12_lineOf x0 ((((1 : Int32) <<< (x2 &&& 31)) ||| ((1 : Int32) <<< (x3 &&& 31))) ||| ((1 : Int32) <<< (x4 &&& 31))) h) = (-1 : Int32) then (z_kd h x0 = 28 ∧ s_X12_areInLineAt x0 x2 x3 x4 h ∧ (if (f_X12_areInLineAt x0 x2 x3 x4 h) = 0 then (z_J G (d + 1) (m_X12_strays z_puC) r) 22 [some (.ref x0), some (.int (x1 + (0 : Int32))), some (.int x2), some (.int x3), some (.int (x4 + (1 : Int32)))] [] h else (z_J G (d + 1) (m_X12_strays z_puC) r) 22 [some (.ref x0), some (.int (x1 + (1 : Int32))), some (.int x2), some (.int x3), some (.int (x4 + (1 : Int32)))] [] h)) else (z_J G (d + 1) (m_X12_strays z_puC) r) 22 [some (.ref x0), some (.int (x1 + (0 : Int32))), some (.int x2), some (.int x3), some (.int (x4 + (1 : Int32)))] [] h)) else (z_J G (d + 1) (m_X12_strays z_puC) r) 14 [some (.ref x0), some (.int x1), some (.int x2), some (.int (x3 + (1 : Int32))), none] [] h)) : (z_J G (d + 1) (m_X12_strays z_puC) r) 22 [some (.ref x0), some (.int x1), some (.int x2), some (.int x3), some (.int x4)] [] h := z_bq (v_X12 z_puC (vP_X12_strays z_puC) hPu) hd_X12_strays 34 hT
theorem en_X12_compare {pu : Nat → Option ((List Value → z_H → Prop) × (List Value → z_H → Int32))} {G : z_G} {d : Nat} {r : z_Res} {h : z_H} {x0 : Nat} {x1 : Nat} {x2 : Int32} (hJ : z_J G d (m_X12_compare pu) r 0 [some (.ref x0), some (.ref x1), some (.int x2), none] [] h) : z_Ev G d k_X12_compare [.ref x0, .ref x1, .int x2] h r := z_enter (μ := m_X12_compare pu) rfl (by decide) rfl rfl (fun q => by cases q) (Nat.le_of_ble_eq_true rfl) hJ
def hd_X12_compare : Nat → Option (List Bool) := (fun k => (cond (Nat.blt k 32) (cond (Nat.beq k 2) (some [true, true, true, true]) none) none))
set_option maxRecDepth 20000 in
theorem b_X12_compare_0 {G : z_G} {d : Nat} {r : z_Res} (hPu : z_PuV G d (t_X12 z_puC)) {h : z_H} {x0 : Nat} {x1 : Nat} {x2 : Int32} (hT : (z_J G (d + 1) (m_X12_compare z_puC) r) 2 [some (.ref x0), some (.ref x1), some (.int x2), some (.int (0 : Int32))] [] h) : (z_J G (d + 1) (m_X12_compare z_puC) r) 0 [some (.ref x0), some (.ref x1), some (.int x2), none] [] h := z_bq (v_X12 z_puC (vP_X12_compare z_puC) hPu) hd_X12_compare 5 hT
set_option maxRecDepth 20000 in
theorem b_X12_compare_2 {G : z_G} {d : Nat} {r : z_Res} (hPu : z_PuV G d (t_X12 z_puC)) {h : z_H} {x0 : Nat} {x1 : Nat} {x2 : Int32} {x3 : Int32} (hT : (if x3 < x2 then (z_kd h x0 = 1 ∧ vp_in x3 (z_ln h x0) ∧ (z_kd h x1 = 1 ∧ vp_in x3 (z_ln h x1) ∧ (if (z_ai h x0 (Int32.toNatClampNeg x3)) = (z_ai h x1 (Int32.toNatClampNeg x3)) then (z_J G (d + 1) (m_X12_compare z_puC) r) 2 [some (.ref x0), some (.ref x1), some (.int x2), some (.int (x3 + (1 : Int32)))] [] h else (z_kd h x0 = 1 ∧ vp_in x3 (z_ln h x0) ∧ (z_kd h x1 = 1 ∧ vp_in x3 (z_ln h x1) ∧ r = (.inl (some (.int ((z_ai h x0 (Int32.toNatClampNeg x3)) - (z_ai h x1 (Int32.toNatClampNeg x3))))), h)))))) else r = (.inl (some (.int (0 : Int32))), h))) : (z_J G (d + 1) (m_X12_compare z_puC) r) 2 [some (.ref x0), some (.ref x1), some (.int x2), some (.int x3)] [] h := z_bq (v_X12 z_puC (vP_X12_compare z_puC) hPu) hd_X12_compare 20 hT
theorem en_X12_cover {pu : Nat → Option ((List Value → z_H → Prop) × (List Value → z_H → Int32))} {G : z_G} {d : Nat} {r : z_Res} {h : z_H} {x0 : Nat} (hJ : z_J G d (m_X12_cover pu) r 0 [some (.ref x0), none, none] [] h) : z_Ev G d k_X12_cover [.ref x0] h r := z_enter (μ := m_X12_cover pu) rfl (by decide) rfl rfl (fun q => by cases q) (Nat.le_of_ble_eq_true rfl) hJ
def hd_X12_cover : Nat → Option (List Bool) := (fun k => (cond (Nat.blt k 51) (cond (Nat.beq k 7) (some [true, true, true]) none) none))
set_option maxRecDepth 20000 in
theorem b_X12_cover_0 {G : z_G} {d : Nat} {r : z_Res} (hPu : z_PuV G d (t_X12 z_puC)) {h : z_H} {x0 : Nat} (hT : (z_kd h x0 = 28 ∧ s_X12_all x0 h ∧ (z_J G (d + 1) (m_X12_cover z_puC) r) 7 [some (.ref x0), some (.int (f_X12_all x0 h)), some (.int (0 : Int32))] [] h)) : (z_J G (d + 1) (m_X12_cover z_puC) r) 0 [some (.ref x0), none, none] [] h := z_bq (v_X12 z_puC (vP_X12_cover z_puC) hPu) hd_X12_cover 8 hT
set_option maxRecDepth 20000 in
theorem b_X12_cover_7 {G : z_G} {d : Nat} {r : z_Res} (hPu : z_PuV G d (t_X12 z_puC)) {h : z_H} {x0 : Nat} {x1 : Int32} {x2 : Int32} (hT : (z_kd h x0 = 28 ∧ s_X12_all x0 h ∧ (if (f_X12_all x0 h) < x2 then r = (.inl (some (.int x1)), h) else (s_X12_bits x2 h ∧ (s_X12_bits x1 h ∧ (if (f_X12_bits x2 h) < (f_X12_bits x1 h) then (z_kd h x0 = 28 ∧ s_X12_all x0 h ∧ (z_kd h x0 = 28 ∧ s_X12_hasLine x0 ((f_X12_all x0 h) &&& (x2 ^^^ (-1 : Int32))) h ∧ (if (f_X12_hasLine x0 ((f_X12_all x0 h) &&& (x2 ^^^ (-1 : Int32))) h) = 0 then (z_J G (d + 1) (m_X12_cover z_puC) r) 7 [some (.ref x0), some (.int x2), some (.int (x2 + (1 : Int32)))] [] h else (z_J G (d + 1) (m_X12_cover z_puC) r) 7 [some (.ref x0), some (.int x1), some (.int (x2 + (1 : Int32)))] [] h))) else (z_J G (d + 1) (m_X12_cover z_puC) r) 7 [some (.ref x0), some (.int x1), some (.int (x2 + (1 : Int32)))] [] h)))))) : (z_J G (d + 1) (m_X12_cover z_puC) r) 7 [some (.ref x0), some (.int x1), some (.int x2)] [] h := z_bq (v_X12 z_puC (vP_X12_cover z_puC) hPu) hd_X12_cover 25 hT
theorem en_X12_cap {pu : Nat → Option ((List Value → z_H → Prop) × (List Value → z_H → Int32))} {G : z_G} {d : Nat} {r : z_Res} {h : z_H} {x0 : Nat} (hJ : z_J G d (m_X12_cap pu) r 0 [some (.ref x0), none, none] [] h) : z_Ev G d k_X12_cap [.ref x0] h r := z_enter (μ := m_X12_cap pu) rfl (by decide) rfl rfl (fun q => by cases q) (Nat.le_of_ble_eq_true rfl) hJ
def hd_X12_cap : Nat → Option (List Bool) := (fun k => (cond (Nat.blt k 41) (cond (Nat.beq k 4) (some [true, true, true]) none) none))
set_option maxRecDepth 20000 in
theorem b_X12_cap_0 {G : z_G} {d : Nat} {r : z_Res} (hPu : z_PuV G d (t_X12 z_puC)) {h : z_H} {x0 : Nat} (hT : (z_J G (d + 1) (m_X12_cap z_puC) r) 4 [some (.ref x0), some (.int (0 : Int32)), some (.int (1 : Int32))] [] h) : (z_J G (d + 1) (m_X12_cap z_puC) r) 0 [some (.ref x0), none, none] [] h := z_bq (v_X12 z_puC (vP_X12_cap z_puC) hPu) hd_X12_cap 7 hT
set_option maxRecDepth 20000 in
theorem b_X12_cap_4 {G : z_G} {d : Nat} {r : z_Res} (hPu : z_PuV G d (t_X12 z_puC)) {h : z_H} {x0 : Nat} {x1 : Int32} {x2 : Int32} (hT : (z_kd h x0 = 28 ∧ s_X12_all x0 h ∧ (if (f_X12_all x0 h) < x2 then r = (.inl (some (.int x1)), h) else (s_X12_bits x2 h ∧ (s_X12_bits x1 h ∧ (if (f_X12_bits x1 h) < (f_X12_bits x2 h) then (z_kd h x0 = 28 ∧ s_X12_hasLine x0 x2 h ∧ (if (f_X12_hasLine x0 x2 h) = 0 then (z_J G (d + 1) (m_X12_cap z_puC) r) 4 [some (.ref x0), some (.int x2), some (.int (x2 + (1 : Int32)))] [] h else (z_J G (d + 1) (m_X12_cap z_puC) r) 4 [some (.ref x0), some (.int x1), some (.int (x2 + (1 : Int32)))] [] h)) else (z_J G (d + 1) (m_X12_cap z_puC) r) 4 [some (.ref x0), some (.int x1), some (.int (x2 + (1 : Int32)))] [] h)))))) : (z_J G (d + 1) (m_X12_cap z_puC) r) 4 [some (.ref x0), some (.int x1), some (.int x2)] [] h := z_bq (v_X12 z_puC (vP_X12_cap z_puC) hPu) hd_X12_cap 20 hT
theorem en_X12_doesSlip {pu : Nat → Option ((List Value → z_H → Prop) × (List Value → z_H → Int32))} {G : z_G} {d : Nat} {r : z_Res} {h : z_H} {x0 : Nat} {x1 : Int32} (hJ : z_J G d (m_X12_doesSlip pu) r 0 [some (.ref x0), some (.int x1), none, none, none, none] [] h) : z_Ev G d k_X12_doesSlip [.ref x0, .int x1] h r := z_enter (μ := m_X12_doesSlip pu) rfl (by decide) rfl rfl (fun q => by cases q) (Nat.le_of_ble_eq_true rfl) hJ
def hd_X12_doesSlip : Nat → Option (List Bool) := (fun k => (cond (Nat.blt k 107) (cond (Nat.blt k 19) (cond (Nat.beq k 8) (some [true, false, true, true, false, false]) none) (cond (Nat.blt k 56) (cond (Nat.beq k 19) (some [true, false, true, true, true, false]) none) (cond (Nat.beq k 56) (some [true, false, true, true, true, true]) none))) none))
set_option maxRecDepth 20000 in
theorem b_X12_doesSlip_0 {G : z_G} {d : Nat} {r : z_Res} (hPu : z_PuV G d (t_X12 z_puC)) {h : z_H} {x0 : Nat} {x1 : Int32} (hT : (z_kd h x0 = 28 ∧ s_X12_lineAt x0 x1 h ∧ (z_J G (d + 1) (m_X12_doesSlip z_puC) r) 8 [some (.ref x0), none, some (.int (f_X12_lineAt x0 x1 h)), some (.int (0 : Int32)), none, none] [] h)) : (z_J G (d + 1) (m_X12_doesSlip z_puC) r) 0 [some (.ref x0), some (.int x1), none, none, none, none] [] h := z_bq (v_X12 z_puC (vP_X12_doesSlip z_puC) hPu) hd_X12_doesSlip 9 hT
set_option maxRecDepth 20000 in
theorem b_X12_doesSlip_8 {G : z_G} {d : Nat} {r : z_Res} (hPu : z_PuV G d (t_X12 z_puC)) {h : z_H} {x0 : Nat} {x2 : Int32} {x3 : Int32} (hT : (z_kd h x0 = 28 ∧ s_X12_points x0 h ∧ (if x3 < (f_X12_points x0 h) then (z_J G (d + 1) (m_X12_doesSlip z_puC) r) 19 [some (.ref x0), none, some (.int x2), some (.int x3), some (.int (0 : Int32)), none] [] h else (z_bz (0 : Int32) ∧ r = (.inl (some (.int (0 : Int32))), h))))) : (z_J G (d + 1) (m_X12_doesSlip z_puC) r) 8 [some (.ref x0), none, some (.int x2), some (.int x3), none, none] [] h := z_bq (v_X12 z_puC (vP_X12_doesSlip z_puC) hPu) hd_X12_doesSlip 9 hT
set_option maxRecDepth 20000 in
theorem b_X12_doesSlip_19 {G : z_G} {d : Nat} {r : z_Res} (hPu : z_PuV G d (t_X12 z_puC)) {h : z_H} {x0 : Nat} {x2 : Int32} {x3 : Int32} {x4 : Int32} (hT : (if x4 < x3 then (if (((x2 >>> (x3 &&& 31)) &&& (x2 >>> (x4 &&& 31))) &&& (1 : Int32)) = 0 then (z_J G (d + 1) (m_X12_doesSlip z_puC) r) 19 [some (.ref x0), none, some (.int x2), some (.int x3), some (.int (x4 + (1 : Int32))), none] [] h else (z_kd h x0 = 28 ∧ s_X12_areAtOne x0 x3 x4 h ∧ (if (f_X12_areAtOne x0 x3 x4 h) = 0 then (z_J G (d + 1) (m_X12_doesSlip z_puC) r) 56 [some (.ref x0), none, some (.int x2), some (.int x3), some (.int x4), some (.int (0 : Int32))] [] h else (z_bz (1 : Int32) ∧ r = (.inl (some (.int (1 : Int32))), h))))) else (z_J G (d + 1) (m_X12_doesSlip z_puC) r) 8 [some (.ref x0), none, some (.int x2), some (.int (x3 + (1 : Int32))), none, none] [] h)) : (z_J G (d + 1) (m_X12_doesSlip z_puC) r) 19 [some (.ref x0), none, some (.int x2), some (.int x3), some (.int x4), none] [] h := z_bq (v_X12 z_puC (vP_X12_doesSlip z_puC) hPu) hd_X12_doesSlip 23 hT
set_option maxRecDepth 20000 in
theorem b_X12_doesSlip_56 {G : z_G} {d : Nat} {r : z_Res} (hPu : z_PuV G d (t_X12 z_puC)) {h : z_H} {x0 : Nat} {x2 : Int32} {x3 : Int32} {x4 : Int32} {x5 : Int32} (hT : (if x5 < x4 then (if ((x2 >>> (x5 &&& 31)) &&& (1 : Int32)) = (1 : Int32) then (z_kd h x0 = 28 ∧ s_X12_areInLineAt x0 x3 x4 x5 h ∧ (if (f_X12_areInLineAt x0 x3 x4 x5 h) = 0 then (z_bz (1 : Int32) ∧ r = (.inl (some (.int (1 : Int32))), h)) else (z_J G (d + 1) (m_X12_doesSlip z_puC) r) 56 [some (.ref x0), none, some (.int x2), some (.int x3), some (.int x4), some (.int (x5 + (1 : Int32)))] [] h)) else (z_J G (d + 1) (m_X12_doesSlip z_puC) r) 56 [some (.ref x0), none, some (.int x2), some (.int x3), some (.int x4), some (.int (x5 + (1 : Int32)))] [] h) else (z_J G (d + 1) (m_X12_doesSlip z_puC) r) 19 [some (.ref x0), none, some (.int x2), some (.int x3), some (.int (x4 + (1 : Int32))), none] [] h)) : (z_J G (d + 1) (m_X12_doesSlip z_puC) r) 56 [some (.ref x0), none, some (.int x2), some (.int x3), some (.int x4), some (.int x5)] [] h := z_bq (v_X12 z_puC (vP_X12_doesSlip z_puC) hPu) hd_X12_doesSlip 21 hT
theorem en_X12_slips {pu : Nat → Option ((List Value → z_H → Prop) × (List Value → z_H → Int32))} {G : z_G} {d : Nat} {r : z_Res} {h : z_H} {x0 : Nat} (hJ : z_J G d (m_X12_slips pu) r 0 [some (.ref x0), none, none] [] h) : z_Ev G d k_X12_slips [.ref x0] h r := z_enter (μ := m_X12_slips pu) rfl (by decide) rfl rfl (fun q => by cases q) (Nat.le_of_ble_eq_true rfl) hJ
def hd_X12_slips : Nat → Option (List Bool) := (fun k => (cond (Nat.blt k 36) (cond (Nat.beq k 4) (some [true, true, true]) none) none))
set_option maxRecDepth 20000 in
theorem b_X12_slips_0 {G : z_G} {d : Nat} {r : z_Res} (hPu : z_PuV G d (t_X12 z_puC)) {h : z_H} {x0 : Nat} (hT : (z_J G (d + 1) (m_X12_slips z_puC) r) 4 [some (.ref x0), some (.int (0 : Int32)), some (.int (0 : Int32))] [] h) : (z_J G (d + 1) (m_X12_slips z_puC) r) 0 [some (.ref x0), none, none] [] h := z_bq (v_X12 z_puC (vP_X12_slips z_puC) hPu) hd_X12_slips 7 hT
set_option maxRecDepth 20000 in
theorem b_X12_slips_4 {G : z_G} {d : Nat} {r : z_Res} (hPu : z_PuV G d (t_X12 z_puC)) {h : z_H} {x0 : Nat} {x1 : Int32} {x2 : Int32} (hT : (z_kd h x0 = 28 ∧ s_X12_lines x0 h ∧ (if x2 < (f_X12_lines x0 h) then (z_kd h x0 = 28 ∧ ∃ x_2 h_1, z_Ev G d k_X12_doesSlip [.ref x0, .int x2] h (.inl (some (.int x_2)), h_1) ∧ (if x_2 = 0 then (z_J G (d + 1) (m_X12_slips z_puC) r) 4 [some (.ref x0), some (.int (x1 + (0 : Int32))), some (.int (x2 + (1 : Int32)))] [] h_1 else (z_J G (d + 1) (m_X12_slips z_puC) r) 4 [some (.ref x0), some (.int (x1 + (1 : Int32))), some (.int (x2 + (1 : Int32)))] [] h_1)) else r = (.inl (some (.int x1)), h)))) : (z_J G (d + 1) (m_X12_slips z_puC) r) 4 [some (.ref x0), some (.int x1), some (.int x2)] [] h := z_bq (v_X12 z_puC (vP_X12_slips z_puC) hPu) hd_X12_slips 18 hT
theorem it_bdm {α : Type} {P : α → Prop} {f : Nat → α → α} {a : α} {m : Nat} (h0 : P a) (hf : ∀ k x, k < m → P x → P (f k x)) : ∀ k, k ≤ m → P (it f a k)
  | 0, _ => h0
  | k + 1, hk => hf k _ (by omega) (it_bdm h0 hf k (by omega))
/-- three points of a row in line -/
def c_l3 (R : Nat → Int32) (a b c : Nat) : Bool := decide ((R (14 + b) - R (14 + a)) * (R (22 + c) - R (22 + a)) = (R (14 + c) - R (14 + a)) * (R (22 + b) - R (22 + a)))
def c_p2 (R : Nat → Int32) (a b : Nat) : Bool := decide (R (14 + a) = R (14 + b) ∧ R (22 + a) = R (22 + b))
def c_stray (S : Sc) (R : Nat → Int32) (a b c : Nat) : Bool := !decide (c_of S (2 ^ a ||| 2 ^ b ||| 2 ^ c) < S.2.1) && c_l3 R a b c
def c_strays (S : Sc) (R : Nat → Int32) : Nat := it (fun a n => it (fun b n => it (fun c n => n + (c_stray S R a b c).toNat) n b) n a) 0 S.1
def c_cmp (P Q : Nat → Int32) (k : Nat) : Int32 := if fa_first (fun i => decide (P i ≠ Q i)) k < k then P (fa_first (fun i => decide (P i ≠ Q i)) k) - Q (fa_first (fun i => decide (P i ≠ Q i)) k) else 0
def c_cap (S : Sc) : Nat := it (fun k x => if n_pc x < n_pc (1 + k) ∧ c_has S (1 + k) = false then 1 + k else x) 0 (2 ^ S.1 - 1)
def c_cov (S : Sc) : Nat := it (fun k x => if n_pc k < n_pc x ∧ c_has S (2 ^ S.1 - 1 - k) = false then k else x) (2 ^ S.1 - 1) (2 ^ S.1)
theorem n_cpl : ∀ n, n < 9 → ∀ k, k < 256 → k < 2 ^ n → nI (2 ^ n - 1) &&& (nI k ^^^ (-1)) = nI (2 ^ n - 1 - k) := by decide +kernel
theorem n_p8 {n : Nat} (h : n ≤ 8) : 2 ^ n ≤ 256 := Nat.pow_le_pow_right (n := 2) (by decide) h
section CE
variable {G : z_G} {d : Nat} {h : z_H} {M : Nat} {S : Sc}
theorem t_sl3 (hA : z_at M h S) {a b c : Nat} (ha : a < 8) (hb : b < 8) (hc : c < 8) : s_X12_areInLineAt M (nI a) (nI b) (nI c) h := ⟨hA.1, a, b, c, ha, hb, hc, rfl, rfl, rfl⟩
theorem t_l3 {a b c : Nat} (ha : a < 8) (hb : b < 8) (hc : c < 8) : f_X12_areInLineAt M (nI a) (nI b) (nI c) h = nI (c_l3 (z_ai h (M + 1)) a b c).toNat := by
  unfold f_X12_areInLineAt f_X12_areInLine c_l3
  rw [nI_clamp (by omega), nI_clamp (by omega), nI_clamp (by omega)]
  split
  · rename_i e; rw [decide_eq_true e]; rfl
  · rename_i e; rw [decide_eq_false e]; rfl
theorem t_sp2 (hA : z_at M h S) {a b : Nat} (ha : a < 8) (hb : b < 8) : s_X12_areAtOne M (nI a) (nI b) h := ⟨hA.1, a, b, ha, hb, rfl, rfl⟩
theorem t_p2 {a b : Nat} (ha : a < 8) (hb : b < 8) : f_X12_areAtOne M (nI a) (nI b) h = nI (c_p2 (z_ai h (M + 1)) a b).toNat := by
  unfold f_X12_areAtOne c_p2
  rw [nI_clamp (by omega), nI_clamp (by omega)]
  split
  · rename_i e; rw [decide_eq_true e]; rfl
  · rename_i e; rw [decide_eq_false e]; rfl
theorem e_strays (hA : z_at M h S) : z_Ev G (d + 4) k_X12_strays [.ref M] h (.inl (some (.int (nI (c_strays S (z_ai h (M + 1)))))), h) := by
  have hn := t_n8 hA
  refine en_X12_strays (b_X12_strays_0 z_puCV ?_)
  refine z_for (fun l x => [some (.ref M), some (.int (nI x)), some (.int (nI l)), none, none]) (fun a n => it (fun b n => it (fun c n => n + (c_stray S (z_ai h (M + 1)) a b c).toNat) n b) n a) 0 S.1 ?_ ?_
  · intro a ha hJ
    refine b_X12_strays_4 z_puCV ⟨t_kd hA, hA.1, ?_⟩
    rw [t_n hA, if_pos (nI_lt ha (by omega))]
    refine z_for (fun l x => [some (.ref M), some (.int (nI x)), some (.int (nI a)), some (.int (nI l)), none]) (fun b n => it (fun c n => n + (c_stray S (z_ai h (M + 1)) a b c).toNat) n b) _ a ?_ ?_
    · intro b hb hJ2
      refine b_X12_strays_14 z_puCV ?_
      rw [if_pos (nI_lt hb (by omega))]
      refine z_for (fun l x => [some (.ref M), some (.int (nI x)), some (.int (nI a)), some (.int (nI b)), some (.int (nI l))]) (fun c n => n + (c_stray S (z_ai h (M + 1)) a b c).toNat) _ b ?_ ?_
      · intro c hc hJ3
        have hl := or_lt256 (or_lt256 (t_pow (show a < 8 by omega)) (t_pow (show b < 8 by omega))) (t_pow (show c < 8 by omega))
        refine b_X12_strays_22 z_puCV ?_
        rw [if_pos (nI_lt hc (by omega)), n_one (by omega), n_one (by omega), n_one (by omega), fa_or, fa_or, nI_a0, nI_1, nI_1]
        refine ⟨t_kd hA, t_sof hA hl, ?_⟩
        by_cases h1 : c_of S (2 ^ a ||| 2 ^ b ||| 2 ^ c) < S.2.1
        · rw [if_neg (fun e => (t_ofN hA hl).mp e h1)]
          rw [show c_stray S (z_ai h (M + 1)) a b c = false by unfold c_stray; rw [decide_eq_true h1]; rfl] at hJ3
          exact hJ3
        · rw [if_pos ((t_ofN hA hl).mpr h1), t_l3 (by omega) (by omega) (by omega)]
          refine ⟨t_kd hA, t_sl3 hA (by omega) (by omega) (by omega), ?_⟩
          rw [show c_stray S (z_ai h (M + 1)) a b c = c_l3 (z_ai h (M + 1)) a b c by unfold c_stray; rw [decide_eq_false h1]; rfl] at hJ3
          cases h2 : c_l3 (z_ai h (M + 1)) a b c
          · rw [h2] at hJ3
            rw [if_pos (by decide)]; exact hJ3
          · rw [h2] at hJ3
            rw [if_neg (by decide)]; exact hJ3
      · refine b_X12_strays_22 z_puCV ?_
        rw [if_neg (nI_nlt (Nat.le_refl _) (by omega)), nI_1]
        exact hJ2
    · refine b_X12_strays_14 z_puCV ?_
      rw [if_neg (nI_nlt (Nat.le_refl _) (by omega)), nI_1]
      exact hJ
  · refine b_X12_strays_4 z_puCV ⟨t_kd hA, hA.1, ?_⟩
    rw [t_n hA, if_neg (nI_nlt (Nat.le_refl _) (by omega))]; rfl
theorem e_compare {p q k : Nat} (hp : z_kd h p = 1) (hq : z_kd h q = 1) (h1 : k ≤ z_ln h p) (h2 : k ≤ z_ln h q) (h3 : z_ln h p < 2 ^ 31) (h4 : z_ln h q < 2 ^ 31) : z_Ev G (d + 4) k_X12_compare [.ref p, .ref q, .int (nI k)] h (.inl (some (.int (c_cmp (z_ai h p) (z_ai h q) k))), h) := by
  refine en_X12_compare (b_X12_compare_0 z_puCV ?_)
  refine z_fnd (fun l => [some (.ref p), some (.ref q), some (.int (nI k)), some (.int (nI l))]) (fun i => decide (z_ai h p i ≠ z_ai h q i)) k ?_ ?_
  · intro l hl hno hJ
    refine b_X12_compare_2 z_puCV ?_
    have v1 : vp_in (nI l) (z_ln h p) := vp_in_nI (by omega) h3
    have v2 : vp_in (nI l) (z_ln h q) := vp_in_nI (by omega) h4
    rw [if_pos (nI_lt hl (by omega)), nI_clamp (by omega), nI_1]
    refine ⟨hp, v1, hq, v2, ?_⟩
    by_cases hc : z_ai h p l = z_ai h q l
    · rw [if_pos hc]; exact hJ (decide_eq_false (fun e => e hc))
    · rw [if_neg hc]
      refine ⟨hp, v1, hq, v2, ?_⟩
      unfold c_cmp
      rw [fa_first_at hl (decide_eq_true hc) hno, if_pos hl]
  · intro hno
    refine b_X12_compare_2 z_puCV ?_
    rw [if_neg (nI_nlt (Nat.le_refl _) (by omega))]
    unfold c_cmp
    rw [fa_first_n hno, if_neg (Nat.lt_irrefl _)]
theorem e_cap (hA : z_at M h S) : z_Ev G (d + 4) k_X12_cap [.ref M] h (.inl (some (.int (nI (c_cap S)))), h) := by
  have hn := t_n8 hA
  have h256 := n_p8 hn.2
  have hpos := Nat.two_pow_pos S.1
  refine en_X12_cap (b_X12_cap_0 z_puCV ?_)
  refine z_for (fun k x => [some (.ref M), some (.int (nI x)), some (.int (nI (1 + k)))]) (fun k x => if n_pc x < n_pc (1 + k) ∧ c_has S (1 + k) = false then 1 + k else x) 0 (2 ^ S.1 - 1) ?_ ?_
  · intro k hk hJ
    have hx : it (fun k x => if n_pc x < n_pc (1 + k) ∧ c_has S (1 + k) = false then 1 + k else x) 0 k < 256 := it_bdm (P := fun x => x < 256) (m := 2 ^ S.1 - 1) (by decide) (fun k x hk hx => by split <;> omega) k (by omega)
    revert hJ hx
    generalize it (fun k x => if n_pc x < n_pc (1 + k) ∧ c_has S (1 + k) = false then 1 + k else x) 0 k = x
    intro hJ hx
    have p1 := n_pc12 x (by omega)
    have p2 := n_pc12 (1 + k) (by omega)
    refine b_X12_cap_4 z_puCV ⟨t_kd hA, ⟨hA.1, hA.2.1⟩, ?_⟩
    rw [t_all hA, if_neg (nI_nlt (by omega) (by omega)), t_bits (by omega), t_bits (by omega), t_has hA (by omega), nI_1]
    refine ⟨trivial, trivial, ?_⟩
    by_cases h1 : n_pc x < n_pc (1 + k)
    · rw [if_pos (nI_lt h1 (by omega))]
      refine ⟨t_kd hA, t_shas hA (by omega), ?_⟩
      cases h2 : c_has S (1 + k)
      · rw [if_pos ⟨h1, h2⟩] at hJ
        rw [if_pos (by decide)]; exact hJ
      · rw [if_neg (fun e => by rw [h2] at e; cases e.2)] at hJ
        rw [if_neg (by decide)]; exact hJ
    · rw [if_neg (nI_nlt (by omega) (by omega))]
      rw [if_neg (fun e => h1 e.1)] at hJ
      exact hJ
  · refine b_X12_cap_4 z_puCV ⟨t_kd hA, ⟨hA.1, hA.2.1⟩, ?_⟩
    rw [t_all hA, if_pos (nI_lt (by omega) (by omega))]; rfl
theorem e_cover (hA : z_at M h S) : z_Ev G (d + 4) k_X12_cover [.ref M] h (.inl (some (.int (nI (c_cov S)))), h) := by
  have hn := t_n8 hA
  have h256 := n_p8 hn.2
  have hpos := Nat.two_pow_pos S.1
  refine en_X12_cover (b_X12_cover_0 z_puCV ⟨t_kd hA, ⟨hA.1, hA.2.1⟩, ?_⟩)
  rw [t_all hA]
  refine z_for (fun k x => [some (.ref M), some (.int (nI x)), some (.int (nI k))]) (fun k x => if n_pc k < n_pc x ∧ c_has S (2 ^ S.1 - 1 - k) = false then k else x) (2 ^ S.1 - 1) (2 ^ S.1) ?_ ?_
  · intro k hk hJ
    have hx : it (fun k x => if n_pc k < n_pc x ∧ c_has S (2 ^ S.1 - 1 - k) = false then k else x) (2 ^ S.1 - 1) k < 256 := it_bdm (P := fun x => x < 256) (m := 2 ^ S.1) (by omega) (fun k x hk hx => by split <;> omega) k (by omega)
    revert hJ hx
    generalize it (fun k x => if n_pc k < n_pc x ∧ c_has S (2 ^ S.1 - 1 - k) = false then k else x) (2 ^ S.1 - 1) k = x
    intro hJ hx
    have p1 := n_pc12 x (by omega)
    have p2 := n_pc12 k (by omega)
    refine b_X12_cover_7 z_puCV ⟨t_kd hA, ⟨hA.1, hA.2.1⟩, ?_⟩
    rw [t_all hA, if_neg (nI_nlt (by omega) (by omega)), t_bits (by omega), t_bits (by omega), n_cpl S.1 (by omega) k (by omega) hk, t_has hA (by omega), nI_1]
    refine ⟨trivial, trivial, ?_⟩
    by_cases h1 : n_pc k < n_pc x
    · rw [if_pos (nI_lt h1 (by omega))]
      refine ⟨t_kd hA, ⟨hA.1, hA.2.1⟩, t_kd hA, t_shas hA (by omega), ?_⟩
      cases h2 : c_has S (2 ^ S.1 - 1 - k)
      · rw [if_pos ⟨h1, h2⟩] at hJ
        rw [if_pos (by decide)]; exact hJ
      · rw [if_neg (fun e => by rw [h2] at e; cases e.2)] at hJ
        rw [if_neg (by decide)]; exact hJ
    · rw [if_neg (nI_nlt (by omega) (by omega))]
      rw [if_neg (fun e => h1 e.1)] at hJ
      exact hJ
  · refine b_X12_cover_7 z_puCV ⟨t_kd hA, ⟨hA.1, hA.2.1⟩, ?_⟩
    rw [t_all hA, if_pos (nI_lt (by omega) (by omega))]; rfl
end CE
