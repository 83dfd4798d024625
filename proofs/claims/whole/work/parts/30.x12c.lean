theorem en_X12_linesOn {pu : Nat → Option ((List Value → z_H → Prop) × (List Value → z_H → Int32))} {G : z_G} {d : Nat} {r : z_Res} {h : z_H} {x0 : Nat} {x1 : Int32} (hJ : z_J G d (m_X12_linesOn pu) r 0 [some (.ref x0), some (.int x1), none, none] [] h) : z_Ev G d k_X12_linesOn [.ref x0, .int x1] h r := z_enter (μ := m_X12_linesOn pu) rfl (by decide) rfl rfl (fun q => by cases q) (Nat.le_of_ble_eq_true rfl) hJ
def hd_X12_linesOn : Nat → Option (List Bool) := (fun k => (cond (Nat.blt k 34) (cond (Nat.beq k 4) (some [true, true, true, true]) none) none))
set_option maxRecDepth 20000 in
theorem b_X12_linesOn_0 {G : z_G} {d : Nat} {r : z_Res} (hPu : z_PuV G d (t_X12 z_puB)) {h : z_H} {x0 : Nat} {x1 : Int32} (hT : (z_J G (d + 1) (m_X12_linesOn z_puB) r) 4 [some (.ref x0), some (.int x1), some (.int (0 : Int32)), some (.int (0 : Int32))] [] h) : (z_J G (d + 1) (m_X12_linesOn z_puB) r) 0 [some (.ref x0), some (.int x1), none, none] [] h := z_bq (v_X12 z_puB (vP_X12_linesOn z_puB) hPu) hd_X12_linesOn 7 hT
set_option maxRecDepth 20000 in
theorem b_X12_linesOn_4 {G : z_G} {d : Nat} {r : z_Res} (hPu : z_PuV G d (t_X12 z_puB)) {h : z_H} {x0 : Nat} {x1 : Int32} {x2 : Int32} {x3 : Int32} (hT : (z_kd h x0 = 28 ∧ s_X12_lines x0 h ∧ (if x3 < (f_X12_lines x0 h) then (z_kd h x0 = 28 ∧ s_X12_lineAt x0 x3 h ∧ (z_J G (d + 1) (m_X12_linesOn z_puB) r) 4 [some (.ref x0), some (.int x1), some (.int (x2 ||| ((((f_X12_lineAt x0 x3 h) >>> (x1 &&& 31)) &&& (1 : Int32)) <<< (x3 &&& 31)))), some (.int (x3 + (1 : Int32)))] [] h) else r = (.inl (some (.int x2)), h)))) : (z_J G (d + 1) (m_X12_linesOn z_puB) r) 4 [some (.ref x0), some (.int x1), some (.int x2), some (.int x3)] [] h := z_bq (v_X12 z_puB (vP_X12_linesOn z_puB) hPu) hd_X12_linesOn 21 hT
theorem en_X12_lineOf {pu : Nat → Option ((List Value → z_H → Prop) × (List Value → z_H → Int32))} {G : z_G} {d : Nat} {r : z_Res} {h : z_H} {x0 : Nat} {x1 : Int32} (hJ : z_J G d (m_X12_lineOf pu) r 0 [some (.ref x0), some (.int x1), none] [] h) : z_Ev G d k_X12_lineOf [.ref x0, .int x1] h r := z_enter (μ := m_X12_lineOf pu) rfl (by decide) rfl rfl (fun q => by cases q) (Nat.le_of_ble_eq_true rfl) hJ
def hd_X12_lineOf : Nat → Option (List Bool) := (fun k => (cond (Nat.blt k 31) (cond (Nat.beq k 2) (some [true, true, true]) none) none))
set_option maxRecDepth 20000 in
theorem b_X12_lineOf_0 {G : z_G} {d : Nat} {r : z_Res} (hPu : z_PuV G d (t_X12 z_puB)) {h : z_H} {x0 : Nat} {x1 : Int32} (hT : (z_J G (d + 1) (m_X12_lineOf z_puB) r) 2 [some (.ref x0), some (.int x1), some (.int (0 : Int32))] [] h) : (z_J G (d + 1) (m_X12_lineOf z_puB) r) 0 [some (.ref x0), some (.int x1), none] [] h := z_bq (v_X12 z_puB (vP_X12_lineOf z_puB) hPu) hd_X12_lineOf 5 hT
set_option maxRecDepth 20000 in
theorem b_X12_lineOf_2 {G : z_G} {d : Nat} {r : z_Res} (hPu : z_PuV G d (t_X12 z_puB)) {h : z_H} {x0 : Nat} {x1 : Int32} {x2 : Int32} (hT : (z_kd h x0 = 28 ∧ s_X12_lines x0 h ∧ (if x2 < (f_X12_lines x0 h) then (z_kd h x0 = 28 ∧ s_X12_lineAt x0 x2 h ∧ (if ((f_X12_lineAt x0 x2 h) &&& x1) = x1 then r = (.inl (some (.int x2)), h) else (z_J G (d + 1) (m_X12_lineOf z_puB) r) 2 [some (.ref x0), some (.int x1), some (.int (x2 + (1 : Int32)))] [] h)) else r = (.inl (some (.int (-1 : Int32))), h)))) : (z_J G (d + 1) (m_X12_lineOf z_puB) r) 2 [some (.ref x0), some (.int x1), some (.int x2)] [] h := z_bq (v_X12 z_puB (vP_X12_lineOf z_puB) hPu) hd_X12_lineOf 16 hT
theorem en_X12_onShelf {pu : Nat → Option ((List Value → z_H → Prop) × (List Value → z_H → Int32))} {G : z_G} {d : Nat} {r : z_Res} {h : z_H} {x0 : Nat} {x1 : Int32} {x2 : Int32} (hJ : z_J G d (m_X12_onShelf pu) r 0 [some (.ref x0), some (.int x1), some (.int x2)] [] h) : z_Ev G d k_X12_onShelf [.ref x0, .int x1, .int x2] h r := z_enter (μ := m_X12_onShelf pu) rfl (by decide) rfl rfl (fun q => by cases q) (Nat.le_of_ble_eq_true rfl) hJ
def hd_X12_onShelf : Nat → Option (List Bool) := (fun k => none)
set_option maxRecDepth 20000 in
theorem b_X12_onShelf_0 {G : z_G} {d : Nat} {r : z_Res} (hPu : z_PuV G d (t_X12 z_puB)) {h : z_H} {x0 : Nat} {x1 : Int32} {x2 : Int32} (hT : (z_kd h x0 = 28 ∧ (z_rc (z_or h x0 1) (s_X12_shelfAt x1 h ∧ False) (fun x_1 => (s_X12_shelfAt x1 h ∧ (z_kd h x_1 = 1 ∧ vp_in (((f_X12_shelfAt x1 h) + (1 : Int32)) + x2) (z_ln h x_1) ∧ r = (.inl (some (.int (z_ai h x_1 (Int32.toNatClampNeg (((f_X12_shelfAt x1 h) + (1 : Int32)) + x2))))), h))))))) : (z_J G (d + 1) (m_X12_onShelf z_puB) r) 0 [some (.ref x0), some (.int x1), some (.int x2)] [] h := z_bq (v_X12 z_puB (vP_X12_onShelf z_puB) hPu) hd_X12_onShelf 12 hT
theorem en_X12_hasShelf {pu : Nat → Option ((List Value → z_H → Prop) × (List Value → z_H → Int32))} {G : z_G} {d : Nat} {r : z_Res} {h : z_H} {x0 : Nat} {x1 : Int32} (hJ : z_J G d (m_X12_hasShelf pu) r 0 [some (.ref x0), some (.int x1)] [] h) : z_Ev G d k_X12_hasShelf [.ref x0, .int x1] h r := z_enter (μ := m_X12_hasShelf pu) rfl (by decide) rfl rfl (fun q => by cases q) (Nat.le_of_ble_eq_true rfl) hJ
def hd_X12_hasShelf : Nat → Option (List Bool) := (fun k => none)
set_option maxRecDepth 20000 in
theorem b_X12_hasShelf_0 {G : z_G} {d : Nat} {r : z_Res} (hPu : z_PuV G d (t_X12 z_puB)) {h : z_H} {x0 : Nat} {x1 : Int32} (hT : (s_X12_isIn x1 (0 : Int32) (3 : Int32) h ∧ (if (f_X12_isIn x1 (0 : Int32) (3 : Int32) h) = 0 then (z_bz (0 : Int32) ∧ r = (.inl (some (.int (0 : Int32))), h)) else (z_kd h x0 = 28 ∧ (z_rc (z_or h x0 1) (s_X12_shelfAt x1 h ∧ False) (fun x_1 => (s_X12_shelfAt x1 h ∧ (z_kd h x_1 = 1 ∧ vp_in (f_X12_shelfAt x1 h) (z_ln h x_1) ∧ (if (z_ai h x_1 (Int32.toNatClampNeg (f_X12_shelfAt x1 h))) = (1 : Int32) then (z_bz (1 : Int32) ∧ r = (.inl (some (.int (1 : Int32))), h)) else (z_bz (0 : Int32) ∧ r = (.inl (some (.int (0 : Int32))), h))))))))))) : (z_J G (d + 1) (m_X12_hasShelf z_puB) r) 0 [some (.ref x0), some (.int x1)] [] h := z_bq (v_X12 z_puB (vP_X12_hasShelf z_puB) hPu) hd_X12_hasShelf 17 hT
theorem en_X12_isPoint {pu : Nat → Option ((List Value → z_H → Prop) × (List Value → z_H → Int32))} {G : z_G} {d : Nat} {r : z_Res} {h : z_H} {x0 : Nat} {x1 : Int32} (hJ : z_J G d (m_X12_isPoint pu) r 0 [some (.ref x0), some (.int x1)] [] h) : z_Ev G d k_X12_isPoint [.ref x0, .int x1] h r := z_enter (μ := m_X12_isPoint pu) rfl (by decide) rfl rfl (fun q => by cases q) (Nat.le_of_ble_eq_true rfl) hJ
def hd_X12_isPoint : Nat → Option (List Bool) := (fun k => none)
set_option maxRecDepth 20000 in
theorem b_X12_isPoint_0 {G : z_G} {d : Nat} {r : z_Res} (hPu : z_PuV G d (t_X12 z_puB)) {h : z_H} {x0 : Nat} {x1 : Int32} (hT : (z_kd h x0 = 28 ∧ s_X12_points x0 h ∧ (s_X12_isIn x1 (0 : Int32) ((f_X12_points x0 h) - (1 : Int32)) h ∧ (z_bz (f_X12_isIn x1 (0 : Int32) ((f_X12_points x0 h) - (1 : Int32)) h) ∧ r = (.inl (some (.int (f_X12_isIn x1 (0 : Int32) ((f_X12_points x0 h) - (1 : Int32)) h))), h))))) : (z_J G (d + 1) (m_X12_isPoint z_puB) r) 0 [some (.ref x0), some (.int x1)] [] h := z_bq (v_X12 z_puB (vP_X12_isPoint z_puB) hPu) hd_X12_isPoint 10 hT
theorem en_X12_isLine {pu : Nat → Option ((List Value → z_H → Prop) × (List Value → z_H → Int32))} {G : z_G} {d : Nat} {r : z_Res} {h : z_H} {x0 : Nat} {x1 : Int32} (hJ : z_J G d (m_X12_isLine pu) r 0 [some (.ref x0), some (.int x1)] [] h) : z_Ev G d k_X12_isLine [.ref x0, .int x1] h r := z_enter (μ := m_X12_isLine pu) rfl (by decide) rfl rfl (fun q => by cases q) (Nat.le_of_ble_eq_true rfl) hJ
def hd_X12_isLine : Nat → Option (List Bool) := (fun k => none)
set_option maxRecDepth 20000 in
theorem b_X12_isLine_0 {G : z_G} {d : Nat} {r : z_Res} (hPu : z_PuV G d (t_X12 z_puB)) {h : z_H} {x0 : Nat} {x1 : Int32} (hT : (z_kd h x0 = 28 ∧ s_X12_lines x0 h ∧ (s_X12_isIn x1 (0 : Int32) ((f_X12_lines x0 h) - (1 : Int32)) h ∧ (z_bz (f_X12_isIn x1 (0 : Int32) ((f_X12_lines x0 h) - (1 : Int32)) h) ∧ r = (.inl (some (.int (f_X12_isIn x1 (0 : Int32) ((f_X12_lines x0 h) - (1 : Int32)) h))), h))))) : (z_J G (d + 1) (m_X12_isLine z_puB) r) 0 [some (.ref x0), some (.int x1)] [] h := z_bq (v_X12 z_puB (vP_X12_isLine z_puB) hPu) hd_X12_isLine 10 hT
theorem en_X12_areAtOne {pu : Nat → Option ((List Value → z_H → Prop) × (List Value → z_H → Int32))} {G : z_G} {d : Nat} {r : z_Res} {h : z_H} {x0 : Nat} {x1 : Int32} {x2 : Int32} (hJ : z_J G d (m_X12_areAtOne pu) r 0 [some (.ref x0), some (.int x1), some (.int x2)] [] h) : z_Ev G d k_X12_areAtOne [.ref x0, .int x1, .int x2] h r := z_enter (μ := m_X12_areAtOne pu) rfl (by decide) rfl rfl (fun q => by cases q) (Nat.le_of_ble_eq_true rfl) hJ
def hd_X12_areAtOne : Nat → Option (List Bool) := (fun k => none)
set_option maxRecDepth 20000 in
theorem b_X12_areAtOne_0 {G : z_G} {d : Nat} {r : z_Res} (hPu : z_PuV G d (t_X12 z_puB)) {h : z_H} {x0 : Nat} {x1 : Int32} {x2 : Int32} (hT : (z_kd h x0 = 28 ∧ (z_rc (z_or h x0 1) False (fun x_1 => (z_kd h x_1 = 1 ∧ vp_in ((14 : Int32) + x1) (z_ln h x_1) ∧ (z_kd h x0 = 28 ∧ (z_rc (z_or h x0 1) False (fun x_2 => (z_kd h x_2 = 1 ∧ vp_in ((14 : Int32) + x2) (z_ln h x_2) ∧ (if (z_ai h x_1 (Int32.toNatClampNeg ((14 : Int32) + x1))) = (z_ai h x_2 (Int32.toNatClampNeg ((14 : Int32) + x2))) then (z_kd h x0 = 28 ∧ (z_rc (z_or h x0 1) False (fun x_3 => (z_kd h x_3 = 1 ∧ vp_in ((22 : Int32) + x1) (z_ln h x_3) ∧ (z_kd h x0 = 28 ∧ (z_rc (z_or h x0 1) False (fun x_4 => (z_kd h x_4 = 1 ∧ vp_in ((22 : Int32) + x2) (z_ln h x_4) ∧ (if (z_ai h x_3 (Int32.toNatClampNeg ((22 : Int32) + x1))) = (z_ai h x_4 (Int32.toNatClampNeg ((22 : Int32) + x2))) then (z_bz (1 : Int32) ∧ r = (.inl (some (.int (1 : Int32))), h)) else (z_bz (0 : Int32) ∧ r = (.inl (some (.int (0 : Int32))), h))))))))))) else (z_bz (0 : Int32) ∧ r = (.inl (some (.int (0 : Int32))), h)))))))))))) : (z_J G (d + 1) (m_X12_areAtOne z_puB) r) 0 [some (.ref x0), some (.int x1), some (.int x2)] [] h := z_bq (v_X12 z_puB (vP_X12_areAtOne z_puB) hPu) hd_X12_areAtOne 31 hT
theorem en_X12_areInLineAt {pu : Nat → Option ((List Value → z_H → Prop) × (List Value → z_H → Int32))} {G : z_G} {d : Nat} {r : z_Res} {h : z_H} {x0 : Nat} {x1 : Int32} {x2 : Int32} {x3 : Int32} (hJ : z_J G d (m_X12_areInLineAt pu) r 0 [some (.ref x0), some (.int x1), some (.int x2), some (.int x3)] [] h) : z_Ev G d k_X12_areInLineAt [.ref x0, .int x1, .int x2, .int x3] h r := z_enter (μ := m_X12_areInLineAt pu) rfl (by decide) rfl rfl (fun q => by cases q) (Nat.le_of_ble_eq_true rfl) hJ
def hd_X12_areInLineAt : Nat → Option (List Bool) := (fun k => none)
set_option maxRecDepth 20000 in
theorem b_X12_areInLineAt_0 {G : z_G} {d : Nat} {r : z_Res} (hPu : z_PuV G d (t_X12 z_puB)) {h : z_H} {x0 : Nat} {x1 : Int32} {x2 : Int32} {x3 : Int32} (hT : (z_kd h x0 = 28 ∧ (z_rc (z_or h x0 1) False (fun x_1 => (z_kd h x_1 = 1 ∧ vp_in ((14 : Int32) + x1) (z_ln h x_1) ∧ (z_kd h x0 = 28 ∧ (z_rc (z_or h x0 1) False (fun x_2 => (z_kd h x_2 = 1 ∧ vp_in ((22 : Int32) + x1) (z_ln h x_2) ∧ (z_kd h x0 = 28 ∧ (z_rc (z_or h x0 1) False (fun x_3 => (z_kd h x_3 = 1 ∧ vp_in ((14 : Int32) + x2) (z_ln h x_3) ∧ (z_kd h x0 = 28 ∧ (z_rc (z_or h x0 1) False (fun x_4 => (z_kd h x_4 = 1 ∧ vp_in ((22 : Int32) + x2) (z_ln h x_4) ∧ (z_kd h x0 = 28 ∧ (z_rc (z_or h x0 1) False (fun x_5 => (z_kd h x_5 = 1 ∧ vp_in ((14 : Int32) + x3) (z_ln h x_5) ∧ (z_kd h x0 = 28 ∧ (z_rc (z_or h x0 1) False (fun x_6 => (z_kd h x_6 = 1 ∧ vp_in ((22 : Int32) + x3) (z_ln h x_6) ∧ (s_X12_areInLine (z_ai h x_1 (Int32.toNatClampNeg ((14 : Int32) + x1))) (z_ai h x_2 (Int32.toNatClampNeg ((22 : Int32) + x1))) (z_ai h x_3 (Int32.toNatClampNeg ((14 : Int32) + x2))) (z_ai h x_4 (Int32.toNatClampNeg ((22 : Int32) + x2))) (z_ai h x_5 (Int32.toNatClampNeg ((14 : Int32) + x3))) (z_ai h x_6 (Int32.toNatClampNeg ((22 : Int32) + x3))) h ∧ (z_bz (f_X12_areInLine (z_ai h x_1 (Int32.toNatClampNeg ((14 : Int32) + x1))) (z_ai h x_2 (Int32.toNatClampNeg ((22 : Int32) + x1))) (z_ai h x_3 (Int32.toNatClampNeg ((14 : Int32) + x2))) (z_ai h x_4 (Int32.toNatClampNeg ((22 : Int32) + x2))) (z_ai h x_5 (Int32.toNatClampNeg ((14 : Int32) + x3))) (z_ai h x_6 (Int32.toNatClampNeg ((22 : Int32) + x3))) h) ∧ r = (.inl (some (.int (f_X12_areInLine (z_ai h x_1 (Int32.toNatClampNeg ((14 : Int32) + x1))) (z_ai h x_2 (Int32.toNatClampNeg ((22 : Int32) + x1))) (z_ai h x_3 (Int32.toNatClampNeg ((14 : Int32) + x2))) (z_ai h x_4 (Int32.toNatClampNeg ((22 : Int32) + x2))) (z_ai h x_5 (Int32.toNatClampNeg ((14 : Int32) + x3))) (z_ai h x_6 (Int32.toNatClampNeg ((22 : Int32) + x3))) h))), h)))))))))))))))))))))))))))) : (z_J G (d + 1) (m_X12_areInLineAt z_puB) r) 0 [some (.ref x0), some (.int x1), some (.int x2), some (.int x3)] [] h := z_bq (v_X12 z_puB (vP_X12_areInLineAt z_puB) hPu) hd_X12_areInLineAt 40 hT
theorem en_X12_hasLine {pu : Nat → Option ((List Value → z_H → Prop) × (List Value → z_H → Int32))} {G : z_G} {d : Nat} {r : z_Res} {h : z_H} {x0 : Nat} {x1 : Int32} (hJ : z_J G d (m_X12_hasLine pu) r 0 [some (.ref x0), some (.int x1), none, none] [] h) : z_Ev G d k_X12_hasLine [.ref x0, .int x1] h r := z_enter (μ := m_X12_hasLine pu) rfl (by decide) rfl rfl (fun q => by cases q) (Nat.le_of_ble_eq_true rfl) hJ
def hd_X12_hasLine : Nat → Option (List Bool) := (fun k => (cond (Nat.blt k 42) (cond (Nat.beq k 4) (some [true, true, true, true]) none) none))
set_option maxRecDepth 20000 in
theorem b_X12_hasLine_0 {G : z_G} {d : Nat} {r : z_Res} (hPu : z_PuV G d (t_X12 z_puB)) {h : z_H} {x0 : Nat} {x1 : Int32} (hT : (z_J G (d + 1) (m_X12_hasLine z_puB) r) 4 [some (.ref x0), some (.int x1), some (.int (0 : Int32)), some (.int (0 : Int32))] [] h) : (z_J G (d + 1) (m_X12_hasLine z_puB) r) 0 [some (.ref x0), some (.int x1), none, none] [] h := z_bq (v_X12 z_puB (vP_X12_hasLine z_puB) hPu) hd_X12_hasLine 7 hT
set_option maxRecDepth 20000 in
theorem b_X12_hasLine_4 {G : z_G} {d : Nat} {r : z_Res} (hPu : z_PuV G d (t_X12 z_puB)) {h : z_H} {x0 : Nat} {x1 : Int32} {x2 : Int32} {x3 : Int32} (hT : (z_kd h x0 = 28 ∧ s_X12_lines x0 h ∧ (if x3 < (f_X12_lines x0 h) then (if x2 = 0 then (z_kd h x0 = 28 ∧ s_X12_lineAt x0 x3 h ∧ (if ((f_X12_lineAt x0 x3 h) &&& (x1 ^^^ (-1 : Int32))) = 0 then (z_J G (d + 1) (m_X12_hasLine z_puB) r) 4 [some (.ref x0), some (.int x1), some (.int (1 : Int32)), some (.int (x3 + (1 : Int32)))] [] h else (z_J G (d + 1) (m_X12_hasLine z_puB) r) 4 [some (.ref x0), some (.int x1), some (.int (0 : Int32)), some (.int (x3 + (1 : Int32)))] [] h)) else (z_J G (d + 1) (m_X12_hasLine z_puB) r) 4 [some (.ref x0), some (.int x1), some (.int (1 : Int32)), some (.int (x3 + (1 : Int32)))] [] h) else (z_bz x2 ∧ r = (.inl (some (.int x2)), h))))) : (z_J G (d + 1) (m_X12_hasLine z_puB) r) 4 [some (.ref x0), some (.int x1), some (.int x2), some (.int x3)] [] h := z_bq (v_X12 z_puB (vP_X12_hasLine z_puB) hPu) hd_X12_hasLine 22 hT
theorem en_X12_all {pu : Nat → Option ((List Value → z_H → Prop) × (List Value → z_H → Int32))} {G : z_G} {d : Nat} {r : z_Res} {h : z_H} {x0 : Nat} (hJ : z_J G d (m_X12_all pu) r 0 [some (.ref x0)] [] h) : z_Ev G d k_X12_all [.ref x0] h r := z_enter (μ := m_X12_all pu) rfl (by decide) rfl rfl (fun q => by cases q) (Nat.le_of_ble_eq_true rfl) hJ
def hd_X12_all : Nat → Option (List Bool) := (fun k => none)
set_option maxRecDepth 20000 in
theorem b_X12_all_0 {G : z_G} {d : Nat} {r : z_Res} (hPu : z_PuV G d (t_X12 z_puB)) {h : z_H} {x0 : Nat} (hT : (z_kd h x0 = 28 ∧ s_X12_points x0 h ∧ r = (.inl (some (.int (((1 : Int32) <<< ((f_X12_points x0 h) &&& 31)) - (1 : Int32)))), h))) : (z_J G (d + 1) (m_X12_all z_puB) r) 0 [some (.ref x0)] [] h := z_bq (v_X12 z_puB (vP_X12_all z_puB) hPu) hd_X12_all 9 hT
theorem en_X12_named {pu : Nat → Option ((List Value → z_H → Prop) × (List Value → z_H → Int32))} {G : z_G} {d : Nat} {r : z_Res} {h : z_H} {x0 : Nat} {x1 : Int32} (hJ : z_J G d (m_X12_named pu) r 0 [some (.ref x0), some (.int x1), none, none] [] h) : z_Ev G d k_X12_named [.ref x0, .int x1] h r := z_enter (μ := m_X12_named pu) rfl (by decide) rfl rfl (fun q => by cases q) (Nat.le_of_ble_eq_true rfl) hJ
def hd_X12_named : Nat → Option (List Bool) := (fun k => (cond (Nat.blt k 33) (cond (Nat.beq k 4) (some [true, false, true, true]) none) none))
set_option maxRecDepth 20000 in
theorem b_X12_named_0 {G : z_G} {d : Nat} {r : z_Res} (hPu : z_PuV G d (t_X12 z_puB)) {h : z_H} {x0 : Nat} {x1 : Int32} (hT : (z_J G (d + 1) (m_X12_named z_puB) r) 4 [some (.ref x0), none, some (.int (0 : Int32)), some (.int x1)] [] h) : (z_J G (d + 1) (m_X12_named z_puB) r) 0 [some (.ref x0), some (.int x1), none, none] [] h := z_bq (v_X12 z_puB (vP_X12_named z_puB) hPu) hd_X12_named 7 hT
set_option maxRecDepth 20000 in
theorem b_X12_named_4 {G : z_G} {d : Nat} {r : z_Res} (hPu : z_PuV G d (t_X12 z_puB)) {h : z_H} {x0 : Nat} {x2 : Int32} {x3 : Int32} (hT : (if x3 = 0 then r = (.inl (some (.int x2)), h) else (z_kd h x0 = 28 ∧ (z_rc (z_or h x0 16) (s_J6_numberOfTrailingZeros_0f7a4 x3 h ∧ False) (fun x_1 => (s_J6_numberOfTrailingZeros_0f7a4 x3 h ∧ (z_kd h x_1 = 1 ∧ vp_in (f_J6_numberOfTrailingZeros_0f7a4 x3 h) (z_ln h x_1) ∧ (z_J G (d + 1) (m_X12_named z_puB) r) 4 [some (.ref x0), none, some (.int (x2 ||| ((1 : Int32) <<< ((z_ai h x_1 (Int32.toNatClampNeg (f_J6_numberOfTrailingZeros_0f7a4 x3 h))) &&& 31)))), some (.int (x3 &&& (x3 - (1 : Int32))))] [] h))))))) : (z_J G (d + 1) (m_X12_named z_puB) r) 4 [some (.ref x0), none, some (.int x2), some (.int x3)] [] h := z_bq (v_X12 z_puB (vP_X12_named z_puB) hPu) hd_X12_named 22 hT
theorem en_X12_sharesTwo {pu : Nat → Option ((List Value → z_H → Prop) × (List Value → z_H → Int32))} {G : z_G} {d : Nat} {r : z_Res} {h : z_H} {x0 : Nat} {x1 : Int32} (hJ : z_J G d (m_X12_sharesTwo pu) r 0 [some (.ref x0), some (.int x1), none, none] [] h) : z_Ev G d k_X12_sharesTwo [.ref x0, .int x1] h r := z_enter (μ := m_X12_sharesTwo pu) rfl (by decide) rfl rfl (fun q => by cases q) (Nat.le_of_ble_eq_true rfl) hJ
def hd_X12_sharesTwo : Nat → Option (List Bool) := (fun k => (cond (Nat.blt k 43) (cond (Nat.beq k 4) (some [true, true, true, true]) none) none))
set_option maxRecDepth 20000 in
theorem b_X12_sharesTwo_0 {G : z_G} {d : Nat} {r : z_Res} (hPu : z_PuV G d (t_X12 z_puB)) {h : z_H} {x0 : Nat} {x1 : Int32} (hT : (z_J G (d + 1) (m_X12_sharesTwo z_puB) r) 4 [some (.ref x0), some (.int x1), some (.int (0 : Int32)), some (.int (0 : Int32))] [] h) : (z_J G (d + 1) (m_X12_sharesTwo z_puB) r) 0 [some (.ref x0), some (.int x1), none, none] [] h := z_bq (v_X12 z_puB (vP_X12_sharesTwo z_puB) hPu) hd_X12_sharesTwo 7 hT
set_option maxRecDepth 20000 in
theorem b_X12_sharesTwo_4 {G : z_G} {d : Nat} {r : z_Res} (hPu : z_PuV G d (t_X12 z_puB)) {h : z_H} {x0 : Nat} {x1 : Int32} {x2 : Int32} {x3 : Int32} (hT : (z_kd h x0 = 1 ∧ vp_in (1 : Int32) (z_ln h x0) ∧ (if x3 < (z_ai h x0 (Int32.toNatClampNeg (1 : Int32))) then (if x2 = 0 then (z_kd h x0 = 1 ∧ vp_in ((2 : Int32) + x3) (z_ln h x0) ∧ (s_X12_bits ((z_ai h x0 (Int32.toNatClampNeg ((2 : Int32) + x3))) &&& x1) h ∧ (if (1 : Int32) < (f_X12_bits ((z_ai h x0 (Int32.toNatClampNeg ((2 : Int32) + x3))) &&& x1) h) then (z_J G (d + 1) (m_X12_sharesTwo z_puB) r) 4 [some (.ref x0), some (.int x1), some (.int (1 : Int32)), some (.int (x3 + (1 : Int32)))] [] h else (z_J G (d + 1) (m_X12_sharesTwo z_puB) r) 4 [some (.ref x0), some (.int x1), some (.int (0 : Int32)), some (.int (x3 + (1 : Int32)))] [] h))) else (z_J G (d + 1) (m_X12_sharesTwo z_puB) r) 4 [some (.ref x0), some (.int x1), some (.int (1 : Int32)), some (.int (x3 + (1 : Int32)))] [] h) else (z_bz x2 ∧ r = (.inl (some (.int x2)), h))))) : (z_J G (d + 1) (m_X12_sharesTwo z_puB) r) 4 [some (.ref x0), some (.int x1), some (.int x2), some (.int x3)] [] h := z_bq (v_X12 z_puB (vP_X12_sharesTwo z_puB) hPu) hd_X12_sharesTwo 25 hT
theorem en_X12_isMarked {pu : Nat → Option ((List Value → z_H → Prop) × (List Value → z_H → Int32))} {G : z_G} {d : Nat} {r : z_Res} {h : z_H} {x0 : Nat} {x1 : Int32} (hJ : z_J G d (m_X12_isMarked pu) r 0 [some (.ref x0), some (.int x1)] [] h) : z_Ev G d k_X12_isMarked [.ref x0, .int x1] h r := z_enter (μ := m_X12_isMarked pu) rfl (by decide) rfl rfl (fun q => by cases q) (Nat.le_of_ble_eq_true rfl) hJ
def hd_X12_isMarked : Nat → Option (List Bool) := (fun k => none)
set_option maxRecDepth 20000 in
theorem b_X12_isMarked_0 {G : z_G} {d : Nat} {r : z_Res} (hPu : z_PuV G d (t_X12 z_puB)) {h : z_H} {x0 : Nat} {x1 : Int32} (hT : (z_kd h x0 = 28 ∧ (if (z_oi h x0 12) = 0 then (z_kd h x0 = 28 ∧ (if (z_oi h x0 8) = (3 : Int32) then (z_kd h x0 = 28 ∧ (z_rc (z_or h x0 4) (z_kd h x0 = 28 ∧ False) (fun x_1 => (z_kd h x0 = 28 ∧ (z_kd h x_1 = 1 ∧ vp_in (z_oi h x0 10) (z_ln h x_1) ∧ (if (z_ai h x_1 (Int32.toNatClampNeg (z_oi h x0 10))) = x1 then (z_bz (1 : Int32) ∧ r = (.inl (some (.int (1 : Int32))), h)) else (z_bz (0 : Int32) ∧ r = (.inl (some (.int (0 : Int32))), h)))))))) else (z_bz (0 : Int32) ∧ r = (.inl (some (.int (0 : Int32))), h)))) else (z_bz (0 : Int32) ∧ r = (.inl (some (.int (0 : Int32))), h))))) : (z_J G (d + 1) (m_X12_isMarked z_puB) r) 0 [some (.ref x0), some (.int x1)] [] h := z_bq (v_X12 z_puB (vP_X12_isMarked z_puB) hPu) hd_X12_isMarked 19 hT
section CC
variable {G : z_G} {d : Nat} {h : z_H} {M : Nat}
theorem a_m (hR : r_ok (z_ai h (M + 1))) : f_X12_lines M h = nI (r_S (z_ai h (M + 1))).2.1 := hR.2.1
theorem a_n (hR : r_ok (z_ai h (M + 1))) : f_X12_points M h = nI (r_S (z_ai h (M + 1))).1 := hR.1
theorem a_n8 {R : Nat → Int32} (hR : r_ok R) : 1 ≤ (r_S R).1 ∧ (r_S R).1 ≤ 8 := hR.2.2.1
theorem a_m12 {R : Nat → Int32} (hR : r_ok R) : (r_S R).2.1 ≤ 12 := hR.2.2.2.1
theorem a_L256 {R : Nat → Int32} (hR : r_ok R) (l : Nat) : (r_S R).2.2 l < 256 := by
  by_cases hl : l < (r_S R).2.1
  · exact (hR.2.2.2.2 l hl).2
  · rw [r_S0 R l (by omega)]; decide
theorem a_2 (l : Nat) : (2 : Int32) + nI l = nI (2 + l) := nI_add 2 l
theorem a_sL (hM : z_sh M h) {l : Nat} (hl : l < 152) : s_X12_lineAt M (nI l) h := ⟨hM, by rw [a_2]; exact vp_in_nI (by omega) (by omega)⟩
theorem a_L (hR : r_ok (z_ai h (M + 1))) {l : Nat} (hl : l < (r_S (z_ai h (M + 1))).2.1) : f_X12_lineAt M (nI l) h = nI ((r_S (z_ai h (M + 1))).2.2 l) := by
  have := a_m12 hR
  unfold f_X12_lineAt
  rw [a_2, nI_clamp (by omega)]
  exact (hR.2.2.2.2 l hl).1
/-- the lines on a point -/
def s_X12_linesOn (M : Nat) (p : Int32) (h : z_H) : Prop := z_sh M h ∧ r_ok (z_ai h (M + 1)) ∧ ∃ q, q < 32 ∧ p = nI q
def f_X12_linesOn (M : Nat) (p : Int32) (h : z_H) : Int32 := nI (c_on (r_S (z_ai h (M + 1))) p.toNatClampNeg)
theorem l_linesOn (hM : z_sh M h) (hR : r_ok (z_ai h (M + 1))) {q : Nat} (hq : q < 32) : ∀ k l, l + k = (r_S (z_ai h (M + 1))).2.1 → z_J G (d + 3) (m_X12_linesOn z_puB) (.inl (some (.int (nI (c_on (r_S (z_ai h (M + 1))) q)))), h) 4 [some (.ref M), some (.int (nI q)), some (.int (nI (it (fun l a => a ||| (((r_S (z_ai h (M + 1))).2.2 l).testBit q).toNat <<< l) 0 l))), some (.int (nI l))] [] h := by
  intro k
  have hm := a_m12 hR
  induction k with
  | zero =>
    intro l hl
    refine b_X12_linesOn_4 z_puBV ⟨sh_kd hM, hM, ?_⟩
    rw [a_m hR, if_neg (nI_nlt (by omega) (by omega))]
    rw [show l = (r_S (z_ai h (M + 1))).2.1 by omega]; rfl
  | succ k ih =>
    intro l hl
    refine b_X12_linesOn_4 z_puBV ⟨sh_kd hM, hM, ?_⟩
    have hL := a_L256 hR l
    rw [a_m hR, if_pos (nI_lt (by omega) (by omega)), a_L hR (by omega), n_bit (by omega) hq, n_shl _ (by omega), fa_or, nI_1]
    exact ⟨sh_kd hM, a_sL hM (by omega), ih (l + 1) (by omega)⟩
theorem c_X12_linesOn {p : Int32} (hS : s_X12_linesOn M p h) : z_Ev G (d + 3) k_X12_linesOn [.ref M, .int p] h (.inl (some (.int (f_X12_linesOn M p h))), h) := by
  obtain ⟨hM, hR, q, hq, rfl⟩ := hS
  refine en_X12_linesOn (b_X12_linesOn_0 z_puBV ?_)
  unfold f_X12_linesOn
  rw [nI_clamp (by omega)]
  exact l_linesOn hM hR hq _ 0 (Nat.zero_add _)
/-- the line of a set -/
def s_X12_lineOf (M : Nat) (a : Int32) (h : z_H) : Prop := z_sh M h ∧ r_ok (z_ai h (M + 1)) ∧ ∃ q, q < 256 ∧ a = nI q
def f_X12_lineOf (M : Nat) (a : Int32) (h : z_H) : Int32 := if c_of (r_S (z_ai h (M + 1))) a.toNatClampNeg < (r_S (z_ai h (M + 1))).2.1 then nI (c_of (r_S (z_ai h (M + 1))) a.toNatClampNeg) else -1
theorem fa_first_at {p : Nat → Bool} {n k : Nat} (hk : k < n) (h : p k = true) (h0 : ∀ i, i < k → p i = false) : fa_first p n = k := by
  by_cases h1 : fa_first p n < k
  · have := fa_first_yes p n (by omega)
    rw [h0 _ h1] at this; cases this
  · by_cases h2 : k < fa_first p n
    · rw [fa_first_no p n k h2] at h; cases h
    · omega
theorem fa_first_n {p : Nat → Bool} {n : Nat} (h0 : ∀ i, i < n → p i = false) : fa_first p n = n := by
  have := fa_first_le p n
  by_cases h1 : fa_first p n < n
  · have h2 := fa_first_yes p n h1
    rw [h0 _ h1] at h2; cases h2
  · omega
theorem l_lineOf (hM : z_sh M h) (hR : r_ok (z_ai h (M + 1))) {q : Nat} (hq : q < 256) : ∀ k l, l + k = (r_S (z_ai h (M + 1))).2.1 → (∀ i, i < l → ((r_S (z_ai h (M + 1))).2.2 i &&& q == q) = false) → z_J G (d + 3) (m_X12_lineOf z_puB) (.inl (some (.int (f_X12_lineOf M (nI q) h))), h) 2 [some (.ref M), some (.int (nI q)), some (.int (nI l))] [] h := by
  intro k
  have hm := a_m12 hR
  have hc : (nI q).toNatClampNeg = q := nI_clamp (by omega)
  induction k with
  | zero =>
    intro l hl h0
    refine b_X12_lineOf_2 z_puBV ⟨sh_kd hM, hM, ?_⟩
    rw [a_m hR, if_neg (nI_nlt (by omega) (by omega))]
    have e : c_of (r_S (z_ai h (M + 1))) q = (r_S (z_ai h (M + 1))).2.1 := fa_first_n (fun i hi => h0 i (by omega))
    unfold f_X12_lineOf
    rw [hc, e, if_neg (Nat.lt_irrefl _)]
  | succ k ih =>
    intro l hl h0
    refine b_X12_lineOf_2 z_puBV ⟨sh_kd hM, hM, ?_⟩
    have hL := a_L256 hR l
    rw [a_m hR, if_pos (nI_lt (by omega) (by omega)), a_L hR (by omega), fa_and, nI_1]
    refine ⟨sh_kd hM, a_sL hM (by omega), ?_⟩
    have hlt := and_lt256 (b := q) hL
    by_cases hb : (r_S (z_ai h (M + 1))).2.2 l &&& q = q
    · rw [if_pos (by rw [hb])]
      have e : c_of (r_S (z_ai h (M + 1))) q = l := fa_first_at (by omega) (by simp [hb]) h0
      unfold f_X12_lineOf
      rw [hc, e, if_pos (by omega)]
    · rw [if_neg (fun e => hb ((n_eqn (by omega) (by omega)).mp e))]
      refine ih (l + 1) (by omega) (fun i hi => ?_)
      by_cases hil : i = l
      · rw [hil]; simp [hb]
      · exact h0 i (by omega)
theorem c_X12_lineOf {a : Int32} (hS : s_X12_lineOf M a h) : z_Ev G (d + 3) k_X12_lineOf [.ref M, .int a] h (.inl (some (.int (f_X12_lineOf M a h))), h) := by
  obtain ⟨hM, hR, q, hq, rfl⟩ := hS
  exact en_X12_lineOf (b_X12_lineOf_0 z_puBV (l_lineOf hM hR hq _ 0 (Nat.zero_add _) (fun i hi => absurd hi (Nat.not_lt_zero i))))
/-- shelves -/
def s_X12_onShelf (M : Nat) (s k : Int32) (h : z_H) : Prop := z_sh M h ∧ ∃ a b, a < 4 ∧ b < 30 ∧ s = nI a ∧ k = nI b
def f_X12_onShelf (M : Nat) (s k : Int32) (h : z_H) : Int32 := z_ai h (M + 1) (31 + 31 * s.toNatClampNeg + k.toNatClampNeg)
theorem a_sh (a : Nat) : (30 : Int32) + 31 * nI a = nI (30 + 31 * a) := by
  rw [show (31 : Int32) * nI a = nI (31 * a) from n_mul 31 a]; exact nI_add 30 _
theorem c_X12_onShelf {s k : Int32} (hS : s_X12_onShelf M s k h) : z_Ev G (d + 3) k_X12_onShelf [.ref M, .int s, .int k] h (.inl (some (.int (f_X12_onShelf M s k h))), h) := by
  obtain ⟨hM, a, b, ha, hb, rfl, rfl⟩ := hS
  refine en_X12_onShelf (b_X12_onShelf_0 z_puBV ⟨sh_kd hM, ?_⟩)
  rw [(sh_now hM).1]
  have e : f_X12_shelfAt (nI a) h + 1 + nI b = nI (31 + 31 * a + b) := by
    unfold f_X12_shelfAt
    rw [a_sh, nI_1, nI_add]; congr 1; omega
  refine ⟨trivial, (sh_now hM).2.1, ?_, ?_⟩
  · rw [(sh_now hM).2.2, e]; exact vp_in_nI (by omega) (by omega)
  · unfold f_X12_onShelf
    rw [e, nI_clamp (by omega), nI_clamp (by omega), nI_clamp (by omega)]
def s_X12_hasShelf (M : Nat) (_ : Int32) (h : z_H) : Prop := z_sh M h
def f_X12_hasShelf (M : Nat) (s : Int32) (h : z_H) : Int32 := if f_X12_isIn s 0 3 h = 0 then 0 else if z_ai h (M + 1) (30 + 31 * s.toNatClampNeg) = 1 then 1 else 0
theorem a_isIn {v : Int32} {b : Nat} (hb : b < 2 ^ 31) (hv : ¬ f_X12_isIn v 0 (nI b) h = 0) : ∃ a, a ≤ b ∧ v = nI a := by
  unfold f_X12_isIn at hv
  by_cases h1 : v < 0
  · rw [if_pos h1] at hv; exact absurd rfl hv
  · rw [if_neg h1] at hv
    by_cases h2 : nI b < v
    · rw [if_pos h2] at hv; exact absurd rfl hv
    · obtain ⟨j, hj, rfl⟩ := nI_of h1
      rw [nI_ltI hb hj] at h2
      exact ⟨j, by omega, rfl⟩
theorem a_isInP {a b : Nat} (hab : a ≤ b) (hb : b < 2 ^ 31) : f_X12_isIn (nI a) 0 (nI b) h = 1 := by
  unfold f_X12_isIn
  rw [if_neg (nI_pos (by omega)), if_neg (nI_nlt hab hb)]
theorem a_isIn01 (v a b : Int32) : f_X12_isIn v a b h = 0 ∨ f_X12_isIn v a b h = 1 := by
  unfold f_X12_isIn
  split
  · exact Or.inl rfl
  · split
    · exact Or.inl rfl
    · exact Or.inr rfl
theorem c_X12_hasShelf {s : Int32} (hM : s_X12_hasShelf M s h) : z_Ev G (d + 3) k_X12_hasShelf [.ref M, .int s] h (.inl (some (.int (f_X12_hasShelf M s h))), h) := by
  refine en_X12_hasShelf (b_X12_hasShelf_0 z_puBV ⟨trivial, ?_⟩)
  unfold f_X12_hasShelf
  by_cases h1 : f_X12_isIn s 0 3 h = 0
  · rw [if_pos h1, if_pos h1]; exact ⟨Or.inl rfl, rfl⟩
  · rw [if_neg h1, if_neg h1]
    obtain ⟨a, ha, rfl⟩ := a_isIn (b := 3) (by omega) h1
    refine ⟨sh_kd hM, ?_⟩
    rw [(sh_now hM).1]
    have e : f_X12_shelfAt (nI a) h = nI (30 + 31 * a) := a_sh a
    refine ⟨trivial, (sh_now hM).2.1, ?_, ?_⟩
    · rw [(sh_now hM).2.2, e]; exact vp_in_nI (by omega) (by omega)
    · rw [e, nI_clamp (by omega), nI_clamp (by omega)]
      split
      · exact ⟨Or.inr rfl, rfl⟩
      · exact ⟨Or.inl rfl, rfl⟩
def s_X12_isPoint (M : Nat) (_ : Int32) (h : z_H) : Prop := z_sh M h
def f_X12_isPoint (M : Nat) (p : Int32) (h : z_H) : Int32 := f_X12_isIn p 0 (z_ai h (M + 1) 0 - 1) h
theorem c_X12_isPoint {p : Int32} (hM : s_X12_isPoint M p h) : z_Ev G (d + 3) k_X12_isPoint [.ref M, .int p] h (.inl (some (.int (f_X12_isPoint M p h))), h) :=
  en_X12_isPoint (b_X12_isPoint_0 z_puBV ⟨sh_kd hM, hM, trivial, a_isIn01 _ _ _, rfl⟩)
def s_X12_isLine (M : Nat) (_ : Int32) (h : z_H) : Prop := z_sh M h
def f_X12_isLine (M : Nat) (p : Int32) (h : z_H) : Int32 := f_X12_isIn p 0 (z_ai h (M + 1) 1 - 1) h
theorem c_X12_isLine {p : Int32} (hM : s_X12_isLine M p h) : z_Ev G (d + 3) k_X12_isLine [.ref M, .int p] h (.inl (some (.int (f_X12_isLine M p h))), h) :=
  en_X12_isLine (b_X12_isLine_0 z_puBV ⟨sh_kd hM, hM, trivial, a_isIn01 _ _ _, rfl⟩)
def s_X12_all (M : Nat) (h : z_H) : Prop := z_sh M h ∧ r_ok (z_ai h (M + 1))
def f_X12_all (M : Nat) (h : z_H) : Int32 := nI (2 ^ (r_S (z_ai h (M + 1))).1 - 1)
theorem c_X12_all (hS : s_X12_all M h) : z_Ev G (d + 3) k_X12_all [.ref M] h (.inl (some (.int (f_X12_all M h))), h) := by
  obtain ⟨hM, hR⟩ := hS
  have hn := a_n8 hR
  refine en_X12_all (b_X12_all_0 z_puBV ⟨sh_kd hM, hM, ?_⟩)
  unfold f_X12_all
  rw [a_n hR, n_one (by omega), show (1 : Int32) = nI 1 from rfl, n_sub (Nat.one_le_two_pow)]
/-- places -/
def s_X12_areAtOne (M : Nat) (a b : Int32) (h : z_H) : Prop := z_sh M h ∧ ∃ i j, i < 8 ∧ j < 8 ∧ a = nI i ∧ b = nI j
def f_X12_areAtOne (M : Nat) (a b : Int32) (h : z_H) : Int32 := if z_ai h (M + 1) (14 + a.toNatClampNeg) = z_ai h (M + 1) (14 + b.toNatClampNeg) ∧ z_ai h (M + 1) (22 + a.toNatClampNeg) = z_ai h (M + 1) (22 + b.toNatClampNeg) then 1 else 0
theorem a_14 (l : Nat) : (14 : Int32) + nI l = nI (14 + l) := nI_add 14 l
theorem a_22 (l : Nat) : (22 : Int32) + nI l = nI (22 + l) := nI_add 22 l
theorem c_X12_areAtOne {a b : Int32} (hS : s_X12_areAtOne M a b h) : z_Ev G (d + 3) k_X12_areAtOne [.ref M, .int a, .int b] h (.inl (some (.int (f_X12_areAtOne M a b h))), h) := by
  obtain ⟨hM, i, j, hi, hj, rfl, rfl⟩ := hS
  refine en_X12_areAtOne (b_X12_areAtOne_0 z_puBV ?_)
  unfold f_X12_areAtOne
  have v1 : ∀ k, k < 8 → vp_in (nI (14 + k)) 154 := fun k hk => vp_in_nI (by omega) (by omega)
  have v2 : ∀ k, k < 8 → vp_in (nI (22 + k)) 154 := fun k hk => vp_in_nI (by omega) (by omega)
  have c1 : ∀ k, k < 8 → (nI (14 + k)).toNatClampNeg = 14 + k := fun k hk => nI_clamp (by omega)
  have c2 : ∀ k, k < 8 → (nI (22 + k)).toNatClampNeg = 22 + k := fun k hk => nI_clamp (by omega)
  simp only [sh_kd hM, (sh_now hM).1, (sh_now hM).2.1, (sh_now hM).2.2, z_rcs, true_and, a_14, a_22, v1 _ hi, v1 _ hj, v2 _ hi, v2 _ hj, c1 _ hi, c1 _ hj, c2 _ hi, c2 _ hj, nI_clamp (show i < 2 ^ 31 by omega), nI_clamp (show j < 2 ^ 31 by omega)]
  by_cases e1 : z_ai h (M + 1) (14 + i) = z_ai h (M + 1) (14 + j)
  · rw [if_pos e1]
    by_cases e2 : z_ai h (M + 1) (22 + i) = z_ai h (M + 1) (22 + j)
    · rw [if_pos e2, if_pos ⟨e1, e2⟩]; exact ⟨Or.inr rfl, rfl⟩
    · rw [if_neg e2, if_neg (fun q => e2 q.2)]; exact ⟨Or.inl rfl, rfl⟩
  · rw [if_neg e1, if_neg (fun q => e1 q.1)]; exact ⟨Or.inl rfl, rfl⟩
def s_X12_areInLineAt (M : Nat) (a b c : Int32) (h : z_H) : Prop := z_sh M h ∧ ∃ i j k, i < 8 ∧ j < 8 ∧ k < 8 ∧ a = nI i ∧ b = nI j ∧ c = nI k
def f_X12_areInLineAt (M : Nat) (a b c : Int32) (h : z_H) : Int32 := f_X12_areInLine (z_ai h (M + 1) (14 + a.toNatClampNeg)) (z_ai h (M + 1) (22 + a.toNatClampNeg)) (z_ai h (M + 1) (14 + b.toNatClampNeg)) (z_ai h (M + 1) (22 + b.toNatClampNeg)) (z_ai h (M + 1) (14 + c.toNatClampNeg)) (z_ai h (M + 1) (22 + c.toNatClampNeg)) h
theorem c_X12_areInLineAt {a b c : Int32} (hS : s_X12_areInLineAt M a b c h) : z_Ev G (d + 3) k_X12_areInLineAt [.ref M, .int a, .int b, .int c] h (.inl (some (.int (f_X12_areInLineAt M a b c h))), h) := by
  obtain ⟨hM, i, j, k, hi, hj, hk, rfl, rfl, rfl⟩ := hS
  refine en_X12_areInLineAt (b_X12_areInLineAt_0 z_puBV ?_)
  unfold f_X12_areInLineAt
  have v1 : ∀ k, k < 8 → vp_in (nI (14 + k)) 154 := fun k hk => vp_in_nI (by omega) (by omega)
  have v2 : ∀ k, k < 8 → vp_in (nI (22 + k)) 154 := fun k hk => vp_in_nI (by omega) (by omega)
  have c1 : ∀ k, k < 8 → (nI (14 + k)).toNatClampNeg = 14 + k := fun k hk => nI_clamp (by omega)
  have c2 : ∀ k, k < 8 → (nI (22 + k)).toNatClampNeg = 22 + k := fun k hk => nI_clamp (by omega)
  simp only [sh_kd hM, (sh_now hM).1, (sh_now hM).2.1, (sh_now hM).2.2, z_rcs, true_and, a_14, a_22, v1 _ hi, v1 _ hj, v1 _ hk, v2 _ hi, v2 _ hj, v2 _ hk, c1 _ hi, c1 _ hj, c1 _ hk, c2 _ hi, c2 _ hj, c2 _ hk, nI_clamp (show i < 2 ^ 31 by omega), nI_clamp (show j < 2 ^ 31 by omega), nI_clamp (show k < 2 ^ 31 by omega)]
  refine ⟨trivial, ?_, trivial⟩
  unfold f_X12_areInLine
  split
  · exact Or.inr rfl
  · exact Or.inl rfl
/-- whether a set holds a line -/
def s_X12_hasLine (M : Nat) (a : Int32) (h : z_H) : Prop := z_sh M h ∧ r_ok (z_ai h (M + 1)) ∧ ∃ q, q < 256 ∧ a = nI q
def f_X12_hasLine (M : Nat) (a : Int32) (h : z_H) : Int32 := nI (c_has (r_S (z_ai h (M + 1))) a.toNatClampNeg).toNat
theorem a_b0 (b : Bool) : nI b.toNat = 0 ↔ b = false := by cases b <;> decide
theorem a_bz (b : Bool) : z_bz (nI b.toNat) := by
  cases b
  · exact Or.inl rfl
  · exact Or.inr rfl
theorem l_hasLine (hM : z_sh M h) (hR : r_ok (z_ai h (M + 1))) {q : Nat} (hq : q < 256) : ∀ k l, l + k = (r_S (z_ai h (M + 1))).2.1 → z_J G (d + 3) (m_X12_hasLine z_puB) (.inl (some (.int (nI (c_has (r_S (z_ai h (M + 1))) q).toNat))), h) 4 [some (.ref M), some (.int (nI q)), some (.int (nI (it (fun l b => b || (r_S (z_ai h (M + 1))).2.2 l &&& q == (r_S (z_ai h (M + 1))).2.2 l) false l).toNat)), some (.int (nI l))] [] h := by
  intro k
  have hm := a_m12 hR
  induction k with
  | zero =>
    intro l hl
    refine b_X12_hasLine_4 z_puBV ⟨sh_kd hM, hM, ?_⟩
    rw [a_m hR, if_neg (nI_nlt (by omega) (by omega))]
    rw [show l = (r_S (z_ai h (M + 1))).2.1 by omega]
    exact ⟨a_bz _, rfl⟩
  | succ k ih =>
    intro l hl
    refine b_X12_hasLine_4 z_puBV ⟨sh_kd hM, hM, ?_⟩
    have hL := a_L256 hR l
    have ih := ih (l + 1) (by omega)
    rw [show it (fun l b => b || (r_S (z_ai h (M + 1))).2.2 l &&& q == (r_S (z_ai h (M + 1))).2.2 l) false (l + 1) = (it (fun l b => b || (r_S (z_ai h (M + 1))).2.2 l &&& q == (r_S (z_ai h (M + 1))).2.2 l) false l || (r_S (z_ai h (M + 1))).2.2 l &&& q == (r_S (z_ai h (M + 1))).2.2 l) from rfl] at ih
    rw [a_m hR, if_pos (nI_lt (by omega) (by omega)), a_L hR (by omega), nI_1]
    cases hb : it (fun l b => b || (r_S (z_ai h (M + 1))).2.2 l &&& q == (r_S (z_ai h (M + 1))).2.2 l) false l with
    | true =>
      rw [hb] at ih
      rw [if_neg (by decide)]
      exact ih
    | false =>
      rw [hb] at ih
      rw [if_pos (by decide)]
      refine ⟨sh_kd hM, a_sL hM (by omega), ?_⟩
      by_cases hc : (r_S (z_ai h (M + 1))).2.2 l &&& q = (r_S (z_ai h (M + 1))).2.2 l
      · rw [if_pos ((n_sub_iff (by omega)).mpr hc)]
        rw [show ((r_S (z_ai h (M + 1))).2.2 l &&& q == (r_S (z_ai h (M + 1))).2.2 l) = true by simp [hc]] at ih
        exact ih
      · rw [if_neg (fun e => hc ((n_sub_iff (by omega)).mp e))]
        rw [show ((r_S (z_ai h (M + 1))).2.2 l &&& q == (r_S (z_ai h (M + 1))).2.2 l) = false by simp [hc]] at ih
        exact ih
theorem c_X12_hasLine {a : Int32} (hS : s_X12_hasLine M a h) : z_Ev G (d + 3) k_X12_hasLine [.ref M, .int a] h (.inl (some (.int (f_X12_hasLine M a h))), h) := by
  obtain ⟨hM, hR, q, hq, rfl⟩ := hS
  refine en_X12_hasLine (b_X12_hasLine_0 z_puBV ?_)
  unfold f_X12_hasLine
  rw [nI_clamp (by omega)]
  exact l_hasLine hM hR hq _ 0 (Nat.zero_add _)
/-- a named set -/
def r_N (R : Nat → Int32) : Nat → Nat := fun i => (R i).toNatClampNeg
def r_nm (R : Nat → Int32) : Prop := ∀ i, i < 8 → R i = nI (r_N R i) ∧ r_N R i < 8
def s_X12_named (M : Nat) (a : Int32) (h : z_H) : Prop := z_sh M h ∧ r_nm (z_ai h (M + 5)) ∧ ∃ q, q < 256 ∧ a = nI q
def f_X12_named (M : Nat) (a : Int32) (h : z_H) : Int32 := nI (c_nm (r_N (z_ai h (M + 5))) a.toNatClampNeg)
theorem l_named (hM : z_sh M h) (hN : r_nm (z_ai h (M + 5))) {t : Nat} : ∀ k s v, s < k → s < 256 → v ||| c_nm (r_N (z_ai h (M + 5))) s = t → z_J G (d + 3) (m_X12_named z_puB) (.inl (some (.int (nI t))), h) 4 [some (.ref M), none, some (.int (nI v)), some (.int (nI s))] [] h := by
  intro k
  induction k with
  | zero => intro s v hs; omega
  | succ k ih =>
    intro s v hs h256 ht
    refine b_X12_named_4 z_puBV ?_
    by_cases h0 : s = 0
    · rw [if_pos (by rw [h0]; rfl)]
      rw [h0, show c_nm (r_N (z_ai h (M + 5))) 0 = 0 from by unfold c_nm; simp [it], Nat.or_zero] at ht
      rw [ht]
    · rw [if_neg (fun e => h0 ((n_eq0 (by omega)).mp e))]
      obtain ⟨h1, -, h3, -⟩ := n_tzB s h256 h0
      refine ⟨sh_kd hM, ?_⟩
      rw [(sh_naming hM).1]
      have ez : f_J6_numberOfTrailingZeros_0f7a4 (nI s) h = nI (n_tz s) := n_tzv s (by omega)
      obtain ⟨e1, e2⟩ := hN (n_tz s) h1
      have es : nI s &&& (nI s - 1) = nI (s &&& (s - 1)) := by
        rw [show (1 : Int32) = nI 1 from rfl, n_sub (by omega), fa_and]
      refine ⟨n_tzK s (by omega), (sh_naming hM).2.1, ?_, ?_⟩
      · rw [(sh_naming hM).2.2, ez]; exact vp_in_nI h1 (by omega)
      · rw [ez, nI_clamp (by omega), e1, n_one (by omega), fa_or, es]
        refine ih _ _ (by omega) (by omega) ?_
        rw [← ht, c_nm_step _ h256 h0, Nat.or_assoc]
theorem c_X12_named {a : Int32} (hS : s_X12_named M a h) : z_Ev G (d + 3) k_X12_named [.ref M, .int a] h (.inl (some (.int (f_X12_named M a h))), h) := by
  obtain ⟨hM, hN, q, hq, rfl⟩ := hS
  refine en_X12_named (b_X12_named_0 z_puBV ?_)
  unfold f_X12_named
  rw [nI_clamp (by omega)]
  exact l_named hM hN (q + 1) q 0 (by omega) hq (by rw [Nat.zero_or])
/-- whether a set shares two points with a line of a row (now's or another one) -/
def s_X12_sharesTwo (b : Nat) (a : Int32) (h : z_H) : Prop := (z_kd h b = 1 ∧ 14 ≤ z_ln h b ∧ z_ln h b ≤ 154) ∧ r_ok (z_ai h b) ∧ ∃ q, q < 4096 ∧ a = nI q
def f_X12_sharesTwo (b : Nat) (a : Int32) (h : z_H) : Int32 := nI (c_two (r_S (z_ai h b)) a.toNatClampNeg).toNat
theorem n_pc12 : ∀ a, a < 4096 → n_pc a ≤ 12 := n_64 (by decide +kernel)
theorem l_sharesTwo {b : Nat} (hk : z_kd h b = 1) (hln : 14 ≤ z_ln h b) (hlt : z_ln h b < 2 ^ 31) (hR : r_ok (z_ai h b)) {q : Nat} (hq : q < 4096) : ∀ k l, l + k = (r_S (z_ai h b)).2.1 → z_J G (d + 3) (m_X12_sharesTwo z_puB) (.inl (some (.int (nI (c_two (r_S (z_ai h b)) q).toNat))), h) 4 [some (.ref b), some (.int (nI q)), some (.int (nI (it (fun l x => x || decide (1 < n_pc ((r_S (z_ai h b)).2.2 l &&& q))) false l).toNat)), some (.int (nI l))] [] h := by
  intro k
  have hm := a_m12 hR
  have em : z_ai h b (Int32.toNatClampNeg 1) = nI (r_S (z_ai h b)).2.1 := hR.2.1
  have v1 : vp_in (1 : Int32) (z_ln h b) := vp_in_nI (n := 1) (by omega) hlt
  induction k with
  | zero =>
    intro l hl
    refine b_X12_sharesTwo_4 z_puBV ⟨hk, v1, ?_⟩
    rw [em, if_neg (nI_nlt (by omega) (by omega))]
    rw [show l = (r_S (z_ai h b)).2.1 by omega]
    exact ⟨a_bz _, rfl⟩
  | succ k ih =>
    intro l hl
    refine b_X12_sharesTwo_4 z_puBV ⟨hk, v1, ?_⟩
    have hL := a_L256 hR l
    have ih := ih (l + 1) (by omega)
    rw [show it (fun l x => x || decide (1 < n_pc ((r_S (z_ai h b)).2.2 l &&& q))) false (l + 1) = (it (fun l x => x || decide (1 < n_pc ((r_S (z_ai h b)).2.2 l &&& q))) false l || decide (1 < n_pc ((r_S (z_ai h b)).2.2 l &&& q))) from rfl] at ih
    rw [em, if_pos (nI_lt (by omega) (by omega)), nI_1]
    have eL : z_ai h b (Int32.toNatClampNeg (2 + nI l)) = nI ((r_S (z_ai h b)).2.2 l) := by
      rw [a_2, nI_clamp (by omega)]; exact (hR.2.2.2.2 l (by omega)).1
    cases hb : it (fun l x => x || decide (1 < n_pc ((r_S (z_ai h b)).2.2 l &&& q))) false l with
    | true =>
      rw [hb] at ih
      rw [if_neg (by decide)]
      exact ih
    | false =>
      rw [hb] at ih
      rw [if_pos (by decide)]
      have h256 := and_lt256 (b := q) hL
      have hp := n_pc12 _ (show (r_S (z_ai h b)).2.2 l &&& q < 4096 by omega)
      have eb : f_X12_bits (nI ((r_S (z_ai h b)).2.2 l) &&& nI q) h = nI (n_pc ((r_S (z_ai h b)).2.2 l &&& q)) := by
        unfold f_X12_bits; rw [fa_and]; exact n_bc _ (by omega)
      refine ⟨hk, by rw [a_2]; exact vp_in_nI (by omega) hlt, trivial, ?_⟩
      rw [eL, eb]
      by_cases hc : 1 < n_pc ((r_S (z_ai h b)).2.2 l &&& q)
      · rw [if_pos (show (1 : Int32) < _ from nI_lt (a := 1) hc (by omega))]
        rw [show decide (1 < n_pc ((r_S (z_ai h b)).2.2 l &&& q)) = true by simp [hc]] at ih
        exact ih
      · rw [if_neg (show ¬ (1 : Int32) < _ from nI_nlt (b := n_pc ((r_S (z_ai h b)).2.2 l &&& q)) (a := 1) (by omega) (by omega))]
        rw [show decide (1 < n_pc ((r_S (z_ai h b)).2.2 l &&& q)) = false by simp [hc]] at ih
        exact ih
theorem c_X12_sharesTwo {b : Nat} {a : Int32} (hS : s_X12_sharesTwo b a h) : z_Ev G (d + 3) k_X12_sharesTwo [.ref b, .int a] h (.inl (some (.int (f_X12_sharesTwo b a h))), h) := by
  obtain ⟨⟨h1, h2, h3⟩, hR, q, hq, rfl⟩ := hS
  refine en_X12_sharesTwo (b_X12_sharesTwo_0 z_puBV ?_)
  unfold f_X12_sharesTwo
  rw [nI_clamp (by omega)]
  exact l_sharesTwo h1 h2 (by omega) hR hq _ 0 (Nat.zero_add _)
/-- a sign of the text -/
def s_X12_isMarked (M : Nat) (_ : Int32) (h : z_H) : Prop := z_sh M h ∧ (z_oi h M 12 = 0 → z_oi h M 8 = 3 → vp_in (z_oi h M 10) 400)
def f_X12_isMarked (M : Nat) (c : Int32) (h : z_H) : Int32 := if z_oi h M 12 = 0 then if z_oi h M 8 = 3 then if z_ai h (M + 4) (z_oi h M 10).toNatClampNeg = c then 1 else 0 else 0 else 0
theorem c_X12_isMarked {c : Int32} (hS : s_X12_isMarked M c h) : z_Ev G (d + 3) k_X12_isMarked [.ref M, .int c] h (.inl (some (.int (f_X12_isMarked M c h))), h) := by
  obtain ⟨hM, hv⟩ := hS
  refine en_X12_isMarked (b_X12_isMarked_0 z_puBV ⟨sh_kd hM, ?_⟩)
  unfold f_X12_isMarked
  by_cases h1 : z_oi h M 12 = 0
  · rw [if_pos h1, if_pos h1]
    refine ⟨sh_kd hM, ?_⟩
    by_cases h2 : z_oi h M 8 = 3
    · rw [if_pos h2, if_pos h2]
      refine ⟨sh_kd hM, ?_⟩
      rw [(sh_tape hM).1]
      refine ⟨sh_kd hM, (sh_tape hM).2.1, by rw [(sh_tape hM).2.2]; exact hv h1 h2, ?_⟩
      split
      · exact ⟨Or.inr rfl, rfl⟩
      · exact ⟨Or.inl rfl, rfl⟩
    · rw [if_neg h2, if_neg h2]; exact ⟨Or.inl rfl, rfl⟩
  · rw [if_neg h1, if_neg h1]; exact ⟨Or.inl rfl, rfl⟩
end CC
def z_pC : List z_PE := [(205, q_i s_J6_bitCount_0f7a4, g_i f_J6_bitCount_0f7a4), (240, q_i s_J6_numberOfTrailingZeros_0f7a4, g_i f_J6_numberOfTrailingZeros_0f7a4), (460, q_ii s_J9_max_7cf53, g_ii f_J9_max_7cf53), (126, q_ii s_J9_min_7cf53, g_ii f_J9_min_7cf53), (327, q_iii s_X12_isIn, g_iii f_X12_isIn), (210, q_i s_X12_bits, g_i f_X12_bits), (222, q_r s_X12_points, g_r f_X12_points), (213, q_r s_X12_lines, g_r f_X12_lines), (216, q_ri s_X12_lineAt, g_ri f_X12_lineAt), (115, q_i s_X12_isLetter, g_i f_X12_isLetter), (119, q_i s_X12_isDigit, g_i f_X12_isDigit), (349, q_i s_X12_shelfAt, g_i f_X12_shelfAt), (272, q_iiiiii s_X12_areInLine, g_iiiiii f_X12_areInLine), (105, q_ri s_X12_byteAt, g_ri f_X12_byteAt), (228, q_ri s_X12_linesOn, g_ri f_X12_linesOn), (219, q_ri s_X12_lineOf, g_ri f_X12_lineOf), (352, q_rii s_X12_onShelf, g_rii f_X12_onShelf), (365, q_ri s_X12_hasShelf, g_ri f_X12_hasShelf), (333, q_ri s_X12_isPoint, g_ri f_X12_isPoint), (330, q_ri s_X12_isLine, g_ri f_X12_isLine), (276, q_rii s_X12_areAtOne, g_rii f_X12_areAtOne), (279, q_riii s_X12_areInLineAt, g_riii f_X12_areInLineAt), (429, q_ri s_X12_hasLine, g_ri f_X12_hasLine), (426, q_r s_X12_all, g_r f_X12_all), (247, q_ri s_X12_named, g_ri f_X12_named), (170, q_ri s_X12_sharesTwo, g_ri f_X12_sharesTwo), (161, q_ri s_X12_isMarked, g_ri f_X12_isMarked)]
def z_puC : Nat → Option ((List Value → z_H → Prop) × (List Value → z_H → Int32)) := z_pul z_pC
theorem z_puCV {G : z_G} {d : Nat} : z_PuV G (d + 3) (t_X12 z_puC) := z_pulV rfl (z_hc (k := 205) rfl (e_q_i (fun a0 h hS => c_J6_bitCount_0f7a4 hS)) (z_hc (k := 240) rfl (e_q_i (fun a0 h hS => c_J6_numberOfTrailingZeros_0f7a4 hS)) (z_hc (k := 460) rfl (e_q_ii (fun a0 a1 h hS => c_J9_max_7cf53 hS)) (z_hc (k := 126) rfl (e_q_ii (fun a0 a1 h hS => c_J9_min_7cf53 hS)) (z_hc (k := 327) rfl (e_q_iii (fun a0 a1 a2 h hS => c_X12_isIn hS)) (z_hc (k := 210) rfl (e_q_i (fun a0 h hS => c_X12_bits hS)) (z_hc (k := 222) rfl (e_q_r (fun a0 h hS => c_X12_points hS)) (z_hc (k := 213) rfl (e_q_r (fun a0 h hS => c_X12_lines hS)) (z_hc (k := 216) rfl (e_q_ri (fun a0 a1 h hS => c_X12_lineAt hS)) (z_hc (k := 115) rfl (e_q_i (fun a0 h hS => c_X12_isLetter hS)) (z_hc (k := 119) rfl (e_q_i (fun a0 h hS => c_X12_isDigit hS)) (z_hc (k := 349) rfl (e_q_i (fun a0 h hS => c_X12_shelfAt hS)) (z_hc (k := 272) rfl (e_q_iiiiii (fun a0 a1 a2 a3 a4 a5 h hS => c_X12_areInLine hS)) (z_hc (k := 105) rfl (e_q_ri (fun a0 a1 h hS => c_X12_byteAt hS)) (z_hc (k := 228) rfl (e_q_ri (fun a0 a1 h hS => c_X12_linesOn hS)) (z_hc (k := 219) rfl (e_q_ri (fun a0 a1 h hS => c_X12_lineOf hS)) (z_hc (k := 352) rfl (e_q_rii (fun a0 a1 a2 h hS => c_X12_onShelf hS)) (z_hc (k := 365) rfl (e_q_ri (fun a0 a1 h hS => c_X12_hasShelf hS)) (z_hc (k := 333) rfl (e_q_ri (fun a0 a1 h hS => c_X12_isPoint hS)) (z_hc (k := 330) rfl (e_q_ri (fun a0 a1 h hS => c_X12_isLine hS)) (z_hc (k := 276) rfl (e_q_rii (fun a0 a1 a2 h hS => c_X12_areAtOne hS)) (z_hc (k := 279) rfl (e_q_riii (fun a0 a1 a2 a3 h hS => c_X12_areInLineAt hS)) (z_hc (k := 429) rfl (e_q_ri (fun a0 a1 h hS => c_X12_hasLine hS)) (z_hc (k := 426) rfl (e_q_r (fun a0 h hS => c_X12_all hS)) (z_hc (k := 247) rfl (e_q_ri (fun a0 a1 h hS => c_X12_named hS)) (z_hc (k := 170) rfl (e_q_ri (fun a0 a1 h hS => c_X12_sharesTwo hS)) (z_hc (k := 161) rfl (e_q_ri (fun a0 a1 h hS => c_X12_isMarked hS)) z_hn)))))))))))))))))))))))))))
