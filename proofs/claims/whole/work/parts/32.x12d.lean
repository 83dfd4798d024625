theorem en_X12_areJoined {pu : Nat → Option ((List Value → z_H → Prop) × (List Value → z_H → Int32))} {G : z_G} {d : Nat} {r : z_Res} {h : z_H} {x0 : Nat} {x1 : Int32} {x2 : Int32} (hJ : z_J G d (m_X12_areJoined pu) r 0 [some (.ref x0), some (.int x1), some (.int x2)] [] h) : z_Ev G d k_X12_areJoined [.ref x0, .int x1, .int x2] h r := z_enter (μ := m_X12_areJoined pu) rfl (by decide) rfl rfl (fun q => by cases q) (Nat.le_of_ble_eq_true rfl) hJ
def hd_X12_areJoined : Nat → Option (List Bool) := (fun k => none)
set_option maxRecDepth 20000 in
theorem b_X12_areJoined_0 {G : z_G} {d : Nat} {r : z_Res} (hPu : z_PuV G d (t_X12 z_puC)) {h : z_H} {x0 : Nat} {x1 : Int32} {x2 : Int32} (hT : (z_kd h x0 = 28 ∧ s_X12_lineOf x0 (((1 : Int32) <<< (x1 &&& 31)) ||| ((1 : Int32) <<< (x2 &&& 31))) h ∧ (if (f_X12_lineOf x0 (((1 : Int32) <<< (x1 &&& 31)) ||| ((1 : Int32) <<< (x2 &&& 31))) h) = (-1 : Int32) then (z_bz (0 : Int32) ∧ r = (.inl (some (.int (0 : Int32))), h)) else (z_bz (1 : Int32) ∧ r = (.inl (some (.int (1 : Int32))), h))))) : (z_J G (d + 1) (m_X12_areJoined z_puC) r) 0 [some (.ref x0), some (.int x1), some (.int x2)] [] h := z_bq (v_X12 z_puC (vP_X12_areJoined z_puC) hPu) hd_X12_areJoined 16 hT
theorem en_X12_flags {pu : Nat → Option ((List Value → z_H → Prop) × (List Value → z_H → Int32))} {G : z_G} {d : Nat} {r : z_Res} {h : z_H} {x0 : Nat} (hJ : z_J G d (m_X12_flags pu) r 0 [some (.ref x0), none, none] [] h) : z_Ev G d k_X12_flags [.ref x0] h r := z_enter (μ := m_X12_flags pu) rfl (by decide) rfl rfl (fun q => by cases q) (Nat.le_of_ble_eq_true rfl) hJ
def hd_X12_flags : Nat → Option (List Bool) := (fun k => (cond (Nat.blt k 31) (cond (Nat.beq k 4) (some [true, true, true]) none) none))
set_option maxRecDepth 20000 in
theorem b_X12_flags_0 {G : z_G} {d : Nat} {r : z_Res} (hPu : z_PuV G d (t_X12 z_puC)) {h : z_H} {x0 : Nat} (hT : (z_J G (d + 1) (m_X12_flags z_puC) r) 4 [some (.ref x0), some (.int (0 : Int32)), some (.int (0 : Int32))] [] h) : (z_J G (d + 1) (m_X12_flags z_puC) r) 0 [some (.ref x0), none, none] [] h := z_bq (v_X12 z_puC (vP_X12_flags z_puC) hPu) hd_X12_flags 7 hT
set_option maxRecDepth 20000 in
theorem b_X12_flags_4 {G : z_G} {d : Nat} {r : z_Res} (hPu : z_PuV G d (t_X12 z_puC)) {h : z_H} {x0 : Nat} {x1 : Int32} {x2 : Int32} (hT : (z_kd h x0 = 28 ∧ s_X12_lines x0 h ∧ (if x2 < (f_X12_lines x0 h) then (z_kd h x0 = 28 ∧ s_X12_lineAt x0 x2 h ∧ (s_X12_bits (f_X12_lineAt x0 x2 h) h ∧ (z_J G (d + 1) (m_X12_flags z_puC) r) 4 [some (.ref x0), some (.int (x1 + (f_X12_bits (f_X12_lineAt x0 x2 h) h))), some (.int (x2 + (1 : Int32)))] [] h)) else r = (.inl (some (.int x1)), h)))) : (z_J G (d + 1) (m_X12_flags z_puC) r) 4 [some (.ref x0), some (.int x1), some (.int x2)] [] h := z_bq (v_X12 z_puC (vP_X12_flags z_puC) hPu) hd_X12_flags 16 hT
theorem en_X12_pairs {pu : Nat → Option ((List Value → z_H → Prop) × (List Value → z_H → Int32))} {G : z_G} {d : Nat} {r : z_Res} {h : z_H} {x0 : Nat} (hJ : z_J G d (m_X12_pairs pu) r 0 [some (.ref x0), none, none, none] [] h) : z_Ev G d k_X12_pairs [.ref x0] h r := z_enter (μ := m_X12_pairs pu) rfl (by decide) rfl rfl (fun q => by cases q) (Nat.le_of_ble_eq_true rfl) hJ
def hd_X12_pairs : Nat → Option (List Bool) := (fun k => (cond (Nat.blt k 55) (cond (Nat.blt k 16) (cond (Nat.beq k 4) (some [true, true, true, false]) none) (cond (Nat.beq k 16) (some [true, true, true, true]) none)) none))
set_option maxRecDepth 20000 in
theorem b_X12_pairs_0 {G : z_G} {d : Nat} {r : z_Res} (hPu : z_PuV G d (t_X12 z_puC)) {h : z_H} {x0 : Nat} (hT : (z_J G (d + 1) (m_X12_pairs z_puC) r) 4 [some (.ref x0), some (.int (0 : Int32)), some (.int (0 : Int32)), none] [] h) : (z_J G (d + 1) (m_X12_pairs z_puC) r) 0 [some (.ref x0), none, none, none] [] h := z_bq (v_X12 z_puC (vP_X12_pairs z_puC) hPu) hd_X12_pairs 7 hT
set_option maxRecDepth 20000 in
theorem b_X12_pairs_4 {G : z_G} {d : Nat} {r : z_Res} (hPu : z_PuV G d (t_X12 z_puC)) {h : z_H} {x0 : Nat} {x1 : Int32} {x2 : Int32} (hT : (z_kd h x0 = 28 ∧ s_X12_points x0 h ∧ (if x2 < (f_X12_points x0 h) then (z_J G (d + 1) (m_X12_pairs z_puC) r) 16 [some (.ref x0), some (.int x1), some (.int x2), some (.int (x2 + (1 : Int32)))] [] h else r = (.inl (some (.int x1)), h)))) : (z_J G (d + 1) (m_X12_pairs z_puC) r) 4 [some (.ref x0), some (.int x1), some (.int x2), none] [] h := z_bq (v_X12 z_puC (vP_X12_pairs z_puC) hPu) hd_X12_pairs 11 hT
set_option maxRecDepth 20000 in
theorem b_X12_pairs_16 {G : z_G} {d : Nat} {r : z_Res} (hPu : z_PuV G d (t_X12 z_puC)) {h : z_H} {x0 : Nat} {x1 : Int32} {x2 : Int32} {x3 : Int32} (hT : (z_kd h x0 = 28 ∧ s_X12_points x0 h ∧ (if x3 < (f_X12_points x0 h) then (z_kd h x0 = 28 ∧ ∃ x_2 h_1, z_Ev G d k_X12_areJoined [.ref x0, .int x2, .int x3] h (.inl (some (.int x_2)), h_1) ∧ (if x_2 = 0 then (z_J G (d + 1) (m_X12_pairs z_puC) r) 16 [some (.ref x0), some (.int (x1 + (0 : Int32))), some (.int x2), some (.int (x3 + (1 : Int32)))] [] h_1 else (z_J G (d + 1) (m_X12_pairs z_puC) r) 16 [some (.ref x0), some (.int (x1 + (1 : Int32))), some (.int x2), some (.int (x3 + (1 : Int32)))] [] h_1)) else (z_J G (d + 1) (m_X12_pairs z_puC) r) 4 [some (.ref x0), some (.int x1), some (.int (x2 + (1 : Int32))), none] [] h))) : (z_J G (d + 1) (m_X12_pairs z_puC) r) 16 [some (.ref x0), some (.int x1), some (.int x2), some (.int x3)] [] h := z_bq (v_X12 z_puC (vP_X12_pairs z_puC) hPu) hd_X12_pairs 19 hT
theorem en_X12_regularR {pu : Nat → Option ((List Value → z_H → Prop) × (List Value → z_H → Int32))} {G : z_G} {d : Nat} {r : z_Res} {h : z_H} {x0 : Nat} (hJ : z_J G d (m_X12_regularR pu) r 0 [some (.ref x0), none, none] [] h) : z_Ev G d k_X12_regularR [.ref x0] h r := z_enter (μ := m_X12_regularR pu) rfl (by decide) rfl rfl (fun q => by cases q) (Nat.le_of_ble_eq_true rfl) hJ
def hd_X12_regularR : Nat → Option (List Bool) := (fun k => (cond (Nat.blt k 41) (cond (Nat.beq k 11) (some [true, true, true]) none) none))
set_option maxRecDepth 20000 in
theorem b_X12_regularR_0 {G : z_G} {d : Nat} {r : z_Res} (hPu : z_PuV G d (t_X12 z_puC)) {h : z_H} {x0 : Nat} (hT : (z_kd h x0 = 28 ∧ s_X12_linesOn x0 (0 : Int32) h ∧ (s_X12_bits (f_X12_linesOn x0 (0 : Int32) h) h ∧ (z_J G (d + 1) (m_X12_regularR z_puC) r) 11 [some (.ref x0), some (.int (f_X12_bits (f_X12_linesOn x0 (0 : Int32) h) h)), some (.int (1 : Int32))] [] h))) : (z_J G (d + 1) (m_X12_regularR z_puC) r) 0 [some (.ref x0), none, none] [] h := z_bq (v_X12 z_puC (vP_X12_regularR z_puC) hPu) hd_X12_regularR 10 hT
set_option maxRecDepth 20000 in
theorem b_X12_regularR_11 {G : z_G} {d : Nat} {r : z_Res} (hPu : z_PuV G d (t_X12 z_puC)) {h : z_H} {x0 : Nat} {x1 : Int32} {x2 : Int32} (hT : (z_kd h x0 = 28 ∧ s_X12_points x0 h ∧ (if x2 < (f_X12_points x0 h) then (z_kd h x0 = 28 ∧ s_X12_linesOn x0 x2 h ∧ (s_X12_bits (f_X12_linesOn x0 x2 h) h ∧ (if (f_X12_bits (f_X12_linesOn x0 x2 h) h) = x1 then (z_J G (d + 1) (m_X12_regularR z_puC) r) 11 [some (.ref x0), some (.int x1), some (.int (x2 + (1 : Int32)))] [] h else r = (.inl (some (.int (-1 : Int32))), h)))) else r = (.inl (some (.int x1)), h)))) : (z_J G (d + 1) (m_X12_regularR z_puC) r) 11 [some (.ref x0), some (.int x1), some (.int x2)] [] h := z_bq (v_X12 z_puC (vP_X12_regularR z_puC) hPu) hd_X12_regularR 15 hT
theorem en_X12_regularK {pu : Nat → Option ((List Value → z_H → Prop) × (List Value → z_H → Int32))} {G : z_G} {d : Nat} {r : z_Res} {h : z_H} {x0 : Nat} (hJ : z_J G d (m_X12_regularK pu) r 0 [some (.ref x0), none, none] [] h) : z_Ev G d k_X12_regularK [.ref x0] h r := z_enter (μ := m_X12_regularK pu) rfl (by decide) rfl rfl (fun q => by cases q) (Nat.le_of_ble_eq_true rfl) hJ
def hd_X12_regularK : Nat → Option (List Bool) := (fun k => (cond (Nat.blt k 52) (cond (Nat.beq k 22) (some [true, true, true]) none) none))
set_option maxRecDepth 20000 in
theorem b_X12_regularK_0 {G : z_G} {d : Nat} {r : z_Res} (hPu : z_PuV G d (t_X12 z_puC)) {h : z_H} {x0 : Nat} (hT : (z_kd h x0 = 28 ∧ s_X12_lines x0 h ∧ (if (f_X12_lines x0 h) = 0 then (z_J G (d + 1) (m_X12_regularK z_puC) r) 22 [some (.ref x0), some (.int (0 : Int32)), some (.int (1 : Int32))] [] h else (z_kd h x0 = 28 ∧ s_X12_lineAt x0 (0 : Int32) h ∧ (s_X12_bits (f_X12_lineAt x0 (0 : Int32) h) h ∧ (z_J G (d + 1) (m_X12_regularK z_puC) r) 22 [some (.ref x0), some (.int (f_X12_bits (f_X12_lineAt x0 (0 : Int32) h) h)), some (.int (1 : Int32))] [] h))))) : (z_J G (d + 1) (m_X12_regularK z_puC) r) 0 [some (.ref x0), none, none] [] h := z_bq (v_X12 z_puC (vP_X12_regularK z_puC) hPu) hd_X12_regularK 13 hT
set_option maxRecDepth 20000 in
theorem b_X12_regularK_22 {G : z_G} {d : Nat} {r : z_Res} (hPu : z_PuV G d (t_X12 z_puC)) {h : z_H} {x0 : Nat} {x1 : Int32} {x2 : Int32} (hT : (z_kd h x0 = 28 ∧ s_X12_lines x0 h ∧ (if x2 < (f_X12_lines x0 h) then (z_kd h x0 = 28 ∧ s_X12_lineAt x0 x2 h ∧ (s_X12_bits (f_X12_lineAt x0 x2 h) h ∧ (if (f_X12_bits (f_X12_lineAt x0 x2 h) h) = x1 then (z_J G (d + 1) (m_X12_regularK z_puC) r) 22 [some (.ref x0), some (.int x1), some (.int (x2 + (1 : Int32)))] [] h else r = (.inl (some (.int (-1 : Int32))), h)))) else r = (.inl (some (.int x1)), h)))) : (z_J G (d + 1) (m_X12_regularK z_puC) r) 22 [some (.ref x0), some (.int x1), some (.int x2)] [] h := z_bq (v_X12 z_puC (vP_X12_regularK z_puC) hPu) hd_X12_regularK 15 hT
theorem en_X12_isRegular {pu : Nat → Option ((List Value → z_H → Prop) × (List Value → z_H → Int32))} {G : z_G} {d : Nat} {r : z_Res} {h : z_H} {x0 : Nat} (hJ : z_J G d (m_X12_isRegular pu) r 0 [some (.ref x0)] [] h) : z_Ev G d k_X12_isRegular [.ref x0] h r := z_enter (μ := m_X12_isRegular pu) rfl (by decide) rfl rfl (fun q => by cases q) (Nat.le_of_ble_eq_true rfl) hJ
def hd_X12_isRegular : Nat → Option (List Bool) := (fun k => none)
set_option maxRecDepth 20000 in
theorem b_X12_isRegular_0 {G : z_G} {d : Nat} {r : z_Res} (hPu : z_PuV G d (t_X12 z_puC)) {h : z_H} {x0 : Nat} (hT : (z_kd h x0 = 28 ∧ ∃ x_2 h_1, z_Ev G d k_X12_regularR [.ref x0] h (.inl (some (.int x_2)), h_1) ∧ (if x_2 = (-1 : Int32) then (z_bz (0 : Int32) ∧ r = (.inl (some (.int (0 : Int32))), h_1)) else (z_kd h_1 x0 = 28 ∧ ∃ x_4 h_3, z_Ev G d k_X12_regularK [.ref x0] h_1 (.inl (some (.int x_4)), h_3) ∧ (if x_4 = (-1 : Int32) then (z_bz (0 : Int32) ∧ r = (.inl (some (.int (0 : Int32))), h_3)) else (z_bz (1 : Int32) ∧ r = (.inl (some (.int (1 : Int32))), h_3))))))) : (z_J G (d + 1) (m_X12_isRegular z_puC) r) 0 [some (.ref x0)] [] h := z_bq (v_X12 z_puC (vP_X12_isRegular z_puC) hPu) hd_X12_isRegular 13 hT
theorem en_X12_apart {pu : Nat → Option ((List Value → z_H → Prop) × (List Value → z_H → Int32))} {G : z_G} {d : Nat} {r : z_Res} {h : z_H} {x0 : Nat} (hJ : z_J G d (m_X12_apart pu) r 0 [some (.ref x0), none, none, none] [] h) : z_Ev G d k_X12_apart [.ref x0] h r := z_enter (μ := m_X12_apart pu) rfl (by decide) rfl rfl (fun q => by cases q) (Nat.le_of_ble_eq_true rfl) hJ
def hd_X12_apart : Nat → Option (List Bool) := (fun k => (cond (Nat.blt k 60) (cond (Nat.blt k 16) (cond (Nat.beq k 4) (some [true, true, true, false]) none) (cond (Nat.beq k 16) (some [true, true, true, true]) none)) none))
set_option maxRecDepth 20000 in
theorem b_X12_apart_0 {G : z_G} {d : Nat} {r : z_Res} (hPu : z_PuV G d (t_X12 z_puC)) {h : z_H} {x0 : Nat} (hT : (z_J G (d + 1) (m_X12_apart z_puC) r) 4 [some (.ref x0), some (.int (0 : Int32)), some (.int (0 : Int32)), none] [] h) : (z_J G (d + 1) (m_X12_apart z_puC) r) 0 [some (.ref x0), none, none, none] [] h := z_bq (v_X12 z_puC (vP_X12_apart z_puC) hPu) hd_X12_apart 7 hT
set_option maxRecDepth 20000 in
theorem b_X12_apart_4 {G : z_G} {d : Nat} {r : z_Res} (hPu : z_PuV G d (t_X12 z_puC)) {h : z_H} {x0 : Nat} {x1 : Int32} {x2 : Int32} (hT : (z_kd h x0 = 28 ∧ s_X12_lines x0 h ∧ (if x2 < (f_X12_lines x0 h) then (z_J G (d + 1) (m_X12_apart z_puC) r) 16 [some (.ref x0), some (.int x1), some (.int x2), some (.int (x2 + (1 : Int32)))] [] h else r = (.inl (some (.int x1)), h)))) : (z_J G (d + 1) (m_X12_apart z_puC) r) 4 [some (.ref x0), some (.int x1), some (.int x2), none] [] h := z_bq (v_X12 z_puC (vP_X12_apart z_puC) hPu) hd_X12_apart 11 hT
set_option maxRecDepth 20000 in
theorem b_X12_apart_16 {G : z_G} {d : Nat} {r : z_Res} (hPu : z_PuV G d (t_X12 z_puC)) {h : z_H} {x0 : Nat} {x1 : Int32} {x2 : Int32} {x3 : Int32} (hT : (z_kd h x0 = 28 ∧ s_X12_lines x0 h ∧ (if x3 < (f_X12_lines x0 h) then (z_kd h x0 = 28 ∧ s_X12_lineAt x0 x2 h ∧ (z_kd h x0 = 28 ∧ s_X12_lineAt x0 x3 h ∧ (if ((f_X12_lineAt x0 x2 h) &&& (f_X12_lineAt x0 x3 h)) = 0 then (z_J G (d + 1) (m_X12_apart z_puC) r) 16 [some (.ref x0), some (.int (x1 + (1 : Int32))), some (.int x2), some (.int (x3 + (1 : Int32)))] [] h else (z_J G (d + 1) (m_X12_apart z_puC) r) 16 [some (.ref x0), some (.int (x1 + (0 : Int32))), some (.int x2), some (.int (x3 + (1 : Int32)))] [] h))) else (z_J G (d + 1) (m_X12_apart z_puC) r) 4 [some (.ref x0), some (.int x1), some (.int (x2 + (1 : Int32))), none] [] h))) : (z_J G (d + 1) (m_X12_apart z_puC) r) 16 [some (.ref x0), some (.int x1), some (.int x2), some (.int x3)] [] h := z_bq (v_X12 z_puC (vP_X12_apart z_puC) hPu) hd_X12_apart 22 hT
theorem en_X12_pieceOf {pu : Nat → Option ((List Value → z_H → Prop) × (List Value → z_H → Int32))} {G : z_G} {d : Nat} {r : z_Res} {h : z_H} {x0 : Nat} {x1 : Int32} (hJ : z_J G d (m_X12_pieceOf pu) r 0 [some (.ref x0), some (.int x1), none, none, none] [] h) : z_Ev G d k_X12_pieceOf [.ref x0, .int x1] h r := z_enter (μ := m_X12_pieceOf pu) rfl (by decide) rfl rfl (fun q => by cases q) (Nat.le_of_ble_eq_true rfl) hJ
def hd_X12_pieceOf : Nat → Option (List Bool) := (fun k => (cond (Nat.blt k 60) (cond (Nat.blt k 17) (cond (Nat.beq k 6) (some [true, false, true, true, false]) none) (cond (Nat.beq k 17) (some [true, false, true, true, true]) none)) none))
set_option maxRecDepth 20000 in
theorem b_X12_pieceOf_0 {G : z_G} {d : Nat} {r : z_Res} (hPu : z_PuV G d (t_X12 z_puC)) {h : z_H} {x0 : Nat} {x1 : Int32} (hT : (z_J G (d + 1) (m_X12_pieceOf z_puC) r) 6 [some (.ref x0), none, some (.int ((1 : Int32) <<< (x1 &&& 31))), some (.int (0 : Int32)), none] [] h) : (z_J G (d + 1) (m_X12_pieceOf z_puC) r) 0 [some (.ref x0), some (.int x1), none, none, none] [] h := z_bq (v_X12 z_puC (vP_X12_pieceOf z_puC) hPu) hd_X12_pieceOf 9 hT
set_option maxRecDepth 20000 in
theorem b_X12_pieceOf_6 {G : z_G} {d : Nat} {r : z_Res} (hPu : z_PuV G d (t_X12 z_puC)) {h : z_H} {x0 : Nat} {x2 : Int32} {x3 : Int32} (hT : (z_kd h x0 = 28 ∧ s_X12_points x0 h ∧ (if x3 < (f_X12_points x0 h) then (z_J G (d + 1) (m_X12_pieceOf z_puC) r) 17 [some (.ref x0), none, some (.int x2), some (.int x3), some (.int (0 : Int32))] [] h else r = (.inl (some (.int x2)), h)))) : (z_J G (d + 1) (m_X12_pieceOf z_puC) r) 6 [some (.ref x0), none, some (.int x2), some (.int x3), none] [] h := z_bq (v_X12 z_puC (vP_X12_pieceOf z_puC) hPu) hd_X12_pieceOf 9 hT
set_option maxRecDepth 20000 in
theorem b_X12_pieceOf_17 {G : z_G} {d : Nat} {r : z_Res} (hPu : z_PuV G d (t_X12 z_puC)) {h : z_H} {x0 : Nat} {x2 : Int32} {x3 : Int32} {x4 : Int32} (hT : (z_kd h x0 = 28 ∧ s_X12_lines x0 h ∧ (if x4 < (f_X12_lines x0 h) then (z_kd h x0 = 28 ∧ s_X12_lineAt x0 x4 h ∧ (if ((f_X12_lineAt x0 x4 h) &&& x2) = 0 then (z_J G (d + 1) (m_X12_pieceOf z_puC) r) 17 [some (.ref x0), none, some (.int x2), some (.int x3), some (.int (x4 + (1 : Int32)))] [] h else (z_kd h x0 = 28 ∧ s_X12_lineAt x0 x4 h ∧ (z_J G (d + 1) (m_X12_pieceOf z_puC) r) 17 [some (.ref x0), none, some (.int (x2 ||| (f_X12_lineAt x0 x4 h))), some (.int x3), some (.int (x4 + (1 : Int32)))] [] h))) else (z_J G (d + 1) (m_X12_pieceOf z_puC) r) 6 [some (.ref x0), none, some (.int x2), some (.int (x3 + (1 : Int32))), none] [] h))) : (z_J G (d + 1) (m_X12_pieceOf z_puC) r) 17 [some (.ref x0), none, some (.int x2), some (.int x3), some (.int x4)] [] h := z_bq (v_X12 z_puC (vP_X12_pieceOf z_puC) hPu) hd_X12_pieceOf 21 hT
theorem en_X12_pieces {pu : Nat → Option ((List Value → z_H → Prop) × (List Value → z_H → Int32))} {G : z_G} {d : Nat} {r : z_Res} {h : z_H} {x0 : Nat} (hJ : z_J G d (m_X12_pieces pu) r 0 [some (.ref x0), none, none] [] h) : z_Ev G d k_X12_pieces [.ref x0] h r := z_enter (μ := m_X12_pieces pu) rfl (by decide) rfl rfl (fun q => by cases q) (Nat.le_of_ble_eq_true rfl) hJ
def hd_X12_pieces : Nat → Option (List Bool) := (fun k => (cond (Nat.blt k 40) (cond (Nat.beq k 4) (some [true, true, true]) none) none))
set_option maxRecDepth 20000 in
theorem b_X12_pieces_0 {G : z_G} {d : Nat} {r : z_Res} (hPu : z_PuV G d (t_X12 z_puC)) {h : z_H} {x0 : Nat} (hT : (z_J G (d + 1) (m_X12_pieces z_puC) r) 4 [some (.ref x0), some (.int (0 : Int32)), some (.int (0 : Int32))] [] h) : (z_J G (d + 1) (m_X12_pieces z_puC) r) 0 [some (.ref x0), none, none] [] h := z_bq (v_X12 z_puC (vP_X12_pieces z_puC) hPu) hd_X12_pieces 7 hT
set_option maxRecDepth 20000 in
theorem b_X12_pieces_4 {G : z_G} {d : Nat} {r : z_Res} (hPu : z_PuV G d (t_X12 z_puC)) {h : z_H} {x0 : Nat} {x1 : Int32} {x2 : Int32} (hT : (z_kd h x0 = 28 ∧ s_X12_points x0 h ∧ (if x2 < (f_X12_points x0 h) then (z_kd h x0 = 28 ∧ ∃ x_2 h_1, z_Ev G d k_X12_pieceOf [.ref x0, .int x2] h (.inl (some (.int x_2)), h_1) ∧ (s_J6_numberOfTrailingZeros_0f7a4 x_2 h_1 ∧ (if (f_J6_numberOfTrailingZeros_0f7a4 x_2 h_1) = x2 then (z_J G (d + 1) (m_X12_pieces z_puC) r) 4 [some (.ref x0), some (.int (x1 + (1 : Int32))), some (.int (x2 + (1 : Int32)))] [] h_1 else (z_J G (d + 1) (m_X12_pieces z_puC) r) 4 [some (.ref x0), some (.int (x1 + (0 : Int32))), some (.int (x2 + (1 : Int32)))] [] h_1))) else r = (.inl (some (.int x1)), h)))) : (z_J G (d + 1) (m_X12_pieces z_puC) r) 4 [some (.ref x0), some (.int x1), some (.int x2)] [] h := z_bq (v_X12 z_puC (vP_X12_pieces z_puC) hPu) hd_X12_pieces 20 hT
theorem en_X12_triangles {pu : Nat → Option ((List Value → z_H → Prop) × (List Value → z_H → Int32))} {G : z_G} {d : Nat} {r : z_Res} {h : z_H} {x0 : Nat} (hJ : z_J G d (m_X12_triangles pu) r 0 [some (.ref x0), none, none, none, none, none, none, none] [] h) : z_Ev G d k_X12_triangles [.ref x0] h r := z_enter (μ := m_X12_triangles pu) rfl (by decide) rfl rfl (fun q => by cases q) (Nat.le_of_ble_eq_true rfl) hJ
def hd_X12_triangles : Nat → Option (List Bool) := (fun k => (cond (Nat.blt k 137) (cond (Nat.blt k 16) (cond (Nat.beq k 4) (some [true, true, true, false, false, false, false, false]) none) (cond (Nat.blt k 29) (cond (Nat.beq k 16) (some [true, true, true, true, false, false, false, false]) none) (cond (Nat.beq k 29) (some [true, true, true, true, true, false, false, false]) none))) none))
set_option maxRecDepth 20000 in
theorem b_X12_triangles_0 {G : z_G} {d : Nat} {r : z_Res} (hPu : z_PuV G d (t_X12 z_puC)) {h : z_H} {x0 : Nat} (hT : (z_J G (d + 1) (m_X12_triangles z_puC) r) 4 [some (.ref x0), some (.int (0 : Int32)), some (.int (0 : Int32)), none, none, none, none, none] [] h) : (z_J G (d + 1) (m_X12_triangles z_puC) r) 0 [some (.ref x0), none, none, none, none, none, none, none] [] h := z_bq (v_X12 z_puC (vP_X12_triangles z_puC) hPu) hd_X12_triangles 7 hT
set_option maxRecDepth 20000 in
theorem b_X12_triangles_4 {G : z_G} {d : Nat} {r : z_Res} (hPu : z_PuV G d (t_X12 z_puC)) {h : z_H} {x0 : Nat} {x1 : Int32} {x2 : Int32} (hT : (z_kd h x0 = 28 ∧ s_X12_lines x0 h ∧ (if x2 < (f_X12_lines x0 h) then (z_J G (d + 1) (m_X12_triangles z_puC) r) 16 [some (.ref x0), some (.int x1), some (.int x2), some (.int (x2 + (1 : Int32))), none, none, none, none] [] h else r = (.inl (some (.int x1)), h)))) : (z_J G (d + 1) (m_X12_triangles z_puC) r) 4 [some (.ref x0), some (.int x1), some (.int x2), none, none, none, none, none] [] h := z_bq (v_X12 z_puC (vP_X12_triangles z_puC) hPu) hd_X12_triangles 11 hT
set_option maxRecDepth 20000 in
theorem b_X12_triangles_16 {G : z_G} {d : Nat} {r : z_Res} (hPu : z_PuV G d (t_X12 z_puC)) {h : z_H} {x0 : Nat} {x1 : Int32} {x2 : Int32} {x3 : Int32} (hT : (z_kd h x0 = 28 ∧ s_X12_lines x0 h ∧ (if x3 < (f_X12_lines x0 h) then (z_J G (d + 1) (m_X12_triangles z_puC) r) 29 [some (.ref x0), some (.int x1), some (.int x2), some (.int x3), some (.int (x3 + (1 : Int32))), none, none, none] [] h else (z_J G (d + 1) (m_X12_triangles z_puC) r) 4 [some (.ref x0), some (.int x1), some (.int (x2 + (1 : Int32))), none, none, none, none, none] [] h))) : (z_J G (d + 1) (m_X12_triangles z_puC) r) 16 [some (.ref x0), some (.int x1), some (.int x2), some (.int x3), none, none, none, none] [] h := z_bq (v_X12 z_puC (vP_X12_triangles z_puC) hPu) hd_X12_triangles 11 hT
set_option maxRecDepth 20000 in
theorem b_X12_triangles_29 {G : z_G} {d : Nat} {r : z_Res} (hPu : z_PuV G d (t_X12 z_puC)) {h : z_H} {x0 : Nat} {x1 : Int32} {x2 : Int32} {x3 : Int32} {x4 : Int32} (hT : (z_kd h x0 = 28 ∧ s_X12_lines x0 h ∧ (if x4 < (f_X12_lines x0 h) then (z_kd h x0 = 28 ∧ s_X12_lineAt x0 x2 h ∧ (z_kd h x0 = 28 ∧ s_X12_lineAt x0 x3 h ∧ (z_kd h x0 = 28 ∧ s_X12_lineAt x0 x2 h ∧ (z_kd h x0 = 28 ∧ s_X12_lineAt x0 x4 h ∧ (z_kd h x0 = 28 ∧ s_X12_lineAt x0 x3 h ∧ (z_kd h x0 = 28 ∧ s_X12_lineAt x0 x4 h ∧ (if ((f_X12_lineAt x0 x2 h) &&& (f_X12_lineAt x0 x3 h)) = 0 then (z_J G (d + 1) (m_X12_triangles z_puC) r) 29 [some (.ref x0), some (.int (x1 + (0 : Int32))), some (.int x2), some (.int x3), some (.int (x4 + (1 : Int32))), none, none, none] [] h else (if ((f_X12_lineAt x0 x2 h) &&& (f_X12_lineAt x0 x4 h)) = 0 then (z_J G (d + 1) (m_X12_triangles z_puC) r) 29 [some (.ref x0), some (.int (x1 + (0 : Int32))), some (.int x2), some (.int x3), some (.int (x4 + (1 : Int32))), none, none, none] [] h else (if ((f_X12_lineAt x0 x3 h) &&& (f_X12_lineAt x0 x4 h)) = 0 then (z_J G (d + 1) (m_X12_triangles z_puC) r) 29 [some (.ref x0), some (.int (x1 + (0 : Int32))), some (.int x2), some (.int x3), some (.int (x4 + (1 : Int32))), none, none, none] [] h else (s_X12_bits ((((f_X12_lineAt x0 x2 h) &&& (f_X12_lineAt x0 x3 h)) ||| ((f_X12_lineAt x0 x2 h) &&& (f_X12_lineAt x0 x4 h))) ||| ((f_X12_lineAt x0 x3 h) &&& (f_X12_lineAt x0 x4 h))) h ∧ (if (f_X12_bits ((((f_X12_lineAt x0 x2 h) &&& (f_X12_lineAt x0 x3 h)) ||| ((f_X12_lineAt x0 x2 h) &&& (f_X12_lineAt x0 x4 h))) ||| ((f_X12_lineAt x0 x3 h) &&& (f_X12_lineAt x0 x4 h))) h) = (3 : Int32) then (z_J G (d + 1) (m_X12_triangles z_puC) r) 29 [some (.ref x0), some (.int (x1 + (1 : Int32))), some (.int x2), some (.int x3), some (.int (x4 + (1 : Int32))), none, none, none] [] h else (z_J G (d + 1) (m_X12_triangles z_puC) r) 29 [some (.ref x0), some (.int (x1 + (0 : Int32))), some (.int x2), some (.int x3), some (.int (x4 + (1 : Int32))), none, none, none] [] h))))))))))) else (z_J G (d + 1) (m_X12_triangles z_puC) r) 16 [some (.ref x0), some (.int x1), some (.int x2), some (.int (x3 + (1 : Int32))), none, none, none, none] [] h))) : (z_J G (d + 1) (m_X12_triangles z_puC) r) 29 [some (.ref x0), some (.int x1), some (.int x2), some (.int x3), some (.int x4), none, none, none] [] h := z_bq (v_X12 z_puC (vP_X12_triangles z_puC) hPu) hd_X12_triangles 52 hT
/-! counts, in numbers -/
def c_flags (S : Sc) : Nat := it (fun l n => n + n_pc (S.2.2 l)) 0 S.2.1
def c_join (S : Sc) (a b : Nat) : Bool := decide (c_of S (2 ^ a ||| 2 ^ b) < S.2.1)
def c_pairs (S : Sc) : Nat := it (fun a n => itr (fun b n => n + (c_join S a b).toNat) n (a + 1) S.1) 0 S.1
def c_regR (S : Sc) : Int32 := if fa_first (fun k => n_pc (c_on S (1 + k)) != n_pc (c_on S 0)) (S.1 - 1) < S.1 - 1 then -1 else nI (n_pc (c_on S 0))
def c_k0 (S : Sc) : Nat := if S.2.1 = 0 then 0 else n_pc (S.2.2 0)
def c_regK (S : Sc) : Int32 := if fa_first (fun k => n_pc (S.2.2 (1 + k)) != c_k0 S) (S.2.1 - 1) < S.2.1 - 1 then -1 else nI (c_k0 S)
def c_isReg (S : Sc) : Bool := decide (c_regR S ≠ -1 ∧ c_regK S ≠ -1)
def c_apart (S : Sc) : Nat := it (fun a n => itr (fun b n => n + (decide (S.2.2 a &&& S.2.2 b = 0)).toNat) n (a + 1) S.2.1) 0 S.2.1
def c_piece (S : Sc) (p : Nat) : Nat := it (fun _ x => it (fun l x => if S.2.2 l &&& x = 0 then x else x ||| S.2.2 l) x S.2.1) (2 ^ p) S.1
def c_pieces (S : Sc) : Nat := it (fun p n => n + (decide (n_tz (c_piece S p) = p)).toNat) 0 S.1
def c_tri (S : Sc) (a b c : Nat) : Bool := decide (S.2.2 a &&& S.2.2 b ≠ 0 ∧ S.2.2 a &&& S.2.2 c ≠ 0 ∧ S.2.2 b &&& S.2.2 c ≠ 0 ∧ n_pc ((S.2.2 a &&& S.2.2 b) ||| (S.2.2 a &&& S.2.2 c) ||| (S.2.2 b &&& S.2.2 c)) = 3)
def c_tris (S : Sc) : Nat := it (fun a n => itr (fun b n => itr (fun c n => n + (c_tri S a b c).toNat) n (b + 1) S.2.1) n (a + 1) S.2.1) 0 S.2.1
section CD
variable {G : z_G} {d : Nat} {h : z_H} {M : Nat} {S : Sc}
theorem e_areJoined (hA : z_at M h S) {a b : Nat} (ha : a < 8) (hb : b < 8) : z_Ev G (d + 4) k_X12_areJoined [.ref M, .int (nI a), .int (nI b)] h (.inl (some (.int (nI (c_join S a b).toNat))), h) := by
  have hl := or_lt256 (t_pow ha) (t_pow hb)
  refine en_X12_areJoined (b_X12_areJoined_0 z_puCV ?_)
  rw [n_one (by omega), n_one (by omega), fa_or]
  refine ⟨t_kd hA, t_sof hA hl, ?_⟩
  unfold c_join
  by_cases hc : c_of S (2 ^ a ||| 2 ^ b) < S.2.1
  · rw [if_neg (fun e => (t_ofN hA hl).mp e hc), decide_eq_true hc]; exact ⟨Or.inr rfl, rfl⟩
  · rw [if_pos ((t_ofN hA hl).mpr hc), decide_eq_false hc]; exact ⟨Or.inl rfl, rfl⟩
theorem e_flags (hA : z_at M h S) : z_Ev G (d + 4) k_X12_flags [.ref M] h (.inl (some (.int (nI (c_flags S)))), h) := by
  have hm := t_m12 hA
  refine en_X12_flags (b_X12_flags_0 z_puCV ?_)
  refine z_for (fun l x => [some (.ref M), some (.int (nI x)), some (.int (nI l))]) (fun l n => n + n_pc (S.2.2 l)) 0 S.2.1 ?_ ?_
  · intro l hl hJ
    have hL := t_L256 hA l
    refine b_X12_flags_4 z_puCV ⟨t_kd hA, hA.1, ?_⟩
    rw [t_m hA, if_pos (nI_lt hl (by omega)), t_Ln hA hl, t_bits (by omega), nI_add, nI_1]
    exact ⟨t_kd hA, t_sL hA (by omega), trivial, hJ⟩
  · refine b_X12_flags_4 z_puCV ⟨t_kd hA, hA.1, ?_⟩
    rw [t_m hA, if_neg (nI_nlt (Nat.le_refl _) (by omega))]; rfl
theorem e_pairs (hA : z_at M h S) : z_Ev G (d + 5) k_X12_pairs [.ref M] h (.inl (some (.int (nI (c_pairs S)))), h) := by
  have hn := t_n8 hA
  refine en_X12_pairs (b_X12_pairs_0 z_puCV ?_)
  refine z_for (fun l x => [some (.ref M), some (.int (nI x)), some (.int (nI l)), none]) (fun a n => itr (fun b n => n + (c_join S a b).toNat) n (a + 1) S.1) 0 S.1 ?_ ?_
  · intro a ha hJ
    refine b_X12_pairs_4 z_puCV ⟨t_kd hA, hA.1, ?_⟩
    rw [t_n hA, if_pos (nI_lt ha (by omega)), nI_1]
    refine z_for (fun k x => [some (.ref M), some (.int (nI x)), some (.int (nI a)), some (.int (nI (a + 1 + k)))]) (fun k n => n + (c_join S a (a + 1 + k)).toNat) _ (S.1 - (a + 1)) ?_ ?_
    · intro k hk hJ2
      refine b_X12_pairs_16 z_puCV ⟨t_kd hA, hA.1, ?_⟩
      rw [t_n hA, if_pos (nI_lt (by omega) (by omega))]
      refine ⟨t_kd hA, _, _, e_areJoined hA (by omega) (by omega), ?_⟩
      cases hc : c_join S a (a + 1 + k)
      · rw [hc] at hJ2
        rw [if_pos (by decide), nI_a0, nI_1]; exact hJ2
      · rw [hc] at hJ2
        rw [if_neg (by decide), nI_1, nI_1]; exact hJ2
    · refine b_X12_pairs_16 z_puCV ⟨t_kd hA, hA.1, ?_⟩
      rw [t_n hA, if_neg (nI_nlt (by omega) (by omega)), nI_1]
      exact hJ
  · refine b_X12_pairs_4 z_puCV ⟨t_kd hA, hA.1, ?_⟩
    rw [t_n hA, if_neg (nI_nlt (Nat.le_refl _) (by omega))]; rfl
theorem e_regularR (hA : z_at M h S) : z_Ev G (d + 4) k_X12_regularR [.ref M] h (.inl (some (.int (c_regR S))), h) := by
  have hn := t_n8 hA
  have h0 := t_on4096 hA 0
  have p12 := n_pc12 _ h0
  refine en_X12_regularR (b_X12_regularR_0 z_puCV ?_)
  rw [show (0 : Int32) = nI 0 from rfl, t_on hA (by omega), t_bits h0]
  refine ⟨t_kd hA, t_son hA (by omega), trivial, ?_⟩
  refine z_fnd (fun k => [some (.ref M), some (.int (nI (n_pc (c_on S 0)))), some (.int (nI (1 + k)))]) (fun k => n_pc (c_on S (1 + k)) != n_pc (c_on S 0)) (S.1 - 1) ?_ ?_
  · intro k hk hno hJ
    have h1 := t_on4096 hA (1 + k)
    have p1 := n_pc12 _ h1
    refine b_X12_regularR_11 z_puCV ⟨t_kd hA, hA.1, ?_⟩
    rw [t_n hA, if_pos (nI_lt (by omega) (by omega)), t_on hA (by omega), t_bits h1, nI_1]
    refine ⟨t_kd hA, t_son hA (by omega), trivial, ?_⟩
    by_cases hc : n_pc (c_on S (1 + k)) = n_pc (c_on S 0)
    · rw [if_pos (by rw [hc])]
      exact hJ (by simp [hc])
    · rw [if_neg (fun e => hc ((n_eqn (by omega) (by omega)).mp e))]
      unfold c_regR
      rw [fa_first_at hk (by simp [hc]) hno, if_pos hk]
  · intro hno
    refine b_X12_regularR_11 z_puCV ⟨t_kd hA, hA.1, ?_⟩
    rw [t_n hA, if_neg (nI_nlt (by omega) (by omega))]
    unfold c_regR
    rw [fa_first_n hno, if_neg (Nat.lt_irrefl _)]
theorem c_k0_le (hA : z_at M h S) : c_k0 S ≤ 12 := by
  unfold c_k0
  split
  · omega
  · exact n_pc12 _ (by have := t_L256 hA 0; omega)
theorem l_regularK (hA : z_at M h S) : z_J G (d + 4) (m_X12_regularK z_puC) (.inl (some (.int (c_regK S))), h) 22 [some (.ref M), some (.int (nI (c_k0 S))), some (.int (nI (1 + 0)))] [] h := by
  have hm := t_m12 hA
  have hk0 := c_k0_le hA
  refine z_fnd (fun k => [some (.ref M), some (.int (nI (c_k0 S))), some (.int (nI (1 + k)))]) (fun k => n_pc (S.2.2 (1 + k)) != c_k0 S) (S.2.1 - 1) ?_ ?_
  · intro k hk hno hJ
    have h1 := t_L256 hA (1 + k)
    have p1 := n_pc12 (S.2.2 (1 + k)) (by omega)
    refine b_X12_regularK_22 z_puCV ⟨t_kd hA, hA.1, ?_⟩
    rw [t_m hA, if_pos (nI_lt (by omega) (by omega)), t_Ln hA (by omega), t_bits (by omega), nI_1]
    refine ⟨t_kd hA, t_sL hA (by omega), trivial, ?_⟩
    by_cases hc : n_pc (S.2.2 (1 + k)) = c_k0 S
    · rw [if_pos (by rw [hc])]
      exact hJ (by simp [hc])
    · rw [if_neg (fun e => hc ((n_eqn (by omega) (by omega)).mp e))]
      unfold c_regK
      rw [fa_first_at hk (by simp [hc]) hno, if_pos hk]
  · intro hno
    refine b_X12_regularK_22 z_puCV ⟨t_kd hA, hA.1, ?_⟩
    rw [t_m hA, if_neg (nI_nlt (by omega) (by omega))]
    unfold c_regK
    rw [fa_first_n hno, if_neg (Nat.lt_irrefl _)]
theorem e_regularK (hA : z_at M h S) : z_Ev G (d + 4) k_X12_regularK [.ref M] h (.inl (some (.int (c_regK S))), h) := by
  have hm := t_m12 hA
  have hl := l_regularK (G := G) (d := d) hA
  refine en_X12_regularK (b_X12_regularK_0 z_puCV ?_)
  rw [t_m hA]
  refine ⟨t_kd hA, hA.1, ?_⟩
  unfold c_k0 at hl
  by_cases h0 : S.2.1 = 0
  · rw [if_pos ((n_eq0 (by omega)).mpr h0)]
    rw [if_pos h0] at hl
    exact hl
  · have h1 := t_L256 hA 0
    rw [if_neg (fun e => h0 ((n_eq0 (by omega)).mp e)), show (0 : Int32) = nI 0 from rfl, t_Ln hA (by omega), t_bits (by omega)]
    rw [if_neg h0] at hl
    exact ⟨t_kd hA, t_sL hA (by omega), trivial, hl⟩
theorem e_isRegular (hA : z_at M h S) : z_Ev G (d + 5) k_X12_isRegular [.ref M] h (.inl (some (.int (nI (c_isReg S).toNat))), h) := by
  refine en_X12_isRegular (b_X12_isRegular_0 z_puCV ⟨t_kd hA, _, _, e_regularR hA, ?_⟩)
  unfold c_isReg
  by_cases h1 : c_regR S = -1
  · rw [if_pos h1, decide_eq_false (fun q => q.1 h1)]; exact ⟨Or.inl rfl, rfl⟩
  · rw [if_neg h1]
    refine ⟨t_kd hA, _, _, e_regularK hA, ?_⟩
    by_cases h2 : c_regK S = -1
    · rw [if_pos h2, decide_eq_false (fun q => q.2 h2)]; exact ⟨Or.inl rfl, rfl⟩
    · rw [if_neg h2, decide_eq_true ⟨h1, h2⟩]; exact ⟨Or.inr rfl, rfl⟩
theorem e_apart (hA : z_at M h S) : z_Ev G (d + 4) k_X12_apart [.ref M] h (.inl (some (.int (nI (c_apart S)))), h) := by
  have hm := t_m12 hA
  refine en_X12_apart (b_X12_apart_0 z_puCV ?_)
  refine z_for (fun l x => [some (.ref M), some (.int (nI x)), some (.int (nI l)), none]) (fun a n => itr (fun b n => n + (decide (S.2.2 a &&& S.2.2 b = 0)).toNat) n (a + 1) S.2.1) 0 S.2.1 ?_ ?_
  · intro a ha hJ
    refine b_X12_apart_4 z_puCV ⟨t_kd hA, hA.1, ?_⟩
    rw [t_m hA, if_pos (nI_lt ha (by omega)), nI_1]
    refine z_for (fun k x => [some (.ref M), some (.int (nI x)), some (.int (nI a)), some (.int (nI (a + 1 + k)))]) (fun k n => n + (decide (S.2.2 a &&& S.2.2 (a + 1 + k) = 0)).toNat) _ (S.2.1 - (a + 1)) ?_ ?_
    · intro k hk hJ2
      have hl := and_lt256 (b := S.2.2 (a + 1 + k)) (t_L256 hA a)
      refine b_X12_apart_16 z_puCV ⟨t_kd hA, hA.1, ?_⟩
      rw [t_m hA, if_pos (nI_lt (by omega) (by omega)), t_Ln hA ha, t_Ln hA (by omega), fa_and]
      refine ⟨t_kd hA, t_sL hA (by omega), t_kd hA, t_sL hA (by omega), ?_⟩
      by_cases hc : S.2.2 a &&& S.2.2 (a + 1 + k) = 0
      · rw [decide_eq_true hc] at hJ2
        rw [if_pos ((n_eq0 (by omega)).mpr hc), nI_1, nI_1]; exact hJ2
      · rw [decide_eq_false hc] at hJ2
        rw [if_neg (fun e => hc ((n_eq0 (by omega)).mp e)), nI_a0, nI_1]; exact hJ2
    · refine b_X12_apart_16 z_puCV ⟨t_kd hA, hA.1, ?_⟩
      rw [t_m hA, if_neg (nI_nlt (by omega) (by omega)), nI_1]
      exact hJ
  · refine b_X12_apart_4 z_puCV ⟨t_kd hA, hA.1, ?_⟩
    rw [t_m hA, if_neg (nI_nlt (Nat.le_refl _) (by omega))]; rfl
theorem it_bd {α : Type} {P : α → Prop} {f : Nat → α → α} {a : α} (h0 : P a) (hf : ∀ k x, P x → P (f k x)) : ∀ k, P (it f a k)
  | 0 => h0
  | k + 1 => hf k _ (it_bd h0 hf k)
theorem c_piece_in (hA : z_at M h S) {x : Nat} (hx : x < 256) (k : Nat) : it (fun l x => if S.2.2 l &&& x = 0 then x else x ||| S.2.2 l) x k < 256 := by
  refine it_bd (P := fun x => x < 256) hx (fun l x hx => ?_) k
  split
  · exact hx
  · exact or_lt256 hx (t_L256 hA l)
theorem c_piece_lt (hA : z_at M h S) {p : Nat} (hp : p < 8) (k : Nat) : it (fun _ x => it (fun l x => if S.2.2 l &&& x = 0 then x else x ||| S.2.2 l) x S.2.1) (2 ^ p) k < 256 :=
  it_bd (P := fun x => x < 256) (t_pow hp) (fun _ x hx => c_piece_in hA hx _) k
theorem e_pieceOf (hA : z_at M h S) {p : Nat} (hp : p < 8) : z_Ev G (d + 4) k_X12_pieceOf [.ref M, .int (nI p)] h (.inl (some (.int (nI (c_piece S p)))), h) := by
  have hm := t_m12 hA
  have hn := t_n8 hA
  refine en_X12_pieceOf (b_X12_pieceOf_0 z_puCV ?_)
  rw [n_one (by omega)]
  refine z_for (fun k x => [some (.ref M), none, some (.int (nI x)), some (.int (nI k)), none]) (fun _ x => it (fun l x => if S.2.2 l &&& x = 0 then x else x ||| S.2.2 l) x S.2.1) (2 ^ p) S.1 ?_ ?_
  · intro k hk hJ
    refine b_X12_pieceOf_6 z_puCV ⟨t_kd hA, hA.1, ?_⟩
    rw [t_n hA, if_pos (nI_lt hk (by omega))]
    refine z_for (fun l x => [some (.ref M), none, some (.int (nI x)), some (.int (nI k)), some (.int (nI l))]) (fun l x => if S.2.2 l &&& x = 0 then x else x ||| S.2.2 l) _ S.2.1 ?_ ?_
    · intro l hl hJ2
      have hx := c_piece_in hA (c_piece_lt hA hp k) l
      revert hJ2 hx
      generalize it (fun l x => if S.2.2 l &&& x = 0 then x else x ||| S.2.2 l) _ l = x
      intro hJ2 hx
      have hl2 := and_lt256 (b := x) (t_L256 hA l)
      refine b_X12_pieceOf_17 z_puCV ⟨t_kd hA, hA.1, ?_⟩
      rw [t_m hA, if_pos (nI_lt hl (by omega)), t_Ln hA hl, fa_and, nI_1]
      refine ⟨t_kd hA, t_sL hA (by omega), ?_⟩
      by_cases hc : S.2.2 l &&& x = 0
      · rw [if_pos hc] at hJ2
        rw [if_pos ((n_eq0 (by omega)).mpr hc)]; exact hJ2
      · rw [if_neg hc] at hJ2
        rw [if_neg (fun e => hc ((n_eq0 (by omega)).mp e)), fa_or]
        exact ⟨t_kd hA, t_sL hA (by omega), hJ2⟩
    · refine b_X12_pieceOf_17 z_puCV ⟨t_kd hA, hA.1, ?_⟩
      rw [t_m hA, if_neg (nI_nlt (Nat.le_refl _) (by omega)), nI_1]
      exact hJ
  · refine b_X12_pieceOf_6 z_puCV ⟨t_kd hA, hA.1, ?_⟩
    rw [t_n hA, if_neg (nI_nlt (Nat.le_refl _) (by omega))]; rfl
theorem n_tz32 : ∀ a, a < 4096 → n_tz a ≤ 32 := n_64 (by decide +kernel)
theorem e_pieces (hA : z_at M h S) : z_Ev G (d + 5) k_X12_pieces [.ref M] h (.inl (some (.int (nI (c_pieces S)))), h) := by
  have hn := t_n8 hA
  refine en_X12_pieces (b_X12_pieces_0 z_puCV ?_)
  refine z_for (fun l x => [some (.ref M), some (.int (nI x)), some (.int (nI l))]) (fun p n => n + (decide (n_tz (c_piece S p) = p)).toNat) 0 S.1 ?_ ?_
  · intro p hp hJ
    have hx : c_piece S p < 256 := c_piece_lt hA (by omega) _
    have hz := n_tz32 _ (show c_piece S p < 4096 by omega)
    refine b_X12_pieces_4 z_puCV ⟨t_kd hA, hA.1, ?_⟩
    rw [t_n hA, if_pos (nI_lt hp (by omega))]
    refine ⟨t_kd hA, _, _, e_pieceOf hA (by omega), t_stz (by omega), ?_⟩
    rw [t_tz (by omega)]
    by_cases hc : n_tz (c_piece S p) = p
    · rw [decide_eq_true hc] at hJ
      rw [if_pos (by rw [hc]), nI_1, nI_1]; exact hJ
    · rw [decide_eq_false hc] at hJ
      rw [if_neg (fun e => hc ((n_eqn (by omega) (by omega)).mp e)), nI_a0, nI_1]; exact hJ
  · refine b_X12_pieces_4 z_puCV ⟨t_kd hA, hA.1, ?_⟩
    rw [t_n hA, if_neg (nI_nlt (Nat.le_refl _) (by omega))]; rfl
theorem e_triangles (hA : z_at M h S) : z_Ev G (d + 4) k_X12_triangles [.ref M] h (.inl (some (.int (nI (c_tris S)))), h) := by
  have hm := t_m12 hA
  refine en_X12_triangles (b_X12_triangles_0 z_puCV ?_)
  refine z_for (fun l x => [some (.ref M), some (.int (nI x)), some (.int (nI l)), none, none, none, none, none]) (fun a n => itr (fun b n => itr (fun c n => n + (c_tri S a b c).toNat) n (b + 1) S.2.1) n (a + 1) S.2.1) 0 S.2.1 ?_ ?_
  · intro a ha hJ
    refine b_X12_triangles_4 z_puCV ⟨t_kd hA, hA.1, ?_⟩
    rw [t_m hA, if_pos (nI_lt ha (by omega)), nI_1]
    refine z_for (fun k x => [some (.ref M), some (.int (nI x)), some (.int (nI a)), some (.int (nI (a + 1 + k))), none, none, none, none]) (fun k n => itr (fun c n => n + (c_tri S a (a + 1 + k) c).toNat) n (a + 1 + k + 1) S.2.1) _ (S.2.1 - (a + 1)) ?_ ?_
    · intro k hk hJ2
      refine b_X12_triangles_16 z_puCV ⟨t_kd hA, hA.1, ?_⟩
      rw [t_m hA, if_pos (nI_lt (by omega) (by omega)), nI_1]
      refine z_for (fun j x => [some (.ref M), some (.int (nI x)), some (.int (nI a)), some (.int (nI (a + 1 + k))), some (.int (nI (a + 1 + k + 1 + j))), none, none, none]) (fun j n => n + (c_tri S a (a + 1 + k) (a + 1 + k + 1 + j)).toNat) _ (S.2.1 - (a + 1 + k + 1)) ?_ ?_
      · intro j hj hJ3
        have l1 := and_lt256 (b := S.2.2 (a + 1 + k)) (t_L256 hA a)
        have l2 := and_lt256 (b := S.2.2 (a + 1 + k + 1 + j)) (t_L256 hA a)
        have l3 := and_lt256 (b := S.2.2 (a + 1 + k + 1 + j)) (t_L256 hA (a + 1 + k))
        have l4 := or_lt256 (or_lt256 l1 l2) l3
        have p4 := n_pc12 _ (show (S.2.2 a &&& S.2.2 (a + 1 + k)) ||| (S.2.2 a &&& S.2.2 (a + 1 + k + 1 + j)) ||| (S.2.2 (a + 1 + k) &&& S.2.2 (a + 1 + k + 1 + j)) < 4096 by omega)
        refine b_X12_triangles_29 z_puCV ⟨t_kd hA, hA.1, ?_⟩
        rw [t_m hA, if_pos (nI_lt (by omega) (by omega)), t_Ln hA ha, t_Ln hA (show a + 1 + k < _ by omega), t_Ln hA (show a + 1 + k + 1 + j < _ by omega), fa_and, fa_and, fa_and, fa_or, fa_or, t_bits (by omega), nI_a0, nI_1, nI_1]
        refine ⟨t_kd hA, t_sL hA (by omega), t_kd hA, t_sL hA (by omega), t_kd hA, t_sL hA (by omega), t_kd hA, t_sL hA (by omega), t_kd hA, t_sL hA (by omega), t_kd hA, t_sL hA (by omega), ?_⟩
        have hno : ∀ hc : ¬ (S.2.2 a &&& S.2.2 (a + 1 + k) ≠ 0 ∧ S.2.2 a &&& S.2.2 (a + 1 + k + 1 + j) ≠ 0 ∧ S.2.2 (a + 1 + k) &&& S.2.2 (a + 1 + k + 1 + j) ≠ 0 ∧ n_pc ((S.2.2 a &&& S.2.2 (a + 1 + k)) ||| (S.2.2 a &&& S.2.2 (a + 1 + k + 1 + j)) ||| (S.2.2 (a + 1 + k) &&& S.2.2 (a + 1 + k + 1 + j))) = 3), c_tri S a (a + 1 + k) (a + 1 + k + 1 + j) = false := fun hc => decide_eq_false hc
        by_cases c1 : S.2.2 a &&& S.2.2 (a + 1 + k) = 0
        · rw [if_pos ((n_eq0 (by omega)).mpr c1)]
          rw [hno (fun q => q.1 c1)] at hJ3; exact hJ3
        · rw [if_neg (fun e => c1 ((n_eq0 (by omega)).mp e))]
          by_cases c2 : S.2.2 a &&& S.2.2 (a + 1 + k + 1 + j) = 0
          · rw [if_pos ((n_eq0 (by omega)).mpr c2)]
            rw [hno (fun q => q.2.1 c2)] at hJ3; exact hJ3
          · rw [if_neg (fun e => c2 ((n_eq0 (by omega)).mp e))]
            by_cases c3 : S.2.2 (a + 1 + k) &&& S.2.2 (a + 1 + k + 1 + j) = 0
            · rw [if_pos ((n_eq0 (by omega)).mpr c3)]
              rw [hno (fun q => q.2.2.1 c3)] at hJ3; exact hJ3
            · rw [if_neg (fun e => c3 ((n_eq0 (by omega)).mp e))]
              refine ⟨trivial, ?_⟩
              by_cases c4 : n_pc ((S.2.2 a &&& S.2.2 (a + 1 + k)) ||| (S.2.2 a &&& S.2.2 (a + 1 + k + 1 + j)) ||| (S.2.2 (a + 1 + k) &&& S.2.2 (a + 1 + k + 1 + j))) = 3
              · rw [if_pos (by rw [c4]; rfl)]
                rw [show c_tri S a (a + 1 + k) (a + 1 + k + 1 + j) = true from decide_eq_true ⟨c1, c2, c3, c4⟩] at hJ3; exact hJ3
              · rw [if_neg (show ¬ nI _ = (3 : Int32) from fun e => c4 ((n_eqn (b := 3) (by omega) (by omega)).mp e))]
                rw [hno (fun q => c4 q.2.2.2)] at hJ3; exact hJ3
      · refine b_X12_triangles_29 z_puCV ⟨t_kd hA, hA.1, ?_⟩
        rw [t_m hA, if_neg (nI_nlt (by omega) (by omega)), nI_1]
        exact hJ2
    · refine b_X12_triangles_16 z_puCV ⟨t_kd hA, hA.1, ?_⟩
      rw [t_m hA, if_neg (nI_nlt (by omega) (by omega)), nI_1]
      exact hJ
  · refine b_X12_triangles_4 z_puCV ⟨t_kd hA, hA.1, ?_⟩
    rw [t_m hA, if_neg (nI_nlt (Nat.le_refl _) (by omega))]; rfl
end CD
