theorem en_X12_tellHalves {pu : Nat → Option ((List Value → z_H → Prop) × (List Value → z_H → Int32))} {G : z_G} {d : Nat} {r : z_Res} {h : z_H} {x0 : Nat} (hJ : z_J G d (m_X12_tellHalves pu) r 0 [some (.ref x0), none] [] h) : z_Ev G d k_X12_tellHalves [.ref x0] h r := z_enter (μ := m_X12_tellHalves pu) rfl (by decide) rfl rfl (fun q => by cases q) (Nat.le_of_ble_eq_true rfl) hJ
def hd_X12_tellHalves : Nat → Option (List Bool) := (fun k => (cond (Nat.blt k 83) (cond (Nat.beq k 12) (some [true, true]) none) none))
set_option maxRecDepth 20000 in
theorem b_X12_tellHalves_0 {G : z_G} {d : Nat} {r : z_Res} (hPu : z_PuV G d (t_X12 z_puC)) {h : z_H} {x0 : Nat} (hT : (z_kd h x0 = 28 ∧ (z_kd (z_poi h x0 40 (nI 0)) x0 = 28 ∧ (z_J G (d + 1) (m_X12_tellHalves z_puC) r) 12 [some (.ref x0), some (.int (nI 1))] [] (z_poi (z_poi h x0 40 (nI 0)) x0 41 mI)))) : (z_J G (d + 1) (m_X12_tellHalves z_puC) r) 0 [some (.ref x0), none] [] h := z_bq (v_X12 z_puC (vP_X12_tellHalves z_puC) hPu) hd_X12_tellHalves 11 hT
set_option maxRecDepth 20000 in
theorem b_X12_tellHalves_12 {G : z_G} {d : Nat} {r : z_Res} (hPu : z_PuV G d (t_X12 z_puC)) {h : z_H} {x0 : Nat} {x1 : Int32} (hT : (z_kd h x0 = 28 ∧ s_X12_all x0 h ∧ (if (f_X12_all x0 h) < x1 then r = (.inl none, h) else (z_kd h x0 = 28 ∧ s_X12_hasLine x0 x1 h ∧ (if (f_X12_hasLine x0 x1 h) = (nI 0) then (z_kd h x0 = 28 ∧ s_X12_all x0 h ∧ (z_kd h x0 = 28 ∧ s_X12_hasLine x0 ((f_X12_all x0 h) &&& (x1 ^^^ mI)) h ∧ (if (f_X12_hasLine x0 ((f_X12_all x0 h) &&& (x1 ^^^ mI)) h) = (nI 0) then (z_kd h x0 = 28 ∧ (z_kd h x0 = 28 ∧ (z_kd (z_poi h x0 40 ((z_oi h x0 40) + (nI 1))) x0 = 28 ∧ (if (z_oi (z_poi h x0 40 ((z_oi h x0 40) + (nI 1))) x0 41) = mI then (z_kd (z_poi h x0 40 ((z_oi h x0 40) + (nI 1))) x0 = 28 ∧ (z_J G (d + 1) (m_X12_tellHalves z_puC) r) 12 [some (.ref x0), some (.int (x1 + (nI 2)))] [] (z_poi (z_poi h x0 40 ((z_oi h x0 40) + (nI 1))) x0 41 x1)) else (z_kd (z_poi h x0 40 ((z_oi h x0 40) + (nI 1))) x0 = 28 ∧ (z_kd (z_poi h x0 40 ((z_oi h x0 40) + (nI 1))) x0 = 28 ∧ (z_J G (d + 1) (m_X12_tellHalves z_puC) r) 12 [some (.ref x0), some (.int (x1 + (nI 2)))] [] (z_poi (z_poi h x0 40 ((z_oi h x0 40) + (nI 1))) x0 41 (z_oi (z_poi h x0 40 ((z_oi h x0 40) + (nI 1))) x0 41)))))))) else (z_J G (d + 1) (m_X12_tellHalves z_puC) r) 12 [some (.ref x0), some (.int (x1 + (nI 2)))] [] h))) else (z_J G (d + 1) (m_X12_tellHalves z_puC) r) 12 [some (.ref x0), some (.int (x1 + (nI 2)))] [] h))))) : (z_J G (d + 1) (m_X12_tellHalves z_puC) r) 12 [some (.ref x0), some (.int x1)] [] h := z_bq (v_X12 z_puC (vP_X12_tellHalves z_puC) hPu) hd_X12_tellHalves 36 hT
theorem en_X12_tellSpreads {pu : Nat → Option ((List Value → z_H → Prop) × (List Value → z_H → Int32))} {G : z_G} {d : Nat} {r : z_Res} {h : z_H} {x0 : Nat} (hJ : z_J G d (m_X12_tellSpreads pu) r 0 [some (.ref x0), none, none, none, none] [] h) : z_Ev G d k_X12_tellSpreads [.ref x0] h r := z_enter (μ := m_X12_tellSpreads pu) rfl (by decide) rfl rfl (fun q => by cases q) (Nat.le_of_ble_eq_true rfl) hJ
def hd_X12_tellSpreads : Nat → Option (List Bool) := (fun k => (cond (Nat.blt k 133) (cond (Nat.blt k 29) (cond (Nat.beq k 12) (some [true, true, false, false, false]) none) (cond (Nat.beq k 29) (some [true, true, true, true, true]) none)) none))
set_option maxRecDepth 20000 in
theorem b_X12_tellSpreads_0 {G : z_G} {d : Nat} {r : z_Res} (hPu : z_PuV G d (t_X12 z_puC)) {h : z_H} {x0 : Nat} (hT : (z_kd h x0 = 28 ∧ (z_kd (z_poi h x0 42 (nI 0)) x0 = 28 ∧ (z_J G (d + 1) (m_X12_tellSpreads z_puC) r) 12 [some (.ref x0), some (.int (nI 0)), none, none, none] [] (z_poi (z_poi h x0 42 (nI 0)) x0 43 mI)))) : (z_J G (d + 1) (m_X12_tellSpreads z_puC) r) 0 [some (.ref x0), none, none, none, none] [] h := z_bq (v_X12 z_puC (vP_X12_tellSpreads z_puC) hPu) hd_X12_tellSpreads 11 hT
set_option maxRecDepth 20000 in
theorem b_X12_tellSpreads_12 {G : z_G} {d : Nat} {r : z_Res} (hPu : z_PuV G d (t_X12 z_puC)) {h : z_H} {x0 : Nat} {x1 : Int32} (hT : (z_kd h x0 = 28 ∧ s_X12_lines x0 h ∧ (if x1 < ((nI 1) <<< ((f_X12_lines x0 h) &&& (nI 31))) then (z_J G (d + 1) (m_X12_tellSpreads z_puC) r) 29 [some (.ref x0), some (.int x1), some (.int (nI 0)), some (.int (nI 0)), some (.int (nI 0))] [] h else r = (.inl none, h)))) : (z_J G (d + 1) (m_X12_tellSpreads z_puC) r) 12 [some (.ref x0), some (.int x1), none, none, none] [] h := z_bq (v_X12 z_puC (vP_X12_tellSpreads z_puC) hPu) hd_X12_tellSpreads 15 hT
set_option maxRecDepth 20000 in
theorem b_X12_tellSpreads_29 {G : z_G} {d : Nat} {r : z_Res} (hPu : z_PuV G d (t_X12 z_puC)) {h : z_H} {x0 : Nat} {x1 : Int32} {x2 : Int32} {x3 : Int32} {x4 : Int32} (hT : (z_kd h x0 = 28 ∧ s_X12_lines x0 h ∧ (if x4 < (f_X12_lines x0 h) then (if ((x1 >>> (x4 &&& (nI 31))) &&& (nI 1)) = (nI 0) then (z_J G (d + 1) (m_X12_tellSpreads z_puC) r) 29 [some (.ref x0), some (.int x1), some (.int x2), some (.int x3), some (.int (x4 + (nI 1)))] [] h else (z_kd h x0 = 28 ∧ s_X12_lineAt x0 x4 h ∧ (z_kd h x0 = 28 ∧ s_X12_lineAt x0 x4 h ∧ (s_X12_bits (f_X12_lineAt x0 x4 h) h ∧ (z_J G (d + 1) (m_X12_tellSpreads z_puC) r) 29 [some (.ref x0), some (.int x1), some (.int (x2 ||| (f_X12_lineAt x0 x4 h))), some (.int (x3 + (f_X12_bits (f_X12_lineAt x0 x4 h) h))), some (.int (x4 + (nI 1)))] [] h)))) else (z_kd h x0 = 28 ∧ s_X12_all x0 h ∧ (if x2 = (f_X12_all x0 h) then (z_kd h x0 = 28 ∧ s_X12_points x0 h ∧ (if x3 = (f_X12_points x0 h) then (z_kd h x0 = 28 ∧ (z_kd h x0 = 28 ∧ (z_kd (z_poi h x0 42 ((z_oi h x0 42) + (nI 1))) x0 = 28 ∧ (if (z_oi (z_poi h x0 42 ((z_oi h x0 42) + (nI 1))) x0 43) = mI then (z_kd (z_poi h x0 42 ((z_oi h x0 42) + (nI 1))) x0 = 28 ∧ (z_J G (d + 1) (m_X12_tellSpreads z_puC) r) 12 [some (.ref x0), some (.int (x1 + (nI 1))), none, none, none] [] (z_poi (z_poi h x0 42 ((z_oi h x0 42) + (nI 1))) x0 43 x1)) else (z_kd (z_poi h x0 42 ((z_oi h x0 42) + (nI 1))) x0 = 28 ∧ (z_kd (z_poi h x0 42 ((z_oi h x0 42) + (nI 1))) x0 = 28 ∧ (z_J G (d + 1) (m_X12_tellSpreads z_puC) r) 12 [some (.ref x0), some (.int (x1 + (nI 1))), none, none, none] [] (z_poi (z_poi h x0 42 ((z_oi h x0 42) + (nI 1))) x0 43 (z_oi (z_poi h x0 42 ((z_oi h x0 42) + (nI 1))) x0 43)))))))) else (z_J G (d + 1) (m_X12_tellSpreads z_puC) r) 12 [some (.ref x0), some (.int (x1 + (nI 1))), none, none, none] [] h)) else (z_J G (d + 1) (m_X12_tellSpreads z_puC) r) 12 [some (.ref x0), some (.int (x1 + (nI 1))), none, none, none] [] h))))) : (z_J G (d + 1) (m_X12_tellSpreads z_puC) r) 29 [some (.ref x0), some (.int x1), some (.int x2), some (.int x3), some (.int x4)] [] h := z_bq (v_X12 z_puC (vP_X12_tellSpreads z_puC) hPu) hd_X12_tellSpreads 31 hT
theorem en_X12_set {pu : Nat → Option ((List Value → z_H → Prop) × (List Value → z_H → Int32))} {G : z_G} {d : Nat} {r : z_Res} {h : z_H} {x0 : Nat} {x1 : Int32} (hJ : z_J G d (m_X12_set pu) r 0 [some (.ref x0), some (.int x1)] [] h) : z_Ev G d k_X12_set [.ref x0, .int x1] h r := z_enter (μ := m_X12_set pu) rfl (by decide) rfl rfl (fun q => by cases q) (Nat.le_of_ble_eq_true rfl) hJ
def hd_X12_set : Nat → Option (List Bool) := (fun k => none)
set_option maxRecDepth 20000 in
theorem b_X12_set_0 {G : z_G} {d : Nat} {r : z_Res} (hPu : z_PuV G d (t_X12 z_puC)) {h : z_H} {x0 : Nat} {x1 : Int32} (hT : (z_kd h x0 = 28 ∧ (if x1 = (nI 0) then (z_kd (z_poi h x0 0 (nI 0)) x0 = 28 ∧ ∃ x_2 h_1, z_Ev G d k_X12_cover [.ref x0] (z_poi h x0 0 (nI 0)) (.inl (some (.int x_2)), h_1) ∧ r = (.inl (some (.int x_2)), h_1)) else (if x1 = (nI 1) then (z_kd (z_poi h x0 0 (nI 0)) x0 = 28 ∧ ∃ x_4 h_3, z_Ev G d k_X12_cap [.ref x0] (z_poi h x0 0 (nI 0)) (.inl (some (.int x_4)), h_3) ∧ r = (.inl (some (.int x_4)), h_3)) else (if x1 = (nI 2) then (z_kd (z_poi h x0 0 (nI 0)) x0 = 28 ∧ ∃ h_5, z_Ev G d k_X12_tellHalves [.ref x0] (z_poi h x0 0 (nI 0)) (.inl none, h_5) ∧ (if x1 = (nI 2) then (z_kd h_5 x0 = 28 ∧ r = (.inl (some (.int (z_oi h_5 x0 40))), h_5)) else (z_kd h_5 x0 = 28 ∧ r = (.inl (some (.int (z_oi h_5 x0 41))), h_5)))) else (if x1 = (nI 3) then (z_kd (z_poi h x0 0 (nI 0)) x0 = 28 ∧ ∃ h_6, z_Ev G d k_X12_tellHalves [.ref x0] (z_poi h x0 0 (nI 0)) (.inl none, h_6) ∧ (if x1 = (nI 2) then (z_kd h_6 x0 = 28 ∧ r = (.inl (some (.int (z_oi h_6 x0 40))), h_6)) else (z_kd h_6 x0 = 28 ∧ r = (.inl (some (.int (z_oi h_6 x0 41))), h_6)))) else (if x1 = (nI 4) then (z_kd (z_poi h x0 0 (nI 0)) x0 = 28 ∧ ∃ h_7, z_Ev G d k_X12_tellSpreads [.ref x0] (z_poi h x0 0 (nI 0)) (.inl none, h_7) ∧ (if x1 = (nI 4) then (z_kd h_7 x0 = 28 ∧ r = (.inl (some (.int (z_oi h_7 x0 42))), h_7)) else (z_kd h_7 x0 = 28 ∧ r = (.inl (some (.int (z_oi h_7 x0 43))), h_7)))) else (if x1 = (nI 5) then (z_kd (z_poi h x0 0 (nI 0)) x0 = 28 ∧ ∃ h_8, z_Ev G d k_X12_tellSpreads [.ref x0] (z_poi h x0 0 (nI 0)) (.inl none, h_8) ∧ (if x1 = (nI 4) then (z_kd h_8 x0 = 28 ∧ r = (.inl (some (.int (z_oi h_8 x0 42))), h_8)) else (z_kd h_8 x0 = 28 ∧ r = (.inl (some (.int (z_oi h_8 x0 43))), h_8)))) else (z_kd (z_poi h x0 0 (nI 0)) x0 = 28 ∧ ∃ x_10 h_9, z_Ev G d k_X12_fail [.ref x0, .int (nI 1)] (z_poi h x0 0 (nI 0)) (.inl (some (.int x_10)), h_9) ∧ r = (.inl (some (.int x_10)), h_9)))))))))) : (z_J G (d + 1) (m_X12_set z_puC) r) 0 [some (.ref x0), some (.int x1)] [] h := z_bq (v_X12 z_puC (vP_X12_set z_puC) hPu) hd_X12_set 16 hT
theorem en_X12_tellGame {pu : Nat → Option ((List Value → z_H → Prop) × (List Value → z_H → Int32))} {G : z_G} {d : Nat} {r : z_Res} {h : z_H} {x0 : Nat} (hJ : z_J G d (m_X12_tellGame pu) r 0 [some (.ref x0), none, none] [] h) : z_Ev G d k_X12_tellGame [.ref x0] h r := z_enter (μ := m_X12_tellGame pu) rfl (by decide) rfl rfl (fun q => by cases q) (Nat.le_of_ble_eq_true rfl) hJ
def hd_X12_tellGame : Nat → Option (List Bool) := (fun k => (cond (Nat.blt k 65) (cond (Nat.blt k 11) (cond (Nat.beq k 5) (some [true, true, false]) none) (cond (Nat.beq k 11) (some [true, true, true]) none)) none))
set_option maxRecDepth 20000 in
theorem b_X12_tellGame_0 {G : z_G} {d : Nat} {r : z_Res} (hPu : z_PuV G d (t_X12 z_puC)) {h : z_H} {x0 : Nat} (hT : (z_kd h x0 = 28 ∧ s_X12_all x0 h ∧ (z_J G (d + 1) (m_X12_tellGame z_puC) r) 5 [some (.ref x0), some (.int (f_X12_all x0 h)), none] [] h)) : (z_J G (d + 1) (m_X12_tellGame z_puC) r) 0 [some (.ref x0), none, none] [] h := z_bq (v_X12 z_puC (vP_X12_tellGame z_puC) hPu) hd_X12_tellGame 6 hT
set_option maxRecDepth 20000 in
theorem b_X12_tellGame_5 {G : z_G} {d : Nat} {r : z_Res} (hPu : z_PuV G d (t_X12 z_puC)) {h : z_H} {x0 : Nat} {x1 : Int32} (hT : (if x1 < (nI 0) then r = (.inl none, h) else (z_J G (d + 1) (m_X12_tellGame z_puC) r) 11 [some (.ref x0), some (.int x1), some (.int x1)] [] h)) : (z_J G (d + 1) (m_X12_tellGame z_puC) r) 5 [some (.ref x0), some (.int x1), none] [] h := z_bq (v_X12 z_puC (vP_X12_tellGame z_puC) hPu) hd_X12_tellGame 7 hT
set_option maxRecDepth 20000 in
theorem b_X12_tellGame_11 {G : z_G} {d : Nat} {r : z_Res} (hPu : z_PuV G d (t_X12 z_puC)) {h : z_H} {x0 : Nat} {x1 : Int32} {x2 : Int32} (hT : (if x2 < (nI 0) then (z_J G (d + 1) (m_X12_tellGame z_puC) r) 5 [some (.ref x0), some (.int (x1 + mI)), none] [] h else (z_kd h x0 = 28 ∧ (z_rc (z_or h x0 44) (z_kd h x0 = 28 ∧ ∃ x_3 h_2, z_Ev G d k_X12_bestOf [.ref x0, .int x2, .int (x1 &&& (x2 ^^^ mI))] h (.inl (some (.int x_3)), h_2) ∧ False) (fun x_1 => (z_kd h x0 = 28 ∧ ∃ x_5 h_4, z_Ev G d k_X12_bestOf [.ref x0, .int x2, .int (x1 &&& (x2 ^^^ mI))] h (.inl (some (.int x_5)), h_4) ∧ (z_kd h_4 x_1 = 1 ∧ vp_in (((nI 256) * x2) + (x1 &&& (x2 ^^^ mI))) (z_ln h_4 x_1) ∧ (if x2 = (nI 0) then (z_J G (d + 1) (m_X12_tellGame z_puC) r) 11 [some (.ref x0), some (.int x1), some (.int mI)] [] (z_pai h_4 x_1 (Int32.toNatClampNeg (((nI 256) * x2) + (x1 &&& (x2 ^^^ mI)))) x_5) else (z_J G (d + 1) (m_X12_tellGame z_puC) r) 11 [some (.ref x0), some (.int x1), some (.int ((x2 - (nI 1)) &&& x1))] [] (z_pai h_4 x_1 (Int32.toNatClampNeg (((nI 256) * x2) + (x1 &&& (x2 ^^^ mI)))) x_5))))))))) : (z_J G (d + 1) (m_X12_tellGame z_puC) r) 11 [some (.ref x0), some (.int x1), some (.int x2)] [] h := z_bq (v_X12 z_puC (vP_X12_tellGame z_puC) hPu) hd_X12_tellGame 34 hT
theorem en_X12_game {pu : Nat → Option ((List Value → z_H → Prop) × (List Value → z_H → Int32))} {G : z_G} {d : Nat} {r : z_Res} {h : z_H} {x0 : Nat} {x1 : Int32} (hJ : z_J G d (m_X12_game pu) r 0 [some (.ref x0), some (.int x1), none, none] [] h) : z_Ev G d k_X12_game [.ref x0, .int x1] h r := z_enter (μ := m_X12_game pu) rfl (by decide) rfl rfl (fun q => by cases q) (Nat.le_of_ble_eq_true rfl) hJ
def hd_X12_game : Nat → Option (List Bool) := (fun k => (cond (Nat.blt k 65) (cond (Nat.beq k 33) (some [true, true, true, true]) none) none))
set_option maxRecDepth 20000 in
theorem b_X12_game_0 {G : z_G} {d : Nat} {r : z_Res} (hPu : z_PuV G d (t_X12 z_puC)) {h : z_H} {x0 : Nat} {x1 : Int32} (hT : (z_kd h x0 = 28 ∧ (s_X12_isIn x1 (nI 0) (nI 1) (z_poi h x0 0 (nI 0)) ∧ (if (f_X12_isIn x1 (nI 0) (nI 1) (z_poi h x0 0 (nI 0))) = (nI 0) then (z_kd (z_poi h x0 0 (nI 0)) x0 = 28 ∧ ∃ x_2 h_1, z_Ev G d k_X12_fail [.ref x0, .int (nI 1)] (z_poi h x0 0 (nI 0)) (.inl (some (.int x_2)), h_1) ∧ r = (.inl (some (.int x_2)), h_1)) else (z_kd (z_poi h x0 0 (nI 0)) x0 = 28 ∧ ∃ h_3, z_Ev G d k_X12_tellGame [.ref x0] (z_poi h x0 0 (nI 0)) (.inl none, h_3) ∧ (z_kd h_3 x0 = 28 ∧ (z_rc (z_or h_3 x0 44) False (fun x_4 => (z_kd h_3 x_4 = 1 ∧ vp_in (nI 0) (z_ln h_3 x_4) ∧ (z_J G (d + 1) (m_X12_game z_puC) r) 33 [some (.ref x0), some (.int x1), some (.int (z_ai h_3 x_4 (Int32.toNatClampNeg (nI 0)))), some (.int (nI 0))] [] h_3))))))))) : (z_J G (d + 1) (m_X12_game z_puC) r) 0 [some (.ref x0), some (.int x1), none, none] [] h := z_bq (v_X12 z_puC (vP_X12_game z_puC) hPu) hd_X12_game 20 hT
set_option maxRecDepth 20000 in
theorem b_X12_game_33 {G : z_G} {d : Nat} {r : z_Res} (hPu : z_PuV G d (t_X12 z_puC)) {h : z_H} {x0 : Nat} {x1 : Int32} {x2 : Int32} {x3 : Int32} (hT : (if x1 = (nI 1) then (z_kd h x0 = 28 ∧ ∃ x_2 h_1, z_Ev G d k_X12_movesTo [.ref x0, .int (nI 0), .int (nI 0), .int x3] h (.inl (some (.int x_2)), h_1) ∧ (if x_2 = x2 then (if x1 = (nI 0) then r = (.inl (some (.int x2)), h_1) else r = (.inl (some (.int x3)), h_1)) else (z_J G (d + 1) (m_X12_game z_puC) r) 33 [some (.ref x0), some (.int x1), some (.int x2), some (.int (x3 + (nI 1)))] [] h_1)) else (if x1 = (nI 0) then r = (.inl (some (.int x2)), h) else r = (.inl (some (.int x3)), h)))) : (z_J G (d + 1) (m_X12_game z_puC) r) 33 [some (.ref x0), some (.int x1), some (.int x2), some (.int x3)] [] h := z_bq (v_X12 z_puC (vP_X12_game z_puC) hPu) hd_X12_game 17 hT
/-! halves, spreads, the game -/
def c_half (S : Sc) (x : Nat) : Bool := !c_has S x && !c_has S (2 ^ S.1 - 1 - x)
def c_hvF (S : Sc) (k : Nat) (a : Nat × Int32) : Nat × Int32 := if c_half S (1 + 2 * k) then (a.1 + 1, if a.2 = mI then nI (1 + 2 * k) else a.2) else a
def c_hv (S : Sc) : Nat × Int32 := it (c_hvF S) (0, mI) (2 ^ (S.1 - 1))
def c_spI (S : Sc) (x : Nat) : Nat × Nat := it (fun l (a : Nat × Nat) => if x.testBit l then (a.1 ||| S.2.2 l, a.2 + n_pc (S.2.2 l)) else a) (0, 0) S.2.1
def c_spF (S : Sc) (x : Nat) (a : Nat × Int32) : Nat × Int32 := if (c_spI S x).1 = 2 ^ S.1 - 1 ∧ (c_spI S x).2 = S.1 then (a.1 + 1, if a.2 = mI then nI x else a.2) else a
def c_sp (S : Sc) : Nat × Int32 := it (c_spF S) (0, mI) (2 ^ S.2.1)
def c_set (S : Sc) (w : Int32) : Int32 × Int32 := if w = nI 0 then (nI (c_cov S), nI 0) else if w = nI 1 then (nI (c_cap S), nI 0) else if w = nI 2 then (nI (c_hv S).1, nI 0) else if w = nI 3 then ((c_hv S).2, nI 0) else if w = nI 4 then (nI (c_sp S).1, nI 0) else if w = nI 5 then ((c_sp S).2, nI 0) else (nI 0, nI 1)
theorem q_cpl {n k : Nat} (hn : n ≤ 8) (hk : k < 2 ^ n) : nI (2 ^ n - 1) &&& (nI k ^^^ mI) = nI (2 ^ n - 1 - k) := n_cpl n (by omega) k (Nat.lt_of_lt_of_le hk (n_p8 hn)) hk
def anot (a b : Nat) : Nat := a ^^^ (a &&& b)
theorem q_anot (a b : Nat) : nI a &&& (nI b ^^^ mI) = nI (anot a b) := by
  unfold anot
  apply b_ext
  intro i hi
  rw [b_and, b_xor, n_bt, n_bt, n_bt, show bt mI i = true from b_m1 i hi, Nat.testBit_xor, Nat.testBit_and]
  simp [hi]
  cases a.testBit i <;> cases b.testBit i <;> rfl
theorem anot_lt {a b : Nat} (ha : a < 256) : anot a b < 256 := Nat.xor_lt_two_pow (n := 8) ha (and_lt256 ha)
def c_gi (S : Sc) (t : Nat) : Nat → Nat → (Nat → Int32) → (Nat → Int32)
  | 0, _, V => V
  | k + 1, a, V => if a = 0 then z_u V (256 * a + anot t a) (c_bo S V a (anot t a)) else c_gi S t k ((a - 1) &&& t) (z_u V (256 * a + anot t a) (c_bo S V a (anot t a)))
def c_gv (S : Sc) (V : Nat → Int32) : Nat → Int32 := it (fun i V => c_gi S (2 ^ S.1 - 1 - i) (2 ^ S.1 - i) (2 ^ S.1 - 1 - i) V) V (2 ^ S.1)
def c_gp (S : Sc) (V : Nat → Int32) : Nat := fa_first (fun p => decide (c_mv S V 0 0 p = V 0)) S.1
def c_game (S : Sc) (V : Nat → Int32) (w : Int32) : Int32 × Int32 := if c_in w 2 then (if w = nI 0 then c_gv S V 0 else nI (c_gp S (c_gv S V)), nI 0) else (nI 0, nI 1)
section CW
variable {G : z_G} {d : Nat} {h : z_H} {M : Nat} {S : Sc} {F : Nat → Int32} {A : Nat → Nat → Int32}
theorem t_sall (hA : z_at M h S) : s_X12_all M h := ⟨hA.1, hA.2.1⟩
theorem e_tellHalves (hM : z_sh M h) (hR : r_ok (A 1)) (hS : r_S (A 1) = S) : z_Ev G (d + 4) k_X12_tellHalves [.ref M] (z_rs h M F A) (.inl none, z_rs h M (z_u (z_u F 40 (nI (c_hv S).1)) 41 (c_hv S).2) A) := by
  have hAt : ∀ F0, z_at M (z_rs h M F0 A) S := fun F0 => at_rs hM hR hS
  have hn := t_n8 (hAt F)
  have hp := n_p8 hn.2
  have hp2 : 2 ^ S.1 = 2 * 2 ^ (S.1 - 1) := by
    rw [show 2 ^ S.1 = 2 ^ (S.1 - 1 + 1) from congrArg _ (by omega), Nat.pow_succ, Nat.mul_comm]
  refine en_X12_tellHalves (b_X12_tellHalves_0 z_puCV ⟨sh_kd hM, ?_⟩)
  rw [rs_poi, rs_poi]
  refine ⟨sh_kd hM, ?_⟩
  refine z_forI (fun k (_ : Nat × Int32) => [some (.ref M), some (.int (nI (1 + 2 * k)))]) (fun _ a => z_rs h M (z_u (z_u F 40 (nI a.1)) 41 a.2) A) (fun k a => a.1 ≤ k) (c_hvF S) (0, mI) (2 ^ (S.1 - 1)) (Nat.le_refl _) ?_ ?_
  · intro k a hk ha
    have e12 : nI (1 + 2 * k) + nI 2 = nI (1 + 2 * (k + 1)) := nI_add _ _
    have hlt : 1 + 2 * k < 2 ^ S.1 := by omega
    have hnl : ¬ 2 ^ S.1 - 1 < 1 + 2 * k := by omega
    have hA := hAt (z_u (z_u F 40 (nI a.1)) 41 a.2)
    have hcp := q_cpl (S.1 |> fun _ => hn.2) hlt
    refine ⟨by unfold c_hvF; split <;> (first | (show a.1 + 1 ≤ k + 1; omega) | omega), fun hJ => b_X12_tellHalves_12 z_puCV ?_⟩
    rw [t_all hA, hcp, t_has hA (by omega), t_has hA (by omega), e12]
    refine ⟨sh_kd hM, t_sall hA, ?_⟩
    rw [if_neg (fun e => hnl ((nI_ltI (by omega) (by omega)).mp e))]
    refine ⟨sh_kd hM, t_shas hA (by omega), ?_⟩
    unfold c_hvF at hJ
    cases h1 : c_has S (1 + 2 * k)
    · rw [if_pos (by decide)]
      refine ⟨sh_kd hM, t_sall hA, sh_kd hM, t_shas hA (by omega), ?_⟩
      cases h2 : c_has S (2 ^ S.1 - 1 - (1 + 2 * k))
      · have hc : c_half S (1 + 2 * k) = true := by unfold c_half; rw [h1, h2]; rfl
        rw [if_pos (by decide)]
        rw [hc, if_pos rfl] at hJ
        simp only [rs_poi, rs_oi]
        rw [u_ne (z_u F 40 (nI a.1)) (a := 41) _ (show 40 ≠ 41 by decide), u_eq, u_ne (z_u (z_u F 40 (nI a.1)) 41 a.2) (a := 40) _ (show 41 ≠ 40 by decide), u_eq, nI_add, u_mid _ _ _ _ (show 40 ≠ 41 by decide), u_u]
        refine ⟨sh_kd hM, sh_kd hM, sh_kd hM, ?_⟩
        by_cases hm : a.2 = mI
        · rw [if_pos hm] at hJ ⊢
          exact ⟨sh_kd hM, hJ⟩
        · rw [if_neg hm] at hJ ⊢
          exact ⟨sh_kd hM, sh_kd hM, by rw [u_u]; exact hJ⟩
      · have hc : c_half S (1 + 2 * k) = false := by unfold c_half; rw [h1, h2]; rfl
        rw [if_neg (by decide)]
        rw [hc, if_neg (by decide)] at hJ
        exact hJ
    · have hc : c_half S (1 + 2 * k) = false := by unfold c_half; rw [h1]; rfl
      rw [if_neg (by decide)]
      rw [hc, if_neg (by decide)] at hJ
      exact hJ
  · intro _
    have hA := hAt (z_u (z_u F 40 (nI (it (c_hvF S) (0, mI) (2 ^ (S.1 - 1))).1)) 41 (it (c_hvF S) (0, mI) (2 ^ (S.1 - 1))).2)
    refine b_X12_tellHalves_12 z_puCV ?_
    rw [t_all hA, if_pos (nI_lt (by omega) (by omega))]
    exact ⟨sh_kd hM, t_sall hA, rfl⟩
theorem e_tellSpreads (hM : z_sh M h) (hR : r_ok (A 1)) (hS : r_S (A 1) = S) : z_Ev G (d + 4) k_X12_tellSpreads [.ref M] (z_rs h M F A) (.inl none, z_rs h M (z_u (z_u F 42 (nI (c_sp S).1)) 43 (c_sp S).2) A) := by
  have hAt : ∀ F0, z_at M (z_rs h M F0 A) S := fun F0 => at_rs hM hR hS
  have hn := t_n8 (hAt F)
  have hm := t_m12 (hAt F)
  have hp := n_p8 hn.2
  have hpm : 2 ^ S.2.1 ≤ 4096 := Nat.pow_le_pow_right (n := 2) (by decide) hm
  refine en_X12_tellSpreads (b_X12_tellSpreads_0 z_puCV ⟨sh_kd hM, ?_⟩)
  rw [rs_poi, rs_poi]
  refine ⟨sh_kd hM, ?_⟩
  refine z_forI (fun x (_ : Nat × Int32) => [some (.ref M), some (.int (nI x)), none, none, none]) (fun _ a => z_rs h M (z_u (z_u F 42 (nI a.1)) 43 a.2) A) (fun _ _ => True) (c_spF S) (0, mI) (2 ^ S.2.1) trivial ?_ ?_
  · intro x a hx _
    have hA := hAt (z_u (z_u F 42 (nI a.1)) 43 a.2)
    refine ⟨trivial, fun hJ => b_X12_tellSpreads_12 z_puCV ?_⟩
    simp (disch := omega) only [l0, l1, l2, l3, l4, l5, l6, l7, l8, l9, l10, l11, l12, l13, l14, l15, l16, l18, l20, l22, l24, l30, l31, l39, l40, l48, l60, l154, l255, l256, l400, l2000, l6160, l14000, lm1, q_lt, q_le, q_eq, q_mI, q_mI', q_ltmI, q_in, q_bz0, q_bz1, q_bzn0, q_bzn1, q_bzb, q_bn0, q_bn1, q_shr, q_shl, q_1s, b_one, b_two, fa_and, fa_or, nI_add, n_mul, nI_clamp, z_rcs, true_and, and_true, if_true, if_false, rs_ai, rs_oi, rs_pai, rs_poi, rs_pax, rs_kd, rs_ln, rs_or, u_eq, u_ne, sh_kd hM, t_kd hA, t_slines hA, t_spoints hA, t_m hA, t_n hA, t_Ln hA, t_sL hA, t_on hA, t_son hA, t_of hA, t_sof hA, t_has hA, t_shas hA, t_sbits, t_bits, t_stz, t_tz, hx]
    refine z_forI (fun l (b : Nat × Nat) => [some (.ref M), some (.int (nI x)), some (.int (nI b.1)), some (.int (nI b.2)), some (.int (nI l))]) (fun _ _ => z_rs h M (z_u (z_u F 42 (nI a.1)) 43 a.2) A) (fun l b => b.1 < 256 ∧ b.2 ≤ 12 * l) (fun l b => if x.testBit l then (b.1 ||| S.2.2 l, b.2 + n_pc (S.2.2 l)) else b) (0, 0) S.2.1 ⟨by decide, by decide⟩ ?_ ?_
    · intro l b hl hb
      have hL := t_L256 hA l
      have hpc := n_pc12 (S.2.2 l) (by omega)
      have hb1 := hb.1
      refine ⟨?_, fun hJ2 => b_X12_tellSpreads_29 z_puCV ?_⟩
      · split
        · exact ⟨or_lt256 hb.1 hL, by show b.2 + n_pc (S.2.2 l) ≤ 12 * (l + 1); omega⟩
        · exact ⟨hb.1, by omega⟩
      · simp (disch := omega) only [l0, l1, l2, l3, l4, l5, l6, l7, l8, l9, l10, l11, l12, l13, l14, l15, l16, l18, l20, l22, l24, l30, l31, l39, l40, l48, l60, l154, l255, l256, l400, l2000, l6160, l14000, lm1, q_lt, q_le, q_eq, q_mI, q_mI', q_ltmI, q_in, q_bz0, q_bz1, q_bzn0, q_bzn1, q_bzb, q_bn0, q_bn1, q_shr, q_shl, q_1s, b_one, b_two, fa_and, fa_or, nI_add, n_mul, nI_clamp, z_rcs, true_and, and_true, if_true, if_false, rs_ai, rs_oi, rs_pai, rs_poi, rs_pax, rs_kd, rs_ln, rs_or, u_eq, u_ne, sh_kd hM, t_kd hA, t_slines hA, t_spoints hA, t_m hA, t_n hA, t_Ln hA, t_sL hA, t_on hA, t_son hA, t_of hA, t_sof hA, t_has hA, t_shas hA, t_sbits, t_bits, t_stz, t_tz, hl]
        cases hc : x.testBit l
        · rw [if_pos rfl]
          rw [hc, if_neg (by decide)] at hJ2
          exact hJ2
        · rw [if_neg (by decide)]
          rw [hc, if_pos rfl] at hJ2
          exact hJ2
    · intro hb
      have hb' : (c_spI S x).1 < 256 ∧ (c_spI S x).2 ≤ 12 * S.2.1 := hb
      have hb1 := hb'.1
      have hb2 := hb'.2
      refine b_X12_tellSpreads_29 z_puCV ?_
      show z_kd (z_rs h M (z_u (z_u F 42 (nI a.1)) 43 a.2) A) M = 28 ∧ s_X12_lines M (z_rs h M (z_u (z_u F 42 (nI a.1)) 43 a.2) A) ∧ (if nI S.2.1 < f_X12_lines M (z_rs h M (z_u (z_u F 42 (nI a.1)) 43 a.2) A) then _ else _)
      rw [t_m hA, t_all hA, if_neg (show ¬ nI S.2.1 < nI S.2.1 from nI_nlt (Nat.le_refl _) (by omega)), show nI x + nI 1 = nI (x + 1) from nI_add x 1]
      refine ⟨sh_kd hM, hM, sh_kd hM, t_sall hA, ?_⟩
      show (if nI (c_spI S x).1 = nI (2 ^ S.1 - 1) then _ else _)
      unfold c_spF at hJ
      by_cases h1 : (c_spI S x).1 = 2 ^ S.1 - 1
      · rw [if_pos (by rw [h1])]
        refine ⟨sh_kd hM, hM, ?_⟩
        show (if nI (c_spI S x).2 = f_X12_points M (z_rs h M (z_u (z_u F 42 (nI a.1)) 43 a.2) A) then _ else _)
        rw [t_n hA]
        by_cases h2 : (c_spI S x).2 = S.1
        · rw [if_pos (by rw [h2])]
          rw [if_pos ⟨h1, h2⟩] at hJ
          simp only [rs_poi, rs_oi]
          rw [u_ne (z_u F 42 (nI a.1)) (a := 43) _ (show 42 ≠ 43 by decide), u_eq, u_ne (z_u (z_u F 42 (nI a.1)) 43 a.2) (a := 42) _ (show 43 ≠ 42 by decide), u_eq, nI_add, u_mid _ _ _ _ (show 42 ≠ 43 by decide), u_u]
          refine ⟨sh_kd hM, sh_kd hM, sh_kd hM, ?_⟩
          by_cases hq : a.2 = mI
          · rw [if_pos hq] at hJ ⊢
            exact ⟨sh_kd hM, hJ⟩
          · rw [if_neg hq] at hJ ⊢
            exact ⟨sh_kd hM, sh_kd hM, by rw [u_u]; exact hJ⟩
        · rw [if_neg (fun e => h2 ((nI_eq (by omega) (by omega)).mp e))]
          rw [if_neg (fun q => h2 q.2)] at hJ
          exact hJ
      · rw [if_neg (fun e => h1 ((nI_eq (by omega) (by omega)).mp e))]
        rw [if_neg (fun q => h1 q.1)] at hJ
        exact hJ
  · intro _
    have hA := hAt (z_u (z_u F 42 (nI (it (c_spF S) (0, mI) (2 ^ S.2.1)).1)) 43 (it (c_spF S) (0, mI) (2 ^ S.2.1)).2)
    refine b_X12_tellSpreads_12 z_puCV ?_
    simp (disch := omega) only [l0, l1, l2, l3, l4, l5, l6, l7, l8, l9, l10, l11, l12, l13, l14, l15, l16, l18, l20, l22, l24, l30, l31, l39, l40, l48, l60, l154, l255, l256, l400, l2000, l6160, l14000, lm1, q_lt, q_le, q_eq, q_mI, q_mI', q_ltmI, q_in, q_bz0, q_bz1, q_bzn0, q_bzn1, q_bzb, q_bn0, q_bn1, q_shr, q_shl, q_1s, b_one, b_two, fa_and, fa_or, nI_add, n_mul, nI_clamp, z_rcs, true_and, and_true, if_true, if_false, rs_ai, rs_oi, rs_pai, rs_poi, rs_pax, rs_kd, rs_ln, rs_or, u_eq, u_ne, sh_kd hM, t_kd hA, t_slines hA, t_spoints hA, t_m hA, t_n hA, t_Ln hA, t_sL hA, t_on hA, t_son hA, t_of hA, t_sof hA, t_has hA, t_shas hA, t_sbits, t_bits, t_stz, t_tz, Nat.lt_irrefl]
    rfl
theorem e_setP (hM : z_sh M h) (hR : r_ok (A 1)) (hS : r_S (A 1) = S) (w : Int32) : ∃ F', agrF [0, 40, 41, 42, 43] F F' ∧ F' 0 = (c_set S w).2 ∧ z_Ev G (d + 5) k_X12_set [.ref M, .int w] (z_rs h M F A) (.inl (some (.int (c_set S w).1)), z_rs h M F' A) := by
  have hA := at_rs (F := z_u F 0 (nI 0)) hM hR hS
  have eh := e_tellHalves (G := G) (d := d) (F := z_u F 0 (nI 0)) hM hR hS
  have es := e_tellSpreads (G := G) (d := d) (F := z_u F 0 (nI 0)) hM hR hS
  unfold c_set
  by_cases w0 : w = nI 0
  · rw [if_pos w0]
    refine ⟨_, agrF_u agrF_rf (by decide) _, u_eq _ _ _, en_X12_set (b_X12_set_0 z_puCV ⟨sh_kd hM, ?_⟩)⟩
    rw [rs_poi, if_pos w0]
    exact ⟨sh_kd hM, _, _, e_cover hA, rfl⟩
  · rw [if_neg w0]
    by_cases w1 : w = nI 1
    · rw [if_pos w1]
      refine ⟨_, agrF_u agrF_rf (by decide) _, u_eq _ _ _, en_X12_set (b_X12_set_0 z_puCV ⟨sh_kd hM, ?_⟩)⟩
      rw [rs_poi, if_neg w0, if_pos w1]
      exact ⟨sh_kd hM, _, _, e_cap hA, rfl⟩
    · rw [if_neg w1]
      by_cases w2 : w = nI 2
      · rw [if_pos w2]
        refine ⟨z_u (z_u (z_u F 0 (nI 0)) 40 (nI (c_hv S).1)) 41 (c_hv S).2, agrF_u (agrF_u (agrF_u agrF_rf (by decide) _) (by decide) _) (by decide) _, ?_, en_X12_set (b_X12_set_0 z_puCV ⟨sh_kd hM, ?_⟩)⟩
        rotate_left
        · rw [rs_poi, if_neg w0, if_neg w1, if_pos w2]
          refine ⟨sh_kd hM, _, eh, ?_⟩
          rw [if_pos w2, rs_oi, u_ne _ _ (show 40 ≠ 41 by decide), u_eq]
          exact ⟨sh_kd hM, rfl⟩
        · rw [u_ne _ _ (by decide), u_ne _ _ (by decide), u_eq]
      · rw [if_neg w2]
        by_cases w3 : w = nI 3
        · rw [if_pos w3]
          refine ⟨z_u (z_u (z_u F 0 (nI 0)) 40 (nI (c_hv S).1)) 41 (c_hv S).2, agrF_u (agrF_u (agrF_u agrF_rf (by decide) _) (by decide) _) (by decide) _, ?_, en_X12_set (b_X12_set_0 z_puCV ⟨sh_kd hM, ?_⟩)⟩
          rotate_left
          · rw [rs_poi, if_neg w0, if_neg w1, if_neg w2, if_pos w3]
            refine ⟨sh_kd hM, _, eh, ?_⟩
            rw [if_neg w2, rs_oi, u_eq]
            exact ⟨sh_kd hM, rfl⟩
          · rw [u_ne _ _ (by decide), u_ne _ _ (by decide), u_eq]
        · rw [if_neg w3]
          by_cases w4 : w = nI 4
          · rw [if_pos w4]
            refine ⟨z_u (z_u (z_u F 0 (nI 0)) 42 (nI (c_sp S).1)) 43 (c_sp S).2, agrF_u (agrF_u (agrF_u agrF_rf (by decide) _) (by decide) _) (by decide) _, ?_, en_X12_set (b_X12_set_0 z_puCV ⟨sh_kd hM, ?_⟩)⟩
            rotate_left
            · rw [rs_poi, if_neg w0, if_neg w1, if_neg w2, if_neg w3, if_pos w4]
              refine ⟨sh_kd hM, _, es, ?_⟩
              rw [if_pos w4, rs_oi, u_ne _ _ (show 42 ≠ 43 by decide), u_eq]
              exact ⟨sh_kd hM, rfl⟩
            · rw [u_ne _ _ (by decide), u_ne _ _ (by decide), u_eq]
          · rw [if_neg w4]
            by_cases w5 : w = nI 5
            · rw [if_pos w5]
              refine ⟨z_u (z_u (z_u F 0 (nI 0)) 42 (nI (c_sp S).1)) 43 (c_sp S).2, agrF_u (agrF_u (agrF_u agrF_rf (by decide) _) (by decide) _) (by decide) _, ?_, en_X12_set (b_X12_set_0 z_puCV ⟨sh_kd hM, ?_⟩)⟩
              rotate_left
              · rw [rs_poi, if_neg w0, if_neg w1, if_neg w2, if_neg w3, if_neg w4, if_pos w5]
                refine ⟨sh_kd hM, _, es, ?_⟩
                rw [if_neg w4, rs_oi, u_eq]
                exact ⟨sh_kd hM, rfl⟩
              · rw [u_ne _ _ (by decide), u_ne _ _ (by decide), u_eq]
            · rw [if_neg w5]
              refine ⟨_, agrF_u agrF_rf (by decide) (nI 1), u_eq _ _ _, en_X12_set (b_X12_set_0 z_puCV ⟨sh_kd hM, ?_⟩)⟩
              rw [rs_poi, if_neg w0, if_neg w1, if_neg w2, if_neg w3, if_neg w4, if_neg w5]
              exact ⟨sh_kd hM, _, _, e_failF hM, rfl⟩
theorem e_tellGame (hM : z_sh M h) (hR : r_ok (A 1)) (hS : r_S (A 1) = S) : z_Ev G (d + 6) k_X12_tellGame [.ref M] (z_rs h M F A) (.inl none, z_rs h M F (z_u A 21 (c_gv S (A 21)))) := by
  have e1 : ∀ V, z_u A 21 V 1 = A 1 := fun V => by rw [u_ne _ _ (by decide)]
  have hAt : ∀ V, z_at M (z_rs h M F (z_u A 21 V)) S := fun V => at_rs hM (by rw [e1]; exact hR) (by rw [e1]; exact hS)
  have hA0 := at_rs (F := F) hM hR hS
  have hn := t_n8 hA0
  have hp := n_p8 hn.2
  have hpos := Nat.two_pow_pos S.1
  have inner : ∀ (r : z_Res) (t : Nat), t < 256 → ∀ k a (V : Nat → Int32), a < k → a < 256 → (∀ V', V' = c_gi S t k a V → z_J G (d + 6) (m_X12_tellGame z_puC) r 5 [some (.ref M), some (.int (nI t + mI)), none] [] (z_rs h M F (z_u A 21 V'))) → z_J G (d + 6) (m_X12_tellGame z_puC) r 11 [some (.ref M), some (.int (nI t)), some (.int (nI a))] [] (z_rs h M F (z_u A 21 V)) := by
    intro r t ht k
    induction k with
    | zero => intro a V ha; omega
    | succ k ih =>
      intro a V ha ha2 K
      have hx := anot_lt (b := a) ht
      have hb := e_bestOf (G := G) (d := d) (hAt V) ha2 hx
      rw [rs_ai _ _ _ _ (by omega) (by omega), u_eq] at hb
      refine b_X12_tellGame_11 z_puCV ?_
      rw [if_neg (show ¬ nI a < nI 0 from nI_pos (by omega)), q_anot, (sh_comesTo (hAt V).1).1, z_rcs, n_mul, nI_add, nI_clamp (by omega)]
      refine ⟨sh_kd hM, sh_kd hM, _, _, hb, (sh_comesTo (hAt V).1).2.1, by rw [(sh_comesTo (hAt V).1).2.2]; exact vp_in_nI (by omega) (by omega), ?_⟩
      rw [rs_pai _ _ _ _ (by omega) (by omega), u_eq, u_u]
      unfold c_gi at K
      by_cases a0 : a = 0
      · rw [if_pos a0] at K
        rw [if_pos (by rw [a0])]
        refine b_X12_tellGame_11 z_puCV ?_
        rw [if_pos (show mI < nI 0 by decide)]
        exact K _ rfl
      · rw [if_neg a0] at K
        rw [if_neg (fun e => a0 ((nI_eq (by omega) (by omega)).mp e)), q_sub (by omega), fa_and]
        have hle : (a - 1) &&& t ≤ a - 1 := Nat.and_le_left
        exact ih ((a - 1) &&& t) _ (by omega) (by omega) K
  refine en_X12_tellGame (b_X12_tellGame_0 z_puCV ⟨sh_kd hM, t_sall hA0, ?_⟩)
  rw [t_all hA0]
  have key := z_forI (G := G) (d := d + 6) (μ := m_X12_tellGame z_puC) (r := (.inl none, z_rs h M F (z_u A 21 (c_gv S (A 21))))) (pc := 5) (fun i (_ : Nat → Int32) => [some (.ref M), some (.int (nI (2 ^ S.1 - i) - nI 1)), none]) (fun _ V => z_rs h M F (z_u A 21 V)) (fun _ _ => True) (fun i V => c_gi S (2 ^ S.1 - 1 - i) (2 ^ S.1 - i) (2 ^ S.1 - 1 - i) V) (A 21) (2 ^ S.1) trivial ?_ ?_
  · rw [u_self, show nI (2 ^ S.1 - 0) - nI 1 = nI (2 ^ S.1 - 1) from by rw [Nat.sub_zero]; exact q_sub (by omega)] at key
    exact key
  · intro i V hi _
    refine ⟨trivial, fun hJ => b_X12_tellGame_5 z_puCV ?_⟩
    rw [show nI (2 ^ S.1 - i) - nI 1 = nI (2 ^ S.1 - 1 - i) from by rw [q_sub (by omega)]; exact congrArg nI (by omega), if_neg (show ¬ nI (2 ^ S.1 - 1 - i) < nI 0 from nI_pos (by omega))]
    refine inner _ _ (by omega) (2 ^ S.1 - i) (2 ^ S.1 - 1 - i) V (by omega) (by omega) (fun V' hV => ?_)
    rw [show nI (2 ^ S.1 - 1 - i) + mI = nI (2 ^ S.1 - (i + 1)) - nI 1 from by
      rw [show 2 ^ S.1 - (i + 1) = 2 ^ S.1 - 1 - i by omega, Int32.sub_eq_add_neg]; rfl, hV]
    exact hJ
  · intro _
    refine b_X12_tellGame_5 z_puCV ?_
    rw [Nat.sub_self, if_pos (show nI 0 - nI 1 < nI 0 by decide)]
    rfl
theorem e_gameP (hM : z_sh M h) (hR : r_ok (A 1)) (hS : r_S (A 1) = S) (hG : c_gp S (c_gv S (A 21)) < S.1) (h5 : r_nm (A 5)) (w : Int32) : ∃ F' A', agr [21] A A' ∧ agrF [0] F F' ∧ F' 0 = (c_game S (A 21) w).2 ∧ z_Ev G (d + 7) k_X12_game [.ref M, .int w] (z_rs h M F A) (.inl (some (.int (c_game S (A 21) w).1)), z_rs h M F' A') := by
  have e1 : ∀ V, z_u A 21 V 1 = A 1 := fun V => by rw [u_ne _ _ (by decide)]
  have hA := at_rs (F := z_u F 0 (nI 0)) (A := z_u A 21 (c_gv S (A 21))) (S := S) hM (by rw [e1]; exact hR) (by rw [e1]; exact hS)
  have hn := t_n8 hA
  have ei : f_X12_isIn w (nI 0) (nI 1) (z_rs h M (z_u F 0 (nI 0)) A) = nI (c_in w 2).toNat := f_isIn_c w (n := 2) (by omega) _
  have eg := e_tellGame (G := G) (d := d) (F := z_u F 0 (nI 0)) hM hR hS
  unfold c_game
  cases hw : c_in w 2
  · refine ⟨_, _, agr_rf h5, agrF_u agrF_rf (by decide) (nI 1), u_eq _ _ _, en_X12_game (b_X12_game_0 z_puCV ⟨sh_kd hM, ?_⟩)⟩
    rw [rs_poi, ei, hw, if_pos (by decide)]
    exact ⟨trivial, sh_kd hM, _, _, e_failF (d := d + 2) hM, rfl⟩
  · obtain ⟨b, hb, hb2, rfl⟩ := c_in_t hw
    refine ⟨z_u F 0 (nI 0), z_u A 21 (c_gv S (A 21)), agr_u (agr_rf h5) (by decide) (by decide) _, agrF_u agrF_rf (by decide) (nI 0), u_eq _ _ _, en_X12_game (b_X12_game_0 z_puCV ⟨sh_kd hM, ?_⟩)⟩
    rw [rs_poi, ei, hw, if_neg (by decide)]
    refine ⟨trivial, sh_kd hM, _, eg, ?_⟩
    rw [(sh_comesTo hA.1).1, z_rcs, nI_clamp (show 0 < 2 ^ 31 by decide), rs_ai _ _ _ _ (by omega) (by omega), u_eq, if_pos rfl]
    refine ⟨sh_kd hM, (sh_comesTo hA.1).2.1, by rw [(sh_comesTo hA.1).2.2]; exact vp_in_nI (by omega) (by omega), ?_⟩
    by_cases b0 : b = 0
    · refine b_X12_game_33 z_puCV ?_
      rw [b0, if_neg (show ¬ nI 0 = nI 1 by decide), if_pos rfl, if_pos rfl]
    · have b1 : b = 1 := by omega
      subst b1
      rw [if_neg (show ¬ nI 1 = nI 0 by decide)]
      have key := z_fnd (G := G) (d := d + 7) (μ := m_X12_game z_puC) (r := (.inl (some (.int (nI (c_gp S (c_gv S (A 21)))))), z_rs h M (z_u F 0 (nI 0)) (z_u A 21 (c_gv S (A 21))))) (pc := 33) (h := z_rs h M (z_u F 0 (nI 0)) (z_u A 21 (c_gv S (A 21)))) (fun p => [some (.ref M), some (.int (nI 1)), some (.int (c_gv S (A 21) 0)), some (.int (nI p))]) (fun p => decide (c_mv S (c_gv S (A 21)) 0 0 p = c_gv S (A 21) 0)) S.1 ?_ ?_
      · exact key
      · intro p hp hno hJ
        have em := e_movesTo (G := G) (d := d + 2) hA (show 0 < 256 by decide) (show 0 < 256 by decide) (show p < 8 by omega)
        rw [rs_ai _ _ _ _ (by omega) (by omega), u_eq] at em
        refine b_X12_game_33 z_puCV ?_
        rw [if_pos rfl]
        refine ⟨sh_kd hM, _, _, em, ?_⟩
        by_cases hc : c_mv S (c_gv S (A 21)) 0 0 p = c_gv S (A 21) 0
        · rw [if_pos hc, if_neg (show ¬ nI 1 = nI 0 by decide)]
          unfold c_gp
          rw [fa_first_at hp (by simp [hc]) hno]
        · rw [if_neg hc, nI_add]
          exact hJ (by simp [hc])
      · intro hno
        exfalso
        unfold c_gp at hG
        rw [fa_first_n hno] at hG
        omega
end CW
