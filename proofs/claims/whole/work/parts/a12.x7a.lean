theorem en_X7_step {pu : Nat → Option ((List Value → z_H → Prop) × (List Value → z_H → Int32))} {G : z_G} {d : Nat} {r : z_Res} {h : z_H} {x0 : Nat} (hJ : z_J G d (m_X7_step pu) r 0 [some (.ref x0), none] [] h) : z_Ev G d k_X7_step [.ref x0] h r := z_enter (μ := m_X7_step pu) rfl (by decide) rfl rfl (fun q => by cases q) (Nat.le_of_ble_eq_true rfl) hJ
def hd_X7_step : Nat → Option (List Bool) := (fun k => (cond (Nat.blt k 205) (cond (Nat.blt k 66) (cond (Nat.blt k 37) (cond (Nat.blt k 20) (cond (Nat.beq k 12) (some [true, false]) none) (cond (Nat.beq k 20) (some [true, false]) none)) (cond (Nat.blt k 47) (cond (Nat.beq k 37) (some [true, false]) none) (cond (Nat.beq k 47) (some [true, true]) none))) (cond (Nat.blt k 133) (cond (Nat.blt k 114) (cond (Nat.beq k 66) (some [true, false]) none) (cond (Nat.beq k 114) (some [true, true]) none)) (cond (Nat.blt k 138) (cond (Nat.beq k 133) (some [true, true]) none) (cond (Nat.beq k 138) (some [true, true]) none)))) none))
set_option maxRecDepth 20000 in
theorem b_X7_step_0 {G : z_G} {d : Nat} {r : z_Res} (hPu : z_PuV G d (t_X7 z_pu0)) {h : z_H} {x0 : Nat} (hT : (z_kd h x0 = 23 ∧ (z_kd h x0 = 23 ∧ ∃ x_2 h_1, z_Ev G d k_X7_pastBlanks [.ref x0, .int (z_oi h x0 2)] h (.inl (some (.int x_2)), h_1) ∧ (z_kd h_1 x0 = 23 ∧ (z_J G (d + 1) (m_X7_step z_pu0) r) 12 [some (.ref x0), none] [] (z_poi h_1 x0 2 x_2))))) : (z_J G (d + 1) (m_X7_step z_pu0) r) 0 [some (.ref x0), none] [] h := z_bq (v_X7 z_pu0 (vP_X7_step z_pu0) hPu) hd_X7_step 9 hT
set_option maxRecDepth 20000 in
theorem b_X7_step_12 {G : z_G} {d : Nat} {r : z_Res} (hPu : z_PuV G d (t_X7 z_pu0)) {h : z_H} {x0 : Nat} (hT : (z_kd h x0 = 23 ∧ (z_kd h x0 = 23 ∧ (z_J G (d + 1) (m_X7_step z_pu0) r) 20 [some (.ref x0), none] [] (z_poi h x0 4 (z_oi h x0 2))))) : (z_J G (d + 1) (m_X7_step z_pu0) r) 12 [some (.ref x0), none] [] h := z_bq (v_X7 z_pu0 (vP_X7_step z_pu0) hPu) hd_X7_step 7 hT
set_option maxRecDepth 20000 in
theorem b_X7_step_20 {G : z_G} {d : Nat} {r : z_Res} (hPu : z_PuV G d (t_X7 z_pu0)) {h : z_H} {x0 : Nat} (hT : (z_kd h x0 = 23 ∧ (z_kd h x0 = 23 ∧ (if (z_oi h x0 2) < (z_oi h x0 1) then (z_J G (d + 1) (m_X7_step z_pu0) r) 37 [some (.ref x0), none] [] h else (z_kd h x0 = 23 ∧ r = (.inl none, z_poi h x0 3 (nI 0))))))) : (z_J G (d + 1) (m_X7_step z_pu0) r) 20 [some (.ref x0), none] [] h := z_bq (v_X7 z_pu0 (vP_X7_step z_pu0) hPu) hd_X7_step 11 hT
set_option maxRecDepth 20000 in
theorem b_X7_step_37 {G : z_G} {d : Nat} {r : z_Res} (hPu : z_PuV G d (t_X7 z_pu0)) {h : z_H} {x0 : Nat} (hT : (z_kd h x0 = 23 ∧ (z_rc (z_or h x0 0) (z_kd h x0 = 23 ∧ False) (fun x_1 => (z_kd h x0 = 23 ∧ (z_kd h x_1 = 1 ∧ vp_in (z_oi h x0 2) (z_ln h x_1) ∧ (z_J G (d + 1) (m_X7_step z_pu0) r) 47 [some (.ref x0), some (.int (z_ai h x_1 (Int32.toNatClampNeg (z_oi h x0 2))))] [] h)))))) : (z_J G (d + 1) (m_X7_step z_pu0) r) 37 [some (.ref x0), none] [] h := z_bq (v_X7 z_pu0 (vP_X7_step z_pu0) hPu) hd_X7_step 9 hT
set_option maxRecDepth 20000 in
theorem b_X7_step_47 {G : z_G} {d : Nat} {r : z_Res} (hPu : z_PuV G d (t_X7 z_pu0)) {h : z_H} {x0 : Nat} {x1 : Int32} (hT : (∃ x_2 h_1, z_Ev G d k_X7_isLetter [.int x1] h (.inl (some (.int x_2)), h_1) ∧ (if x_2 = (nI 0) then (z_J G (d + 1) (m_X7_step z_pu0) r) 114 [some (.ref x0), some (.int x1)] [] h_1 else (z_kd h_1 x0 = 23 ∧ (z_kd h_1 x0 = 23 ∧ ∃ x_4 h_3, z_Ev G d k_X7_pastLetters [.ref x0, .int (z_oi h_1 x0 2)] h_1 (.inl (some (.int x_4)), h_3) ∧ (z_kd h_3 x0 = 23 ∧ (z_J G (d + 1) (m_X7_step z_pu0) r) 66 [some (.ref x0), none] [] (z_poi h_3 x0 2 x_4))))))) : (z_J G (d + 1) (m_X7_step z_pu0) r) 47 [some (.ref x0), some (.int x1)] [] h := z_bq (v_X7 z_pu0 (vP_X7_step z_pu0) hPu) hd_X7_step 12 hT
set_option maxRecDepth 20000 in
theorem b_X7_step_114 {G : z_G} {d : Nat} {r : z_Res} (hPu : z_PuV G d (t_X7 z_pu0)) {h : z_H} {x0 : Nat} {x1 : Int32} (hT : (∃ x_2 h_1, z_Ev G d k_X7_isDigit [.int x1] h (.inl (some (.int x_2)), h_1) ∧ (if x_2 = (nI 0) then (z_kd h_1 x0 = 23 ∧ (z_kd h_1 x0 = 23 ∧ (if x1 = (nI 59) then (z_kd (z_poi h_1 x0 2 ((z_oi h_1 x0 2) + (nI 1))) x0 = 23 ∧ r = (.inl none, z_poi (z_poi h_1 x0 2 ((z_oi h_1 x0 2) + (nI 1))) x0 3 (nI 5))) else (if x1 = (nI 45) then (z_kd (z_poi h_1 x0 2 ((z_oi h_1 x0 2) + (nI 1))) x0 = 23 ∧ r = (.inl none, z_poi (z_poi h_1 x0 2 ((z_oi h_1 x0 2) + (nI 1))) x0 3 (nI 6))) else (z_kd (z_poi h_1 x0 2 ((z_oi h_1 x0 2) + (nI 1))) x0 = 23 ∧ r = (.inl none, z_poi (z_poi h_1 x0 2 ((z_oi h_1 x0 2) + (nI 1))) x0 3 (nI 7))))))) else (z_kd h_1 x0 = 23 ∧ (z_kd h_1 x0 = 23 ∧ ∃ x_4 h_3, z_Ev G d k_X7_pastDigits [.ref x0, .int (z_oi h_1 x0 2)] h_1 (.inl (some (.int x_4)), h_3) ∧ (z_kd h_3 x0 = 23 ∧ (z_J G (d + 1) (m_X7_step z_pu0) r) 133 [some (.ref x0), some (.int x1)] [] (z_poi h_3 x0 2 x_4))))))) : (z_J G (d + 1) (m_X7_step z_pu0) r) 114 [some (.ref x0), some (.int x1)] [] h := z_bq (v_X7 z_pu0 (vP_X7_step z_pu0) hPu) hd_X7_step 22 hT
set_option maxRecDepth 20000 in
theorem b_X7_step_66 {G : z_G} {d : Nat} {r : z_Res} (hPu : z_PuV G d (t_X7 z_pu0)) {h : z_H} {x0 : Nat} (hT : (z_kd h x0 = 23 ∧ ∃ x_2 h_1, z_Ev G d k_X7_isWord [.ref x0, .ref (z_sad G 0)] h (.inl (some (.int x_2)), h_1) ∧ (if x_2 = (nI 0) then (z_kd h_1 x0 = 23 ∧ ∃ x_4 h_3, z_Ev G d k_X7_isWord [.ref x0, .ref (z_sad G 1)] h_1 (.inl (some (.int x_4)), h_3) ∧ (if x_4 = (nI 0) then (z_kd h_3 x0 = 23 ∧ ∃ x_6 h_5, z_Ev G d k_X7_isWord [.ref x0, .ref (z_sad G 2)] h_3 (.inl (some (.int x_6)), h_5) ∧ (if x_6 = (nI 0) then (z_kd h_5 x0 = 23 ∧ r = (.inl none, z_poi h_5 x0 3 (nI 7))) else (z_kd h_5 x0 = 23 ∧ r = (.inl none, z_poi h_5 x0 3 (nI 3))))) else (z_kd h_3 x0 = 23 ∧ r = (.inl none, z_poi h_3 x0 3 (nI 2))))) else (z_kd h_1 x0 = 23 ∧ r = (.inl none, z_poi h_1 x0 3 (nI 1)))))) : (z_J G (d + 1) (m_X7_step z_pu0) r) 66 [some (.ref x0), none] [] h := z_bq (v_X7 z_pu0 (vP_X7_step z_pu0) hPu) hd_X7_step 20 hT
set_option maxRecDepth 20000 in
theorem b_X7_step_133 {G : z_G} {d : Nat} {r : z_Res} (hPu : z_PuV G d (t_X7 z_pu0)) {h : z_H} {x0 : Nat} {x1 : Int32} (hT : (z_kd h x0 = 23 ∧ (z_J G (d + 1) (m_X7_step z_pu0) r) 138 [some (.ref x0), some (.int x1)] [] (z_poi h x0 3 (nI 4)))) : (z_J G (d + 1) (m_X7_step z_pu0) r) 133 [some (.ref x0), some (.int x1)] [] h := z_bq (v_X7 z_pu0 (vP_X7_step z_pu0) hPu) hd_X7_step 6 hT
set_option maxRecDepth 20000 in
theorem b_X7_step_138 {G : z_G} {d : Nat} {r : z_Res} (hPu : z_PuV G d (t_X7 z_pu0)) {h : z_H} {x0 : Nat} {x1 : Int32} (hT : (z_kd h x0 = 23 ∧ (z_kd h x0 = 23 ∧ (if (nI 1) < ((z_oi h x0 2) - (z_oi h x0 4)) then (z_kd h x0 = 23 ∧ r = (.inl none, z_poi h x0 5 (nI 10))) else (z_kd h x0 = 23 ∧ r = (.inl none, z_poi h x0 5 (x1 - (nI 48)))))))) : (z_J G (d + 1) (m_X7_step z_pu0) r) 138 [some (.ref x0), some (.int x1)] [] h := z_bq (v_X7 z_pu0 (vP_X7_step z_pu0) hPu) hd_X7_step 16 hT
theorem en_X7_pastBlanks {pu : Nat → Option ((List Value → z_H → Prop) × (List Value → z_H → Int32))} {G : z_G} {d : Nat} {r : z_Res} {h : z_H} {x0 : Nat} {x1 : Int32} (hJ : z_J G d (m_X7_pastBlanks pu) r 0 [some (.ref x0), some (.int x1), none] [] h) : z_Ev G d k_X7_pastBlanks [.ref x0, .int x1] h r := z_enter (μ := m_X7_pastBlanks pu) rfl (by decide) rfl rfl (fun q => by cases q) (Nat.le_of_ble_eq_true rfl) hJ
def hd_X7_pastBlanks : Nat → Option (List Bool) := (fun k => (cond (Nat.blt k 40) (cond (Nat.beq k 2) (some [true, false, true]) none) none))
set_option maxRecDepth 20000 in
theorem b_X7_pastBlanks_0 {G : z_G} {d : Nat} {r : z_Res} (hPu : z_PuV G d (t_X7 z_pu0)) {h : z_H} {x0 : Nat} {x1 : Int32} (hT : (z_J G (d + 1) (m_X7_pastBlanks z_pu0) r) 2 [some (.ref x0), none, some (.int x1)] [] h) : (z_J G (d + 1) (m_X7_pastBlanks z_pu0) r) 0 [some (.ref x0), some (.int x1), none] [] h := z_bq (v_X7 z_pu0 (vP_X7_pastBlanks z_pu0) hPu) hd_X7_pastBlanks 5 hT
set_option maxRecDepth 20000 in
theorem b_X7_pastBlanks_2 {G : z_G} {d : Nat} {r : z_Res} (hPu : z_PuV G d (t_X7 z_pu0)) {h : z_H} {x0 : Nat} {x2 : Int32} (hT : (z_kd h x0 = 23 ∧ (if x2 < (z_oi h x0 1) then (z_kd h x0 = 23 ∧ (z_rc (z_or h x0 0) False (fun x_1 => (z_kd h x_1 = 1 ∧ vp_in x2 (z_ln h x_1) ∧ (if (z_ai h x_1 (Int32.toNatClampNeg x2)) = (nI 32) then (z_J G (d + 1) (m_X7_pastBlanks z_pu0) r) 2 [some (.ref x0), none, some (.int (x2 + (nI 1)))] [] h else (z_kd h x0 = 23 ∧ (z_rc (z_or h x0 0) False (fun x_2 => (z_kd h x_2 = 1 ∧ vp_in x2 (z_ln h x_2) ∧ (if (z_ai h x_2 (Int32.toNatClampNeg x2)) = (nI 10) then (z_J G (d + 1) (m_X7_pastBlanks z_pu0) r) 2 [some (.ref x0), none, some (.int (x2 + (nI 1)))] [] h else r = (.inl (some (.int x2)), h))))))))))) else r = (.inl (some (.int x2)), h)))) : (z_J G (d + 1) (m_X7_pastBlanks z_pu0) r) 2 [some (.ref x0), none, some (.int x2)] [] h := z_bq (v_X7 z_pu0 (vP_X7_pastBlanks z_pu0) hPu) hd_X7_pastBlanks 21 hT
theorem en_X7_pastLetters {pu : Nat → Option ((List Value → z_H → Prop) × (List Value → z_H → Int32))} {G : z_G} {d : Nat} {r : z_Res} {h : z_H} {x0 : Nat} {x1 : Int32} (hJ : z_J G d (m_X7_pastLetters pu) r 0 [some (.ref x0), some (.int x1), none] [] h) : z_Ev G d k_X7_pastLetters [.ref x0, .int x1] h r := z_enter (μ := m_X7_pastLetters pu) rfl (by decide) rfl rfl (fun q => by cases q) (Nat.le_of_ble_eq_true rfl) hJ
def hd_X7_pastLetters : Nat → Option (List Bool) := (fun k => (cond (Nat.blt k 30) (cond (Nat.beq k 2) (some [true, false, true]) none) none))
set_option maxRecDepth 20000 in
theorem b_X7_pastLetters_0 {G : z_G} {d : Nat} {r : z_Res} (hPu : z_PuV G d (t_X7 z_pu0)) {h : z_H} {x0 : Nat} {x1 : Int32} (hT : (z_J G (d + 1) (m_X7_pastLetters z_pu0) r) 2 [some (.ref x0), none, some (.int x1)] [] h) : (z_J G (d + 1) (m_X7_pastLetters z_pu0) r) 0 [some (.ref x0), some (.int x1), none] [] h := z_bq (v_X7 z_pu0 (vP_X7_pastLetters z_pu0) hPu) hd_X7_pastLetters 5 hT
set_option maxRecDepth 20000 in
theorem b_X7_pastLetters_2 {G : z_G} {d : Nat} {r : z_Res} (hPu : z_PuV G d (t_X7 z_pu0)) {h : z_H} {x0 : Nat} {x2 : Int32} (hT : (z_kd h x0 = 23 ∧ (if x2 < (z_oi h x0 1) then (z_kd h x0 = 23 ∧ (z_rc (z_or h x0 0) False (fun x_1 => (z_kd h x_1 = 1 ∧ vp_in x2 (z_ln h x_1) ∧ (∃ x_3 h_2, z_Ev G d k_X7_isLetter [.int (z_ai h x_1 (Int32.toNatClampNeg x2))] h (.inl (some (.int x_3)), h_2) ∧ (if x_3 = (nI 0) then r = (.inl (some (.int x2)), h_2) else (z_J G (d + 1) (m_X7_pastLetters z_pu0) r) 2 [some (.ref x0), none, some (.int (x2 + (nI 1)))] [] h_2)))))) else r = (.inl (some (.int x2)), h)))) : (z_J G (d + 1) (m_X7_pastLetters z_pu0) r) 2 [some (.ref x0), none, some (.int x2)] [] h := z_bq (v_X7 z_pu0 (vP_X7_pastLetters z_pu0) hPu) hd_X7_pastLetters 15 hT
theorem en_X7_pastDigits {pu : Nat → Option ((List Value → z_H → Prop) × (List Value → z_H → Int32))} {G : z_G} {d : Nat} {r : z_Res} {h : z_H} {x0 : Nat} {x1 : Int32} (hJ : z_J G d (m_X7_pastDigits pu) r 0 [some (.ref x0), some (.int x1), none] [] h) : z_Ev G d k_X7_pastDigits [.ref x0, .int x1] h r := z_enter (μ := m_X7_pastDigits pu) rfl (by decide) rfl rfl (fun q => by cases q) (Nat.le_of_ble_eq_true rfl) hJ
def hd_X7_pastDigits : Nat → Option (List Bool) := (fun k => (cond (Nat.blt k 30) (cond (Nat.beq k 2) (some [true, false, true]) none) none))
set_option maxRecDepth 20000 in
theorem b_X7_pastDigits_0 {G : z_G} {d : Nat} {r : z_Res} (hPu : z_PuV G d (t_X7 z_pu0)) {h : z_H} {x0 : Nat} {x1 : Int32} (hT : (z_J G (d + 1) (m_X7_pastDigits z_pu0) r) 2 [some (.ref x0), none, some (.int x1)] [] h) : (z_J G (d + 1) (m_X7_pastDigits z_pu0) r) 0 [some (.ref x0), some (.int x1), none] [] h := z_bq (v_X7 z_pu0 (vP_X7_pastDigits z_pu0) hPu) hd_X7_pastDigits 5 hT
set_option maxRecDepth 20000 in
theorem b_X7_pastDigits_2 {G : z_G} {d : Nat} {r : z_Res} (hPu : z_PuV G d (t_X7 z_pu0)) {h : z_H} {x0 : Nat} {x2 : Int32} (hT : (z_kd h x0 = 23 ∧ (if x2 < (z_oi h x0 1) then (z_kd h x0 = 23 ∧ (z_rc (z_or h x0 0) False (fun x_1 => (z_kd h x_1 = 1 ∧ vp_in x2 (z_ln h x_1) ∧ (∃ x_3 h_2, z_Ev G d k_X7_isDigit [.int (z_ai h x_1 (Int32.toNatClampNeg x2))] h (.inl (some (.int x_3)), h_2) ∧ (if x_3 = (nI 0) then r = (.inl (some (.int x2)), h_2) else (z_J G (d + 1) (m_X7_pastDigits z_pu0) r) 2 [some (.ref x0), none, some (.int (x2 + (nI 1)))] [] h_2)))))) else r = (.inl (some (.int x2)), h)))) : (z_J G (d + 1) (m_X7_pastDigits z_pu0) r) 2 [some (.ref x0), none, some (.int x2)] [] h := z_bq (v_X7 z_pu0 (vP_X7_pastDigits z_pu0) hPu) hd_X7_pastDigits 15 hT
theorem en_X7_isLetter {pu : Nat → Option ((List Value → z_H → Prop) × (List Value → z_H → Int32))} {G : z_G} {d : Nat} {r : z_Res} {h : z_H} {x0 : Int32} (hJ : z_J G d (m_X7_isLetter pu) r 0 [some (.int x0)] [] h) : z_Ev G d k_X7_isLetter [.int x0] h r := z_enter (μ := m_X7_isLetter pu) rfl (by decide) rfl rfl (fun q => by cases q) (Nat.le_of_ble_eq_true rfl) hJ
def hd_X7_isLetter : Nat → Option (List Bool) := (fun k => none)
set_option maxRecDepth 20000 in
theorem b_X7_isLetter_0 {G : z_G} {d : Nat} {r : z_Res} (hPu : z_PuV G d (t_X7 z_pu0)) {h : z_H} {x0 : Int32} (hT : (if x0 < (nI 97) then (z_bz (nI 0) ∧ r = (.inl (some (.int (nI 0))), h)) else (if (nI 122) < x0 then (z_bz (nI 0) ∧ r = (.inl (some (.int (nI 0))), h)) else (z_bz (nI 1) ∧ r = (.inl (some (.int (nI 1))), h))))) : (z_J G (d + 1) (m_X7_isLetter z_pu0) r) 0 [some (.int x0)] [] h := z_bq (v_X7 z_pu0 (vP_X7_isLetter z_pu0) hPu) hd_X7_isLetter 11 hT
theorem en_X7_isDigit {pu : Nat → Option ((List Value → z_H → Prop) × (List Value → z_H → Int32))} {G : z_G} {d : Nat} {r : z_Res} {h : z_H} {x0 : Int32} (hJ : z_J G d (m_X7_isDigit pu) r 0 [some (.int x0)] [] h) : z_Ev G d k_X7_isDigit [.int x0] h r := z_enter (μ := m_X7_isDigit pu) rfl (by decide) rfl rfl (fun q => by cases q) (Nat.le_of_ble_eq_true rfl) hJ
def hd_X7_isDigit : Nat → Option (List Bool) := (fun k => none)
set_option maxRecDepth 20000 in
theorem b_X7_isDigit_0 {G : z_G} {d : Nat} {r : z_Res} (hPu : z_PuV G d (t_X7 z_pu0)) {h : z_H} {x0 : Int32} (hT : (if x0 < (nI 48) then (z_bz (nI 0) ∧ r = (.inl (some (.int (nI 0))), h)) else (if (nI 57) < x0 then (z_bz (nI 0) ∧ r = (.inl (some (.int (nI 0))), h)) else (z_bz (nI 1) ∧ r = (.inl (some (.int (nI 1))), h))))) : (z_J G (d + 1) (m_X7_isDigit z_pu0) r) 0 [some (.int x0)] [] h := z_bq (v_X7 z_pu0 (vP_X7_isDigit z_pu0) hPu) hd_X7_isDigit 11 hT
theorem en_X7_isWord {pu : Nat → Option ((List Value → z_H → Prop) × (List Value → z_H → Int32))} {G : z_G} {d : Nat} {r : z_Res} {h : z_H} {x0 : Nat} {x1 : Nat} (hJ : z_J G d (m_X7_isWord pu) r 0 [some (.ref x0), some (.ref x1), none] [] h) : z_Ev G d k_X7_isWord [.ref x0, .ref x1] h r := z_enter (μ := m_X7_isWord pu) rfl (by decide) rfl rfl (fun q => by cases q) (Nat.le_of_ble_eq_true rfl) hJ
def hd_X7_isWord : Nat → Option (List Bool) := (fun k => (cond (Nat.blt k 57) (cond (Nat.beq k 20) (some [true, true, true]) none) none))
set_option maxRecDepth 20000 in
theorem b_X7_isWord_0 {G : z_G} {d : Nat} {r : z_Res} (hPu : z_PuV G d (t_X7 z_pu0)) {h : z_H} {x0 : Nat} {x1 : Nat} (hT : (z_kd h x0 = 23 ∧ (z_kd h x0 = 23 ∧ (∃ i_1, i_1 < 6 ∧ x1 = z_sad G i_1 ∧ ∃ x_3 h_2, z_Ev G d k_J0_length_8abf5 [.ref x1] h (.inl (some (.int x_3)), h_2) ∧ (if ((z_oi h x0 2) - (z_oi h x0 4)) = x_3 then (z_J G (d + 1) (m_X7_isWord z_pu0) r) 20 [some (.ref x0), some (.ref x1), some (.int (nI 0))] [] h_2 else (z_bz (nI 0) ∧ r = (.inl (some (.int (nI 0))), h_2))))))) : (z_J G (d + 1) (m_X7_isWord z_pu0) r) 0 [some (.ref x0), some (.ref x1), none] [] h := z_bq (v_X7 z_pu0 (vP_X7_isWord z_pu0) hPu) hd_X7_isWord 13 hT
set_option maxRecDepth 20000 in
theorem b_X7_isWord_20 {G : z_G} {d : Nat} {r : z_Res} (hPu : z_PuV G d (t_X7 z_pu0)) {h : z_H} {x0 : Nat} {x1 : Nat} {x2 : Int32} (hT : (∃ i_1, i_1 < 6 ∧ x1 = z_sad G i_1 ∧ ∃ x_3 h_2, z_Ev G d k_J0_length_8abf5 [.ref x1] h (.inl (some (.int x_3)), h_2) ∧ (if x2 < x_3 then (z_kd h_2 x0 = 23 ∧ (z_rc (z_or h_2 x0 0) (z_kd h_2 x0 = 23 ∧ False) (fun x_4 => (z_kd h_2 x0 = 23 ∧ (z_kd h_2 x_4 = 1 ∧ vp_in ((z_oi h_2 x0 4) + x2) (z_ln h_2 x_4) ∧ (∃ i_5, i_5 < 6 ∧ x1 = z_sad G i_5 ∧ ∃ x_7 h_6, z_Ev G d k_J0_charAt_5068e [.ref x1, .int x2] h_2 (.inl (some (.int x_7)), h_6) ∧ (if (z_ai h_2 x_4 (Int32.toNatClampNeg ((z_oi h_2 x0 4) + x2))) = x_7 then (z_J G (d + 1) (m_X7_isWord z_pu0) r) 20 [some (.ref x0), some (.ref x1), some (.int (x2 + (nI 1)))] [] h_6 else (z_bz (nI 0) ∧ r = (.inl (some (.int (nI 0))), h_6))))))))) else (z_bz (nI 1) ∧ r = (.inl (some (.int (nI 1))), h_2))))) : (z_J G (d + 1) (m_X7_isWord z_pu0) r) 20 [some (.ref x0), some (.ref x1), some (.int x2)] [] h := z_bq (v_X7 z_pu0 (vP_X7_isWord z_pu0) hPu) hd_X7_isWord 20 hT
/-! THE READER: tokens -/
def rsh (x tp : Nat) (h : z_H) : Prop := z_kd h x = 23 ∧ z_or h x 0 = some tp ∧ z_kd h tp = 1 ∧ z_ln h tp = 400 ∧ (z_or h x 9 = some (x + 2) ∧ z_kd h (x + 2) = 1 ∧ z_ln h (x + 2) = 12) ∧ (z_or h x 10 = some (x + 3) ∧ z_kd h (x + 3) = 1 ∧ z_ln h (x + 3) = 8) ∧ (z_or h x 11 = some (x + 4) ∧ z_kd h (x + 4) = 1 ∧ z_ln h (x + 4) = 8) ∧ (tp < x + 1 ∨ x + 1 + 4 ≤ tp)
def rtx (tp : Nat) (T : Nat → Nat) (n : Nat) (h : z_H) : Prop := n ≤ 400 ∧ ∀ i, i < n → z_ai h tp i = nI (T i) ∧ T i < 256
def g_kd (T : Nat → Nat) (n i : Nat) : Nat := if tk_k T n i = 0 then 0 else if tk_k T n i = 1 then (if c_isw T n i 3 then 1 else if c_isw T n i 4 then 2 else if c_isw T n i 5 then 3 else 7) else if tk_k T n i = 2 then 4 else if tk_k T n i = 3 then (if T (tk_b T n i) = 59 then 5 else 6) else 7
/-- the token that begins from i on is the reader's now -/
def tokC (T : Nat → Nat) (n i : Nat) (F : Nat → Int32) : Prop := F 1 = nI n ∧ F 2 = nI (tk_e T n i) ∧ F 3 = nI (g_kd T n i) ∧ F 4 = nI (tk_b T n i) ∧ (tk_k T n i = 2 → F 5 = nI (if tk_e T n i = tk_b T n i + 1 then T (tk_b T n i) - 48 else 10))
theorem w_sch0 : ∀ w, w < 3 → ∀ k, k < (w_byt (w + 3)).length → z_sch w (nI k) = nI ((w_byt (w + 3)).getD k 0) ∧ (w_byt (w + 3)).getD k 0 < 256 := by decide +kernel
theorem w_len0 : ∀ w, w < 3 → z_slen.getD w 0 = (w_byt (w + 3)).length ∧ (w_byt (w + 3)).length ≤ 6 := by decide
section HG
variable {G : z_G} {d x tp n : Nat} {h : z_H} {T : Nat → Nat}
theorem e7_isLetter {c : Nat} (hc : c < 256) : z_Ev G (d + 4) k_X7_isLetter [.int (nI c)] h (.inl (some (.int (nI (k_le c).toNat))), h) := by
  refine en_X7_isLetter (b_X7_isLetter_0 (z_pu0V rfl) ?_)
  unfold k_le
  by_cases h1 : c < 97
  · rw [if_pos (nI_lt h1 (by decide)), decide_eq_false (by omega)]; exact ⟨Or.inl rfl, rfl⟩
  · rw [if_neg (nI_nlt (by omega) (by omega))]
    by_cases h2 : 122 < c
    · rw [if_pos (nI_lt h2 (by omega)), decide_eq_false (by omega)]; exact ⟨Or.inl rfl, rfl⟩
    · rw [if_neg (nI_nlt (by omega) (by omega)), decide_eq_true (by omega)]; exact ⟨Or.inr rfl, rfl⟩
theorem e7_isDigit {c : Nat} (hc : c < 256) : z_Ev G (d + 4) k_X7_isDigit [.int (nI c)] h (.inl (some (.int (nI (k_di c).toNat))), h) := by
  refine en_X7_isDigit (b_X7_isDigit_0 (z_pu0V rfl) ?_)
  unfold k_di
  by_cases h1 : c < 48
  · rw [if_pos (nI_lt h1 (by decide)), decide_eq_false (by omega)]; exact ⟨Or.inl rfl, rfl⟩
  · rw [if_neg (nI_nlt (by omega) (by omega))]
    by_cases h2 : 57 < c
    · rw [if_pos (nI_lt h2 (by omega)), decide_eq_false (by omega)]; exact ⟨Or.inl rfl, rfl⟩
    · rw [if_neg (nI_nlt (by omega) (by omega)), decide_eq_true (by omega)]; exact ⟨Or.inr rfl, rfl⟩
theorem e7_pastLetters (hs : rsh x tp h) (ht : rtx tp T n h) {F : Nat → Int32} {A : Nat → Nat → Int32} (h1 : F 1 = nI n) {i : Nat} (hi : i ≤ n) : z_Ev G (d + 5) k_X7_pastLetters [.ref x, .int (nI i)] (z_hb h x 4 F A) (.inl (some (.int (nI (c_past k_le T n i)))), z_hb h x 4 F A) := by
  have hn := ht.1
  refine en_X7_pastLetters (b_X7_pastLetters_0 (z_pu0V rfl) ?_)
  have key : ∀ k i, i + k = n → z_J G (d + 5) (m_X7_pastLetters z_pu0) (.inl (some (.int (nI (c_past k_le T n i)))), z_hb h x 4 F A) 2 [some (.ref x), none, some (.int (nI i))] [] (z_hb h x 4 F A) := by
    intro k
    induction k with
    | zero =>
      intro i hi
      refine b_X7_pastLetters_2 (z_pu0V rfl) ⟨hs.1, ?_⟩
      rw [hb_oi, h1, if_neg (nI_nlt (by omega) (by omega)), past_n (by omega)]
    | succ k ih =>
      intro i hi
      obtain ⟨t1, t2⟩ := ht.2 i (by omega)
      refine b_X7_pastLetters_2 (z_pu0V rfl) ⟨hs.1, ?_⟩
      rw [hb_oi, h1, if_pos (nI_lt (by omega) (by omega)), hb_or, hs.2.1, z_rcs, nI_clamp (by omega), hb_out _ _ _ _ _ hs.2.2.2.2.2.2.2, t1, nI_add]
      refine ⟨hs.1, hs.2.2.1, by rw [hb_ln, hs.2.2.2.1]; exact vp_in_nI (by omega) (by decide), _, _, e7_isLetter t2, ?_⟩
      cases c : k_le (T i)
      · rw [if_pos (by rfl), past_n (fun _ => c)]
      · rw [if_neg (by decide), past_y (by omega) c]
        exact ih (i + 1) (by omega)
  exact key (n - i) i (by omega)
theorem e7_pastDigits (hs : rsh x tp h) (ht : rtx tp T n h) {F : Nat → Int32} {A : Nat → Nat → Int32} (h1 : F 1 = nI n) {i : Nat} (hi : i ≤ n) : z_Ev G (d + 5) k_X7_pastDigits [.ref x, .int (nI i)] (z_hb h x 4 F A) (.inl (some (.int (nI (c_past k_di T n i)))), z_hb h x 4 F A) := by
  have hn := ht.1
  refine en_X7_pastDigits (b_X7_pastDigits_0 (z_pu0V rfl) ?_)
  have key : ∀ k i, i + k = n → z_J G (d + 5) (m_X7_pastDigits z_pu0) (.inl (some (.int (nI (c_past k_di T n i)))), z_hb h x 4 F A) 2 [some (.ref x), none, some (.int (nI i))] [] (z_hb h x 4 F A) := by
    intro k
    induction k with
    | zero =>
      intro i hi
      refine b_X7_pastDigits_2 (z_pu0V rfl) ⟨hs.1, ?_⟩
      rw [hb_oi, h1, if_neg (nI_nlt (by omega) (by omega)), past_n (by omega)]
    | succ k ih =>
      intro i hi
      obtain ⟨t1, t2⟩ := ht.2 i (by omega)
      refine b_X7_pastDigits_2 (z_pu0V rfl) ⟨hs.1, ?_⟩
      rw [hb_oi, h1, if_pos (nI_lt (by omega) (by omega)), hb_or, hs.2.1, z_rcs, nI_clamp (by omega), hb_out _ _ _ _ _ hs.2.2.2.2.2.2.2, t1, nI_add]
      refine ⟨hs.1, hs.2.2.1, by rw [hb_ln, hs.2.2.2.1]; exact vp_in_nI (by omega) (by decide), _, _, e7_isDigit t2, ?_⟩
      cases c : k_di (T i)
      · rw [if_pos (by rfl), past_n (fun _ => c)]
      · rw [if_neg (by decide), past_y (by omega) c]
        exact ih (i + 1) (by omega)
  exact key (n - i) i (by omega)
theorem e7_pastBlanks (hs : rsh x tp h) (ht : rtx tp T n h) {F : Nat → Int32} {A : Nat → Nat → Int32} (h1 : F 1 = nI n) {i : Nat} (hi : i ≤ n) : z_Ev G (d + 5) k_X7_pastBlanks [.ref x, .int (nI i)] (z_hb h x 4 F A) (.inl (some (.int (nI (tk_b T n i)))), z_hb h x 4 F A) := by
  have hn := ht.1
  refine en_X7_pastBlanks (b_X7_pastBlanks_0 (z_pu0V rfl) ?_)
  have key : ∀ k i, i + k = n → z_J G (d + 5) (m_X7_pastBlanks z_pu0) (.inl (some (.int (nI (c_past k_bl T n i)))), z_hb h x 4 F A) 2 [some (.ref x), none, some (.int (nI i))] [] (z_hb h x 4 F A) := by
    intro k
    induction k with
    | zero =>
      intro i hi
      refine b_X7_pastBlanks_2 (z_pu0V rfl) ⟨hs.1, ?_⟩
      rw [hb_oi, h1, if_neg (nI_nlt (by omega) (by omega)), past_n (by omega)]
    | succ k ih =>
      intro i hi
      obtain ⟨t1, t2⟩ := ht.2 i (by omega)
      have vi : vp_in (nI i) (z_ln (z_hb h x 4 F A) tp) := by rw [hb_ln, hs.2.2.2.1]; exact vp_in_nI (by omega) (by decide)
      refine b_X7_pastBlanks_2 (z_pu0V rfl) ⟨hs.1, ?_⟩
      rw [hb_oi, h1, if_pos (nI_lt (by omega) (by omega)), hb_or, hs.2.1, z_rcs, z_rcs, nI_clamp (by omega), hb_out _ _ _ _ _ hs.2.2.2.2.2.2.2, t1, nI_add]
      refine ⟨hs.1, hs.2.2.1, vi, ?_⟩
      by_cases c1 : T i = 32
      · rw [if_pos (by rw [c1]), past_y (by omega) (by unfold k_bl; rw [c1]; rfl)]
        exact ih (i + 1) (by omega)
      · rw [if_neg (fun e => c1 ((nI_eq (by omega) (by decide)).mp e))]
        refine ⟨hs.1, hs.2.2.1, vi, ?_⟩
        by_cases c2 : T i = 10
        · rw [if_pos (by rw [c2]), past_y (by omega) (by unfold k_bl; rw [c2]; rfl)]
          exact ih (i + 1) (by omega)
        · rw [if_neg (fun e => c2 ((nI_eq (by omega) (by decide)).mp e)), past_n (fun _ => by
            unfold k_bl
            rw [beq_false_of_ne c1, beq_false_of_ne c2]; rfl)]
  exact key (n - i) i (by omega)
theorem e7_isWord (hs : rsh x tp h) (ht : rtx tp T n h) {F : Nat → Int32} {A : Nat → Nat → Int32} {i w : Nat} (hw : w < 3) (hi : i ≤ n) (hk : tk_k T n i = 1) (h2 : F 2 = nI (tk_e T n i)) (h4 : F 4 = nI (tk_b T n i)) : z_Ev G (d + 5) k_X7_isWord [.ref x, .ref (z_sad G w)] (z_hb h x 4 F A) (.inl (some (.int (nI (c_isw T n i (w + 3)).toNat))), z_hb h x 4 F A) := by
  have hn := ht.1
  have hbn := tk_bn (T := T) hi
  have hen := tk_en (T := T) hi
  have hl := w_len0 w hw
  have elen : z_Ev G (d + 4) k_J0_length_8abf5 [.ref (z_sad G w)] (z_hb h x 4 F A) (.inl (some (.int (nI (w_byt (w + 3)).length))), z_hb h x 4 F A) := by
    have := e_length (G := G) (d := d + 2) (h := z_hb h x 4 F A) (i := w) (by omega)
    rw [hl.1] at this
    exact this
  refine en_X7_isWord (b_X7_isWord_0 (z_pu0V rfl) ⟨hs.1, hs.1, w, by omega, rfl, _, _, elen, ?_⟩)
  rw [hb_oi, h2, h4, q_sub hen.1]
  unfold c_isw
  by_cases he : tk_e T n i = tk_b T n i + (w_byt (w + 3)).length
  · rw [if_pos (by rw [he, Nat.add_sub_cancel_left]), decide_eq_true ⟨hk, he⟩, Bool.true_and]
    refine z_fnd (fun k => [some (.ref x), some (.ref (z_sad G w)), some (.int (nI k))]) (fun k => !decide (T (tk_b T n i + k) = (w_byt (w + 3)).getD k 0)) (w_byt (w + 3)).length ?_ ?_
    · intro k hkk hno hJ
      have hsc := w_sch0 w hw k hkk
      have hlt : tk_b T n i + k < n := by omega
      have h256 := ht.2 _ hlt
      have ech : z_Ev G (d + 4) k_J0_charAt_5068e [.ref (z_sad G w), .int (nI k)] (z_hb h x 4 F A) (.inl (some (.int (nI ((w_byt (w + 3)).getD k 0)))), z_hb h x 4 F A) := by
        have := e_charAt (G := G) (d := d) (h := z_hb h x 4 F A) (i := w) (by omega) (j := nI k) (by rw [hl.1]; exact vp_in_nI hkk (by omega))
        rw [hsc.1] at this
        exact this
      refine b_X7_isWord_20 (z_pu0V rfl) ⟨w, by omega, rfl, _, _, elen, ?_⟩
      rw [if_pos (nI_lt hkk (by omega)), hb_or, hs.2.1, z_rcs, hb_oi, h4, nI_add, nI_clamp (by omega), hb_out _ _ _ _ _ hs.2.2.2.2.2.2.2, h256.1, nI_add]
      refine ⟨hs.1, hs.1, hs.2.2.1, by rw [hb_ln, hs.2.2.2.1]; exact vp_in_nI (by omega) (by decide), w, by omega, rfl, _, _, ech, ?_⟩
      by_cases hc : T (tk_b T n i + k) = (w_byt (w + 3)).getD k 0
      · rw [if_pos (by rw [hc])]
        exact hJ (by rw [decide_eq_true hc]; rfl)
      · rw [if_neg (fun e => hc ((nI_eq (by omega) (by omega)).mp e)), any_t hkk (by rw [decide_eq_false hc]; rfl)]
        exact ⟨Or.inl rfl, rfl⟩
    · intro hno
      refine b_X7_isWord_20 (z_pu0V rfl) ⟨w, by omega, rfl, _, _, elen, ?_⟩
      rw [if_neg (nI_nlt (Nat.le_refl _) (by omega)), any_f hno]
      exact ⟨Or.inr rfl, rfl⟩
  · rw [if_neg (fun e => he (by have := (nI_eq (by omega) (by omega)).mp e; omega)), decide_eq_false (fun e => he e.2), Bool.false_and]
    exact ⟨Or.inl rfl, rfl⟩
theorem agF_u {K : List Nat} {F F' : Nat → Int32} {k : Nat} {v : Int32} (h : agrF K F F') (hk : k ∈ K) : agrF K F (z_u F' k v) := fun j hj => by
  rw [u_ne _ _ (fun e => hj (by rw [e]; exact hk))]; exact h j hj
theorem agr_0 (K : List Nat) (F : Nat → Int32) : agrF K F F := fun _ _ => rfl
theorem e7_step (hs : rsh x tp h) (ht : rtx tp T n h) {F : Nat → Int32} {A : Nat → Nat → Int32} (h1 : F 1 = nI n) {i : Nat} (hi : i ≤ n) (h2 : F 2 = nI i) : ∃ F', z_Ev G (d + 6) k_X7_step [.ref x] (z_hb h x 4 F A) (.inl none, z_hb h x 4 F' A) ∧ tokC T n i F' ∧ agrF [2, 3, 4, 5] F F' := by
  have hn := ht.1
  have hbn := tk_bn (T := T) hi
  have hen := tk_en (T := T) hi
  obtain ⟨b, eb⟩ : ∃ b, b = tk_b T n i := ⟨_, rfl⟩
  rw [← eb] at hbn hen
  obtain ⟨F1, e1⟩ : ∃ F1, F1 = z_u (z_u F 2 (nI b)) 4 (nI b) := ⟨_, rfl⟩
  have f12 : F1 2 = nI b := by rw [e1, u_ne _ _ (by decide), u_eq]
  have f14 : F1 4 = nI b := by rw [e1, u_eq]
  have f11 : F1 1 = nI n := by rw [e1, u_ne _ _ (by decide), u_ne _ _ (by decide)]; exact h1
  have ag1 : agrF [2, 3, 4, 5] F F1 := by rw [e1]; exact agF_u (agF_u (agr_0 _ F) (by decide)) (by decide)
  have start : ∀ R, z_J G (d + 6) (m_X7_step z_pu0) R 20 [some (.ref x), none] [] (z_hb h x 4 F1 A) → z_Ev G (d + 6) k_X7_step [.ref x] (z_hb h x 4 F A) R := by
    intro R hJ
    refine en_X7_step (b_X7_step_0 (z_pu0V rfl) ⟨hs.1, hs.1, ?_⟩)
    rw [hb_oi, h2]
    refine ⟨_, _, e7_pastBlanks hs ht h1 hi, hs.1, ?_⟩
    rw [hb_poi, ← eb]
    refine b_X7_step_12 (z_pu0V rfl) ⟨hs.1, hs.1, ?_⟩
    rw [hb_oi, u_eq, hb_poi, ← e1]
    exact hJ
  by_cases c0 : b = n
  · have k0 : tk_k T n i = 0 := by unfold tk_k; rw [← eb, if_pos c0]
    refine ⟨z_u F1 3 (nI 0), start _ (b_X7_step_20 (z_pu0V rfl) ⟨hs.1, hs.1, ?_⟩), ⟨?_, ?_, ?_, ?_, fun e => by omega⟩, agF_u ag1 (by decide)⟩
    · rw [hb_oi, f12, f11, if_neg (nI_nlt (by omega) (by omega)), hb_poi]
      exact ⟨hs.1, rfl⟩
    · rw [u_ne _ _ (by decide)]; exact f11
    · rw [u_ne _ _ (by decide), f12]
      unfold tk_e
      rw [k0, if_pos rfl, ← eb]
    · rw [u_eq]; unfold g_kd; rw [k0, if_pos rfl]
    · rw [u_ne _ _ (by decide), f14, eb]
  · obtain ⟨t1, t2⟩ := ht.2 b (by omega)
    have s47 : ∀ R, z_J G (d + 6) (m_X7_step z_pu0) R 47 [some (.ref x), some (.int (nI (T b)))] [] (z_hb h x 4 F1 A) → z_Ev G (d + 6) k_X7_step [.ref x] (z_hb h x 4 F A) R := by
      intro R hJ
      refine start R (b_X7_step_20 (z_pu0V rfl) ⟨hs.1, hs.1, ?_⟩)
      rw [hb_oi, f12, f11, if_pos (nI_lt (by omega) (by omega))]
      refine b_X7_step_37 (z_pu0V rfl) ⟨hs.1, ?_⟩
      rw [hb_or, hs.2.1, z_rcs, hb_oi, f12, nI_clamp (by omega), hb_out _ _ _ _ _ hs.2.2.2.2.2.2.2, t1]
      exact ⟨hs.1, hs.2.2.1, by rw [hb_ln, hs.2.2.2.1]; exact vp_in_nI (by omega) (by decide), hJ⟩
    cases c1 : k_le (T b)
    · cases c2 : k_di (T b)
      · -- one sign
        have k3 : tk_k T n i = if T b = 59 ∨ T b = 45 then 3 else 4 := by unfold tk_k; rw [← eb, if_neg c0, c1, if_neg (by decide), c2, if_neg (by decide)]
        have k3' : tk_k T n i = 3 ∨ tk_k T n i = 4 := by rw [k3]; split; exact Or.inl rfl; exact Or.inr rfl
        have et : tk_e T n i = b + 1 := by
          unfold tk_e
          rw [if_neg (by omega), if_neg (by omega), if_neg (by omega), ← eb]
        have kk : g_kd T n i = if T b = 59 then 5 else if T b = 45 then 6 else 7 := by
          unfold g_kd
          rw [if_neg (by omega), if_neg (by omega), if_neg (by omega), k3, ← eb]
          by_cases d1 : T b = 59
          · rw [if_pos (Or.inl d1), if_pos rfl, if_pos d1, if_pos d1]
          · by_cases d2 : T b = 45
            · rw [if_pos (Or.inr d2), if_pos rfl, if_neg d1, if_neg d1, if_pos d2]
            · rw [if_neg (show ¬ (T b = 59 ∨ T b = 45) from fun e => e.elim d1 d2), if_neg (by decide), if_neg d1, if_neg d2]
        refine ⟨z_u (z_u F1 2 (nI (b + 1))) 3 (nI (g_kd T n i)), s47 _ (b_X7_step_47 (z_pu0V rfl) ⟨_, _, e7_isLetter t2, ?_⟩), ⟨?_, ?_, ?_, ?_, fun e => by omega⟩, agF_u (agF_u ag1 (by decide)) (by decide)⟩
        · rw [c1, if_pos (by rfl)]
          refine b_X7_step_114 (z_pu0V rfl) ⟨_, _, e7_isDigit t2, ?_⟩
          rw [c2, if_pos (by rfl), hb_oi, f12, nI_add, hb_poi, kk]
          refine ⟨hs.1, hs.1, ?_⟩
          by_cases d1 : T b = 59
          · rw [if_pos (by rw [d1]), if_pos d1, hb_poi]; exact ⟨hs.1, rfl⟩
          · rw [if_neg (fun e => d1 ((nI_eq (by omega) (by decide)).mp e)), if_neg d1]
            by_cases d2 : T b = 45
            · rw [if_pos (by rw [d2]), if_pos d2, hb_poi]; exact ⟨hs.1, rfl⟩
            · rw [if_neg (fun e => d2 ((nI_eq (by omega) (by decide)).mp e)), if_neg d2, hb_poi]; exact ⟨hs.1, rfl⟩
        · rw [u_ne _ _ (by decide), u_ne _ _ (by decide)]; exact f11
        · rw [u_ne _ _ (by decide), u_eq, et]
        · rw [u_eq]
        · rw [u_ne _ _ (by decide), u_ne _ _ (by decide), f14, eb]
      · -- a number
        have k2 : tk_k T n i = 2 := by unfold tk_k; rw [← eb, if_neg c0, c1, if_neg (by decide), c2, if_pos rfl]
        have et : tk_e T n i = c_past k_di T n b := by
          unfold tk_e
          rw [k2, if_neg (by decide), if_neg (by decide), if_pos rfl, ← eb]
        have kk : g_kd T n i = 4 := by unfold g_kd; rw [k2, if_neg (by decide), if_neg (by decide), if_pos rfl]
        have d48 : 48 ≤ T b := by unfold k_di at c2; have := of_decide_eq_true c2; omega
        have e57 : T b ≤ 57 := by unfold k_di at c2; have := of_decide_eq_true c2; omega
        have epos : b + 1 ≤ tk_e T n i := by
          rw [et, past_y (by omega) c2]
          exact (past_le (p := k_di) (T := T) (show b + 1 ≤ n by omega)).1
        obtain ⟨vv, evv⟩ : ∃ vv, vv = (if tk_e T n i = b + 1 then T b - 48 else 10) := ⟨_, rfl⟩
        refine ⟨z_u (z_u (z_u F1 2 (nI (tk_e T n i))) 3 (nI 4)) 5 (nI vv), s47 _ (b_X7_step_47 (z_pu0V rfl) ⟨_, _, e7_isLetter t2, ?_⟩), ⟨?_, ?_, ?_, ?_, fun _ => ?_⟩, agF_u (agF_u (agF_u ag1 (by decide)) (by decide)) (by decide)⟩
        · rw [c1, if_pos (by rfl)]
          refine b_X7_step_114 (z_pu0V rfl) ⟨_, _, e7_isDigit t2, ?_⟩
          rw [c2, if_neg (by decide), hb_oi, f12]
          refine ⟨hs.1, hs.1, _, _, e7_pastDigits hs ht f11 hbn.2, hs.1, ?_⟩
          rw [hb_poi, ← et]
          refine b_X7_step_133 (z_pu0V rfl) ⟨hs.1, ?_⟩
          rw [hb_poi]
          refine b_X7_step_138 (z_pu0V rfl) ⟨hs.1, hs.1, ?_⟩
          rw [hb_oi, u_ne _ _ (by decide), u_eq, u_ne _ _ (by decide), u_ne _ _ (by decide), f14, q_sub (by omega), evv]
          by_cases d1 : tk_e T n i = b + 1
          · rw [if_neg (nI_nlt (by omega) (by omega)), if_pos d1, q_sub d48, hb_poi]; exact ⟨hs.1, rfl⟩
          · rw [if_pos (nI_lt (by omega) (by omega)), if_neg d1, hb_poi]; exact ⟨hs.1, rfl⟩
        · rw [u_ne _ _ (by decide), u_ne _ _ (by decide), u_ne _ _ (by decide)]; exact f11
        · rw [u_ne _ _ (by decide), u_ne _ _ (by decide), u_eq]
        · rw [u_ne _ _ (by decide), u_eq, kk]
        · rw [u_ne _ _ (by decide), u_ne _ _ (by decide), u_ne _ _ (by decide), f14, eb]
        · rw [u_eq, evv, eb]
    · -- a word
      have k1 : tk_k T n i = 1 := by unfold tk_k; rw [← eb, if_neg c0, c1, if_pos rfl]
      have et : tk_e T n i = c_past k_le T n b := by
        unfold tk_e
        rw [k1, if_neg (by decide), if_pos rfl, ← eb]
      have kk : g_kd T n i = if c_isw T n i 3 then 1 else if c_isw T n i 4 then 2 else if c_isw T n i 5 then 3 else 7 := by unfold g_kd; rw [k1, if_neg (by decide), if_pos rfl]
      obtain ⟨F2, e2⟩ : ∃ F2, F2 = z_u F1 2 (nI (tk_e T n i)) := ⟨_, rfl⟩
      have f22 : F2 2 = nI (tk_e T n i) := by rw [e2, u_eq]
      have f24 : F2 4 = nI (tk_b T n i) := by rw [e2, u_ne _ _ (by decide), f14, eb]
      refine ⟨z_u F2 3 (nI (g_kd T n i)), s47 _ (b_X7_step_47 (z_pu0V rfl) ⟨_, _, e7_isLetter t2, ?_⟩), ⟨?_, ?_, ?_, ?_, fun e => by omega⟩, agF_u (by rw [e2]; exact agF_u ag1 (by decide)) (by decide)⟩
      · rw [c1, if_neg (by decide), hb_oi, f12]
        refine ⟨hs.1, hs.1, _, _, e7_pastLetters hs ht f11 hbn.2, hs.1, ?_⟩
        rw [hb_poi, ← et, ← e2, kk]
        refine b_X7_step_66 (z_pu0V rfl) ⟨hs.1, _, _, e7_isWord hs ht (w := 0) (by decide) hi k1 f22 f24, ?_⟩
        cases w0 : c_isw T n i (0 + 3)
        · rw [if_pos (by rfl), if_neg (show ¬ false = true by decide)]
          refine ⟨hs.1, _, _, e7_isWord hs ht (w := 1) (by decide) hi k1 f22 f24, ?_⟩
          cases w1 : c_isw T n i (1 + 3)
          · rw [if_pos (by rfl), if_neg (show ¬ false = true by decide)]
            refine ⟨hs.1, _, _, e7_isWord hs ht (w := 2) (by decide) hi k1 f22 f24, ?_⟩
            cases w2 : c_isw T n i (2 + 3)
            · rw [if_pos (by rfl), if_neg (show ¬ false = true by decide), hb_poi]
              exact ⟨hs.1, rfl⟩
            · rw [if_neg (by decide), if_pos (show true = true from rfl), hb_poi]
              exact ⟨hs.1, rfl⟩
          · rw [if_neg (by decide), if_pos (show true = true from rfl), hb_poi]
            exact ⟨hs.1, rfl⟩
        · rw [if_neg (by decide), if_pos (show true = true from rfl), hb_poi]
          exact ⟨hs.1, rfl⟩
      · rw [u_ne _ _ (by decide), e2, u_ne _ _ (by decide)]; exact f11
      · rw [u_ne _ _ (by decide)]; exact f22
      · rw [u_eq]
      · rw [u_ne _ _ (by decide)]; exact f24
end HG
