theorem en_X12_stepOn {pu : Nat → Option ((List Value → z_H → Prop) × (List Value → z_H → Int32))} {G : z_G} {d : Nat} {r : z_Res} {h : z_H} {x0 : Nat} (hJ : z_J G d (m_X12_stepOn pu) r 0 [some (.ref x0), none] [] h) : z_Ev G d k_X12_stepOn [.ref x0] h r := z_enter (μ := m_X12_stepOn pu) rfl (by decide) rfl rfl (fun q => by cases q) (Nat.le_of_ble_eq_true rfl) hJ
def hd_X12_stepOn : Nat → Option (List Bool) := (fun k => (cond (Nat.blt k 226) (cond (Nat.blt k 76) (cond (Nat.beq k 0) (some [true, false]) none) (cond (Nat.blt k 123) (cond (Nat.beq k 76) (some [true, false]) none) (cond (Nat.beq k 123) (some [true, false]) none))) none))
set_option maxRecDepth 20000 in
theorem b_X12_stepOn_0 {G : z_G} {d : Nat} {r : z_Res} (hPu : z_PuV G d (t_X12 z_puC)) {h : z_H} {x0 : Nat} (hT : (z_kd h x0 = 28 ∧ (z_kd h x0 = 28 ∧ s_X12_byteAt x0 (z_oi h x0 6) h ∧ (if (f_X12_byteAt x0 (z_oi h x0 6) h) = (nI 32) then (z_kd h x0 = 28 ∧ (z_kd h x0 = 28 ∧ (z_J G (d + 1) (m_X12_stepOn z_puC) r) 0 [some (.ref x0), none] [] (z_poi h x0 6 ((z_oi h x0 6) + (nI 1))))) else (z_kd h x0 = 28 ∧ (z_kd h x0 = 28 ∧ s_X12_byteAt x0 (z_oi h x0 6) h ∧ (if (f_X12_byteAt x0 (z_oi h x0 6) h) = (nI 10) then (z_kd h x0 = 28 ∧ (z_kd h x0 = 28 ∧ (z_J G (d + 1) (m_X12_stepOn z_puC) r) 0 [some (.ref x0), none] [] (z_poi h x0 6 ((z_oi h x0 6) + (nI 1))))) else (z_kd h x0 = 28 ∧ (z_kd h x0 = 28 ∧ (z_kd (z_poi h x0 10 (z_oi h x0 6)) x0 = 28 ∧ (z_kd (z_poi h x0 10 (z_oi h x0 6)) x0 = 28 ∧ s_X12_byteAt x0 (z_oi (z_poi h x0 10 (z_oi h x0 6)) x0 6) (z_poi h x0 10 (z_oi h x0 6)) ∧ (if (f_X12_byteAt x0 (z_oi (z_poi h x0 10 (z_oi h x0 6)) x0 6) (z_poi h x0 10 (z_oi h x0 6))) = mI then (z_kd (z_poi h x0 10 (z_oi h x0 6)) x0 = 28 ∧ (z_kd (z_poi (z_poi h x0 10 (z_oi h x0 6)) x0 8 (nI 0)) x0 = 28 ∧ (z_kd (z_poi (z_poi h x0 10 (z_oi h x0 6)) x0 8 (nI 0)) x0 = 28 ∧ r = (.inl none, z_poi (z_poi (z_poi h x0 10 (z_oi h x0 6)) x0 8 (nI 0)) x0 11 (z_oi (z_poi (z_poi h x0 10 (z_oi h x0 6)) x0 8 (nI 0)) x0 6))))) else (s_X12_isLetter (f_X12_byteAt x0 (z_oi (z_poi h x0 10 (z_oi h x0 6)) x0 6) (z_poi h x0 10 (z_oi h x0 6))) (z_poi h x0 10 (z_oi h x0 6)) ∧ (if (f_X12_isLetter (f_X12_byteAt x0 (z_oi (z_poi h x0 10 (z_oi h x0 6)) x0 6) (z_poi h x0 10 (z_oi h x0 6))) (z_poi h x0 10 (z_oi h x0 6))) = (nI 0) then (s_X12_isDigit (f_X12_byteAt x0 (z_oi (z_poi h x0 10 (z_oi h x0 6)) x0 6) (z_poi h x0 10 (z_oi h x0 6))) (z_poi h x0 10 (z_oi h x0 6)) ∧ (if (f_X12_isDigit (f_X12_byteAt x0 (z_oi (z_poi h x0 10 (z_oi h x0 6)) x0 6) (z_poi h x0 10 (z_oi h x0 6))) (z_poi h x0 10 (z_oi h x0 6))) = (nI 0) then (z_kd (z_poi h x0 10 (z_oi h x0 6)) x0 = 28 ∧ (z_kd (z_poi h x0 10 (z_oi h x0 6)) x0 = 28 ∧ (if (f_X12_byteAt x0 (z_oi (z_poi h x0 10 (z_oi h x0 6)) x0 6) (z_poi h x0 10 (z_oi h x0 6))) = (nI 59) then (z_kd (z_poi (z_poi h x0 10 (z_oi h x0 6)) x0 6 ((z_oi (z_poi h x0 10 (z_oi h x0 6)) x0 6) + (nI 1))) x0 = 28 ∧ (z_kd (z_poi (z_poi (z_poi h x0 10 (z_oi h x0 6)) x0 6 ((z_oi (z_poi h x0 10 (z_oi h x0 6)) x0 6) + (nI 1))) x0 8 (nI 3)) x0 = 28 ∧ (z_kd (z_poi (z_poi (z_poi h x0 10 (z_oi h x0 6)) x0 6 ((z_oi (z_poi h x0 10 (z_oi h x0 6)) x0 6) + (nI 1))) x0 8 (nI 3)) x0 = 28 ∧ r = (.inl none, z_poi (z_poi (z_poi (z_poi h x0 10 (z_oi h x0 6)) x0 6 ((z_oi (z_poi h x0 10 (z_oi h x0 6)) x0 6) + (nI 1))) x0 8 (nI 3)) x0 11 (z_oi (z_poi (z_poi (z_poi h x0 10 (z_oi h x0 6)) x0 6 ((z_oi (z_poi h x0 10 (z_oi h x0 6)) x0 6) + (nI 1))) x0 8 (nI 3)) x0 6))))) else (if (f_X12_byteAt x0 (z_oi (z_poi h x0 10 (z_oi h x0 6)) x0 6) (z_poi h x0 10 (z_oi h x0 6))) = (nI 45) then (z_kd (z_poi (z_poi h x0 10 (z_oi h x0 6)) x0 6 ((z_oi (z_poi h x0 10 (z_oi h x0 6)) x0 6) + (nI 1))) x0 = 28 ∧ (z_kd (z_poi (z_poi (z_poi h x0 10 (z_oi h x0 6)) x0 6 ((z_oi (z_poi h x0 10 (z_oi h x0 6)) x0 6) + (nI 1))) x0 8 (nI 3)) x0 = 28 ∧ (z_kd (z_poi (z_poi (z_poi h x0 10 (z_oi h x0 6)) x0 6 ((z_oi (z_poi h x0 10 (z_oi h x0 6)) x0 6) + (nI 1))) x0 8 (nI 3)) x0 = 28 ∧ r = (.inl none, z_poi (z_poi (z_poi (z_poi h x0 10 (z_oi h x0 6)) x0 6 ((z_oi (z_poi h x0 10 (z_oi h x0 6)) x0 6) + (nI 1))) x0 8 (nI 3)) x0 11 (z_oi (z_poi (z_poi (z_poi h x0 10 (z_oi h x0 6)) x0 6 ((z_oi (z_poi h x0 10 (z_oi h x0 6)) x0 6) + (nI 1))) x0 8 (nI 3)) x0 6))))) else (z_kd (z_poi (z_poi h x0 10 (z_oi h x0 6)) x0 6 ((z_oi (z_poi h x0 10 (z_oi h x0 6)) x0 6) + (nI 1))) x0 = 28 ∧ (z_kd (z_poi (z_poi (z_poi h x0 10 (z_oi h x0 6)) x0 6 ((z_oi (z_poi h x0 10 (z_oi h x0 6)) x0 6) + (nI 1))) x0 8 (nI 4)) x0 = 28 ∧ (z_kd (z_poi (z_poi (z_poi h x0 10 (z_oi h x0 6)) x0 6 ((z_oi (z_poi h x0 10 (z_oi h x0 6)) x0 6) + (nI 1))) x0 8 (nI 4)) x0 = 28 ∧ r = (.inl none, z_poi (z_poi (z_poi (z_poi h x0 10 (z_oi h x0 6)) x0 6 ((z_oi (z_poi h x0 10 (z_oi h x0 6)) x0 6) + (nI 1))) x0 8 (nI 4)) x0 11 (z_oi (z_poi (z_poi (z_poi h x0 10 (z_oi h x0 6)) x0 6 ((z_oi (z_poi h x0 10 (z_oi h x0 6)) x0 6) + (nI 1))) x0 8 (nI 4)) x0 6))))))))) else (z_kd (z_poi h x0 10 (z_oi h x0 6)) x0 = 28 ∧ (z_J G (d + 1) (m_X12_stepOn z_puC) r) 123 [some (.ref x0), none] [] (z_poi (z_poi h x0 10 (z_oi h x0 6)) x0 9 (nI 0))))) else (z_J G (d + 1) (m_X12_stepOn z_puC) r) 76 [some (.ref x0), none] [] (z_poi h x0 10 (z_oi h x0 6)))))))))))))))) : (z_J G (d + 1) (m_X12_stepOn z_puC) r) 0 [some (.ref x0), none] [] h := z_bq (v_X12 z_puC (vP_X12_stepOn z_puC) hPu) hd_X12_stepOn 53 hT
set_option maxRecDepth 20000 in
theorem b_X12_stepOn_123 {G : z_G} {d : Nat} {r : z_Res} (hPu : z_PuV G d (t_X12 z_puC)) {h : z_H} {x0 : Nat} (hT : (z_kd h x0 = 28 ∧ (z_kd h x0 = 28 ∧ s_X12_byteAt x0 (z_oi h x0 6) h ∧ (s_X12_isDigit (f_X12_byteAt x0 (z_oi h x0 6) h) h ∧ (if (f_X12_isDigit (f_X12_byteAt x0 (z_oi h x0 6) h) h) = (nI 0) then (z_kd h x0 = 28 ∧ (z_kd (z_poi h x0 8 (nI 2)) x0 = 28 ∧ (z_kd (z_poi h x0 8 (nI 2)) x0 = 28 ∧ r = (.inl none, z_poi (z_poi h x0 8 (nI 2)) x0 11 (z_oi (z_poi h x0 8 (nI 2)) x0 6))))) else (z_kd h x0 = 28 ∧ (z_kd h x0 = 28 ∧ (z_kd h x0 = 28 ∧ s_X12_byteAt x0 (z_oi h x0 6) h ∧ (s_J9_min_7cf53 (nI 100000) ((((nI 10) * (z_oi h x0 9)) + (f_X12_byteAt x0 (z_oi h x0 6) h)) - (nI 48)) h ∧ (z_kd h x0 = 28 ∧ (z_kd (z_poi h x0 9 (f_J9_min_7cf53 (nI 100000) ((((nI 10) * (z_oi h x0 9)) + (f_X12_byteAt x0 (z_oi h x0 6) h)) - (nI 48)) h)) x0 = 28 ∧ (z_kd (z_poi h x0 9 (f_J9_min_7cf53 (nI 100000) ((((nI 10) * (z_oi h x0 9)) + (f_X12_byteAt x0 (z_oi h x0 6) h)) - (nI 48)) h)) x0 = 28 ∧ (z_J G (d + 1) (m_X12_stepOn z_puC) r) 123 [some (.ref x0), none] [] (z_poi (z_poi h x0 9 (f_J9_min_7cf53 (nI 100000) ((((nI 10) * (z_oi h x0 9)) + (f_X12_byteAt x0 (z_oi h x0 6) h)) - (nI 48)) h)) x0 6 ((z_oi (z_poi h x0 9 (f_J9_min_7cf53 (nI 100000) ((((nI 10) * (z_oi h x0 9)) + (f_X12_byteAt x0 (z_oi h x0 6) h)) - (nI 48)) h)) x0 6) + (nI 1))))))))))))))) : (z_J G (d + 1) (m_X12_stepOn z_puC) r) 123 [some (.ref x0), none] [] h := z_bq (v_X12 z_puC (vP_X12_stepOn z_puC) hPu) hd_X12_stepOn 31 hT
set_option maxRecDepth 20000 in
theorem b_X12_stepOn_76 {G : z_G} {d : Nat} {r : z_Res} (hPu : z_PuV G d (t_X12 z_puC)) {h : z_H} {x0 : Nat} (hT : (z_kd h x0 = 28 ∧ (z_kd h x0 = 28 ∧ s_X12_byteAt x0 (z_oi h x0 6) h ∧ (s_X12_isLetter (f_X12_byteAt x0 (z_oi h x0 6) h) h ∧ (if (f_X12_isLetter (f_X12_byteAt x0 (z_oi h x0 6) h) h) = (nI 0) then (z_kd h x0 = 28 ∧ (z_kd (z_poi h x0 8 (nI 1)) x0 = 28 ∧ (z_kd (z_poi h x0 8 (nI 1)) x0 = 28 ∧ r = (.inl none, z_poi (z_poi h x0 8 (nI 1)) x0 11 (z_oi (z_poi h x0 8 (nI 1)) x0 6))))) else (z_kd h x0 = 28 ∧ (z_kd h x0 = 28 ∧ (z_J G (d + 1) (m_X12_stepOn z_puC) r) 76 [some (.ref x0), none] [] (z_poi h x0 6 ((z_oi h x0 6) + (nI 1)))))))))) : (z_J G (d + 1) (m_X12_stepOn z_puC) r) 76 [some (.ref x0), none] [] h := z_bq (v_X12 z_puC (vP_X12_stepOn z_puC) hPu) hd_X12_stepOn 17 hT
theorem en_X12_wrong {pu : Nat → Option ((List Value → z_H → Prop) × (List Value → z_H → Int32))} {G : z_G} {d : Nat} {r : z_Res} {h : z_H} {x0 : Nat} {x1 : Int32} (hJ : z_J G d (m_X12_wrong pu) r 0 [some (.ref x0), some (.int x1)] [] h) : z_Ev G d k_X12_wrong [.ref x0, .int x1] h r := z_enter (μ := m_X12_wrong pu) rfl (by decide) rfl rfl (fun q => by cases q) (Nat.le_of_ble_eq_true rfl) hJ
def hd_X12_wrong : Nat → Option (List Bool) := (fun k => none)
set_option maxRecDepth 20000 in
theorem b_X12_wrong_0 {G : z_G} {d : Nat} {r : z_Res} (hPu : z_PuV G d (t_X12 z_puC)) {h : z_H} {x0 : Nat} {x1 : Int32} (hT : (z_kd h x0 = 28 ∧ (if (z_oi h x0 12) = (nI 0) then (z_kd h x0 = 28 ∧ (z_kd (z_poi h x0 12 x1) x0 = 28 ∧ (z_kd (z_poi h x0 12 x1) x0 = 28 ∧ r = (.inl none, z_poi (z_poi h x0 12 x1) x0 13 (z_oi (z_poi h x0 12 x1) x0 10))))) else r = (.inl none, h)))) : (z_J G (d + 1) (m_X12_wrong z_puC) r) 0 [some (.ref x0), some (.int x1)] [] h := z_bq (v_X12 z_puC (vP_X12_wrong z_puC) hPu) hd_X12_wrong 13 hT
theorem en_X12_numberNow {pu : Nat → Option ((List Value → z_H → Prop) × (List Value → z_H → Int32))} {G : z_G} {d : Nat} {r : z_Res} {h : z_H} {x0 : Nat} {x1 : Int32} {x2 : Int32} (hJ : z_J G d (m_X12_numberNow pu) r 0 [some (.ref x0), some (.int x1), some (.int x2)] [] h) : z_Ev G d k_X12_numberNow [.ref x0, .int x1, .int x2] h r := z_enter (μ := m_X12_numberNow pu) rfl (by decide) rfl rfl (fun q => by cases q) (Nat.le_of_ble_eq_true rfl) hJ
def hd_X12_numberNow : Nat → Option (List Bool) := (fun k => none)
set_option maxRecDepth 20000 in
theorem b_X12_numberNow_0 {G : z_G} {d : Nat} {r : z_Res} (hPu : z_PuV G d (t_X12 z_puC)) {h : z_H} {x0 : Nat} {x1 : Int32} {x2 : Int32} (hT : (z_kd h x0 = 28 ∧ (if (z_oi h x0 12) = (nI 0) then (z_kd h x0 = 28 ∧ (if (z_oi h x0 8) = (nI 2) then (z_kd h x0 = 28 ∧ (z_kd h x0 = 28 ∧ (if (nI 1) < ((z_oi h x0 11) - (z_oi h x0 10)) then (z_kd h x0 = 28 ∧ ∃ h_1, z_Ev G d k_X12_wrong [.ref x0, .int (nI 2)] h (.inl none, h_1) ∧ (z_kd h_1 x0 = 28 ∧ (if (z_oi h_1 x0 12) = (nI 0) then (z_kd h_1 x0 = 28 ∧ r = (.inl (some (.int (z_oi h_1 x0 9))), h_1)) else r = (.inl (some (.int x1)), h_1)))) else (z_kd h x0 = 28 ∧ (if (z_oi h x0 9) < x1 then (z_kd h x0 = 28 ∧ ∃ h_2, z_Ev G d k_X12_wrong [.ref x0, .int (nI 2)] h (.inl none, h_2) ∧ (z_kd h_2 x0 = 28 ∧ (if (z_oi h_2 x0 12) = (nI 0) then (z_kd h_2 x0 = 28 ∧ r = (.inl (some (.int (z_oi h_2 x0 9))), h_2)) else r = (.inl (some (.int x1)), h_2)))) else (z_kd h x0 = 28 ∧ (if x2 < (z_oi h x0 9) then (z_kd h x0 = 28 ∧ ∃ h_3, z_Ev G d k_X12_wrong [.ref x0, .int (nI 2)] h (.inl none, h_3) ∧ (z_kd h_3 x0 = 28 ∧ (if (z_oi h_3 x0 12) = (nI 0) then (z_kd h_3 x0 = 28 ∧ r = (.inl (some (.int (z_oi h_3 x0 9))), h_3)) else r = (.inl (some (.int x1)), h_3)))) else (z_kd h x0 = 28 ∧ (if (z_oi h x0 12) = (nI 0) then (z_kd h x0 = 28 ∧ r = (.inl (some (.int (z_oi h x0 9))), h)) else r = (.inl (some (.int x1)), h)))))))))) else (z_kd h x0 = 28 ∧ ∃ h_4, z_Ev G d k_X12_wrong [.ref x0, .int (nI 1)] h (.inl none, h_4) ∧ (z_kd h_4 x0 = 28 ∧ (if (z_oi h_4 x0 12) = (nI 0) then (z_kd h_4 x0 = 28 ∧ r = (.inl (some (.int (z_oi h_4 x0 9))), h_4)) else r = (.inl (some (.int x1)), h_4)))))) else r = (.inl (some (.int x1)), h)))) : (z_J G (d + 1) (m_X12_numberNow z_puC) r) 0 [some (.ref x0), some (.int x1), some (.int x2)] [] h := z_bq (v_X12 z_puC (vP_X12_numberNow z_puC) hPu) hd_X12_numberNow 34 hT
theorem en_X12_readNumber {pu : Nat → Option ((List Value → z_H → Prop) × (List Value → z_H → Int32))} {G : z_G} {d : Nat} {r : z_Res} {h : z_H} {x0 : Nat} {x1 : Int32} {x2 : Int32} (hJ : z_J G d (m_X12_readNumber pu) r 0 [some (.ref x0), some (.int x1), some (.int x2), none] [] h) : z_Ev G d k_X12_readNumber [.ref x0, .int x1, .int x2] h r := z_enter (μ := m_X12_readNumber pu) rfl (by decide) rfl rfl (fun q => by cases q) (Nat.le_of_ble_eq_true rfl) hJ
def hd_X12_readNumber : Nat → Option (List Bool) := (fun k => none)
set_option maxRecDepth 20000 in
theorem b_X12_readNumber_0 {G : z_G} {d : Nat} {r : z_Res} (hPu : z_PuV G d (t_X12 z_puC)) {h : z_H} {x0 : Nat} {x1 : Int32} {x2 : Int32} (hT : (z_kd h x0 = 28 ∧ ∃ x_2 h_1, z_Ev G d k_X12_numberNow [.ref x0, .int x1, .int x2] h (.inl (some (.int x_2)), h_1) ∧ (z_kd h_1 x0 = 28 ∧ (if (z_oi h_1 x0 12) = (nI 0) then (z_kd h_1 x0 = 28 ∧ ∃ h_3, z_Ev G d k_X12_stepOn [.ref x0] h_1 (.inl none, h_3) ∧ r = (.inl (some (.int x_2)), h_3)) else r = (.inl (some (.int x_2)), h_1))))) : (z_J G (d + 1) (m_X12_readNumber z_puC) r) 0 [some (.ref x0), some (.int x1), some (.int x2), none] [] h := z_bq (v_X12 z_puC (vP_X12_readNumber z_puC) hPu) hd_X12_readNumber 14 hT
theorem en_X12_readSigned {pu : Nat → Option ((List Value → z_H → Prop) × (List Value → z_H → Int32))} {G : z_G} {d : Nat} {r : z_Res} {h : z_H} {x0 : Nat} (hJ : z_J G d (m_X12_readSigned pu) r 0 [some (.ref x0), none, none] [] h) : z_Ev G d k_X12_readSigned [.ref x0] h r := z_enter (μ := m_X12_readSigned pu) rfl (by decide) rfl rfl (fun q => by cases q) (Nat.le_of_ble_eq_true rfl) hJ
def hd_X12_readSigned : Nat → Option (List Bool) := (fun k => none)
set_option maxRecDepth 20000 in
theorem b_X12_readSigned_0 {G : z_G} {d : Nat} {r : z_Res} (hPu : z_PuV G d (t_X12 z_puC)) {h : z_H} {x0 : Nat} (hT : (z_kd h x0 = 28 ∧ s_X12_isMarked x0 (nI 45) h ∧ (if (f_X12_isMarked x0 (nI 45) h) = (nI 0) then (z_kd h x0 = 28 ∧ ∃ x_2 h_1, z_Ev G d k_X12_readNumber [.ref x0, .int (nI 0), .int (nI 9)] h (.inl (some (.int x_2)), h_1) ∧ (if (f_X12_isMarked x0 (nI 45) h) = (nI 0) then r = (.inl (some (.int x_2)), h_1) else r = (.inl (some (.int (-x_2))), h_1))) else (z_kd h x0 = 28 ∧ ∃ h_3, z_Ev G d k_X12_stepOn [.ref x0] h (.inl none, h_3) ∧ (z_kd h_3 x0 = 28 ∧ ∃ x_5 h_4, z_Ev G d k_X12_readNumber [.ref x0, .int (nI 0), .int (nI 9)] h_3 (.inl (some (.int x_5)), h_4) ∧ (if (f_X12_isMarked x0 (nI 45) h) = (nI 0) then r = (.inl (some (.int x_5)), h_4) else r = (.inl (some (.int (-x_5))), h_4))))))) : (z_J G (d + 1) (m_X12_readSigned z_puC) r) 0 [some (.ref x0), none, none] [] h := z_bq (v_X12 z_puC (vP_X12_readSigned z_puC) hPu) hd_X12_readSigned 21 hT
theorem en_X12_pointNow {pu : Nat → Option ((List Value → z_H → Prop) × (List Value → z_H → Int32))} {G : z_G} {d : Nat} {r : z_Res} {h : z_H} {x0 : Nat} (hJ : z_J G d (m_X12_pointNow pu) r 0 [some (.ref x0), none] [] h) : z_Ev G d k_X12_pointNow [.ref x0] h r := z_enter (μ := m_X12_pointNow pu) rfl (by decide) rfl rfl (fun q => by cases q) (Nat.le_of_ble_eq_true rfl) hJ
def hd_X12_pointNow : Nat → Option (List Bool) := (fun k => none)
set_option maxRecDepth 20000 in
theorem b_X12_pointNow_0 {G : z_G} {d : Nat} {r : z_Res} (hPu : z_PuV G d (t_X12 z_puC)) {h : z_H} {x0 : Nat} (hT : (z_kd h x0 = 28 ∧ ∃ x_2 h_1, z_Ev G d k_X12_numberNow [.ref x0, .int (nI 0), .int (nI 9)] h (.inl (some (.int x_2)), h_1) ∧ (z_kd h_1 x0 = 28 ∧ (if (z_oi h_1 x0 12) = (nI 0) then (z_kd h_1 x0 = 28 ∧ (z_rc (z_or h_1 x0 2) False (fun x_3 => (z_kd h_1 x_3 = 1 ∧ vp_in (nI 0) (z_ln h_1 x_3) ∧ (if x_2 < (z_ai h_1 x_3 (Int32.toNatClampNeg (nI 0))) then r = (.inl (some (.int x_2)), h_1) else (z_kd h_1 x0 = 28 ∧ ∃ h_4, z_Ev G d k_X12_wrong [.ref x0, .int (nI 3)] h_1 (.inl none, h_4) ∧ r = (.inl (some (.int x_2)), h_4))))))) else r = (.inl (some (.int x_2)), h_1))))) : (z_J G (d + 1) (m_X12_pointNow z_puC) r) 0 [some (.ref x0), none] [] h := z_bq (v_X12 z_puC (vP_X12_pointNow z_puC) hPu) hd_X12_pointNow 21 hT
/-! tokens -/
def k_bl (c : Nat) : Bool := c == 32 || c == 10
def k_le (c : Nat) : Bool := decide (97 ≤ c ∧ c ≤ 122)
def k_di (c : Nat) : Bool := decide (48 ≤ c ∧ c ≤ 57)
def c_past (p : Nat → Bool) (T : Nat → Nat) (n i : Nat) : Nat := i + fa_first (fun k => !p (T (i + k))) (n - i)
theorem past_y {p : Nat → Bool} {T : Nat → Nat} {n i : Nat} (hi : i < n) (hp : p (T i) = true) : c_past p T n i = c_past p T n (i + 1) := by
  unfold c_past
  have key : fa_first (fun k => !p (T (i + k))) (n - i) = 1 + fa_first (fun k => !p (T (i + 1 + k))) (n - (i + 1)) := by
    have hle := fa_first_le (fun k => !p (T (i + 1 + k))) (n - (i + 1))
    by_cases h1 : fa_first (fun k => !p (T (i + 1 + k))) (n - (i + 1)) < n - (i + 1)
    · refine fa_first_at (by omega) ?_ (fun k hk => ?_)
      · have h2 := fa_first_yes _ _ h1
        rw [show i + (1 + fa_first (fun k => !p (T (i + 1 + k))) (n - (i + 1))) = i + 1 + fa_first (fun k => !p (T (i + 1 + k))) (n - (i + 1)) by omega]
        exact h2
      · cases k with
        | zero => show (!p (T i)) = false; rw [hp]; rfl
        | succ k =>
          have h3 := fa_first_no (fun k => !p (T (i + 1 + k))) (n - (i + 1)) k (by omega)
          rw [show i + (k + 1) = i + 1 + k by omega]; exact h3
    · rw [show fa_first (fun k => !p (T (i + 1 + k))) (n - (i + 1)) = n - (i + 1) by omega, show 1 + (n - (i + 1)) = n - i by omega]
      refine fa_first_n (fun k hk => ?_)
      cases k with
      | zero => show (!p (T i)) = false; rw [hp]; rfl
      | succ k =>
        have h3 := fa_first_no (fun k => !p (T (i + 1 + k))) (n - (i + 1)) k (by omega)
        rw [show i + (k + 1) = i + 1 + k by omega]; exact h3
  rw [key]; omega
theorem past_n {p : Nat → Bool} {T : Nat → Nat} {n i : Nat} (hp : i < n → p (T i) = false) : c_past p T n i = i := by
  unfold c_past
  by_cases h : i < n
  · rw [fa_first_at (k := 0) (by omega) (by show (!p (T i)) = true; rw [hp h]; rfl) (fun k hk => absurd hk (Nat.not_lt_zero k))]; rfl
  · rw [show n - i = 0 by omega]; rfl
theorem past_le {p : Nat → Bool} {T : Nat → Nat} {n i : Nat} (hi : i ≤ n) : i ≤ c_past p T n i ∧ c_past p T n i ≤ n := by
  unfold c_past
  have := fa_first_le (fun k => !p (T (i + k))) (n - i)
  omega
def tk_b (T : Nat → Nat) (n i : Nat) : Nat := c_past k_bl T n i
def tk_k (T : Nat → Nat) (n i : Nat) : Nat := if tk_b T n i = n then 0 else if k_le (T (tk_b T n i)) then 1 else if k_di (T (tk_b T n i)) then 2 else if T (tk_b T n i) = 59 ∨ T (tk_b T n i) = 45 then 3 else 4
def tk_e (T : Nat → Nat) (n i : Nat) : Nat := if tk_k T n i = 0 then tk_b T n i else if tk_k T n i = 1 then c_past k_le T n (tk_b T n i) else if tk_k T n i = 2 then c_past k_di T n (tk_b T n i) else tk_b T n i + 1
def tokF (T : Nat → Nat) (n : Nat) (F : Nat → Int32) (i : Nat) : Prop := F 10 = nI (tk_b T n i) ∧ F 11 = nI (tk_e T n i) ∧ F 6 = nI (tk_e T n i) ∧ F 8 = nI (tk_k T n i) ∧ (tk_k T n i = 2 → tk_e T n i = tk_b T n i + 1 → F 9 = nI (T (tk_b T n i) - 48))
def txt (T : Nat → Nat) (n : Nat) (F : Nat → Int32) (A : Nat → Nat → Int32) : Prop := F 7 = nI n ∧ n ≤ 400 ∧ ∀ i, i < n → A 4 i = nI (T i) ∧ T i < 256
theorem tk_bn {T : Nat → Nat} {n i : Nat} (hi : i ≤ n) : i ≤ tk_b T n i ∧ tk_b T n i ≤ n := past_le hi
theorem tk_en {T : Nat → Nat} {n i : Nat} (hi : i ≤ n) : tk_b T n i ≤ tk_e T n i ∧ tk_e T n i ≤ n := by
  have h1 := tk_bn (T := T) hi
  have h2 := past_le (p := k_le) (T := T) h1.2
  have h3 := past_le (p := k_di) (T := T) h1.2
  unfold tk_e
  split
  · omega
  · rename_i h0
    have hb : tk_b T n i ≠ n := by
      intro e; apply h0; unfold tk_k; rw [if_pos e]
    split
    · exact h2
    · split
      · exact h3
      · omega
section DC
variable {G : z_G} {d : Nat} {h : z_H} {M : Nat} {F : Nat → Int32} {A : Nat → Nat → Int32} {T : Nat → Nat} {n : Nat}
theorem txt_u (ht : txt T n F A) {k : Nat} (hk : 7 ≠ k) (v : Int32) : txt T n (z_u F k v) A := ⟨by rw [u_ne _ _ hk]; exact ht.1, ht.2⟩
theorem e_byt (hM : z_sh M h) (ht : txt T n F A) {i : Nat} (hi : i ≤ n) : s_X12_byteAt M (nI i) (z_rs h M F A) ∧ f_X12_byteAt M (nI i) (z_rs h M F A) = if i < n then nI (T i) else mI := by
  have hn := ht.2.1
  refine ⟨⟨hM, fun q => ?_⟩, ?_⟩
  · rw [rs_oi, ht.1] at q
    have := (nI_ltI (by omega) (by omega)).mp q
    exact vp_in_nI (by omega) (by omega)
  · unfold f_X12_byteAt
    rw [rs_oi, ht.1, rs_ai _ _ _ _ (by omega) (by omega), nI_clamp (by omega)]
    by_cases q : i < n
    · rw [if_pos (nI_lt q (by omega)), if_pos q]; exact (ht.2.2 i q).1
    · rw [if_neg (fun e => q ((nI_ltI (by omega) (by omega)).mp e)), if_neg q]; rfl
theorem q_let {c : Nat} (hc : c < 256) (hh : z_H) : f_X12_isLetter (nI c) hh = nI (k_le c).toNat := by
  unfold f_X12_isLetter k_le
  by_cases h1 : c < 97
  · rw [if_pos (show nI c < 97 from nI_lt (b := 97) h1 (by omega)), decide_eq_false (by omega)]; rfl
  · rw [if_neg (show ¬ nI c < 97 from fun e => h1 ((nI_ltI (b := 97) (by omega) (by omega)).mp e))]
    by_cases h2 : 122 < c
    · rw [if_pos (show 122 < nI c from nI_lt (a := 122) h2 (by omega)), decide_eq_false (by omega)]; rfl
    · rw [if_neg (show ¬ 122 < nI c from fun e => h2 ((nI_ltI (a := 122) (by omega) (by omega)).mp e)), decide_eq_true (by omega)]; rfl
theorem q_di {c : Nat} (hc : c < 256) (hh : z_H) : f_X12_isDigit (nI c) hh = nI (k_di c).toNat := by
  unfold f_X12_isDigit k_di
  by_cases h1 : c < 48
  · rw [if_pos (show nI c < 48 from nI_lt (b := 48) h1 (by omega)), decide_eq_false (by omega)]; rfl
  · rw [if_neg (show ¬ nI c < 48 from fun e => h1 ((nI_ltI (b := 48) (by omega) (by omega)).mp e))]
    by_cases h2 : 57 < c
    · rw [if_pos (show 57 < nI c from nI_lt (a := 57) h2 (by omega)), decide_eq_false (by omega)]; rfl
    · rw [if_neg (show ¬ 57 < nI c from fun e => h2 ((nI_ltI (a := 57) (by omega) (by omega)).mp e)), decide_eq_true (by omega)]; rfl
theorem q_lem (hh : z_H) : f_X12_isLetter mI hh = nI 0 := rfl
theorem q_dim (hh : z_H) : f_X12_isDigit mI hh = nI 0 := rfl
/-- letters -/
theorem l_let (hM : z_sh M h) (ht : txt T n F A) (r : z_Res) : ∀ c j, n - j ≤ c → j ≤ n → r = (.inl none, z_rs h M (z_u (z_u (z_u F 6 (nI (c_past k_le T n j))) 8 (nI 1)) 11 (nI (c_past k_le T n j))) A) → z_J G (d + 4) (m_X12_stepOn z_puC) r 76 [some (.ref M), none] [] (z_rs h M (z_u F 6 (nI j)) A) := by
  intro c
  induction c with
  | zero =>
    intro j hc hj hr
    obtain ⟨b1, b2⟩ := e_byt hM (txt_u ht (show 7 ≠ 6 by decide) (nI j)) hj
    refine b_X12_stepOn_76 z_puCV ?_
    rw [past_n (fun q => by omega)] at hr
    rw [rs_oi, u_eq, b2, if_neg (by omega), q_lem, if_pos rfl, rs_poi, rs_oi, u_ne _ _ (show 6 ≠ 8 by decide), u_eq, rs_poi]
    exact ⟨sh_kd hM, sh_kd hM, b1, trivial, sh_kd hM, sh_kd hM, sh_kd hM, hr⟩
  | succ c ih =>
    intro j hc hj hr
    obtain ⟨b1, b2⟩ := e_byt hM (txt_u ht (show 7 ≠ 6 by decide) (nI j)) hj
    refine b_X12_stepOn_76 z_puCV ?_
    rw [rs_oi, u_eq, b2]
    by_cases hjn : j < n
    · rw [if_pos hjn, q_let (ht.2.2 j hjn).2]
      cases hl : k_le (T j)
      · rw [past_n (fun _ => hl)] at hr
        rw [if_pos (by decide), rs_poi, rs_oi, u_ne _ _ (show 6 ≠ 8 by decide), u_eq, rs_poi]
        exact ⟨sh_kd hM, sh_kd hM, b1, trivial, sh_kd hM, sh_kd hM, sh_kd hM, hr⟩
      · rw [past_y hjn hl] at hr
        rw [if_neg (by decide), rs_poi, u_u, nI_add]
        exact ⟨sh_kd hM, sh_kd hM, b1, trivial, sh_kd hM, sh_kd hM, ih (j + 1) (by omega) (by omega) hr⟩
    · rw [past_n (fun q => by omega)] at hr
      rw [if_neg hjn, q_lem, if_pos rfl, rs_poi, rs_oi, u_ne _ _ (show 6 ≠ 8 by decide), u_eq, rs_poi]
      exact ⟨sh_kd hM, sh_kd hM, b1, trivial, sh_kd hM, sh_kd hM, sh_kd hM, hr⟩
/-- digits -/
theorem l_dig (hM : z_sh M h) (ht : txt T n F A) : ∀ c j v, n - j ≤ c → j ≤ n → ∃ v', (c_past k_di T n j = j → v' = v) ∧ (c_past k_di T n j = j + 1 → v = nI 0 → v' = nI (T j - 48)) ∧ z_J G (d + 4) (m_X12_stepOn z_puC) (.inl none, z_rs h M (z_u (z_u (z_u (z_u F 9 v') 6 (nI (c_past k_di T n j))) 8 (nI 2)) 11 (nI (c_past k_di T n j))) A) 123 [some (.ref M), none] [] (z_rs h M (z_u (z_u F 9 v) 6 (nI j)) A) := by
  intro c
  have stop : ∀ j v, j ≤ n → (j < n → k_di (T j) = false) → z_J G (d + 4) (m_X12_stepOn z_puC) (.inl none, z_rs h M (z_u (z_u (z_u (z_u F 9 v) 6 (nI j)) 8 (nI 2)) 11 (nI j)) A) 123 [some (.ref M), none] [] (z_rs h M (z_u (z_u F 9 v) 6 (nI j)) A) := by
    intro j v hj hd
    obtain ⟨b1, b2⟩ := e_byt hM (txt_u (txt_u ht (show 7 ≠ 9 by decide) v) (show 7 ≠ 6 by decide) (nI j)) hj
    refine b_X12_stepOn_123 z_puCV ?_
    have e0 : f_X12_isDigit (if j < n then nI (T j) else mI) (z_rs h M (z_u (z_u F 9 v) 6 (nI j)) A) = nI 0 := by
      by_cases q : j < n
      · rw [if_pos q, q_di (ht.2.2 j q).2, hd q]; rfl
      · rw [if_neg q, q_dim]
    rw [rs_oi, u_eq, b2, e0, if_pos rfl, rs_poi, rs_oi, u_ne _ _ (show 6 ≠ 8 by decide), u_eq, rs_poi]
    exact ⟨sh_kd hM, sh_kd hM, b1, trivial, sh_kd hM, sh_kd hM, sh_kd hM, rfl⟩
  induction c with
  | zero =>
    intro j v hc hj
    refine ⟨v, fun _ => rfl, fun q => ?_, ?_⟩
    · rw [past_n (fun q => by omega)] at q; omega
    · rw [past_n (fun q => by omega)]; exact stop j v hj (fun q => by omega)
  | succ c ih =>
    intro j v hc hj
    by_cases hjn : j < n
    · cases hl : k_di (T j)
      · refine ⟨v, fun _ => rfl, fun q => ?_, ?_⟩
        · rw [past_n (fun _ => hl)] at q; omega
        · rw [past_n (fun _ => hl)]; exact stop j v hj (fun _ => hl)
      · have h256 := (ht.2.2 j hjn).2
        have hd48 : 48 ≤ T j ∧ T j ≤ 57 := by
          unfold k_di at hl; exact of_decide_eq_true hl
        obtain ⟨v', g1, g2, g3⟩ := ih (j + 1) (f_J9_min_7cf53 (nI 100000) (nI 10 * v + nI (T j) - nI 48) (z_rs h M (z_u (z_u F 9 v) 6 (nI j)) A)) (by omega) (by omega)
        have hle := past_le (p := k_di) (T := T) (show j + 1 ≤ n by omega)
        refine ⟨v', fun q => ?_, fun q hv => ?_, ?_⟩
        · rw [past_y hjn hl] at q; omega
        · rw [past_y hjn hl] at q
          rw [g1 q, hv]
          show (if nI 10 * nI 0 + nI (T j) - nI 48 < nI 100000 then nI 10 * nI 0 + nI (T j) - nI 48 else nI 100000) = nI (T j - 48)
          rw [n_mul, nI_add, q_sub (by omega), if_pos (nI_lt (by omega) (by omega))]
          exact congrArg nI (by omega)
        · rw [past_y hjn hl]
          obtain ⟨b1, b2⟩ := e_byt hM (txt_u (txt_u ht (show 7 ≠ 9 by decide) v) (show 7 ≠ 6 by decide) (nI j)) hj
          refine b_X12_stepOn_123 z_puCV ?_
          rw [rs_oi, u_eq, b2, if_pos hjn, q_di h256, hl, if_neg (by decide), u_ne _ _ (show 9 ≠ 6 by decide), u_eq, rs_poi, rs_oi, u_ne _ _ (show 6 ≠ 9 by decide), u_eq, rs_poi, nI_add, u_comm _ _ _ (show 6 ≠ 9 by decide), u_u, u_u]
          exact ⟨sh_kd hM, sh_kd hM, b1, trivial, sh_kd hM, sh_kd hM, sh_kd hM, b1, trivial, sh_kd hM, sh_kd hM, sh_kd hM, g3⟩
    · refine ⟨v, fun _ => rfl, fun q => ?_, ?_⟩
      · rw [past_n (fun q => by omega)] at q; omega
      · rw [past_n (fun q => by omega)]; exact stop j v hj (fun q => by omega)
theorem e_stepOn (hM : z_sh M h) (ht : txt T n F A) {i : Nat} (hi : i ≤ n) (h6 : F 6 = nI i) : ∃ F', agrF [6, 8, 9, 10, 11] F F' ∧ tokF T n F' i ∧ z_Ev G (d + 4) k_X12_stepOn [.ref M] (z_rs h M F A) (.inl none, z_rs h M F' A) := by
  have hn := ht.2.1
  have hbn := tk_bn (T := T) hi
  -- blanks
  have blanks : ∀ r, z_J G (d + 4) (m_X12_stepOn z_puC) r 0 [some (.ref M), none] [] (z_rs h M (z_u F 6 (nI (tk_b T n i))) A) → ∀ c j, n - j ≤ c → j ≤ n → c_past k_bl T n j = tk_b T n i → z_J G (d + 4) (m_X12_stepOn z_puC) r 0 [some (.ref M), none] [] (z_rs h M (z_u F 6 (nI j)) A) := by
    intro r K c
    induction c with
    | zero =>
      intro j hc hj hp
      rw [past_n (fun q => by omega)] at hp
      rw [hp]; exact K
    | succ c ih =>
      intro j hc hj hp
      by_cases hb : j < n ∧ k_bl (T j) = true
      · obtain ⟨b1, b2⟩ := e_byt hM (txt_u ht (show 7 ≠ 6 by decide) (nI j)) hj
        have h256 := (ht.2.2 j hb.1).2
        rw [past_y hb.1 hb.2] at hp
        refine b_X12_stepOn_0 z_puCV ?_
        rw [rs_oi, u_eq, b2, if_pos hb.1, rs_poi, u_u, nI_add]
        refine ⟨sh_kd hM, sh_kd hM, b1, ?_⟩
        by_cases h32 : T j = 32
        · rw [if_pos (by rw [h32])]
          exact ⟨sh_kd hM, sh_kd hM, ih (j + 1) (by omega) (by omega) hp⟩
        · have h10 : T j = 10 := by
            have := hb.2
            unfold k_bl at this
            simp only [Bool.or_eq_true, beq_iff_eq] at this
            omega
          rw [if_neg (fun e => h32 ((nI_eq (by omega) (by omega)).mp e)), if_pos (by rw [h10])]
          exact ⟨sh_kd hM, sh_kd hM, b1, sh_kd hM, sh_kd hM, ih (j + 1) (by omega) (by omega) hp⟩
      · rw [past_n (fun q => by
          cases hq : k_bl (T j)
          · rfl
          · exact absurd ⟨q, hq⟩ hb)] at hp
        rw [hp]; exact K
  have start : ∀ r, z_J G (d + 4) (m_X12_stepOn z_puC) r 0 [some (.ref M), none] [] (z_rs h M (z_u F 6 (nI (tk_b T n i))) A) → z_Ev G (d + 4) k_X12_stepOn [.ref M] (z_rs h M F A) r := by
    intro r K
    have k2 := blanks r K n i (by omega) hi rfl
    rw [← h6, u_self] at k2
    exact en_X12_stepOn k2
  -- at the token
  obtain ⟨b1, b2⟩ := e_byt hM (txt_u ht (show 7 ≠ 6 by decide) (nI (tk_b T n i))) hbn.2
  obtain ⟨b3, b4⟩ := e_byt hM (txt_u (txt_u ht (show 7 ≠ 6 by decide) (nI (tk_b T n i))) (show 7 ≠ 10 by decide) (nI (tk_b T n i))) hbn.2
  have nobl : ∀ r, (if (if tk_b T n i < n then nI (T (tk_b T n i)) else mI) = mI then r = (.inl none, z_rs h M (z_u (z_u (z_u (z_u F 6 (nI (tk_b T n i))) 10 (nI (tk_b T n i))) 8 (nI 0)) 11 (nI (tk_b T n i))) A) else if k_le (T (tk_b T n i)) then z_J G (d + 4) (m_X12_stepOn z_puC) r 76 [some (.ref M), none] [] (z_rs h M (z_u (z_u F 6 (nI (tk_b T n i))) 10 (nI (tk_b T n i))) A) else if k_di (T (tk_b T n i)) then z_J G (d + 4) (m_X12_stepOn z_puC) r 123 [some (.ref M), none] [] (z_rs h M (z_u (z_u (z_u F 6 (nI (tk_b T n i))) 10 (nI (tk_b T n i))) 9 (nI 0)) A) else r = (.inl none, z_rs h M (z_u (z_u (z_u (z_u F 10 (nI (tk_b T n i))) 6 (nI (tk_b T n i + 1))) 8 (nI (if T (tk_b T n i) = 59 ∨ T (tk_b T n i) = 45 then 3 else 4))) 11 (nI (tk_b T n i + 1))) A)) → z_J G (d + 4) (m_X12_stepOn z_puC) r 0 [some (.ref M), none] [] (z_rs h M (z_u F 6 (nI (tk_b T n i))) A) := by
    intro r hr
    refine b_X12_stepOn_0 z_puCV ?_
    have hne : ∀ v, (v = 32 ∨ v = 10) → ¬ (if tk_b T n i < n then nI (T (tk_b T n i)) else mI) = nI v := by
      intro v hv e
      by_cases q : tk_b T n i < n
      · rw [if_pos q] at e
        have h256 := (ht.2.2 _ q).2
        have e2 := (nI_eq (by omega) (by omega)).mp e
        have hno : k_bl (T (tk_b T n i)) = false := by
          have h1 := fa_first_yes (fun k => !k_bl (T (i + k))) (n - i) (by
            have : i + fa_first (fun k => !k_bl (T (i + k))) (n - i) < n := q
            omega)
          have h2 : (!k_bl (T (tk_b T n i))) = true := h1
          cases hk : k_bl (T (tk_b T n i))
          · rfl
          · rw [hk] at h2; cases h2
        unfold k_bl at hno
        rcases hv with rfl | rfl
        · rw [e2] at hno; cases hno
        · rw [e2] at hno; cases hno
      · rw [if_neg q] at e
        exact t_ne1 (show v < 2 ^ 31 by omega) e.symm
    rw [rs_oi, u_eq, b2, if_neg (hne 32 (Or.inl rfl)), if_neg (hne 10 (Or.inr rfl)), rs_poi, rs_oi, u_ne _ _ (show 6 ≠ 10 by decide), u_eq, b4]
    refine ⟨sh_kd hM, sh_kd hM, b1, sh_kd hM, sh_kd hM, b1, sh_kd hM, sh_kd hM, sh_kd hM, sh_kd hM, b3, ?_⟩
    by_cases q : tk_b T n i < n
    · have h256 := (ht.2.2 _ q).2
      rw [if_pos q] at hr ⊢
      rw [if_neg (show ¬ nI (T (tk_b T n i)) = mI from t_ne1 (by omega))] at hr ⊢
      rw [q_let h256, q_di h256]
      refine ⟨trivial, ?_⟩
      cases hl : k_le (T (tk_b T n i))
      · rw [hl, if_neg (by decide)] at hr
        rw [if_pos (by decide)]
        refine ⟨trivial, ?_⟩
        cases hd : k_di (T (tk_b T n i))
        · rw [hd, if_neg (by decide)] at hr
          rw [if_pos (by decide)]
          refine ⟨sh_kd hM, sh_kd hM, ?_⟩
          simp only [rs_poi, rs_oi]
          rw [nI_add, u_comm F _ _ (show 6 ≠ 10 by decide), u_u]
          have e6 : ∀ v, z_u (z_u (z_u F 10 (nI (tk_b T n i))) 6 (nI (tk_b T n i + 1))) 8 v 6 = nI (tk_b T n i + 1) := fun v => by rw [u_ne _ _ (by decide), u_eq]
          by_cases c59 : T (tk_b T n i) = 59
          · rw [if_pos (Or.inl c59)] at hr
            rw [if_pos (by rw [c59]), e6]
            exact ⟨sh_kd hM, sh_kd hM, sh_kd hM, hr⟩
          · rw [if_neg (fun e => c59 ((nI_eq (by omega) (by omega)).mp e))]
            by_cases c45 : T (tk_b T n i) = 45
            · rw [if_pos (Or.inr c45)] at hr
              rw [if_pos (by rw [c45]), e6]
              exact ⟨sh_kd hM, sh_kd hM, sh_kd hM, hr⟩
            · rw [if_neg (fun e => by rcases e with e | e; exact c59 e; exact c45 e)] at hr
              rw [if_neg (fun e => c45 ((nI_eq (by omega) (by omega)).mp e)), e6]
              exact ⟨sh_kd hM, sh_kd hM, sh_kd hM, hr⟩
        · rw [hd, if_pos rfl] at hr
          rw [if_neg (by decide), rs_poi]
          exact ⟨sh_kd hM, hr⟩
      · rw [hl, if_pos rfl] at hr
        rw [if_neg (by decide)]
        exact hr
    · rw [if_neg q] at hr ⊢
      rw [if_pos rfl] at hr ⊢
      simp only [rs_poi, rs_oi]
      rw [u_ne _ (a := 8) _ (show 6 ≠ 8 by decide), u_ne _ (a := 10) _ (show 6 ≠ 10 by decide), u_eq]
      exact ⟨sh_kd hM, sh_kd hM, sh_kd hM, hr⟩
  by_cases hb : tk_b T n i = n
  · have hk : tk_k T n i = 0 := by unfold tk_k; rw [if_pos hb]
    have he : tk_e T n i = tk_b T n i := by unfold tk_e; rw [if_pos hk]
    refine ⟨z_u (z_u (z_u (z_u F 6 (nI (tk_b T n i))) 10 (nI (tk_b T n i))) 8 (nI 0)) 11 (nI (tk_b T n i)), agrF_u (agrF_u (agrF_u (agrF_u agrF_rf (by decide) _) (by decide) _) (by decide) _) (by decide) _, ⟨?_, ?_, ?_, ?_, fun q => by rw [hk] at q; cases q⟩, start _ (nobl _ ?_)⟩
    · rw [u_ne _ _ (by decide), u_ne _ _ (by decide), u_eq]
    · rw [u_eq, he]
    · rw [u_ne _ _ (by decide), u_ne _ _ (by decide), u_ne _ _ (by decide), u_eq, he]
    · rw [u_ne _ _ (by decide), u_eq, hk]
    · rw [if_neg (show ¬ tk_b T n i < n by omega), if_pos rfl]
  · have hlt : tk_b T n i < n := by omega
    have h256 := (ht.2.2 _ hlt).2
    cases hl : k_le (T (tk_b T n i))
    · cases hd : k_di (T (tk_b T n i))
      · have hk : tk_k T n i = if T (tk_b T n i) = 59 ∨ T (tk_b T n i) = 45 then 3 else 4 := by unfold tk_k; rw [if_neg hb, hl, if_neg (by decide), hd, if_neg (by decide)]
        have hk34 : tk_k T n i = 3 ∨ tk_k T n i = 4 := by rw [hk]; split; exact Or.inl rfl; exact Or.inr rfl
        have he : tk_e T n i = tk_b T n i + 1 := by unfold tk_e; rw [if_neg (by omega), if_neg (by omega), if_neg (by omega)]
        refine ⟨z_u (z_u (z_u (z_u F 10 (nI (tk_b T n i))) 6 (nI (tk_b T n i + 1))) 8 (nI (tk_k T n i))) 11 (nI (tk_b T n i + 1)), agrF_u (agrF_u (agrF_u (agrF_u agrF_rf (by decide) _) (by decide) _) (by decide) _) (by decide) _, ⟨?_, ?_, ?_, ?_, fun q => by omega⟩, start _ (nobl _ ?_)⟩
        · rw [u_ne _ _ (by decide), u_ne _ _ (by decide), u_ne _ _ (by decide), u_eq]
        · rw [u_eq, he]
        · rw [u_ne _ _ (by decide), u_ne _ _ (by decide), u_eq, he]
        · rw [u_ne _ _ (by decide), u_eq]
        · rw [if_pos hlt, if_neg (show ¬ nI (T (tk_b T n i)) = mI from t_ne1 (by omega)), hl, if_neg (by decide), hd, if_neg (by decide), hk]
      · have hk : tk_k T n i = 2 := by unfold tk_k; rw [if_neg hb, hl, if_neg (by decide), hd, if_pos rfl]
        have he : tk_e T n i = c_past k_di T n (tk_b T n i) := by unfold tk_e; rw [hk, if_neg (by decide), if_neg (by decide), if_pos rfl]
        obtain ⟨v', g1, g2, g3⟩ := l_dig (G := G) (d := d) hM (txt_u ht (show 7 ≠ 10 by decide) (nI (tk_b T n i))) n (tk_b T n i) (nI 0) (by omega) hbn.2
        refine ⟨z_u (z_u (z_u (z_u (z_u F 10 (nI (tk_b T n i))) 9 v') 6 (nI (c_past k_di T n (tk_b T n i)))) 8 (nI 2)) 11 (nI (c_past k_di T n (tk_b T n i))), ?_, ⟨?_, ?_, ?_, ?_, fun _ q => ?_⟩, start _ (nobl _ ?_)⟩
        · exact agrF_u (agrF_u (agrF_u (agrF_u (agrF_u agrF_rf (by decide) _) (by decide) _) (by decide) _) (by decide) _) (by decide) _
        · rw [u_ne _ _ (by decide), u_ne _ _ (by decide), u_ne _ _ (by decide), u_ne _ _ (by decide), u_eq]
        · rw [u_eq, he]
        · rw [u_ne _ _ (by decide), u_ne _ _ (by decide), u_eq, he]
        · rw [u_ne _ _ (by decide), u_eq, hk]
        · rw [u_ne _ _ (by decide), u_ne _ _ (by decide), u_ne _ _ (by decide), u_eq]
          exact g2 (by rw [← he]; exact q) rfl
        · rw [if_pos hlt, if_neg (show ¬ nI (T (tk_b T n i)) = mI from t_ne1 (by omega)), hl, if_neg (by decide), hd, if_pos rfl, u_comm F _ _ (show 6 ≠ 10 by decide), u_comm _ _ _ (show 6 ≠ 9 by decide)]
          exact g3
    · have hk : tk_k T n i = 1 := by unfold tk_k; rw [if_neg hb, hl, if_pos rfl]
      have he : tk_e T n i = c_past k_le T n (tk_b T n i) := by unfold tk_e; rw [hk, if_neg (by decide), if_pos rfl]
      refine ⟨z_u (z_u (z_u (z_u F 10 (nI (tk_b T n i))) 6 (nI (c_past k_le T n (tk_b T n i)))) 8 (nI 1)) 11 (nI (c_past k_le T n (tk_b T n i))), agrF_u (agrF_u (agrF_u (agrF_u agrF_rf (by decide) _) (by decide) _) (by decide) _) (by decide) _, ⟨?_, ?_, ?_, ?_, fun q => by rw [hk] at q; cases q⟩, start _ (nobl _ ?_)⟩
      · rw [u_ne _ _ (by decide), u_ne _ _ (by decide), u_ne _ _ (by decide), u_eq]
      · rw [u_eq, he]
      · rw [u_ne _ _ (by decide), u_ne _ _ (by decide), u_eq, he]
      · rw [u_ne _ _ (by decide), u_eq, hk]
      · rw [if_pos hlt, if_neg (show ¬ nI (T (tk_b T n i)) = mI from t_ne1 (by omega)), hl, if_pos rfl, u_comm F _ _ (show 6 ≠ 10 by decide)]
        exact l_let hM (txt_u ht (show 7 ≠ 10 by decide) (nI (tk_b T n i))) _ n (tk_b T n i) (by omega) hbn.2 rfl
/-- an error is noted at the token -/
def errF (F : Nat → Int32) (c : Nat) : Nat → Int32 := z_u (z_u F 12 (nI c)) 13 (F 10)
theorem e_wrong (hM : z_sh M h) (h12 : F 12 = nI 0) (c : Nat) : z_Ev G (d + 4) k_X12_wrong [.ref M, .int (nI c)] (z_rs h M F A) (.inl none, z_rs h M (errF F c) A) := by
  refine en_X12_wrong (b_X12_wrong_0 z_puCV ⟨sh_kd hM, ?_⟩)
  rw [rs_oi, h12, if_pos rfl, rs_poi, rs_oi, u_ne _ _ (show 10 ≠ 12 by decide), rs_poi]
  exact ⟨sh_kd hM, sh_kd hM, sh_kd hM, rfl⟩
theorem errF_12 {c : Nat} (h0 : 0 < c) (hc : c < 2 ^ 31) : ¬ errF F c 12 = nI 0 := by
  unfold errF
  rw [u_ne _ _ (by decide), u_eq]
  intro e
  have := (nI_eq hc (by omega)).mp e
  omega
/-- a number: its value, and where the scan goes on; or the error -/
def p_num (T : Nat → Nat) (n i lo hi : Nat) : (Nat × Nat) ⊕ Nat := if tk_k T n i = 2 then (if tk_e T n i = tk_b T n i + 1 ∧ lo ≤ T (tk_b T n i) - 48 ∧ T (tk_b T n i) - 48 ≤ hi then .inl (T (tk_b T n i) - 48, tk_e T n i) else .inr 2) else .inr 1
theorem p_num_9 {T : Nat → Nat} {n i lo hi : Nat} (hi2 : i ≤ n) {v : Nat × Nat} (h : p_num T n i lo hi = .inl v) : lo ≤ v.1 ∧ v.1 ≤ hi ∧ v.1 ≤ 9 ∧ v.2 = tk_e T n i ∧ tk_k T n i = 2 := by
  unfold p_num at h
  split at h
  · rename_i hk
    split at h
    · rename_i hc
      cases h
      refine ⟨hc.2.1, hc.2.2, ?_, rfl, hk⟩
      have : k_di (T (tk_b T n i)) = true := by
        unfold tk_k at hk
        split at hk
        · cases hk
        · split at hk
          · cases hk
          · split at hk
            · assumption
            · split at hk <;> cases hk
      unfold k_di at this
      have := of_decide_eq_true this
      show T (tk_b T n i) - 48 ≤ 9
      omega
    · cases h
  · cases h
theorem e_numberNow (hM : z_sh M h) (ht : txt T n F A) {i lo hi : Nat} (hi2 : i ≤ n) (hF : tokF T n F i) (h12 : F 12 = nI 0) (hlo : lo ≤ 9) (hhi : hi ≤ 9) : z_Ev G (d + 5) k_X12_numberNow [.ref M, .int (nI lo), .int (nI hi)] (z_rs h M F A) (match p_num T n i lo hi with | .inl v => (.inl (some (.int (nI v.1))), z_rs h M F A) | .inr c => (.inl (some (.int (nI lo))), z_rs h M (errF F c) A)) := by
  obtain ⟨f10, f11, f6, f8, f9⟩ := hF
  have hn := ht.2.1
  have hbn := tk_bn (T := T) hi2
  have hen := tk_en (T := T) hi2
  have hk4 : tk_k T n i ≤ 4 := by unfold tk_k; split; omega; split; omega; split; omega; split <;> omega
  have w : ∀ c, 0 < c → c < 2 ^ 31 → ∃ h1, z_Ev G (d + 4) k_X12_wrong [.ref M, .int (nI c)] (z_rs h M F A) (.inl none, h1) ∧ (z_kd h1 M = 28 ∧ (if z_oi h1 M 12 = nI 0 then (z_kd h1 M = 28 ∧ ((.inl (some (.int (nI lo))), z_rs h M (errF F c) A) : z_Res) = (.inl (some (.int (z_oi h1 M 9))), h1)) else ((.inl (some (.int (nI lo))), z_rs h M (errF F c) A) : z_Res) = (.inl (some (.int (nI lo))), h1))) := by
    intro c h0 hc
    refine ⟨_, e_wrong hM h12 c, sh_kd hM, ?_⟩
    rw [rs_oi, if_neg (errF_12 h0 hc)]
  refine en_X12_numberNow (b_X12_numberNow_0 z_puCV ⟨sh_kd hM, ?_⟩)
  simp only [rs_oi]
  rw [h12, f8, f11, f10, if_pos rfl, if_pos rfl, q_sub hen.1]
  refine ⟨sh_kd hM, ?_⟩
  unfold p_num
  by_cases hk : tk_k T n i = 2
  · rw [if_pos hk, if_pos (by rw [hk])]
    refine ⟨sh_kd hM, sh_kd hM, ?_⟩
    by_cases he : tk_e T n i = tk_b T n i + 1
    · have hv := f9 hk he
      have hdig : 48 ≤ T (tk_b T n i) ∧ T (tk_b T n i) ≤ 57 := by
        have : k_di (T (tk_b T n i)) = true := by
          unfold tk_k at hk
          split at hk
          · cases hk
          · split at hk
            · cases hk
            · split at hk
              · assumption
              · split at hk <;> cases hk
        unfold k_di at this
        exact of_decide_eq_true this
      rw [if_neg (show ¬ nI 1 < nI (tk_e T n i - tk_b T n i) from fun e => by have := (nI_ltI (by omega) (by omega)).mp e; omega), hv]
      refine ⟨sh_kd hM, ?_⟩
      by_cases c1 : T (tk_b T n i) - 48 < lo
      · rw [if_neg (show ¬ (tk_e T n i = tk_b T n i + 1 ∧ lo ≤ T (tk_b T n i) - 48 ∧ T (tk_b T n i) - 48 ≤ hi) from fun q => by omega), if_pos (nI_lt c1 (by omega))]
        exact ⟨sh_kd hM, w 2 (by decide) (by decide)⟩
      · rw [if_neg (show ¬ nI (T (tk_b T n i) - 48) < nI lo from fun e => c1 ((nI_ltI (by omega) (by omega)).mp e))]
        refine ⟨sh_kd hM, ?_⟩
        by_cases c2 : hi < T (tk_b T n i) - 48
        · rw [if_neg (show ¬ (tk_e T n i = tk_b T n i + 1 ∧ lo ≤ T (tk_b T n i) - 48 ∧ T (tk_b T n i) - 48 ≤ hi) from fun q => by omega), if_pos (nI_lt c2 (by omega))]
          exact ⟨sh_kd hM, w 2 (by decide) (by decide)⟩
        · rw [if_pos (show (tk_e T n i = tk_b T n i + 1 ∧ lo ≤ T (tk_b T n i) - 48 ∧ T (tk_b T n i) - 48 ≤ hi) from ⟨he, by omega, by omega⟩), if_neg (show ¬ nI hi < nI (T (tk_b T n i) - 48) from fun e => c2 ((nI_ltI (by omega) (by omega)).mp e))]
          exact ⟨sh_kd hM, sh_kd hM, rfl⟩
    · rw [if_neg (show ¬ (tk_e T n i = tk_b T n i + 1 ∧ lo ≤ T (tk_b T n i) - 48 ∧ T (tk_b T n i) - 48 ≤ hi) from fun q => he q.1)]
      have hgt : 1 < tk_e T n i - tk_b T n i := by
        have h1 : tk_e T n i = c_past k_di T n (tk_b T n i) := by unfold tk_e; rw [hk, if_neg (by decide), if_neg (by decide), if_pos rfl]
        have hb : tk_b T n i < n := by
          by_cases q : tk_b T n i = n
          · unfold tk_k at hk; rw [if_pos q] at hk; cases hk
          · omega
        have hdd : k_di (T (tk_b T n i)) = true := by
          unfold tk_k at hk
          split at hk
          · cases hk
          · split at hk
            · cases hk
            · split at hk
              · assumption
              · split at hk <;> cases hk
        rw [past_y hb hdd] at h1
        have := past_le (p := k_di) (T := T) (show tk_b T n i + 1 ≤ n by omega)
        omega
      rw [if_pos (nI_lt hgt (by omega))]
      exact ⟨sh_kd hM, w 2 (by decide) (by decide)⟩
  · rw [if_neg hk, if_neg (fun e => hk ((nI_eq (by omega) (by omega)).mp e))]
    exact ⟨sh_kd hM, w 1 (by decide) (by decide)⟩
theorem e_numberB (hM : z_sh M h) {a b : Int32} (h12 : ¬ F 12 = nI 0) : z_Ev G (d + 5) k_X12_numberNow [.ref M, .int a, .int b] (z_rs h M F A) (.inl (some (.int a)), z_rs h M F A) := by
  refine en_X12_numberNow (b_X12_numberNow_0 z_puCV ⟨sh_kd hM, ?_⟩)
  rw [rs_oi, if_neg h12]
/-- a number is read -/
theorem e_readNumber (hM : z_sh M h) (ht : txt T n F A) {i lo hi : Nat} (hi2 : i ≤ n) (hF : tokF T n F i) (h12 : F 12 = nI 0) (hlo : lo ≤ 9) (hhi : hi ≤ 9) : match p_num T n i lo hi with | .inl v => ∃ F', agrF [6, 8, 9, 10, 11] F F' ∧ tokF T n F' v.2 ∧ z_Ev G (d + 6) k_X12_readNumber [.ref M, .int (nI lo), .int (nI hi)] (z_rs h M F A) (.inl (some (.int (nI v.1))), z_rs h M F' A) | .inr c => z_Ev G (d + 6) k_X12_readNumber [.ref M, .int (nI lo), .int (nI hi)] (z_rs h M F A) (.inl (some (.int (nI lo))), z_rs h M (errF F c) A) := by
  have e := e_numberNow (G := G) (d := d) hM ht hi2 hF h12 hlo hhi
  cases hp : p_num T n i lo hi with
  | inl v =>
    rw [hp] at e
    have hv := p_num_9 hi2 hp
    obtain ⟨F', g1, g2, g3⟩ := e_stepOn (G := G) (d := d + 1) (A := A) hM ht (i := tk_e T n i) (tk_en hi2).2 hF.2.2.1
    rw [← hv.2.2.2.1] at g2
    refine ⟨F', g1, g2, en_X12_readNumber (b_X12_readNumber_0 z_puCV ⟨sh_kd hM, _, _, e, sh_kd hM, ?_⟩)⟩
    rw [rs_oi, h12, if_pos rfl]
    exact ⟨sh_kd hM, _, g3, rfl⟩
  | inr c =>
    rw [hp] at e
    have hc : c = 1 ∨ c = 2 := by
      unfold p_num at hp
      split at hp
      · split at hp
        · cases hp
        · cases hp; exact Or.inr rfl
      · cases hp; exact Or.inl rfl
    refine en_X12_readNumber (b_X12_readNumber_0 z_puCV ⟨sh_kd hM, _, _, e, sh_kd hM, ?_⟩)
    rw [rs_oi, if_neg (errF_12 (by omega) (by omega))]
theorem e_readNumB (hM : z_sh M h) {a b : Int32} (h12 : ¬ F 12 = nI 0) : z_Ev G (d + 6) k_X12_readNumber [.ref M, .int a, .int b] (z_rs h M F A) (.inl (some (.int a)), z_rs h M F A) := by
  refine en_X12_readNumber (b_X12_readNumber_0 z_puCV ⟨sh_kd hM, _, _, e_numberB hM h12, sh_kd hM, ?_⟩)
  rw [rs_oi, if_neg h12]
end DC
