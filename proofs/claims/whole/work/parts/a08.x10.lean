theorem en_X10_run {pu : Nat → Option ((List Value → z_H → Prop) × (List Value → z_H → Int32))} {G : z_G} {d : Nat} {r : z_Res} {h : z_H} {x0 : Nat} {x1 : Nat} {x2 : Int32} {x3 : Int32} (hJ : z_J G d (m_X10_run pu) r 0 [some (.ref x0), some (.ref x1), some (.int x2), some (.int x3), none] [] h) : z_Ev G d k_X10_run [.ref x0, .ref x1, .int x2, .int x3] h r := z_enter (μ := m_X10_run pu) rfl (by decide) rfl rfl (fun q => by cases q) (Nat.le_of_ble_eq_true rfl) hJ
def hd_X10_run : Nat → Option (List Bool) := (fun k => (cond (Nat.blt k 90) (cond (Nat.blt k 18) (cond (Nat.blt k 13) (cond (Nat.beq k 5) (some [true, true, false, true, false]) none) (cond (Nat.beq k 13) (some [true, true, false, true, false]) none)) (cond (Nat.blt k 38) (cond (Nat.beq k 18) (some [true, true, false, true, false]) none) (cond (Nat.beq k 38) (some [true, true, false, true, true]) none))) none))
set_option maxRecDepth 20000 in
theorem b_X10_run_0 {G : z_G} {d : Nat} {r : z_Res} (hPu : z_PuV G d (t_X10 z_pu0)) {h : z_H} {x0 : Nat} {x1 : Nat} {x2 : Int32} {x3 : Int32} (hT : (z_kd h x0 = 26 ∧ (z_J G (d + 1) (m_X10_run z_pu0) r) 5 [some (.ref x0), some (.ref x1), none, some (.int x3), none] [] (z_poi h x0 0 x2))) : (z_J G (d + 1) (m_X10_run z_pu0) r) 0 [some (.ref x0), some (.ref x1), some (.int x2), some (.int x3), none] [] h := z_bq (v_X10 z_pu0 (vP_X10_run z_pu0) hPu) hd_X10_run 6 hT
set_option maxRecDepth 20000 in
theorem b_X10_run_5 {G : z_G} {d : Nat} {r : z_Res} (hPu : z_PuV G d (t_X10 z_pu0)) {h : z_H} {x0 : Nat} {x1 : Nat} {x3 : Int32} (hT : (z_kd h x1 = 24 ∧ (z_kd h x0 = 26 ∧ (z_J G (d + 1) (m_X10_run z_pu0) r) 13 [some (.ref x0), some (.ref x1), none, some (.int x3), none] [] (z_poi h x0 2 (z_oi h x1 1))))) : (z_J G (d + 1) (m_X10_run z_pu0) r) 5 [some (.ref x0), some (.ref x1), none, some (.int x3), none] [] h := z_bq (v_X10 z_pu0 (vP_X10_run z_pu0) hPu) hd_X10_run 7 hT
set_option maxRecDepth 20000 in
theorem b_X10_run_13 {G : z_G} {d : Nat} {r : z_Res} (hPu : z_PuV G d (t_X10 z_pu0)) {h : z_H} {x0 : Nat} {x1 : Nat} {x3 : Int32} (hT : (z_kd h x0 = 26 ∧ (z_J G (d + 1) (m_X10_run z_pu0) r) 18 [some (.ref x0), some (.ref x1), none, some (.int x3), none] [] (z_poi h x0 3 (nI 0)))) : (z_J G (d + 1) (m_X10_run z_pu0) r) 13 [some (.ref x0), some (.ref x1), none, some (.int x3), none] [] h := z_bq (v_X10 z_pu0 (vP_X10_run z_pu0) hPu) hd_X10_run 6 hT
set_option maxRecDepth 20000 in
theorem b_X10_run_18 {G : z_G} {d : Nat} {r : z_Res} (hPu : z_PuV G d (t_X10 z_pu0)) {h : z_H} {x0 : Nat} {x1 : Nat} {x3 : Int32} (hT : (z_kd h x1 = 24 ∧ (z_rc (z_or h x1 2) (z_kd h x0 = 26 ∧ (z_rc (z_or h x0 1) (z_kd h x0 = 26 ∧ False) (fun x_2 => (z_kd h x0 = 26 ∧ False)))) (fun x_1 => (z_kd h x0 = 26 ∧ (z_rc (z_or h x0 1) (z_kd h x0 = 26 ∧ False) (fun x_3 => (z_kd h x0 = 26 ∧ ((¬ (nI 0) < 0 ∧ ¬ (nI 0) < 0 ∧ ¬ (z_oi h x0 2) < 0 ∧ (Int32.toNatClampNeg (nI 0)) + (Int32.toNatClampNeg (z_oi h x0 2)) ≤ z_ln h x_1 ∧ (Int32.toNatClampNeg (nI 0)) + (Int32.toNatClampNeg (z_oi h x0 2)) ≤ z_ln h x_3) ∧ ((z_kd h x_1 = 1 ∧ z_kd h x_3 = 1 ∧ (z_J G (d + 1) (m_X10_run z_pu0) r) 38 [some (.ref x0), some (.ref x1), none, some (.int x3), some (.int (nI 0))] [] (z_pax h x_3 (va_cpy (z_ai h x_1) (z_ai h x_3) (Int32.toNatClampNeg (nI 0)) (Int32.toNatClampNeg (nI 0)) (Int32.toNatClampNeg (z_oi h x0 2))))) ∨ (z_kd h x_1 = 2 ∧ z_kd h x_3 = 2 ∧ (z_J G (d + 1) (m_X10_run z_pu0) r) 38 [some (.ref x0), some (.ref x1), none, some (.int x3), some (.int (nI 0))] [] (z_plx h x_3 (va_cpy (z_al h x_1) (z_al h x_3) (Int32.toNatClampNeg (nI 0)) (Int32.toNatClampNeg (nI 0)) (Int32.toNatClampNeg (z_oi h x0 2))))))))))))))) : (z_J G (d + 1) (m_X10_run z_pu0) r) 18 [some (.ref x0), some (.ref x1), none, some (.int x3), none] [] h := z_bq (v_X10 z_pu0 (vP_X10_run z_pu0) hPu) hd_X10_run 14 hT
set_option maxRecDepth 20000 in
theorem b_X10_run_38 {G : z_G} {d : Nat} {r : z_Res} (hPu : z_PuV G d (t_X10 z_pu0)) {h : z_H} {x0 : Nat} {x1 : Nat} {x3 : Int32} {x4 : Int32} (hT : (if x4 < x3 then (z_kd h x0 = 26 ∧ ∃ x_2 h_1, z_Ev G d k_X10_draw [.ref x0, .int (nI 3)] h (.inl (some (.int x_2)), h_1) ∧ (if x_2 < (nI 2) then (z_kd h_1 x1 = 24 ∧ (z_kd h_1 x0 = 26 ∧ ∃ h_3, z_Ev G d k_X10_tryLine [.ref x0, .int (z_oi h_1 x1 0)] h_1 (.inl none, h_3) ∧ (z_J G (d + 1) (m_X10_run z_pu0) r) 38 [some (.ref x0), some (.ref x1), none, some (.int x3), some (.int (x4 + (nI 1)))] [] h_3)) else (z_kd h_1 x0 = 26 ∧ (if (nI 0) < (z_oi h_1 x0 2) then (z_kd h_1 x0 = 26 ∧ (z_kd h_1 x0 = 26 ∧ ∃ x_5 h_4, z_Ev G d k_X10_draw [.ref x0, .int (z_oi h_1 x0 2)] h_1 (.inl (some (.int x_5)), h_4) ∧ (z_kd h_4 x0 = 26 ∧ ∃ h_6, z_Ev G d k_X10_leaveOut [.ref x0, .int x_5] h_4 (.inl none, h_6) ∧ (z_J G (d + 1) (m_X10_run z_pu0) r) 38 [some (.ref x0), some (.ref x1), none, some (.int x3), some (.int (x4 + (nI 1)))] [] h_6))) else (z_J G (d + 1) (m_X10_run z_pu0) r) 38 [some (.ref x0), some (.ref x1), none, some (.int x3), some (.int (x4 + (nI 1)))] [] h_1)))) else r = (.inl none, h))) : (z_J G (d + 1) (m_X10_run z_pu0) r) 38 [some (.ref x0), some (.ref x1), none, some (.int x3), some (.int x4)] [] h := z_bq (v_X10 z_pu0 (vP_X10_run z_pu0) hPu) hd_X10_run 22 hT
theorem en_X10_draw {pu : Nat → Option ((List Value → z_H → Prop) × (List Value → z_H → Int32))} {G : z_G} {d : Nat} {r : z_Res} {h : z_H} {x0 : Nat} {x1 : Int32} (hJ : z_J G d (m_X10_draw pu) r 0 [some (.ref x0), some (.int x1)] [] h) : z_Ev G d k_X10_draw [.ref x0, .int x1] h r := z_enter (μ := m_X10_draw pu) rfl (by decide) rfl rfl (fun q => by cases q) (Nat.le_of_ble_eq_true rfl) hJ
def hd_X10_draw : Nat → Option (List Bool) := (fun k => none)
set_option maxRecDepth 20000 in
theorem b_X10_draw_0 {G : z_G} {d : Nat} {r : z_Res} (hPu : z_PuV G d (t_X10 z_pu0)) {h : z_H} {x0 : Nat} {x1 : Int32} (hT : (z_kd h x0 = 26 ∧ (z_kd h x0 = 26 ∧ (if x1 < (nI 1) then r = (.inl (some (.int (nI 0))), z_poi h x0 0 (((z_oi h x0 0) * (nI 1103515245)) + (nI 12345))) else (z_kd (z_poi h x0 0 (((z_oi h x0 0) * (nI 1103515245)) + (nI 12345))) x0 = 26 ∧ (¬ x1 = (nI 0) ∧ r = (.inl (some (.int (((z_ush (z_oi (z_poi h x0 0 (((z_oi h x0 0) * (nI 1103515245)) + (nI 12345))) x0 0) (nI 16)) &&& (nI 32767)) - ((z_ush (z_oi (z_poi h x0 0 (((z_oi h x0 0) * (nI 1103515245)) + (nI 12345))) x0 0) (nI 16)) &&& (nI 32767)) / x1 * x1))), z_poi h x0 0 (((z_oi h x0 0) * (nI 1103515245)) + (nI 12345))))))))) : (z_J G (d + 1) (m_X10_draw z_pu0) r) 0 [some (.ref x0), some (.int x1)] [] h := z_bq (v_X10 z_pu0 (vP_X10_draw z_pu0) hPu) hd_X10_draw 22 hT
theorem en_X10_tryLine {pu : Nat → Option ((List Value → z_H → Prop) × (List Value → z_H → Int32))} {G : z_G} {d : Nat} {r : z_Res} {h : z_H} {x0 : Nat} {x1 : Int32} (hJ : z_J G d (m_X10_tryLine pu) r 0 [some (.ref x0), some (.int x1), none] [] h) : z_Ev G d k_X10_tryLine [.ref x0, .int x1] h r := z_enter (μ := m_X10_tryLine pu) rfl (by decide) rfl rfl (fun q => by cases q) (Nat.le_of_ble_eq_true rfl) hJ
def hd_X10_tryLine : Nat → Option (List Bool) := (fun k => (cond (Nat.blt k 91) (cond (Nat.blt k 60) (cond (Nat.beq k 28) (some [true, false, true]) none) (cond (Nat.beq k 60) (some [true, false, true]) none)) none))
set_option maxRecDepth 20000 in
theorem b_X10_tryLine_0 {G : z_G} {d : Nat} {r : z_Res} (hPu : z_PuV G d (t_X10 z_pu0)) {h : z_H} {x0 : Nat} {x1 : Int32} (hT : (z_kd h x0 = 26 ∧ ∃ x_2 h_1, z_Ev G d k_X10_draw [.ref x0, .int x1] h (.inl (some (.int x_2)), h_1) ∧ (z_kd h_1 x0 = 26 ∧ ∃ x_4 h_3, z_Ev G d k_X10_draw [.ref x0, .int x1] h_1 (.inl (some (.int x_4)), h_3) ∧ (z_kd h_3 x0 = 26 ∧ ∃ x_6 h_5, z_Ev G d k_X10_draw [.ref x0, .int x1] h_3 (.inl (some (.int x_6)), h_5) ∧ (z_J G (d + 1) (m_X10_tryLine z_pu0) r) 28 [some (.ref x0), none, some (.int ((((nI 1) <<< (x_2 &&& (nI 31))) ||| ((nI 1) <<< (x_4 &&& (nI 31)))) ||| ((nI 1) <<< (x_6 &&& (nI 31)))))] [] h_5)))) : (z_J G (d + 1) (m_X10_tryLine z_pu0) r) 0 [some (.ref x0), some (.int x1), none] [] h := z_bq (v_X10 z_pu0 (vP_X10_tryLine z_pu0) hPu) hd_X10_tryLine 25 hT
set_option maxRecDepth 20000 in
theorem b_X10_tryLine_28 {G : z_G} {d : Nat} {r : z_Res} (hPu : z_PuV G d (t_X10 z_pu0)) {h : z_H} {x0 : Nat} {x2 : Int32} (hT : (∃ x_2 h_1, z_Ev G d k_J6_bitCount_0f7a4 [.int x2] h (.inl (some (.int x_2)), h_1) ∧ (if x_2 = (nI 3) then (z_kd h_1 x0 = 26 ∧ (if (z_oi h_1 x0 2) < (nI 12) then (z_kd h_1 x0 = 26 ∧ (z_rc (z_or h_1 x0 1) (z_kd h_1 x0 = 26 ∧ (∃ x_5 h_4, z_Ev G d k_X8_keepsApart [.int x2, .null, .int (z_oi h_1 x0 2)] h_1 (.inl (some (.int x_5)), h_4) ∧ (if x_5 = (nI 0) then r = (.inl none, h_4) else (z_J G (d + 1) (m_X10_tryLine z_pu0) r) 60 [some (.ref x0), none, some (.int x2)] [] h_4))) (fun x_3 => (z_kd h_1 x0 = 26 ∧ (∃ x_7 h_6, z_Ev G d k_X8_keepsApart [.int x2, .ref x_3, .int (z_oi h_1 x0 2)] h_1 (.inl (some (.int x_7)), h_6) ∧ (if x_7 = (nI 0) then r = (.inl none, h_6) else (z_J G (d + 1) (m_X10_tryLine z_pu0) r) 60 [some (.ref x0), none, some (.int x2)] [] h_6)))))) else r = (.inl none, h_1))) else r = (.inl none, h_1)))) : (z_J G (d + 1) (m_X10_tryLine z_pu0) r) 28 [some (.ref x0), none, some (.int x2)] [] h := z_bq (v_X10 z_pu0 (vP_X10_tryLine z_pu0) hPu) hd_X10_tryLine 18 hT
set_option maxRecDepth 20000 in
theorem b_X10_tryLine_60 {G : z_G} {d : Nat} {r : z_Res} (hPu : z_PuV G d (t_X10 z_pu0)) {h : z_H} {x0 : Nat} {x2 : Int32} (hT : (z_kd h x0 = 26 ∧ (z_rc (z_or h x0 1) (z_kd h x0 = 26 ∧ False) (fun x_1 => (z_kd h x0 = 26 ∧ (z_kd h x_1 = 1 ∧ vp_in (z_oi h x0 2) (z_ln h x_1) ∧ (z_kd (z_pai h x_1 (Int32.toNatClampNeg (z_oi h x0 2)) x2) x0 = 26 ∧ (z_kd (z_pai h x_1 (Int32.toNatClampNeg (z_oi h x0 2)) x2) x0 = 26 ∧ (z_kd (z_poi (z_pai h x_1 (Int32.toNatClampNeg (z_oi h x0 2)) x2) x0 2 ((z_oi (z_pai h x_1 (Int32.toNatClampNeg (z_oi h x0 2)) x2) x0 2) + (nI 1))) x0 = 26 ∧ (z_kd (z_poi (z_pai h x_1 (Int32.toNatClampNeg (z_oi h x0 2)) x2) x0 2 ((z_oi (z_pai h x_1 (Int32.toNatClampNeg (z_oi h x0 2)) x2) x0 2) + (nI 1))) x0 = 26 ∧ r = (.inl none, z_poi (z_poi (z_pai h x_1 (Int32.toNatClampNeg (z_oi h x0 2)) x2) x0 2 ((z_oi (z_pai h x_1 (Int32.toNatClampNeg (z_oi h x0 2)) x2) x0 2) + (nI 1))) x0 3 ((z_oi (z_poi (z_pai h x_1 (Int32.toNatClampNeg (z_oi h x0 2)) x2) x0 2 ((z_oi (z_pai h x_1 (Int32.toNatClampNeg (z_oi h x0 2)) x2) x0 2) + (nI 1))) x0 3) + (nI 1))))))))))))) : (z_J G (d + 1) (m_X10_tryLine z_pu0) r) 60 [some (.ref x0), none, some (.int x2)] [] h := z_bq (v_X10 z_pu0 (vP_X10_tryLine z_pu0) hPu) hd_X10_tryLine 21 hT
theorem en_X10_leaveOut {pu : Nat → Option ((List Value → z_H → Prop) × (List Value → z_H → Int32))} {G : z_G} {d : Nat} {r : z_Res} {h : z_H} {x0 : Nat} {x1 : Int32} (hJ : z_J G d (m_X10_leaveOut pu) r 0 [some (.ref x0), some (.int x1), none] [] h) : z_Ev G d k_X10_leaveOut [.ref x0, .int x1] h r := z_enter (μ := m_X10_leaveOut pu) rfl (by decide) rfl rfl (fun q => by cases q) (Nat.le_of_ble_eq_true rfl) hJ
def hd_X10_leaveOut : Nat → Option (List Bool) := (fun k => (cond (Nat.blt k 43) (cond (Nat.beq k 2) (some [true, false, true]) none) none))
set_option maxRecDepth 20000 in
theorem b_X10_leaveOut_0 {G : z_G} {d : Nat} {r : z_Res} (hPu : z_PuV G d (t_X10 z_pu0)) {h : z_H} {x0 : Nat} {x1 : Int32} (hT : (z_J G (d + 1) (m_X10_leaveOut z_pu0) r) 2 [some (.ref x0), none, some (.int x1)] [] h) : (z_J G (d + 1) (m_X10_leaveOut z_pu0) r) 0 [some (.ref x0), some (.int x1), none] [] h := z_bq (v_X10 z_pu0 (vP_X10_leaveOut z_pu0) hPu) hd_X10_leaveOut 5 hT
set_option maxRecDepth 20000 in
theorem b_X10_leaveOut_2 {G : z_G} {d : Nat} {r : z_Res} (hPu : z_PuV G d (t_X10 z_pu0)) {h : z_H} {x0 : Nat} {x2 : Int32} (hT : (z_kd h x0 = 26 ∧ (if (x2 + (nI 1)) < (z_oi h x0 2) then (z_kd h x0 = 26 ∧ (z_rc (z_or h x0 1) (z_kd h x0 = 26 ∧ (z_rc (z_or h x0 1) False (fun x_2 => (z_kd h x_2 = 1 ∧ vp_in (x2 + (nI 1)) (z_ln h x_2) ∧ False)))) (fun x_1 => (z_kd h x0 = 26 ∧ (z_rc (z_or h x0 1) False (fun x_3 => (z_kd h x_3 = 1 ∧ vp_in (x2 + (nI 1)) (z_ln h x_3) ∧ (z_kd h x_1 = 1 ∧ vp_in x2 (z_ln h x_1) ∧ (z_J G (d + 1) (m_X10_leaveOut z_pu0) r) 2 [some (.ref x0), none, some (.int (x2 + (nI 1)))] [] (z_pai h x_1 (Int32.toNatClampNeg x2) (z_ai h x_3 (Int32.toNatClampNeg (x2 + (nI 1))))))))))))) else (z_kd h x0 = 26 ∧ (z_kd h x0 = 26 ∧ r = (.inl none, z_poi h x0 2 ((z_oi h x0 2) - (nI 1)))))))) : (z_J G (d + 1) (m_X10_leaveOut z_pu0) r) 2 [some (.ref x0), none, some (.int x2)] [] h := z_bq (v_X10 z_pu0 (vP_X10_leaveOut z_pu0) hPu) hd_X10_leaveOut 21 hT
/-! YEARS -/
def ysh (x : Nat) (h : z_H) : Prop := z_kd h x = 26 ∧ z_or h x 1 = some (x + 1) ∧ z_kd h (x + 1) = 1 ∧ z_ln h (x + 1) = 12
/-- the years' object stands at a state -/
def yIv (F : Nat → Int32) (A : Nat → Nat → Int32) (y : yS) : Prop := F 0 = y.1 ∧ F 2 = nI y.2.1.1.2.1 ∧ F 3 = nI y.2.2 ∧ (∀ l, l < y.2.1.1.2.1 → A 0 l = nI (y.2.1.1.2.2 l)) ∧ c_cok y.2.1
theorem ush_16 (y : Int32) : (z_ush y (nI 16)) &&& nI 32767 = nI (y.toBitVec.toNat >>> 16 % 32768) := by
  apply b_ext
  intro i hi
  rw [b_and, show bt (z_ush y (nI 16)) i = bt y (16 + i) from b_ushr 16 (by decide) y i, n_bt, n_bt, show (32768 : Nat) = 2 ^ 15 from rfl, Nat.testBit_mod_two_pow, show (32767 : Nat) = 2 ^ 15 - 1 from rfl, Nat.testBit_two_pow_sub_one, decide_eq_true hi, Nat.testBit_shiftRight]
  by_cases h15 : i < 15
  · rw [decide_eq_true h15]
    show (y.toBitVec.getLsbD (16 + i) && (true && true)) = (true && (true && y.toBitVec.toNat.testBit (16 + i)))
    rw [BitVec.getLsbD]
    simp
  · rw [decide_eq_false h15]; simp
section HC
variable {G : z_G} {d x q b : Nat} {h : z_H} {S : Sc} {F : Nat → Int32} {A : Nat → Nat → Int32}
theorem e10_draw (hs : ysh x h) {n : Nat} (h0 : 0 < n) (hn : n < 2 ^ 31) : z_Ev G (d + 4) k_X10_draw [.ref x, .int (nI n)] (z_hb h x 1 F A) (.inl (some (.int (nI (c_dr (c_sd (F 0)) n)))), z_hb h x 1 (z_u F 0 (c_sd (F 0))) A) := by
  refine en_X10_draw (b_X10_draw_0 (z_pu0V rfl) ⟨hs.1, hs.1, ?_⟩)
  rw [if_neg (nI_nlt (by omega) (by omega)), hb_oi, hb_poi, hb_oi, show z_u F 0 (F 0 * nI 1103515245 + nI 12345) 0 = c_sd (F 0) from u_eq _ _ _, ush_16, pk_rem (by have := Nat.mod_lt ((c_sd (F 0)).toBitVec.toNat >>> 16) (show 0 < 32768 by decide); omega) h0 hn]
  exact ⟨hs.1, fun e => by have := (nI_eq hn (by decide)).mp e; omega, rfl⟩
theorem pc_3 : ∀ a, a < 8 → ∀ b, b < 8 → ∀ c, c < 8 → n_pc (2 ^ a ||| 2 ^ b ||| 2 ^ c) ≤ 3 := by decide +kernel
/-- what a try for a line leaves -/
def g_try (y : yS) : yS := if n_pc (c_yx y.1 y.2.1.1.1) < 3 ∨ c_canAdd y.2.1.1 (nI (c_yx y.1 y.2.1.1.1)) = false then (c_sd (c_sd (c_sd y.1)), y.2) else (c_sd (c_sd (c_sd y.1)), op_add y.2.1 (c_yx y.1 y.2.1.1.1), y.2.2 + 1)
theorem e10_tryLine (hs : ysh x h) {y : yS} (hy : yIv F A y) : ∃ F' A', yIv F' A' (g_try y) ∧ z_Ev G (d + 5) k_X10_tryLine [.ref x, .int (nI y.2.1.1.1)] (z_hb h x 1 F A) (.inl none, z_hb h x 1 F' A') := by
  obtain ⟨f0, f2, f3, fr, hc⟩ := hy
  have hn := hc.1.1
  have hm := hc.1.2.1
  have dl : ∀ s, c_dr s y.2.1.1.1 < y.2.1.1.1 := fun s => dr_lt s (by omega)
  have d1 := dl (c_sd y.1)
  have d2 := dl (c_sd (c_sd y.1))
  have d3 := dl (c_sd (c_sd (c_sd y.1)))
  obtain ⟨w, ew⟩ : ∃ w, w = c_yx y.1 y.2.1.1.1 := ⟨_, rfl⟩
  have ew' : w = 2 ^ c_dr (c_sd y.1) y.2.1.1.1 ||| 2 ^ c_dr (c_sd (c_sd y.1)) y.2.1.1.1 ||| 2 ^ c_dr (c_sd (c_sd (c_sd y.1))) y.2.1.1.1 := ew
  have wl : w < 2 ^ y.2.1.1.1 := by
    rw [ew']
    exact Nat.or_lt_two_pow (Nat.or_lt_two_pow (Nat.pow_lt_pow_right (by decide) d1) (Nat.pow_lt_pow_right (by decide) d2)) (Nat.pow_lt_pow_right (by decide) d3)
  have w256 : w < 256 := Nat.lt_of_lt_of_le wl (p2_9 hn.2)
  have w3 : n_pc w ≤ 3 := by rw [ew']; exact pc_3 _ (by omega) _ (by omega) _ (by omega)
  obtain ⟨s3, es3⟩ : ∃ s, s = c_sd (c_sd (c_sd y.1)) := ⟨_, rfl⟩
  have start : ∀ R : z_Res, z_J G (d + 5) (m_X10_tryLine z_pu0) R 28 [some (.ref x), none, some (.int (nI w))] [] (z_hb h x 1 (z_u F 0 s3) A) → z_Ev G (d + 5) k_X10_tryLine [.ref x, .int (nI y.2.1.1.1)] (z_hb h x 1 F A) R := by
    intro R hJ
    refine en_X10_tryLine (b_X10_tryLine_0 (z_pu0V rfl) ⟨hs.1, _, _, e10_draw hs (by omega) (by omega), hs.1, _, _, e10_draw hs (by omega) (by omega), hs.1, _, _, e10_draw hs (by omega) (by omega), ?_⟩)
    rw [u_eq, u_u, u_eq, u_u, f0, ← es3, show nI 1 <<< (nI (c_dr (c_sd y.1) y.2.1.1.1) &&& nI 31) = nI (2 ^ c_dr (c_sd y.1) y.2.1.1.1) from n_one (by omega), show nI 1 <<< (nI (c_dr (c_sd (c_sd y.1)) y.2.1.1.1) &&& nI 31) = nI (2 ^ c_dr (c_sd (c_sd y.1)) y.2.1.1.1) from n_one (by omega), show nI 1 <<< (nI (c_dr s3 y.2.1.1.1) &&& nI 31) = nI (2 ^ c_dr s3 y.2.1.1.1) from n_one (by rw [es3]; omega), fa_or, fa_or, es3, ← ew', ← es3]
    exact hJ
  have fu : ∀ k, k ≠ 0 → z_u F 0 s3 k = F k := fun k hk => u_ne _ _ hk
  have rows : ∀ F', z_ai (z_hb h x 1 F' A) (x + 1) = A 0 := fun F' => hb_ai h x 1 F' A (j := 0) (by decide)
  have two := two_any y.2.1.1 w
  have no : (n_pc w < 3 ∨ c_canAdd y.2.1.1 (nI w) = false) → yIv (z_u F 0 s3) A (g_try y) := fun hno => by
    unfold g_try
    rw [← ew, if_pos hno]
    exact ⟨by rw [u_eq, es3], by rw [fu 2 (by decide)]; exact f2, by rw [fu 3 (by decide)]; exact f3, fr, hc⟩
  have can : c_canAdd y.2.1.1 (nI w) = (decide (2 ≤ n_pc w ∧ n_pc w ≤ 4) && (!c_two y.2.1.1 w && decide (y.2.1.1.2.1 < 12))) := by
    unfold c_canAdd
    rw [nI_clamp (show w < 2 ^ 31 by omega), show c_in (nI w) (2 ^ y.2.1.1.1) = true from decide_eq_true ⟨nI_nlt (Nat.zero_le _) (by omega), by rw [nI_clamp (by omega)]; exact wl⟩, Bool.true_and]
  have pcw := n_pc12 w (by omega)
  by_cases c1 : n_pc w = 3
  · by_cases c2 : y.2.1.1.2.1 < 12
    · cases c3 : c_any (fun l => decide (1 < n_pc (w &&& y.2.1.1.2.2 l))) y.2.1.1.2.1
      · -- a new line
        have hcan : c_canAdd y.2.1.1 (nI w) = true := by
          rw [can, decide_eq_true ⟨by omega, by omega⟩, two, c3, decide_eq_true c2]; rfl
        have eg : g_try y = (s3, op_add y.2.1 w, y.2.2 + 1) := by
          unfold g_try
          rw [← ew, if_neg (by rw [hcan]; intro e; rcases e with e | e; omega; cases e), es3]
        refine ⟨z_u (z_u (z_u F 0 s3) 2 (nI (y.2.1.1.2.1 + 1))) 3 (nI (y.2.2 + 1)), z_u A 0 (z_u (A 0) y.2.1.1.2.1 (nI w)), ?_, start _ (b_X10_tryLine_28 (z_pu0V rfl) ⟨_, _, e_bits (by omega), ?_⟩)⟩
        · rw [eg]
          refine ⟨by rw [u_ne _ _ (by decide), u_ne _ _ (by decide), u_eq], by rw [u_ne _ _ (by decide), u_eq]; rfl, by rw [u_eq], fun l hl => ?_, cok_add hc wl ⟨by omega, by omega⟩ (by rw [two]; exact c3) c2⟩
          have hl' : l < y.2.1.1.2.1 + 1 := hl
          rw [u_eq]
          show z_u (A 0) y.2.1.1.2.1 (nI w) l = nI (z_u y.2.1.1.2.2 y.2.1.1.2.1 w l)
          by_cases e : l = y.2.1.1.2.1
          · rw [e, u_eq, u_eq]
          · rw [u_ne _ _ e, u_ne _ _ e]; exact fr l (by omega)
        · rw [if_pos (by rw [c1]), hb_oi, fu 2 (by decide), f2, if_pos (nI_lt c2 (by decide)), hb_or, hs.2.1, z_rcs]
          refine ⟨hs.1, hs.1, hs.1, _, _, e8_keepsApart (h := z_hb h x 1 (z_u F 0 s3) A) (m := y.2.1.1.2.1) (L := y.2.1.1.2.2) hs.2.2.1 (by rw [hb_ln, hs.2.2.2]; exact hm) (by rw [hb_ln, hs.2.2.2]; decide) (fun l hl => by rw [rows]; exact fr l hl) w256, ?_⟩
          rw [c3, if_neg (by decide)]
          refine b_X10_tryLine_60 (z_pu0V rfl) ⟨hs.1, ?_⟩
          have hp : z_pai (z_hb h x 1 (z_u F 0 s3) A) (x + 1) y.2.1.1.2.1 (nI w) = z_hb h x 1 (z_u F 0 s3) (z_u A 0 (z_u (A 0) y.2.1.1.2.1 (nI w))) := hb_pai h x 1 _ A (j := 0) (by decide) _ _
          rw [hb_or, hs.2.1, z_rcs, hb_oi, fu 2 (by decide), f2, nI_clamp (by omega), hp, hb_oi, fu 2 (by decide), f2, nI_add, hb_poi, hb_oi, u_ne _ _ (by decide), fu 3 (by decide), f3, nI_add, hb_poi]
          exact ⟨hs.1, hs.2.2.1, by rw [hb_ln, hs.2.2.2]; exact vp_in_nI c2 (by decide), hs.1, hs.1, hs.1, hs.1, rfl⟩
      · have hno : n_pc w < 3 ∨ c_canAdd y.2.1.1 (nI w) = false := Or.inr (by rw [can, two, c3, Bool.not_true, Bool.false_and, Bool.and_false])
        refine ⟨_, _, no hno, start _ (b_X10_tryLine_28 (z_pu0V rfl) ⟨_, _, e_bits (by omega), ?_⟩)⟩
        rw [if_pos (by rw [c1]), hb_oi, fu 2 (by decide), f2, if_pos (nI_lt c2 (by decide)), hb_or, hs.2.1, z_rcs]
        refine ⟨hs.1, hs.1, hs.1, _, _, e8_keepsApart (h := z_hb h x 1 (z_u F 0 s3) A) (m := y.2.1.1.2.1) (L := y.2.1.1.2.2) hs.2.2.1 (by rw [hb_ln, hs.2.2.2]; exact hm) (by rw [hb_ln, hs.2.2.2]; decide) (fun l hl => by rw [rows]; exact fr l hl) w256, ?_⟩
        rw [c3, if_pos (by rfl)]
    · have hno : n_pc w < 3 ∨ c_canAdd y.2.1.1 (nI w) = false := Or.inr (by rw [can, decide_eq_false c2, Bool.and_false, Bool.and_false])
      refine ⟨_, _, no hno, start _ (b_X10_tryLine_28 (z_pu0V rfl) ⟨_, _, e_bits (by omega), ?_⟩)⟩
      rw [if_pos (by rw [c1]), hb_oi, fu 2 (by decide), f2, if_neg (nI_nlt (by omega) (by omega))]
      exact ⟨hs.1, rfl⟩
  · refine ⟨_, _, no (Or.inl (by omega)), start _ (b_X10_tryLine_28 (z_pu0V rfl) ⟨_, _, e_bits (by omega), ?_⟩)⟩
    rw [if_neg (fun e => c1 ((nI_eq (by omega) (by decide)).mp e))]
theorem e10_leaveOut (hs : ysh x h) {y : yS} (hy : yIv F A y) {l : Nat} (hl : l < y.2.1.1.2.1) : ∃ F' A', yIv F' A' (y.1, op_drop y.2.1 l, y.2.2) ∧ z_Ev G (d + 4) k_X10_leaveOut [.ref x, .int (nI l)] (z_hb h x 1 F A) (.inl none, z_hb h x 1 F' A') := by
  obtain ⟨f0, f2, f3, fr, hc⟩ := hy
  have hm := hc.1.2.1
  obtain ⟨m, em⟩ : ∃ m, m = y.2.1.1.2.1 := ⟨_, rfl⟩
  rw [← em] at f2 fr hl hm
  refine ⟨z_u F 2 (nI (m - 1)), z_u A 0 (fun i => if l ≤ i ∧ i + 1 < m then A 0 (i + 1) else A 0 i), ⟨by rw [u_ne _ _ (by decide)]; exact f0, by rw [u_eq, em]; rfl, by rw [u_ne _ _ (by decide)]; exact f3, fun i hi => ?_, cok_drop hc (by omega)⟩, en_X10_leaveOut (b_X10_leaveOut_0 (z_pu0V rfl) ?_)⟩
  · have hi' : i < m - 1 := by rw [em]; exact hi
    rw [u_eq]
    show (if l ≤ i ∧ i + 1 < m then A 0 (i + 1) else A 0 i) = nI (if i < l then y.2.1.1.2.2 i else if i + 1 < y.2.1.1.2.1 then y.2.1.1.2.2 (i + 1) else 0)
    by_cases c : i < l
    · rw [if_pos c, if_neg (by omega)]; exact fr i (by omega)
    · rw [if_neg c, if_pos ⟨by omega, by omega⟩, if_pos (by omega)]; exact fr (i + 1) (by omega)
  · have rows : ∀ F' (B : Nat → Nat → Int32), z_ai (z_hb h x 1 F' B) (x + 1) = B 0 := fun F' B => hb_ai h x 1 F' B (j := 0) (by decide)
    have key := z_forH (G := G) (d := d + 4) (μ := m_X10_leaveOut z_pu0) (r := (.inl none, z_hb h x 1 (z_u F 2 (nI (m - 1))) (z_u A 0 (fun i => if l ≤ i ∧ i + 1 < m then A 0 (i + 1) else A 0 i)))) (pc := 2) (fun k (_ : Unit) => [some (.ref x), none, some (.int (nI (l + k)))]) (fun k _ => z_hb h x 1 F (z_u A 0 (fun i => if l ≤ i ∧ i < l + k then A 0 (i + 1) else A 0 i))) (fun _ u => u) () (m - 1 - l) ?_ ?_
    · rw [show (fun i => if l ≤ i ∧ i < l + 0 then A 0 (i + 1) else A 0 i) = A 0 from funext fun i => if_neg (by omega), u_self] at key
      exact key
    · intro k hk hJ
      have hp : ∀ v, z_pai (z_hb h x 1 F (z_u A 0 (fun i => if l ≤ i ∧ i < l + k then A 0 (i + 1) else A 0 i))) (x + 1) (l + k) v = z_hb h x 1 F (z_u (z_u A 0 (fun i => if l ≤ i ∧ i < l + k then A 0 (i + 1) else A 0 i)) 0 (z_u (z_u A 0 (fun i => if l ≤ i ∧ i < l + k then A 0 (i + 1) else A 0 i) 0) (l + k) v)) := fun v => hb_pai h x 1 _ _ (j := 0) (by decide) _ _
      refine b_X10_leaveOut_2 (z_pu0V rfl) ⟨hs.1, ?_⟩
      rw [hb_oi, f2, nI_add, if_pos (nI_lt (by omega) (by omega)), hb_or, hs.2.1, z_rcs, z_rcs, nI_clamp (by omega), nI_clamp (by omega), rows, hp, u_eq, u_u, if_neg (show ¬ (l ≤ l + k + 1 ∧ l + k + 1 < l + k) by omega)]
      refine ⟨hs.1, hs.1, hs.2.2.1, by rw [hb_ln, hs.2.2.2]; exact vp_in_nI (by omega) (by decide), hs.2.2.1, by rw [hb_ln, hs.2.2.2]; exact vp_in_nI (by omega) (by decide), ?_⟩
      rw [show z_u (fun i => if l ≤ i ∧ i < l + k then A 0 (i + 1) else A 0 i) (l + k) (A 0 (l + k + 1)) = fun i => if l ≤ i ∧ i < l + (k + 1) then A 0 (i + 1) else A 0 i from funext fun i => by
        by_cases e : i = l + k
        · rw [e, u_eq, if_pos ⟨by omega, by omega⟩]
        · rw [u_ne _ _ e]
          by_cases c : l ≤ i ∧ i < l + k
          · rw [if_pos c, if_pos ⟨c.1, by omega⟩]
          · rw [if_neg c, if_neg (by omega)]]
      exact hJ
    · refine b_X10_leaveOut_2 (z_pu0V rfl) ⟨hs.1, ?_⟩
      rw [hb_oi, f2, nI_add, if_neg (nI_nlt (by omega) (by omega)), q_sub (show 1 ≤ m by omega), hb_poi, show (fun i => if l ≤ i ∧ i < l + (m - 1 - l) then A 0 (i + 1) else A 0 i) = fun i => if l ≤ i ∧ i + 1 < m then A 0 (i + 1) else A 0 i from funext fun i => if_cg (by omega)]
      exact ⟨hs.1, hs.1, rfl⟩
theorem try_F (y : yS) : c_yF y = if c_dr (c_sd y.1) 3 < 2 then g_try (c_sd y.1, y.2) else if 0 < y.2.1.1.2.1 then (c_sd (c_sd y.1), op_drop y.2.1 (c_dr (c_sd (c_sd y.1)) y.2.1.1.2.1), y.2.2) else (c_sd y.1, y.2) := rfl
theorem e10_run (hs : ysh x h) (hA : sc_at q b h S) (hx : x ≠ q) (hr : x + 1 < b ∨ b + 8 ≤ x + 1) {cd : Cd} (hc : c_cok cd) (hS : cd.1 = S) (sd : Int32) {n : Nat} (hn : n < 2 ^ 31) : ∃ F A, yIv F A (c_yA cd sd n) ∧ z_Ev G (d + 6) k_X10_run [.ref x, .ref q, .int sd, .int (nI n)] h (.inl none, z_hb h x 1 F A) := by
  have hm := y_m12 hA
  have hAs : ∀ F A, sc_at q b (z_hb h x 1 F A) S := fun F A => hb_sc hA hx hr
  have h0 := hb_self h x 1
  obtain ⟨F0, eF0⟩ : ∃ F, F = z_oi h x := ⟨_, rfl⟩
  obtain ⟨A0, eA0⟩ : ∃ A : Nat → Nat → Int32, A = fun j => z_ai h (x + 1 + j) := ⟨_, rfl⟩
  rw [← eF0, ← eA0] at h0
  -- the loop over years
  have loop : ∀ k i F A, i + k = n → yIv F A (c_yA cd sd i) → ∃ F' A', yIv F' A' (c_yA cd sd n) ∧ z_J G (d + 6) (m_X10_run z_pu0) (.inl none, z_hb h x 1 F' A') 38 [some (.ref x), some (.ref q), none, some (.int (nI n)), some (.int (nI i))] [] (z_hb h x 1 F A) := by
    intro k
    induction k with
    | zero =>
      intro i F A hi hy
      rw [show i = n by omega] at hy ⊢
      refine ⟨F, A, hy, b_X10_run_38 (z_pu0V rfl) ?_⟩
      rw [if_neg (nI_nlt (Nat.le_refl _) (by omega))]
    | succ k ih =>
      intro i F A hi hy
      have hstep := c_yA_s cd sd i
      obtain ⟨y, ey⟩ : ∃ y, y = c_yA cd sd i := ⟨_, rfl⟩
      have hpt : y.2.1.1.1 = S.1 := by
        rw [ey]
        have : ∀ i, (c_yA cd sd i).2.1.1.1 = S.1 := by
          intro i
          induction i with
          | zero => show cd.1.1 = S.1; rw [hS]
          | succ i ih2 =>
            rw [← c_yA_s, try_F]
            split
            · unfold g_try
              split
              · exact ih2
              · exact ih2
            · split
              · exact ih2
              · exact ih2
        exact this i
      rw [← ey] at hy hstep
      have hy' := hy
      obtain ⟨f0, f2, f3, fr, hck⟩ := hy'
      have hm' := hck.1.2.1
      have dr3 := dr_lt (c_sd y.1) (show 0 < 3 by decide)
      have fu : ∀ k, k ≠ 0 → z_u F 0 (c_sd y.1) k = F k := fun k hk => u_ne _ _ hk
      have hy1 : yIv (z_u F 0 (c_sd y.1)) A (c_sd y.1, y.2) := ⟨u_eq _ _ _, by rw [fu 2 (by decide)]; exact f2, by rw [fu 3 (by decide)]; exact f3, fr, hck⟩
      have ed := e10_draw (G := G) (d := d + 1) (F := F) (A := A) hs (n := 3) (by decide) (by decide)
      rw [f0] at ed
      rw [try_F] at hstep
      by_cases c1 : c_dr (c_sd y.1) 3 < 2
      · rw [if_pos c1] at hstep
        obtain ⟨F1, A1, hy2, et⟩ := e10_tryLine (G := G) (d := d) hs hy1
        rw [hstep] at hy2
        obtain ⟨F', A', hfin, hJ⟩ := ih (i + 1) F1 A1 (by omega) hy2
        refine ⟨F', A', hfin, b_X10_run_38 (z_pu0V rfl) ?_⟩
        rw [if_pos (nI_lt (by omega) (by omega)), nI_add]
        refine ⟨hs.1, _, _, ed, ?_⟩
        rw [if_pos (nI_lt c1 (by decide)), y_n (hAs _ _), ← hpt]
        exact ⟨y_kd (hAs _ _), hs.1, _, et, hJ⟩
      · rw [if_neg c1] at hstep
        by_cases c2 : 0 < y.2.1.1.2.1
        · rw [if_pos c2] at hstep
          have ed2 := e10_draw (G := G) (d := d + 1) (F := z_u F 0 (c_sd y.1)) (A := A) hs (n := y.2.1.1.2.1) c2 (by omega)
          rw [u_eq, u_u] at ed2
          have hy3 : yIv (z_u F 0 (c_sd (c_sd y.1))) A (c_sd (c_sd y.1), y.2) := ⟨u_eq _ _ _, by rw [u_ne _ _ (by decide)]; exact f2, by rw [u_ne _ _ (by decide)]; exact f3, fr, hck⟩
          obtain ⟨F1, A1, hy2, et⟩ := e10_leaveOut (G := G) (d := d + 1) hs hy3 (l := c_dr (c_sd (c_sd y.1)) y.2.1.1.2.1) (dr_lt _ c2)
          rw [hstep] at hy2
          obtain ⟨F', A', hfin, hJ⟩ := ih (i + 1) F1 A1 (by omega) hy2
          refine ⟨F', A', hfin, b_X10_run_38 (z_pu0V rfl) ?_⟩
          rw [if_pos (nI_lt (by omega) (by omega)), nI_add]
          refine ⟨hs.1, _, _, ed, ?_⟩
          rw [if_neg (nI_nlt (by omega) (by omega)), hb_oi, fu 2 (by decide), f2, if_pos (nI_lt c2 (by omega))]
          exact ⟨hs.1, hs.1, hs.1, _, _, ed2, hs.1, _, et, hJ⟩
        · rw [if_neg c2] at hstep
          rw [hstep] at hy1
          obtain ⟨F', A', hfin, hJ⟩ := ih (i + 1) _ A (by omega) hy1
          refine ⟨F', A', hfin, b_X10_run_38 (z_pu0V rfl) ?_⟩
          rw [if_pos (nI_lt (by omega) (by omega)), nI_add]
          refine ⟨hs.1, _, _, ed, ?_⟩
          rw [if_neg (nI_nlt (by omega) (by omega)), hb_oi, fu 2 (by decide), f2, if_neg (nI_nlt (by omega) (by omega))]
          exact ⟨hs.1, hJ⟩
  obtain ⟨F1, eF1⟩ : ∃ F, F = z_u (z_u (z_u F0 0 sd) 2 (nI S.2.1)) 3 (nI 0) := ⟨_, rfl⟩
  obtain ⟨A1, eA1⟩ : ∃ A, A = z_u A0 0 (va_cpy (z_ai h (b + 5)) (A0 0) 0 0 S.2.1) := ⟨_, rfl⟩
  have hy0 : yIv F1 A1 (c_yA cd sd 0) := by
    refine ⟨by rw [eF1, u_ne _ _ (by decide), u_ne _ _ (by decide), u_eq]; rfl, by rw [eF1, u_ne _ _ (by decide), u_eq]; show nI S.2.1 = nI cd.1.2.1; rw [hS], by rw [eF1, u_eq]; rfl, fun l hl => ?_, hc⟩
    have hl' : l < cd.1.2.1 := hl
    rw [hS] at hl'
    rw [eA1, u_eq]
    unfold va_cpy
    rw [if_pos ⟨Nat.zero_le _, by omega⟩, Nat.zero_add, Nat.sub_zero, y_Ln hA hl']
    show nI (S.2.2 l) = nI (cd.1.2.2 l)
    rw [hS]
  obtain ⟨F', A', hfin, hJ⟩ := loop n 0 F1 A1 (by omega) hy0
  refine ⟨F', A', hfin, en_X10_run (b_X10_run_0 (z_pu0V rfl) ?_)⟩
  have hpx : ∀ F f, z_pax (z_hb h x 1 F A0) (x + 1) f = z_hb h x 1 F (z_u A0 0 f) := fun F f => hb_pax h x 1 F A0 (j := 0) (by decide) f
  have rows : ∀ F, z_ai (z_hb h x 1 F A0) (x + 1) = A0 0 := fun F' => hb_ai h x 1 F' A0 (j := 0) (by decide)
  have row5 : ∀ F, z_ai (z_hb h x 1 F A0) (b + 5) = z_ai h (b + 5) := fun F => hb_out h x 1 F A0 (by omega)
  refine ⟨hs.1, ?_⟩
  rw [show z_poi h x 0 sd = z_hb h x 1 (z_u F0 0 sd) A0 by rw [← hb_poi, h0]]
  refine b_X10_run_5 (z_pu0V rfl) ⟨y_kd (hAs _ _), hs.1, ?_⟩
  rw [y_m (hAs _ _), hb_poi]
  refine b_X10_run_13 (z_pu0V rfl) ⟨hs.1, ?_⟩
  rw [hb_poi, ← eF1]
  refine b_X10_run_18 (z_pu0V rfl) ⟨y_kd (hAs _ _), ?_⟩
  rw [(y_row (hAs _ _)).1, z_rcs, hb_or, hs.2.1, z_rcs, hb_oi, show F1 2 = nI S.2.1 by rw [eF1, u_ne _ _ (by decide), u_eq], nI_clamp (by omega), nI_clamp (by omega), hpx, rows, row5, ← eA1]
  refine ⟨hs.1, hs.1, ⟨by decide, by decide, nI_nlt (Nat.zero_le _) (by omega), ?_, ?_⟩, Or.inl ⟨(y_row (hAs F1 A0)).2.1, hs.2.2.1, hJ⟩⟩
  · rw [hb_ln, (y_row hA).2.2]; omega
  · rw [hb_ln, hs.2.2.2]; omega
end HC
