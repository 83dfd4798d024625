theorem en_X12_draw {pu : Nat → Option ((List Value → z_H → Prop) × (List Value → z_H → Int32))} {G : z_G} {d : Nat} {r : z_Res} {h : z_H} {x0 : Nat} {x1 : Int32} (hJ : z_J G d (m_X12_draw pu) r 0 [some (.ref x0), some (.int x1)] [] h) : z_Ev G d k_X12_draw [.ref x0, .int x1] h r := z_enter (μ := m_X12_draw pu) rfl (by decide) rfl rfl (fun q => by cases q) (Nat.le_of_ble_eq_true rfl) hJ
def hd_X12_draw : Nat → Option (List Bool) := (fun k => none)
set_option maxRecDepth 20000 in
theorem b_X12_draw_0 {G : z_G} {d : Nat} {r : z_Res} (hPu : z_PuV G d (t_X12 z_puC)) {h : z_H} {x0 : Nat} {x1 : Int32} (hT : (z_kd h x0 = 28 ∧ (z_kd h x0 = 28 ∧ (z_kd (z_poi h x0 45 (((z_oi h x0 45) * (nI 1103515245)) + (nI 12345))) x0 = 28 ∧ (¬ x1 = (nI 0) ∧ r = (.inl (some (.int ((((z_oi (z_poi h x0 45 (((z_oi h x0 45) * (nI 1103515245)) + (nI 12345))) x0 45) >>> ((nI 16) &&& (nI 31))) &&& (nI 32767)) - (((z_oi (z_poi h x0 45 (((z_oi h x0 45) * (nI 1103515245)) + (nI 12345))) x0 45) >>> ((nI 16) &&& (nI 31))) &&& (nI 32767)) / x1 * x1))), z_poi h x0 45 (((z_oi h x0 45) * (nI 1103515245)) + (nI 12345)))))))) : (z_J G (d + 1) (m_X12_draw z_puC) r) 0 [some (.ref x0), some (.int x1)] [] h := z_bq (v_X12 z_puC (vP_X12_draw z_puC) hPu) hd_X12_draw 19 hT
theorem en_X12_years {pu : Nat → Option ((List Value → z_H → Prop) × (List Value → z_H → Int32))} {G : z_G} {d : Nat} {r : z_Res} {h : z_H} {x0 : Nat} {x1 : Int32} {x2 : Int32} {x3 : Int32} (hJ : z_J G d (m_X12_years pu) r 0 [some (.ref x0), some (.int x1), some (.int x2), some (.int x3), none, none, none, none, none, none] [] h) : z_Ev G d k_X12_years [.ref x0, .int x1, .int x2, .int x3] h r := z_enter (μ := m_X12_years pu) rfl (by decide) rfl rfl (fun q => by cases q) (Nat.le_of_ble_eq_true rfl) hJ
def hd_X12_years : Nat → Option (List Bool) := (fun k => (cond (Nat.blt k 220) (cond (Nat.beq k 58) (some [true, false, true, true, true, true, false, false, false, false]) none) none))
set_option maxRecDepth 20000 in
theorem b_X12_years_0 {G : z_G} {d : Nat} {r : z_Res} (hPu : z_PuV G d (t_X12 z_puC)) {h : z_H} {x0 : Nat} {x1 : Int32} {x2 : Int32} {x3 : Int32} (hT : (z_kd h x0 = 28 ∧ (s_X12_isIn x3 (nI 0) (nI 2) (z_poi h x0 0 (nI 0)) ∧ (if (f_X12_isIn x3 (nI 0) (nI 2) (z_poi h x0 0 (nI 0))) = (nI 0) then (z_kd (z_poi h x0 0 (nI 0)) x0 = 28 ∧ ∃ x_2 h_1, z_Ev G d k_X12_fail [.ref x0, .int (nI 1)] (z_poi h x0 0 (nI 0)) (.inl (some (.int x_2)), h_1) ∧ r = (.inl (some (.int x_2)), h_1)) else (s_X12_isIn x2 (nI 0) (nI 60) (z_poi h x0 0 (nI 0)) ∧ (if (f_X12_isIn x2 (nI 0) (nI 60) (z_poi h x0 0 (nI 0))) = (nI 0) then (z_kd (z_poi h x0 0 (nI 0)) x0 = 28 ∧ ∃ x_4 h_3, z_Ev G d k_X12_fail [.ref x0, .int (nI 2)] (z_poi h x0 0 (nI 0)) (.inl (some (.int x_4)), h_3) ∧ r = (.inl (some (.int x_4)), h_3)) else (z_kd (z_poi h x0 0 (nI 0)) x0 = 28 ∧ (z_rc (z_or (z_poi h x0 0 (nI 0)) x0 46) (z_kd (z_poi h x0 0 (nI 0)) x0 = 28 ∧ (z_rc (z_or (z_poi h x0 0 (nI 0)) x0 1) (∃ h_7, z_Ev G d k_X12_copyTo [.null, .null] (z_poi h x0 0 (nI 0)) (.inl none, h_7) ∧ (z_kd h_7 x0 = 28 ∧ (z_J G (d + 1) (m_X12_years z_puC) r) 58 [some (.ref x0), none, some (.int x2), some (.int x3), some (.int (nI 0)), some (.int (nI 0)), none, none, none, none] [] (z_poi h_7 x0 45 x1))) (fun x_6 => (∃ h_8, z_Ev G d k_X12_copyTo [.null, .ref x_6] (z_poi h x0 0 (nI 0)) (.inl none, h_8) ∧ (z_kd h_8 x0 = 28 ∧ (z_J G (d + 1) (m_X12_years z_puC) r) 58 [some (.ref x0), none, some (.int x2), some (.int x3), some (.int (nI 0)), some (.int (nI 0)), none, none, none, none] [] (z_poi h_8 x0 45 x1)))))) (fun x_5 => (z_kd (z_poi h x0 0 (nI 0)) x0 = 28 ∧ (z_rc (z_or (z_poi h x0 0 (nI 0)) x0 1) (∃ h_10, z_Ev G d k_X12_copyTo [.ref x_5, .null] (z_poi h x0 0 (nI 0)) (.inl none, h_10) ∧ (z_kd h_10 x0 = 28 ∧ (z_J G (d + 1) (m_X12_years z_puC) r) 58 [some (.ref x0), none, some (.int x2), some (.int x3), some (.int (nI 0)), some (.int (nI 0)), none, none, none, none] [] (z_poi h_10 x0 45 x1))) (fun x_9 => (∃ h_11, z_Ev G d k_X12_copyTo [.ref x_5, .ref x_9] (z_poi h x0 0 (nI 0)) (.inl none, h_11) ∧ (z_kd h_11 x0 = 28 ∧ (z_J G (d + 1) (m_X12_years z_puC) r) 58 [some (.ref x0), none, some (.int x2), some (.int x3), some (.int (nI 0)), some (.int (nI 0)), none, none, none, none] [] (z_poi h_11 x0 45 x1))))))))))))))) : (z_J G (d + 1) (m_X12_years z_puC) r) 0 [some (.ref x0), some (.int x1), some (.int x2), some (.int x3), none, none, none, none, none, none] [] h := z_bq (v_X12 z_puC (vP_X12_years z_puC) hPu) hd_X12_years 28 hT
set_option maxRecDepth 20000 in
theorem b_X12_years_58 {G : z_G} {d : Nat} {r : z_Res} (hPu : z_PuV G d (t_X12 z_puC)) {h : z_H} {x0 : Nat} {x2 : Int32} {x3 : Int32} {x4 : Int32} {x5 : Int32} (hT : (if x5 < x2 then (z_kd h x0 = 28 ∧ ∃ x_2 h_1, z_Ev G d k_X12_draw [.ref x0, .int (nI 3)] h (.inl (some (.int x_2)), h_1) ∧ (if x_2 < (nI 2) then (z_kd h_1 x0 = 28 ∧ s_X12_points x0 h_1 ∧ (z_kd h_1 x0 = 28 ∧ ∃ x_4 h_3, z_Ev G d k_X12_draw [.ref x0, .int (f_X12_points x0 h_1)] h_1 (.inl (some (.int x_4)), h_3) ∧ (z_kd h_3 x0 = 28 ∧ s_X12_points x0 h_3 ∧ (z_kd h_3 x0 = 28 ∧ ∃ x_6 h_5, z_Ev G d k_X12_draw [.ref x0, .int (f_X12_points x0 h_3)] h_3 (.inl (some (.int x_6)), h_5) ∧ (z_kd h_5 x0 = 28 ∧ s_X12_points x0 h_5 ∧ (z_kd h_5 x0 = 28 ∧ ∃ x_8 h_7, z_Ev G d k_X12_draw [.ref x0, .int (f_X12_points x0 h_5)] h_5 (.inl (some (.int x_8)), h_7) ∧ (s_X12_bits ((((nI 1) <<< (x_4 &&& (nI 31))) ||| ((nI 1) <<< (x_6 &&& (nI 31)))) ||| ((nI 1) <<< (x_8 &&& (nI 31)))) h_7 ∧ (if (f_X12_bits ((((nI 1) <<< (x_4 &&& (nI 31))) ||| ((nI 1) <<< (x_6 &&& (nI 31)))) ||| ((nI 1) <<< (x_8 &&& (nI 31)))) h_7) < (nI 3) then (z_J G (d + 1) (m_X12_years z_puC) r) 58 [some (.ref x0), none, some (.int x2), some (.int x3), some (.int x4), some (.int (x5 + (nI 1))), none, none, none, none] [] h_7 else (z_kd h_7 x0 = 28 ∧ ∃ x_10 h_9, z_Ev G d k_X12_canAdd [.ref x0, .int ((((nI 1) <<< (x_4 &&& (nI 31))) ||| ((nI 1) <<< (x_6 &&& (nI 31)))) ||| ((nI 1) <<< (x_8 &&& (nI 31))))] h_7 (.inl (some (.int x_10)), h_9) ∧ (if x_10 = (nI 0) then (z_J G (d + 1) (m_X12_years z_puC) r) 58 [some (.ref x0), none, some (.int x2), some (.int x3), some (.int x4), some (.int (x5 + (nI 1))), none, none, none, none] [] h_9 else (z_kd h_9 x0 = 28 ∧ ∃ h_11, z_Ev G d k_X12_addNow [.ref x0, .int ((((nI 1) <<< (x_4 &&& (nI 31))) ||| ((nI 1) <<< (x_6 &&& (nI 31)))) ||| ((nI 1) <<< (x_8 &&& (nI 31))))] h_9 (.inl none, h_11) ∧ (z_J G (d + 1) (m_X12_years z_puC) r) 58 [some (.ref x0), none, some (.int x2), some (.int x3), some (.int (x4 + (nI 1))), some (.int (x5 + (nI 1))), none, none, none, none] [] h_11))))))))))) else (z_kd h_1 x0 = 28 ∧ s_X12_lines x0 h_1 ∧ (if (nI 0) < (f_X12_lines x0 h_1) then (z_kd h_1 x0 = 28 ∧ s_X12_lines x0 h_1 ∧ (z_kd h_1 x0 = 28 ∧ ∃ x_13 h_12, z_Ev G d k_X12_draw [.ref x0, .int (f_X12_lines x0 h_1)] h_1 (.inl (some (.int x_13)), h_12) ∧ (z_kd h_12 x0 = 28 ∧ ∃ x_15 h_14, z_Ev G d k_X12_dropNow [.ref x0, .int x_13] h_12 (.inl (some (.int x_15)), h_14) ∧ (z_J G (d + 1) (m_X12_years z_puC) r) 58 [some (.ref x0), none, some (.int x2), some (.int x3), some (.int x4), some (.int (x5 + (nI 1))), none, none, none, none] [] h_14))) else (z_J G (d + 1) (m_X12_years z_puC) r) 58 [some (.ref x0), none, some (.int x2), some (.int x3), some (.int x4), some (.int (x5 + (nI 1))), none, none, none, none] [] h_1)))) else (if x3 = (nI 0) then (z_kd h x0 = 28 ∧ s_X12_lines x0 h ∧ (z_kd h x0 = 28 ∧ (z_rc (z_or h x0 1) (z_kd h x0 = 28 ∧ (z_rc (z_or h x0 46) (∃ h_18, z_Ev G d k_X12_copyTo [.null, .null] h (.inl none, h_18) ∧ r = (.inl (some (.int (f_X12_lines x0 h))), h_18)) (fun x_17 => (∃ h_19, z_Ev G d k_X12_copyTo [.null, .ref x_17] h (.inl none, h_19) ∧ r = (.inl (some (.int (f_X12_lines x0 h))), h_19))))) (fun x_16 => (z_kd h x0 = 28 ∧ (z_rc (z_or h x0 46) (∃ h_21, z_Ev G d k_X12_copyTo [.ref x_16, .null] h (.inl none, h_21) ∧ r = (.inl (some (.int (f_X12_lines x0 h))), h_21)) (fun x_20 => (∃ h_22, z_Ev G d k_X12_copyTo [.ref x_16, .ref x_20] h (.inl none, h_22) ∧ r = (.inl (some (.int (f_X12_lines x0 h))), h_22))))))))) else (if x3 = (nI 1) then (z_kd h x0 = 28 ∧ ∃ x_24 h_23, z_Ev G d k_X12_triangles [.ref x0] h (.inl (some (.int x_24)), h_23) ∧ (z_kd h_23 x0 = 28 ∧ (z_rc (z_or h_23 x0 1) (z_kd h_23 x0 = 28 ∧ (z_rc (z_or h_23 x0 46) (∃ h_27, z_Ev G d k_X12_copyTo [.null, .null] h_23 (.inl none, h_27) ∧ r = (.inl (some (.int x_24)), h_27)) (fun x_26 => (∃ h_28, z_Ev G d k_X12_copyTo [.null, .ref x_26] h_23 (.inl none, h_28) ∧ r = (.inl (some (.int x_24)), h_28))))) (fun x_25 => (z_kd h_23 x0 = 28 ∧ (z_rc (z_or h_23 x0 46) (∃ h_30, z_Ev G d k_X12_copyTo [.ref x_25, .null] h_23 (.inl none, h_30) ∧ r = (.inl (some (.int x_24)), h_30)) (fun x_29 => (∃ h_31, z_Ev G d k_X12_copyTo [.ref x_25, .ref x_29] h_23 (.inl none, h_31) ∧ r = (.inl (some (.int x_24)), h_31))))))))) else (z_kd h x0 = 28 ∧ (z_rc (z_or h x0 1) (z_kd h x0 = 28 ∧ (z_rc (z_or h x0 46) (∃ h_34, z_Ev G d k_X12_copyTo [.null, .null] h (.inl none, h_34) ∧ r = (.inl (some (.int x4)), h_34)) (fun x_33 => (∃ h_35, z_Ev G d k_X12_copyTo [.null, .ref x_33] h (.inl none, h_35) ∧ r = (.inl (some (.int x4)), h_35))))) (fun x_32 => (z_kd h x0 = 28 ∧ (z_rc (z_or h x0 46) (∃ h_37, z_Ev G d k_X12_copyTo [.ref x_32, .null] h (.inl none, h_37) ∧ r = (.inl (some (.int x4)), h_37)) (fun x_36 => (∃ h_38, z_Ev G d k_X12_copyTo [.ref x_32, .ref x_36] h (.inl none, h_38) ∧ r = (.inl (some (.int x4)), h_38)))))))))))) : (z_J G (d + 1) (m_X12_years z_puC) r) 58 [some (.ref x0), none, some (.int x2), some (.int x3), some (.int x4), some (.int x5), none, none, none, none] [] h := z_bq (v_X12 z_puC (vP_X12_years z_puC) hPu) hd_X12_years 53 hT
/-! years -/
def c_sd (s : Int32) : Int32 := s * nI 1103515245 + nI 12345
def c_dr (s : Int32) (n : Nat) : Nat := (s.toBitVec.toNat >>> 16) % 32768 % n
theorem and_15 (y : Int32) : y &&& nI 32767 = nI (y.toBitVec.toNat % 32768) := by
  apply b_ext
  intro i hi
  rw [b_and, n_bt, n_bt, show (32768 : Nat) = 2 ^ 15 from rfl, Nat.testBit_mod_two_pow, show (32767 : Nat) = 2 ^ 15 - 1 from rfl, Nat.testBit_two_pow_sub_one, decide_eq_true hi]
  show (y.toBitVec.getLsbD i && (true && decide (i < 15))) = (true && (decide (i < 15) && y.toBitVec.toNat.testBit i))
  rw [BitVec.getLsbD]
  cases decide (i < 15) <;> simp
theorem and_16 (y : Int32) : (y >>> (nI 16 &&& nI 31)) &&& nI 32767 = nI (y.toBitVec.toNat >>> 16 % 32768) := by
  apply b_ext
  intro i hi
  rw [b_and, show bt (y >>> (nI 16 &&& nI 31)) i = _ from b_sshr 16 (by decide) y hi, n_bt, n_bt, show (32768 : Nat) = 2 ^ 15 from rfl, Nat.testBit_mod_two_pow, show (32767 : Nat) = 2 ^ 15 - 1 from rfl, Nat.testBit_two_pow_sub_one, decide_eq_true hi, Nat.testBit_shiftRight]
  by_cases h15 : i < 15
  · rw [if_pos (by omega), decide_eq_true h15]
    show (y.toBitVec.getLsbD (16 + i) && (true && true)) = (true && (true && y.toBitVec.toNat.testBit (16 + i)))
    rw [BitVec.getLsbD]
    simp
  · rw [decide_eq_false h15]; simp
abbrev yS : Type := Int32 × Cd × Nat
def c_yx (s : Int32) (n : Nat) : Nat := 2 ^ c_dr (c_sd s) n ||| 2 ^ c_dr (c_sd (c_sd s)) n ||| 2 ^ c_dr (c_sd (c_sd (c_sd s))) n
def c_yF (y : yS) : yS := if c_dr (c_sd y.1) 3 < 2 then (if n_pc (c_yx (c_sd y.1) y.2.1.1.1) < 3 ∨ c_canAdd y.2.1.1 (nI (c_yx (c_sd y.1) y.2.1.1.1)) = false then (c_sd (c_sd (c_sd (c_sd y.1))), y.2) else (c_sd (c_sd (c_sd (c_sd y.1))), op_add y.2.1 (c_yx (c_sd y.1) y.2.1.1.1), y.2.2 + 1)) else (if 0 < y.2.1.1.2.1 then (c_sd (c_sd y.1), op_drop y.2.1 (c_dr (c_sd (c_sd y.1)) y.2.1.1.2.1), y.2.2) else (c_sd y.1, y.2))
def c_yA (c : Cd) (s : Int32) (n : Nat) : yS := it (fun _ y => c_yF y) (s, c, 0) n
theorem it_s {α : Type} (f : Nat → α → α) (a : α) (k : Nat) : it f a (k + 1) = f k (it f a k) := rfl
theorem c_yA_s (c : Cd) (s : Int32) (n : Nat) : c_yF (c_yA c s n) = c_yA c s (n + 1) := by
  unfold c_yA
  rw [it_s]
def c_yV (y : yS) (w : Nat) : Nat := if w = 0 then y.2.1.1.2.1 else if w = 1 then c_tris y.2.1.1 else y.2.2
def c_years (c : Cd) (s n w : Int32) : Int32 × Int32 := if c_in w 3 then (if c_in n 61 then (nI (c_yV (c_yA c s n.toNatClampNeg) w.toNatClampNeg), nI 0) else (nI 0, nI 2)) else (nI 0, nI 1)
section CZ
variable {G : z_G} {d : Nat} {h : z_H} {M : Nat} {F : Nat → Int32} {A : Nat → Nat → Int32}
theorem e_draw (hM : z_sh M h) {n : Nat} (h0 : 0 < n) (hn : n < 2 ^ 31) : z_Ev G (d + 4) k_X12_draw [.ref M, .int (nI n)] (z_rs h M F A) (.inl (some (.int (nI (c_dr (c_sd (F 45)) n)))), z_rs h M (z_u F 45 (c_sd (F 45))) A) := by
  refine en_X12_draw (b_X12_draw_0 z_puCV ?_)
  rw [rs_oi, rs_poi, rs_oi, show z_u F 45 (F 45 * nI 1103515245 + nI 12345) 45 = c_sd (F 45) from u_eq _ _ _, and_16, pk_rem (by have := Nat.mod_lt ((c_sd (F 45)).toBitVec.toNat >>> 16) (show 0 < 32768 by decide); omega) h0 hn]
  exact ⟨sh_kd hM, sh_kd hM, sh_kd hM, fun e => (by have := (nI_eq hn (by omega)).mp e; omega), rfl⟩
theorem e_drawM (hM : z_sh M h) {n : Nat} (h0 : 0 < n) (hn : n < 2 ^ 31) (s : Int32) : z_Ev G (d + 4) k_X12_draw [.ref M, .int (nI n)] (z_rs h M (z_u F 45 s) A) (.inl (some (.int (nI (c_dr (c_sd s) n)))), z_rs h M (z_u F 45 (c_sd s)) A) := by
  have e := e_draw (G := G) (d := d) (F := z_u F 45 s) (A := A) hM h0 hn
  rw [u_eq, u_u] at e
  exact e
theorem dr_lt (s : Int32) {n : Nat} (h : 0 < n) : c_dr s n < n := Nat.mod_lt _ h
theorem e_yStep (hM : z_sh M h) {B : Nat → Nat → Int32} (y : yS × (Nat → Int32)) {A1 : Nat → Int32} (g2 : c_cok y.1.2.1) (g3 : ∀ q, q < 30 → y.2 q = rowC y.1.2.1 q) (g4 : ∀ q, 30 ≤ q → y.2 q = A1 q) {k b i : Nat} (hi : i < k) (hk2 : k < 2 ^ 31) (r : z_Res) : c_cok (c_yF y.1).2.1 ∧ (z_J G (d + 6) (m_X12_years z_puC) r 58 [some (.ref M), none, some (.int (nI k)), some (.int (nI b)), some (.int (nI (c_yF y.1).2.2)), some (.int (nI (i + 1))), none, none, none, none] [] (z_rs h M (z_u (z_u F 0 (nI 0)) 45 (c_yF y.1).1) (z_u B 1 (fun q => if q < 30 then rowC (c_yF y.1).2.1 q else A1 q))) → z_J G (d + 6) (m_X12_years z_puC) r 58 [some (.ref M), none, some (.int (nI k)), some (.int (nI b)), some (.int (nI y.1.2.2)), some (.int (nI i)), none, none, none, none] [] (z_rs h M (z_u (z_u F 0 (nI 0)) 45 y.1.1) (z_u B 1 y.2))) := by
  have hn8 := g2.1.1
  have hm12 := g2.1.2.1
  have hok : r_ok y.2 ∧ r_S y.2 = y.1.2.1.1 := ⟨r_isok (row_is g2 g3) g2.1.2.2.2.1, r_isS (row_is g2 g3) g2.1.2.2.2.1⟩
  have hAt : ∀ F0, z_at M (z_rs h M F0 (z_u B 1 y.2)) y.1.2.1.1 := fun F0 => at_rs hM (by rw [u_eq]; exact hok.1) (by rw [u_eq]; exact hok.2)
  have dlt : ∀ s' , c_dr s' y.1.2.1.1.1 < y.1.2.1.1.1 := fun s' => dr_lt s' (by omega)
  have rowsame : ∀ c2 : Cd, (∀ q, q < 30 → y.2 q = rowC c2 q) → (fun q => if q < 30 then rowC c2 q else A1 q) = y.2 := fun c2 hc2 => by
    funext q
    by_cases hq : q < 30
    · rw [if_pos hq, hc2 q hq]
    · rw [if_neg hq, g4 q (by omega)]

  have ed : ∀ (s' : Int32) (n' : Nat), 0 < n' → n' ≤ 12 → z_Ev G (d + 5) k_X12_draw [.ref M, .int (nI n')] (z_rs h M (z_u (z_u F 0 (nI 0)) 45 s') (z_u B 1 y.2)) (.inl (some (.int (nI (c_dr (c_sd s') n')))), z_rs h M (z_u (z_u F 0 (nI 0)) 45 (c_sd s')) (z_u B 1 y.2)) := fun s' n' h1 h2 => e_drawM hM h1 (by omega) s'
  have d3 : c_dr (c_sd y.1.1) 3 < 3 := dr_lt _ (by decide)
  unfold c_yF
  by_cases q1 : c_dr (c_sd y.1.1) 3 < 2
  · rw [if_pos q1]
    have hx1 := dlt (c_sd (c_sd y.1.1))
    have hx2 := dlt (c_sd (c_sd (c_sd y.1.1)))
    have hx3 := dlt (c_sd (c_sd (c_sd (c_sd y.1.1))))
    have hxl : c_yx (c_sd y.1.1) y.1.2.1.1.1 < 256 := or_lt256 (or_lt256 (t_pow (by omega)) (t_pow (by omega))) (t_pow (by omega))
    have hpc := n_pc12 (c_yx (c_sd y.1.1) y.1.2.1.1.1) (by omega)
    have ex : ((nI 1 <<< (nI (c_dr (c_sd (c_sd y.1.1)) y.1.2.1.1.1) &&& nI 31)) ||| (nI 1 <<< (nI (c_dr (c_sd (c_sd (c_sd y.1.1))) y.1.2.1.1.1) &&& nI 31))) ||| (nI 1 <<< (nI (c_dr (c_sd (c_sd (c_sd (c_sd y.1.1)))) y.1.2.1.1.1) &&& nI 31)) = nI (c_yx (c_sd y.1.1) y.1.2.1.1.1) := by
      rw [show nI 1 <<< (nI (c_dr (c_sd (c_sd y.1.1)) y.1.2.1.1.1) &&& nI 31) = _ from n_one (by omega), show nI 1 <<< (nI (c_dr (c_sd (c_sd (c_sd y.1.1))) y.1.2.1.1.1) &&& nI 31) = _ from n_one (by omega), show nI 1 <<< (nI (c_dr (c_sd (c_sd (c_sd (c_sd y.1.1)))) y.1.2.1.1.1) &&& nI 31) = _ from n_one (by omega), fa_or, fa_or]
      rfl
    have go : ∀ r : z_Res, (if n_pc (c_yx (c_sd y.1.1) y.1.2.1.1.1) < 3 ∨ c_canAdd y.1.2.1.1 (nI (c_yx (c_sd y.1.1) y.1.2.1.1.1)) = false then z_J G (d + 6) (m_X12_years z_puC) r 58 [some (.ref M), none, some (.int (nI k)), some (.int (nI b)), some (.int (nI y.1.2.2)), some (.int (nI (i + 1))), none, none, none, none] [] (z_rs h M (z_u (z_u F 0 (nI 0)) 45 (c_sd (c_sd (c_sd (c_sd y.1.1))))) (z_u B 1 y.2)) else z_J G (d + 6) (m_X12_years z_puC) r 58 [some (.ref M), none, some (.int (nI k)), some (.int (nI b)), some (.int (nI (y.1.2.2 + 1))), some (.int (nI (i + 1))), none, none, none, none] [] (z_rs h M (z_u (z_u F 0 (nI 0)) 45 (c_sd (c_sd (c_sd (c_sd y.1.1))))) (z_u B 1 (z_u (z_u y.2 (2 + y.1.2.1.1.2.1) (nI (c_yx (c_sd y.1.1) y.1.2.1.1.1))) 1 (nI (y.1.2.1.1.2.1 + 1)))))) → z_J G (d + 6) (m_X12_years z_puC) r 58 [some (.ref M), none, some (.int (nI k)), some (.int (nI b)), some (.int (nI y.1.2.2)), some (.int (nI i)), none, none, none, none] [] (z_rs h M (z_u (z_u F 0 (nI 0)) 45 y.1.1) (z_u B 1 y.2)) := by
      intro r hr2
      refine b_X12_years_58 z_puCV ?_
      rw [if_pos (nI_lt hi (by omega))]
      refine ⟨sh_kd hM, _, _, ed y.1.1 3 (by decide) (by decide), ?_⟩
      rw [if_pos (nI_lt q1 (by decide)), t_n (hAt _)]
      refine ⟨sh_kd hM, hM, sh_kd hM, _, _, ed (c_sd y.1.1) _ (by omega) (by omega), ?_⟩
      rw [t_n (hAt _)]
      refine ⟨sh_kd hM, hM, sh_kd hM, _, _, ed (c_sd (c_sd y.1.1)) _ (by omega) (by omega), ?_⟩
      rw [t_n (hAt _)]
      refine ⟨sh_kd hM, hM, sh_kd hM, _, _, ed (c_sd (c_sd (c_sd y.1.1))) _ (by omega) (by omega), ?_⟩
      rw [ex, t_bits (by omega), nI_add]
      refine ⟨trivial, ?_⟩
      by_cases q2 : n_pc (c_yx (c_sd y.1.1) y.1.2.1.1.1) < 3
      · rw [if_pos (Or.inl q2)] at hr2
        rw [if_pos (nI_lt q2 (by decide))]
        exact hr2
      · rw [if_neg (fun e => q2 ((nI_ltI (by omega) (by omega)).mp e))]
        refine ⟨sh_kd hM, _, _, e_canAdd (d := d + 1) (hAt _) _, ?_⟩
        cases q3 : c_canAdd y.1.2.1.1 (nI (c_yx (c_sd y.1.1) y.1.2.1.1.1))
        · rw [if_pos (Or.inr q3)] at hr2
          rw [if_pos (by decide)]
          exact hr2
        · rw [if_neg (fun q => by rcases q with q | q; exact q2 q; rw [q3] at q; cases q)] at hr2
          rw [if_neg (by decide), nI_add]
          have ea := e_addNow (G := G) (d := d + 1) (F := z_u (z_u F 0 (nI 0)) 45 (c_sd (c_sd (c_sd (c_sd y.1.1))))) (A := z_u B 1 y.2) (m := y.1.2.1.1.2.1) hM (by omega) (by rw [u_eq]; exact g3 1 (by omega)) (nI (c_yx (c_sd y.1.1) y.1.2.1.1.1))
          rw [u_u, u_eq] at ea
          exact ⟨sh_kd hM, _, ea, hr2⟩
    by_cases q4 : n_pc (c_yx (c_sd y.1.1) y.1.2.1.1.1) < 3 ∨ c_canAdd y.1.2.1.1 (nI (c_yx (c_sd y.1.1) y.1.2.1.1.1)) = false
    · rw [if_pos q4]
      refine ⟨g2, fun hJ => go _ ?_⟩
      rw [if_pos q4]
      dsimp only at hJ
      rw [rowsame _ g3] at hJ
      exact hJ
    · rw [if_neg q4]
      have q5 : c_canAdd y.1.2.1.1 (nI (c_yx (c_sd y.1.1) y.1.2.1.1.1)) = true := by
        cases q6 : c_canAdd y.1.2.1.1 (nI (c_yx (c_sd y.1.1) y.1.2.1.1.1))
        · exact absurd (Or.inr q6) q4
        · rfl
      have q7 := q5
      unfold c_canAdd at q7
      simp only [Bool.and_eq_true, Bool.not_eq_true', decide_eq_true_eq] at q7
      rw [nI_clamp (show c_yx (c_sd y.1.1) y.1.2.1.1.1 < 2 ^ 31 by omega)] at q7
      obtain ⟨w1, w2, w3, w4⟩ := q7
      obtain ⟨x', hx', hx2', ex'⟩ := c_in_t w1
      have exx : c_yx (c_sd y.1.1) y.1.2.1.1.1 = x' := (nI_eq (by omega) hx2').mp ex'
      refine ⟨cok_add g2 (by rw [exx]; exact hx') w2 w3 w4, fun hJ => go _ ?_⟩
      rw [if_neg q4]
      dsimp only at hJ
      have er : (fun q => if q < 30 then rowC (op_add y.1.2.1 (c_yx (c_sd y.1.1) y.1.2.1.1.1)) q else A1 q) = z_u (z_u y.2 (2 + y.1.2.1.1.2.1) (nI (c_yx (c_sd y.1.1) y.1.2.1.1.1))) 1 (nI (y.1.2.1.1.2.1 + 1)) := by
        funext q
        by_cases hq : q < 30
        · rw [if_pos hq, row_add g3 w4 _ q hq]
        · rw [if_neg hq, u_ne _ _ (by omega), u_ne _ _ (by omega), g4 q (by omega)]
      rw [er] at hJ
      exact hJ
  · rw [if_neg q1]
    by_cases q2 : 0 < y.1.2.1.1.2.1
    · rw [if_pos q2]
      have hdl := dr_lt (c_sd (c_sd y.1.1)) q2
      refine ⟨cok_drop g2 hdl, fun hJ => b_X12_years_58 z_puCV ?_⟩
      dsimp only at hJ
      rw [if_pos (nI_lt hi (by omega))]
      refine ⟨sh_kd hM, _, _, ed y.1.1 3 (by decide) (by decide), ?_⟩
      rw [if_neg (fun e => q1 ((nI_ltI (by omega) (by omega)).mp e)), t_m (hAt _), if_pos (nI_lt q2 (by omega))]
      have edr := e_dropNow (G := G) (d := d + 1) (F := z_u (z_u F 0 (nI 0)) 45 (c_sd (c_sd y.1.1))) (A := z_u B 1 y.2) (m := y.1.2.1.1.2.1) (l := c_dr (c_sd (c_sd y.1.1)) y.1.2.1.1.2.1) hM hm12 hdl (by rw [u_eq]; exact g3 1 (by omega))
      rw [u_u, u_eq] at edr
      have er : (fun q => if q < 30 then rowC (op_drop y.1.2.1 (c_dr (c_sd (c_sd y.1.1)) y.1.2.1.1.2.1)) q else A1 q) = c_drp y.2 y.1.2.1.1.2.1 (c_dr (c_sd (c_sd y.1.1)) y.1.2.1.1.2.1) := by
        funext q
        by_cases hq : q < 30
        · rw [if_pos hq, row_drop g3 g2 hdl q hq]
        · rw [if_neg hq, drp_far hm12 q (by omega), g4 q (by omega)]
      rw [er] at hJ
      rw [nI_add]
      exact ⟨sh_kd hM, hM, sh_kd hM, hM, sh_kd hM, _, _, ed (c_sd y.1.1) _ q2 (by omega), sh_kd hM, _, _, edr, hJ⟩
    · rw [if_neg q2]
      refine ⟨g2, fun hJ => b_X12_years_58 z_puCV ?_⟩
      dsimp only at hJ
      rw [rowsame _ g3] at hJ
      rw [if_pos (nI_lt hi (by omega))]
      refine ⟨sh_kd hM, _, _, ed y.1.1 3 (by decide) (by decide), ?_⟩
      rw [if_neg (fun e => q1 ((nI_ltI (by omega) (by omega)).mp e)), t_m (hAt _), if_neg (fun e => q2 ((nI_ltI (by omega) (by omega)).mp e)), nI_add]
      exact ⟨sh_kd hM, hM, hJ⟩
theorem e_yearsP (hM : z_sh M h) {σ : RSt} (hI : rI F A σ) (s n w : Int32) : ∃ F' A', agr [22] A A' ∧ agrF [0, 45] F F' ∧ F' 0 = (c_years σ.2.1.1 s n w).2 ∧ z_Ev G (d + 6) k_X12_years [.ref M, .int s, .int n, .int w] (z_rs h M F A) (.inl (some (.int (c_years σ.2.1.1 s n w).1)), z_rs h M F' A') := by
  have hr := hI.2.2.2.1
  have h5 := hI.1
  have ew : f_X12_isIn w (nI 0) (nI 2) (z_rs h M (z_u F 0 (nI 0)) A) = nI (c_in w 3).toNat := f_isIn_c w (n := 3) (by omega) _
  have en : f_X12_isIn n (nI 0) (nI 60) (z_rs h M (z_u F 0 (nI 0)) A) = nI (c_in n 61).toNat := f_isIn_c n (n := 61) (by omega) _
  unfold c_years
  cases hw : c_in w 3
  · refine ⟨_, _, agr_rf h5, agrF_u agrF_rf (by decide) (nI 1), u_eq _ _ _, en_X12_years (b_X12_years_0 z_puCV ⟨sh_kd hM, ?_⟩)⟩
    rw [rs_poi, ew, hw, if_pos (by decide)]
    exact ⟨trivial, sh_kd hM, _, _, e_failF (d := d + 1) hM, rfl⟩
  · rw [if_pos rfl]
    cases hnn : c_in n 61
    · refine ⟨_, _, agr_rf h5, agrF_u agrF_rf (by decide) (nI 2), u_eq _ _ _, en_X12_years (b_X12_years_0 z_puCV ⟨sh_kd hM, ?_⟩)⟩
      rw [rs_poi, ew, hw, if_neg (by decide), en, hnn, if_pos (by decide)]
      exact ⟨trivial, trivial, sh_kd hM, _, _, e_failF (d := d + 1) hM, rfl⟩
    · obtain ⟨b, hb, hb2, rfl⟩ := c_in_t hw
      obtain ⟨k, hk, hk2, rfl⟩ := c_in_t hnn
      rw [if_pos rfl, nI_clamp hb2, nI_clamp hk2]
      refine ⟨z_u (z_u F 0 (nI 0)) 45 (c_yA σ.2.1.1 s k).1, z_u A 22 (fa_fill (A 1) (A 22) 154), agr_u (agr_rf h5) (by decide) (by decide) _, agrF_u (agrF_u agrF_rf (by decide) _) (by decide) _, by rw [u_ne _ _ (by decide), u_eq], en_X12_years (b_X12_years_0 z_puCV ⟨sh_kd hM, ?_⟩)⟩
      rw [rs_poi, ew, hw, if_neg (by decide), en, hnn, if_neg (by decide)]
      have c1 := e_cpM (G := G) (d := d + 1) (F := z_u F 0 (nI 0)) (A := A) (i := 22) (j := 1) (n := 154) hM ⟨by decide, by decide⟩ ⟨by decide, by decide⟩ (by decide) (sh_rowThen hM).2 (sh_now hM).2 (by decide)
      refine ⟨trivial, trivial, sh_kd hM, ?_⟩
      show z_rc (z_or h M 46) _ _
      rw [(sh_rowThen hM).1, z_rcs]
      refine ⟨sh_kd hM, ?_⟩
      show z_rc (z_or h M 1) _ _
      rw [(sh_now hM).1, z_rcs]
      refine ⟨_, c1, sh_kd hM, ?_⟩
      rw [rs_poi]
      have fin : ∀ (y : yS) (R0 : Nat → Int32) (v : Int32), (∀ q, 30 ≤ q → R0 q = A 1 q) → y = c_yA σ.2.1.1 s k → v = nI (c_yV y b) → ∀ x4, z_rc (z_or (z_rs h M (z_u (z_u F 0 (nI 0)) 45 y.1) (z_u (z_u A 22 (fa_fill (A 1) (A 22) 154)) 1 R0)) M 1) x4 (fun x_16 => (z_kd (z_rs h M (z_u (z_u F 0 (nI 0)) 45 y.1) (z_u (z_u A 22 (fa_fill (A 1) (A 22) 154)) 1 R0)) M = 28 ∧ (z_rc (z_or (z_rs h M (z_u (z_u F 0 (nI 0)) 45 y.1) (z_u (z_u A 22 (fa_fill (A 1) (A 22) 154)) 1 R0)) M 46) (∃ h_21, z_Ev G (d + 5) k_X12_copyTo [.ref x_16, .null] (z_rs h M (z_u (z_u F 0 (nI 0)) 45 y.1) (z_u (z_u A 22 (fa_fill (A 1) (A 22) 154)) 1 R0)) (.inl none, h_21) ∧ ((.inl (some (.int (nI (c_yV (c_yA σ.2.1.1 s k) b), nI 0).1)), z_rs h M (z_u (z_u F 0 (nI 0)) 45 (c_yA σ.2.1.1 s k).1) (z_u A 22 (fa_fill (A 1) (A 22) 154))) : z_Res) = (.inl (some (.int v)), h_21)) (fun x_20 => (∃ h_22, z_Ev G (d + 5) k_X12_copyTo [.ref x_16, .ref x_20] (z_rs h M (z_u (z_u F 0 (nI 0)) 45 y.1) (z_u (z_u A 22 (fa_fill (A 1) (A 22) 154)) 1 R0)) (.inl none, h_22) ∧ ((.inl (some (.int (nI (c_yV (c_yA σ.2.1.1 s k) b), nI 0).1)), z_rs h M (z_u (z_u F 0 (nI 0)) 45 (c_yA σ.2.1.1 s k).1) (z_u A 22 (fa_fill (A 1) (A 22) 154))) : z_Res) = (.inl (some (.int v)), h_22)))))) := by
        intro y R0 v hR0 hy hv x4
        have c2 := e_cpM (G := G) (d := d + 1) (F := z_u (z_u F 0 (nI 0)) 45 y.1) (A := z_u (z_u A 22 (fa_fill (A 1) (A 22) 154)) 1 R0) (i := 1) (j := 22) (n := 154) hM ⟨by decide, by decide⟩ ⟨by decide, by decide⟩ (by decide) (sh_now hM).2 (sh_rowThen hM).2 (by decide)
        rw [u_u, u_eq, u_ne _ _ (show 22 ≠ 1 by decide), u_eq] at c2
        have eA : fa_fill (fa_fill (A 1) (A 22) 154) R0 154 = A 1 := by
          funext q
          by_cases hq : q < 154
          · rw [fa_fill_in hq, fa_fill_in hq]
          · rw [fa_fill_out (by omega)]; exact hR0 q (by omega)
        have eB : z_u (z_u A 22 (fa_fill (A 1) (A 22) 154)) 1 (A 1) = z_u A 22 (fa_fill (A 1) (A 22) 154) := by
          have q1 := u_self (z_u A 22 (fa_fill (A 1) (A 22) 154)) 1
          rw [u_ne _ _ (show 1 ≠ 22 by decide)] at q1
          exact q1
        rw [eA, eB] at c2
        show z_rc (z_or h M 1) _ _
        rw [(sh_now hM).1, z_rcs]
        refine ⟨sh_kd hM, ?_⟩
        show z_rc (z_or h M 46) _ _
        rw [(sh_rowThen hM).1, z_rcs]
        refine ⟨_, c2, ?_⟩
        rw [hv, hy]
      have key := z_forI (G := G) (d := d + 6) (μ := m_X12_years z_puC) (r := (.inl (some (.int (nI (c_yV (c_yA σ.2.1.1 s k) b), nI 0).1)), z_rs h M (z_u (z_u F 0 (nI 0)) 45 (c_yA σ.2.1.1 s k).1) (z_u A 22 (fa_fill (A 1) (A 22) 154)))) (pc := 58) (fun i (y : yS × (Nat → Int32)) => [some (.ref M), none, some (.int (nI k)), some (.int (nI b)), some (.int (nI y.1.2.2)), some (.int (nI i)), none, none, none, none]) (fun _ y => z_rs h M (z_u (z_u F 0 (nI 0)) 45 y.1.1) (z_u (z_u A 22 (fa_fill (A 1) (A 22) 154)) 1 y.2)) (fun i y => y.1 = c_yA σ.2.1.1 s i ∧ c_cok y.1.2.1 ∧ (∀ q, q < 30 → y.2 q = rowC y.1.2.1 q) ∧ (∀ q, 30 ≤ q → y.2 q = A 1 q)) (fun _ y => (c_yF y.1, fun q => if q < 30 then rowC (c_yF y.1).2.1 q else A 1 q)) ((s, σ.2.1.1, 0), A 1) k ⟨rfl, hr.1, hr.2.1, fun _ _ => rfl⟩ ?_ ?_
      · have e1 := u_self (z_u A 22 (fa_fill (A 1) (A 22) 154)) 1
        rw [u_ne _ _ (show 1 ≠ 22 by decide)] at e1
        dsimp only at key
        rw [e1] at key
        exact key
      · intro i y hi hIy
        obtain ⟨g1, g2, g3, g4⟩ := hIy
        have hn8 := g2.1.1
        have hm12 := g2.1.2.1
        have hok : r_ok y.2 ∧ r_S y.2 = y.1.2.1.1 := ⟨r_isok (row_is g2 g3) g2.1.2.2.2.1, r_isS (row_is g2 g3) g2.1.2.2.2.1⟩
        have hAt : ∀ F0, z_at M (z_rs h M F0 (z_u (z_u A 22 (fa_fill (A 1) (A 22) 154)) 1 y.2)) y.1.2.1.1 := fun F0 => at_rs hM (by rw [u_eq]; exact hok.1) (by rw [u_eq]; exact hok.2)
        have step := e_yStep (G := G) (d := d) (F := F) (B := z_u A 22 (fa_fill (A 1) (A 22) 154)) (b := b) hM y g2 g3 g4 hi hk2 (.inl (some (.int (nI (c_yV (c_yA σ.2.1.1 s k) b), nI 0).1)), z_rs h M (z_u (z_u F 0 (nI 0)) 45 (c_yA σ.2.1.1 s k).1) (z_u A 22 (fa_fill (A 1) (A 22) 154)))
        exact ⟨⟨by rw [g1]; exact c_yA_s _ _ _, step.1, fun q hq => if_pos hq, fun q hq => if_neg (by omega)⟩, step.2⟩
      · intro hIy
        revert hIy
        generalize it (fun _ (y : yS × (Nat → Int32)) => (c_yF y.1, fun q => if q < 30 then rowC (c_yF y.1).2.1 q else A 1 q)) ((s, σ.2.1.1, 0), A 1) k = y
        intro hIy
        obtain ⟨g1, g2, g3, g4⟩ := hIy
        have hok : r_ok y.2 ∧ r_S y.2 = y.1.2.1.1 := ⟨r_isok (row_is g2 g3) g2.1.2.2.2.1, r_isS (row_is g2 g3) g2.1.2.2.2.1⟩
        have hA := at_rs (F := z_u (z_u F 0 (nI 0)) 45 y.1.1) (A := z_u (z_u A 22 (fa_fill (A 1) (A 22) 154)) 1 y.2) (S := y.1.2.1.1) hM (by rw [u_eq]; exact hok.1) (by rw [u_eq]; exact hok.2)
        refine b_X12_years_58 z_puCV ?_
        rw [if_neg (show ¬ nI k < nI k from nI_nlt (Nat.le_refl _) (by omega))]
        by_cases b0 : b = 0
        · rw [if_pos (by rw [b0]), t_m hA]
          exact ⟨sh_kd hM, hM, sh_kd hM, fin y.1 y.2 _ g4 g1 (by unfold c_yV; rw [if_pos b0]) _⟩
        · rw [if_neg (fun e => b0 ((nI_eq hb2 (by omega)).mp e))]
          by_cases b1 : b = 1
          · rw [if_pos (by rw [b1])]
            exact ⟨sh_kd hM, _, _, e_triangles (d := d + 1) hA, sh_kd hM, fin y.1 y.2 _ g4 g1 (by unfold c_yV; rw [if_neg b0, if_pos b1]) _⟩
          · rw [if_neg (fun e => b1 ((nI_eq hb2 (by omega)).mp e))]
            exact ⟨sh_kd hM, fin y.1 y.2 _ g4 g1 (by unfold c_yV; rw [if_neg b0, if_neg b1]) _⟩
end CZ
