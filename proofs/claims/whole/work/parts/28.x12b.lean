def q_r (P : Nat → z_H → Prop) : List Value → z_H → Prop := fun As h => match As with | [.ref a0] => P a0 h | _ => False
def g_r (f : Nat → z_H → Int32) : List Value → z_H → Int32 := fun As h => match As with | [.ref a0] => f a0 h | _ => 0
theorem e_q_r {P : Nat → z_H → Prop} {f : Nat → z_H → Int32} {G : z_G} {d : Nat} {κ : z_Key} (hE : ∀ a0 h, P a0 h → z_Ev G d κ [.ref a0] h (.inl (some (.int (f a0 h))), h)) : ∀ As h, q_r P As h → z_Ev G d κ As h (.inl (some (.int (g_r f As h))), h) := by
  intro As h hS
  unfold q_r at hS
  split at hS
  · exact hE _ _ hS
  · exact hS.elim
def q_i (P : Int32 → z_H → Prop) : List Value → z_H → Prop := fun As h => match As with | [.int a0] => P a0 h | _ => False
def g_i (f : Int32 → z_H → Int32) : List Value → z_H → Int32 := fun As h => match As with | [.int a0] => f a0 h | _ => 0
theorem e_q_i {P : Int32 → z_H → Prop} {f : Int32 → z_H → Int32} {G : z_G} {d : Nat} {κ : z_Key} (hE : ∀ a0 h, P a0 h → z_Ev G d κ [.int a0] h (.inl (some (.int (f a0 h))), h)) : ∀ As h, q_i P As h → z_Ev G d κ As h (.inl (some (.int (g_i f As h))), h) := by
  intro As h hS
  unfold q_i at hS
  split at hS
  · exact hE _ _ hS
  · exact hS.elim
def q_ri (P : Nat → Int32 → z_H → Prop) : List Value → z_H → Prop := fun As h => match As with | [.ref a0, .int a1] => P a0 a1 h | _ => False
def g_ri (f : Nat → Int32 → z_H → Int32) : List Value → z_H → Int32 := fun As h => match As with | [.ref a0, .int a1] => f a0 a1 h | _ => 0
theorem e_q_ri {P : Nat → Int32 → z_H → Prop} {f : Nat → Int32 → z_H → Int32} {G : z_G} {d : Nat} {κ : z_Key} (hE : ∀ a0 a1 h, P a0 a1 h → z_Ev G d κ [.ref a0, .int a1] h (.inl (some (.int (f a0 a1 h))), h)) : ∀ As h, q_ri P As h → z_Ev G d κ As h (.inl (some (.int (g_ri f As h))), h) := by
  intro As h hS
  unfold q_ri at hS
  split at hS
  · exact hE _ _ _ hS
  · exact hS.elim
def q_ii (P : Int32 → Int32 → z_H → Prop) : List Value → z_H → Prop := fun As h => match As with | [.int a0, .int a1] => P a0 a1 h | _ => False
def g_ii (f : Int32 → Int32 → z_H → Int32) : List Value → z_H → Int32 := fun As h => match As with | [.int a0, .int a1] => f a0 a1 h | _ => 0
theorem e_q_ii {P : Int32 → Int32 → z_H → Prop} {f : Int32 → Int32 → z_H → Int32} {G : z_G} {d : Nat} {κ : z_Key} (hE : ∀ a0 a1 h, P a0 a1 h → z_Ev G d κ [.int a0, .int a1] h (.inl (some (.int (f a0 a1 h))), h)) : ∀ As h, q_ii P As h → z_Ev G d κ As h (.inl (some (.int (g_ii f As h))), h) := by
  intro As h hS
  unfold q_ii at hS
  split at hS
  · exact hE _ _ _ hS
  · exact hS.elim
def q_rr (P : Nat → Nat → z_H → Prop) : List Value → z_H → Prop := fun As h => match As with | [.ref a0, .ref a1] => P a0 a1 h | _ => False
def g_rr (f : Nat → Nat → z_H → Int32) : List Value → z_H → Int32 := fun As h => match As with | [.ref a0, .ref a1] => f a0 a1 h | _ => 0
theorem e_q_rr {P : Nat → Nat → z_H → Prop} {f : Nat → Nat → z_H → Int32} {G : z_G} {d : Nat} {κ : z_Key} (hE : ∀ a0 a1 h, P a0 a1 h → z_Ev G d κ [.ref a0, .ref a1] h (.inl (some (.int (f a0 a1 h))), h)) : ∀ As h, q_rr P As h → z_Ev G d κ As h (.inl (some (.int (g_rr f As h))), h) := by
  intro As h hS
  unfold q_rr at hS
  split at hS
  · exact hE _ _ _ hS
  · exact hS.elim
def q_rii (P : Nat → Int32 → Int32 → z_H → Prop) : List Value → z_H → Prop := fun As h => match As with | [.ref a0, .int a1, .int a2] => P a0 a1 a2 h | _ => False
def g_rii (f : Nat → Int32 → Int32 → z_H → Int32) : List Value → z_H → Int32 := fun As h => match As with | [.ref a0, .int a1, .int a2] => f a0 a1 a2 h | _ => 0
theorem e_q_rii {P : Nat → Int32 → Int32 → z_H → Prop} {f : Nat → Int32 → Int32 → z_H → Int32} {G : z_G} {d : Nat} {κ : z_Key} (hE : ∀ a0 a1 a2 h, P a0 a1 a2 h → z_Ev G d κ [.ref a0, .int a1, .int a2] h (.inl (some (.int (f a0 a1 a2 h))), h)) : ∀ As h, q_rii P As h → z_Ev G d κ As h (.inl (some (.int (g_rii f As h))), h) := by
  intro As h hS
  unfold q_rii at hS
  split at hS
  · exact hE _ _ _ _ hS
  · exact hS.elim
def q_iii (P : Int32 → Int32 → Int32 → z_H → Prop) : List Value → z_H → Prop := fun As h => match As with | [.int a0, .int a1, .int a2] => P a0 a1 a2 h | _ => False
def g_iii (f : Int32 → Int32 → Int32 → z_H → Int32) : List Value → z_H → Int32 := fun As h => match As with | [.int a0, .int a1, .int a2] => f a0 a1 a2 h | _ => 0
theorem e_q_iii {P : Int32 → Int32 → Int32 → z_H → Prop} {f : Int32 → Int32 → Int32 → z_H → Int32} {G : z_G} {d : Nat} {κ : z_Key} (hE : ∀ a0 a1 a2 h, P a0 a1 a2 h → z_Ev G d κ [.int a0, .int a1, .int a2] h (.inl (some (.int (f a0 a1 a2 h))), h)) : ∀ As h, q_iii P As h → z_Ev G d κ As h (.inl (some (.int (g_iii f As h))), h) := by
  intro As h hS
  unfold q_iii at hS
  split at hS
  · exact hE _ _ _ _ hS
  · exact hS.elim
def q_riii (P : Nat → Int32 → Int32 → Int32 → z_H → Prop) : List Value → z_H → Prop := fun As h => match As with | [.ref a0, .int a1, .int a2, .int a3] => P a0 a1 a2 a3 h | _ => False
def g_riii (f : Nat → Int32 → Int32 → Int32 → z_H → Int32) : List Value → z_H → Int32 := fun As h => match As with | [.ref a0, .int a1, .int a2, .int a3] => f a0 a1 a2 a3 h | _ => 0
theorem e_q_riii {P : Nat → Int32 → Int32 → Int32 → z_H → Prop} {f : Nat → Int32 → Int32 → Int32 → z_H → Int32} {G : z_G} {d : Nat} {κ : z_Key} (hE : ∀ a0 a1 a2 a3 h, P a0 a1 a2 a3 h → z_Ev G d κ [.ref a0, .int a1, .int a2, .int a3] h (.inl (some (.int (f a0 a1 a2 a3 h))), h)) : ∀ As h, q_riii P As h → z_Ev G d κ As h (.inl (some (.int (g_riii f As h))), h) := by
  intro As h hS
  unfold q_riii at hS
  split at hS
  · exact hE _ _ _ _ _ hS
  · exact hS.elim
def q_rri (P : Nat → Nat → Int32 → z_H → Prop) : List Value → z_H → Prop := fun As h => match As with | [.ref a0, .ref a1, .int a2] => P a0 a1 a2 h | _ => False
def g_rri (f : Nat → Nat → Int32 → z_H → Int32) : List Value → z_H → Int32 := fun As h => match As with | [.ref a0, .ref a1, .int a2] => f a0 a1 a2 h | _ => 0
theorem e_q_rri {P : Nat → Nat → Int32 → z_H → Prop} {f : Nat → Nat → Int32 → z_H → Int32} {G : z_G} {d : Nat} {κ : z_Key} (hE : ∀ a0 a1 a2 h, P a0 a1 a2 h → z_Ev G d κ [.ref a0, .ref a1, .int a2] h (.inl (some (.int (f a0 a1 a2 h))), h)) : ∀ As h, q_rri P As h → z_Ev G d κ As h (.inl (some (.int (g_rri f As h))), h) := by
  intro As h hS
  unfold q_rri at hS
  split at hS
  · exact hE _ _ _ _ hS
  · exact hS.elim
def q_iiiiii (P : Int32 → Int32 → Int32 → Int32 → Int32 → Int32 → z_H → Prop) : List Value → z_H → Prop := fun As h => match As with | [.int a0, .int a1, .int a2, .int a3, .int a4, .int a5] => P a0 a1 a2 a3 a4 a5 h | _ => False
def g_iiiiii (f : Int32 → Int32 → Int32 → Int32 → Int32 → Int32 → z_H → Int32) : List Value → z_H → Int32 := fun As h => match As with | [.int a0, .int a1, .int a2, .int a3, .int a4, .int a5] => f a0 a1 a2 a3 a4 a5 h | _ => 0
theorem e_q_iiiiii {P : Int32 → Int32 → Int32 → Int32 → Int32 → Int32 → z_H → Prop} {f : Int32 → Int32 → Int32 → Int32 → Int32 → Int32 → z_H → Int32} {G : z_G} {d : Nat} {κ : z_Key} (hE : ∀ a0 a1 a2 a3 a4 a5 h, P a0 a1 a2 a3 a4 a5 h → z_Ev G d κ [.int a0, .int a1, .int a2, .int a3, .int a4, .int a5] h (.inl (some (.int (f a0 a1 a2 a3 a4 a5 h))), h)) : ∀ As h, q_iiiiii P As h → z_Ev G d κ As h (.inl (some (.int (g_iiiiii f As h))), h) := by
  intro As h hS
  unfold q_iiiiii at hS
  split at hS
  · exact hE _ _ _ _ _ _ _ hS
  · exact hS.elim
def z_hl (G : z_G) (d : Nat) (C : z_CT) (l : List z_PE) : Prop := ∀ q ∈ l, ∀ e, z_cM C q.1 = some e → ∀ As h, q.2.1 As h → z_Ev G d e.2.1 As h (.inl (some (.int (q.2.2 As h))), h)
theorem z_hn {G : z_G} {d : Nat} {C : z_CT} : z_hl G d C [] := fun q hq => by cases hq
theorem z_hc {G : z_G} {d : Nat} {C : z_CT} {k : Nat} {S : List Value → z_H → Prop} {f : List Value → z_H → Int32} {e0 : z_ME} {l : List z_PE} (he : z_cM C k = some e0) (hE : ∀ As h, S As h → z_Ev G d e0.2.1 As h (.inl (some (.int (f As h))), h)) (hl : z_hl G d C l) : z_hl G d C ((k, S, f) :: l) := by
  intro q hq e hqe
  rcases List.mem_cons.mp hq with rfl | hq
  · cases he.symm.trans hqe; exact hE
  · exact hl q hq e hqe
def s_J6_bitCount_0f7a4 (_ : Int32) (_ : z_H) : Prop := True
def f_J6_bitCount_0f7a4 (x : Int32) (_ : z_H) : Int32 := n_bcI x
def s_J6_numberOfTrailingZeros_0f7a4 (x : Int32) (_ : z_H) : Prop := ¬ 65536 < n_tzY x
def f_J6_numberOfTrailingZeros_0f7a4 (x : Int32) (_ : z_H) : Int32 := n_tzI x
def s_J9_max_7cf53 (_ _ : Int32) (_ : z_H) : Prop := True
def f_J9_max_7cf53 (a b : Int32) (_ : z_H) : Int32 := if a < b then b else a
def s_J9_min_7cf53 (_ _ : Int32) (_ : z_H) : Prop := True
def f_J9_min_7cf53 (a b : Int32) (_ : z_H) : Int32 := if b < a then b else a
section CA
variable {G : z_G} {d : Nat} {h : z_H}
theorem c_J6_bitCount_0f7a4 {a : Int32} (_ : s_J6_bitCount_0f7a4 a h) : z_Ev G (d + 1) k_J6_bitCount_0f7a4 [.int a] h (.inl (some (.int (f_J6_bitCount_0f7a4 a h))), h) := e_bitsI
theorem c_J6_numberOfTrailingZeros_0f7a4 {a : Int32} (hS : s_J6_numberOfTrailingZeros_0f7a4 a h) : z_Ev G (d + 1) k_J6_numberOfTrailingZeros_0f7a4 [.int a] h (.inl (some (.int (f_J6_numberOfTrailingZeros_0f7a4 a h))), h) := e_ntzI hS
theorem c_J9_max_7cf53 {a b : Int32} (_ : s_J9_max_7cf53 a b h) : z_Ev G (d + 1) k_J9_max_7cf53 [.int a, .int b] h (.inl (some (.int (f_J9_max_7cf53 a b h))), h) := e_max
theorem c_J9_min_7cf53 {a b : Int32} (_ : s_J9_min_7cf53 a b h) : z_Ev G (d + 1) k_J9_min_7cf53 [.int a, .int b] h (.inl (some (.int (f_J9_min_7cf53 a b h))), h) := e_min
end CA
def z_pA : List z_PE := [(205, q_i s_J6_bitCount_0f7a4, g_i f_J6_bitCount_0f7a4), (240, q_i s_J6_numberOfTrailingZeros_0f7a4, g_i f_J6_numberOfTrailingZeros_0f7a4), (460, q_ii s_J9_max_7cf53, g_ii f_J9_max_7cf53), (126, q_ii s_J9_min_7cf53, g_ii f_J9_min_7cf53)]
def z_puA : Nat → Option ((List Value → z_H → Prop) × (List Value → z_H → Int32)) := z_pul z_pA
theorem z_puAV {G : z_G} {d : Nat} : z_PuV G (d + 1) (t_X12 z_puA) := z_pulV rfl (z_hc (k := 205) rfl (e_q_i (fun a0 h hS => c_J6_bitCount_0f7a4 hS)) (z_hc (k := 240) rfl (e_q_i (fun a0 h hS => c_J6_numberOfTrailingZeros_0f7a4 hS)) (z_hc (k := 460) rfl (e_q_ii (fun a0 a1 h hS => c_J9_max_7cf53 hS)) (z_hc (k := 126) rfl (e_q_ii (fun a0 a1 h hS => c_J9_min_7cf53 hS)) z_hn))))
theorem en_X12_isIn {pu : Nat → Option ((List Value → z_H → Prop) × (List Value → z_H → Int32))} {G : z_G} {d : Nat} {r : z_Res} {h : z_H} {x0 : Int32} {x1 : Int32} {x2 : Int32} (hJ : z_J G d (m_X12_isIn pu) r 0 [some (.int x0), some (.int x1), some (.int x2)] [] h) : z_Ev G d k_X12_isIn [.int x0, .int x1, .int x2] h r := z_enter (μ := m_X12_isIn pu) rfl (by decide) rfl rfl (fun q => by cases q) (Nat.le_of_ble_eq_true rfl) hJ
def hd_X12_isIn : Nat → Option (List Bool) := (fun k => none)
set_option maxRecDepth 20000 in
theorem b_X12_isIn_0 {G : z_G} {d : Nat} {r : z_Res} (hPu : z_PuV G d (t_X12 z_puA)) {h : z_H} {x0 : Int32} {x1 : Int32} {x2 : Int32} (hT : (if x0 < x1 then (z_bz (0 : Int32) ∧ r = (.inl (some (.int (0 : Int32))), h)) else (if x2 < x0 then (z_bz (0 : Int32) ∧ r = (.inl (some (.int (0 : Int32))), h)) else (z_bz (1 : Int32) ∧ r = (.inl (some (.int (1 : Int32))), h))))) : (z_J G (d + 1) (m_X12_isIn z_puA) r) 0 [some (.int x0), some (.int x1), some (.int x2)] [] h := z_bq (v_X12 z_puA (vP_X12_isIn z_puA) hPu) hd_X12_isIn 11 hT
theorem en_X12_bits {pu : Nat → Option ((List Value → z_H → Prop) × (List Value → z_H → Int32))} {G : z_G} {d : Nat} {r : z_Res} {h : z_H} {x0 : Int32} (hJ : z_J G d (m_X12_bits pu) r 0 [some (.int x0)] [] h) : z_Ev G d k_X12_bits [.int x0] h r := z_enter (μ := m_X12_bits pu) rfl (by decide) rfl rfl (fun q => by cases q) (Nat.le_of_ble_eq_true rfl) hJ
def hd_X12_bits : Nat → Option (List Bool) := (fun k => none)
set_option maxRecDepth 20000 in
theorem b_X12_bits_0 {G : z_G} {d : Nat} {r : z_Res} (hPu : z_PuV G d (t_X12 z_puA)) {h : z_H} {x0 : Int32} (hT : (s_J6_bitCount_0f7a4 x0 h ∧ r = (.inl (some (.int (f_J6_bitCount_0f7a4 x0 h))), h))) : (z_J G (d + 1) (m_X12_bits z_puA) r) 0 [some (.int x0)] [] h := z_bq (v_X12 z_puA (vP_X12_bits z_puA) hPu) hd_X12_bits 5 hT
theorem en_X12_points {pu : Nat → Option ((List Value → z_H → Prop) × (List Value → z_H → Int32))} {G : z_G} {d : Nat} {r : z_Res} {h : z_H} {x0 : Nat} (hJ : z_J G d (m_X12_points pu) r 0 [some (.ref x0)] [] h) : z_Ev G d k_X12_points [.ref x0] h r := z_enter (μ := m_X12_points pu) rfl (by decide) rfl rfl (fun q => by cases q) (Nat.le_of_ble_eq_true rfl) hJ
def hd_X12_points : Nat → Option (List Bool) := (fun k => none)
set_option maxRecDepth 20000 in
theorem b_X12_points_0 {G : z_G} {d : Nat} {r : z_Res} (hPu : z_PuV G d (t_X12 z_puA)) {h : z_H} {x0 : Nat} (hT : (z_kd h x0 = 28 ∧ (z_rc (z_or h x0 1) False (fun x_1 => (z_kd h x_1 = 1 ∧ vp_in (0 : Int32) (z_ln h x_1) ∧ r = (.inl (some (.int (z_ai h x_1 (Int32.toNatClampNeg (0 : Int32))))), h)))))) : (z_J G (d + 1) (m_X12_points z_puA) r) 0 [some (.ref x0)] [] h := z_bq (v_X12 z_puA (vP_X12_points z_puA) hPu) hd_X12_points 7 hT
theorem en_X12_lines {pu : Nat → Option ((List Value → z_H → Prop) × (List Value → z_H → Int32))} {G : z_G} {d : Nat} {r : z_Res} {h : z_H} {x0 : Nat} (hJ : z_J G d (m_X12_lines pu) r 0 [some (.ref x0)] [] h) : z_Ev G d k_X12_lines [.ref x0] h r := z_enter (μ := m_X12_lines pu) rfl (by decide) rfl rfl (fun q => by cases q) (Nat.le_of_ble_eq_true rfl) hJ
def hd_X12_lines : Nat → Option (List Bool) := (fun k => none)
set_option maxRecDepth 20000 in
theorem b_X12_lines_0 {G : z_G} {d : Nat} {r : z_Res} (hPu : z_PuV G d (t_X12 z_puA)) {h : z_H} {x0 : Nat} (hT : (z_kd h x0 = 28 ∧ (z_rc (z_or h x0 1) False (fun x_1 => (z_kd h x_1 = 1 ∧ vp_in (1 : Int32) (z_ln h x_1) ∧ r = (.inl (some (.int (z_ai h x_1 (Int32.toNatClampNeg (1 : Int32))))), h)))))) : (z_J G (d + 1) (m_X12_lines z_puA) r) 0 [some (.ref x0)] [] h := z_bq (v_X12 z_puA (vP_X12_lines z_puA) hPu) hd_X12_lines 7 hT
theorem en_X12_lineAt {pu : Nat → Option ((List Value → z_H → Prop) × (List Value → z_H → Int32))} {G : z_G} {d : Nat} {r : z_Res} {h : z_H} {x0 : Nat} {x1 : Int32} (hJ : z_J G d (m_X12_lineAt pu) r 0 [some (.ref x0), some (.int x1)] [] h) : z_Ev G d k_X12_lineAt [.ref x0, .int x1] h r := z_enter (μ := m_X12_lineAt pu) rfl (by decide) rfl rfl (fun q => by cases q) (Nat.le_of_ble_eq_true rfl) hJ
def hd_X12_lineAt : Nat → Option (List Bool) := (fun k => none)
set_option maxRecDepth 20000 in
theorem b_X12_lineAt_0 {G : z_G} {d : Nat} {r : z_Res} (hPu : z_PuV G d (t_X12 z_puA)) {h : z_H} {x0 : Nat} {x1 : Int32} (hT : (z_kd h x0 = 28 ∧ (z_rc (z_or h x0 1) False (fun x_1 => (z_kd h x_1 = 1 ∧ vp_in ((2 : Int32) + x1) (z_ln h x_1) ∧ r = (.inl (some (.int (z_ai h x_1 (Int32.toNatClampNeg ((2 : Int32) + x1))))), h)))))) : (z_J G (d + 1) (m_X12_lineAt z_puA) r) 0 [some (.ref x0), some (.int x1)] [] h := z_bq (v_X12 z_puA (vP_X12_lineAt z_puA) hPu) hd_X12_lineAt 9 hT
theorem en_X12_isLetter {pu : Nat → Option ((List Value → z_H → Prop) × (List Value → z_H → Int32))} {G : z_G} {d : Nat} {r : z_Res} {h : z_H} {x0 : Int32} (hJ : z_J G d (m_X12_isLetter pu) r 0 [some (.int x0)] [] h) : z_Ev G d k_X12_isLetter [.int x0] h r := z_enter (μ := m_X12_isLetter pu) rfl (by decide) rfl rfl (fun q => by cases q) (Nat.le_of_ble_eq_true rfl) hJ
def hd_X12_isLetter : Nat → Option (List Bool) := (fun k => none)
set_option maxRecDepth 20000 in
theorem b_X12_isLetter_0 {G : z_G} {d : Nat} {r : z_Res} (hPu : z_PuV G d (t_X12 z_puA)) {h : z_H} {x0 : Int32} (hT : (if x0 < (97 : Int32) then (z_bz (0 : Int32) ∧ r = (.inl (some (.int (0 : Int32))), h)) else (if (122 : Int32) < x0 then (z_bz (0 : Int32) ∧ r = (.inl (some (.int (0 : Int32))), h)) else (z_bz (1 : Int32) ∧ r = (.inl (some (.int (1 : Int32))), h))))) : (z_J G (d + 1) (m_X12_isLetter z_puA) r) 0 [some (.int x0)] [] h := z_bq (v_X12 z_puA (vP_X12_isLetter z_puA) hPu) hd_X12_isLetter 11 hT
theorem en_X12_isDigit {pu : Nat → Option ((List Value → z_H → Prop) × (List Value → z_H → Int32))} {G : z_G} {d : Nat} {r : z_Res} {h : z_H} {x0 : Int32} (hJ : z_J G d (m_X12_isDigit pu) r 0 [some (.int x0)] [] h) : z_Ev G d k_X12_isDigit [.int x0] h r := z_enter (μ := m_X12_isDigit pu) rfl (by decide) rfl rfl (fun q => by cases q) (Nat.le_of_ble_eq_true rfl) hJ
def hd_X12_isDigit : Nat → Option (List Bool) := (fun k => none)
set_option maxRecDepth 20000 in
theorem b_X12_isDigit_0 {G : z_G} {d : Nat} {r : z_Res} (hPu : z_PuV G d (t_X12 z_puA)) {h : z_H} {x0 : Int32} (hT : (if x0 < (48 : Int32) then (z_bz (0 : Int32) ∧ r = (.inl (some (.int (0 : Int32))), h)) else (if (57 : Int32) < x0 then (z_bz (0 : Int32) ∧ r = (.inl (some (.int (0 : Int32))), h)) else (z_bz (1 : Int32) ∧ r = (.inl (some (.int (1 : Int32))), h))))) : (z_J G (d + 1) (m_X12_isDigit z_puA) r) 0 [some (.int x0)] [] h := z_bq (v_X12 z_puA (vP_X12_isDigit z_puA) hPu) hd_X12_isDigit 11 hT
theorem en_X12_shelfAt {pu : Nat → Option ((List Value → z_H → Prop) × (List Value → z_H → Int32))} {G : z_G} {d : Nat} {r : z_Res} {h : z_H} {x0 : Int32} (hJ : z_J G d (m_X12_shelfAt pu) r 0 [some (.int x0)] [] h) : z_Ev G d k_X12_shelfAt [.int x0] h r := z_enter (μ := m_X12_shelfAt pu) rfl (by decide) rfl rfl (fun q => by cases q) (Nat.le_of_ble_eq_true rfl) hJ
def hd_X12_shelfAt : Nat → Option (List Bool) := (fun k => none)
set_option maxRecDepth 20000 in
theorem b_X12_shelfAt_0 {G : z_G} {d : Nat} {r : z_Res} (hPu : z_PuV G d (t_X12 z_puA)) {h : z_H} {x0 : Int32} (hT : r = (.inl (some (.int ((30 : Int32) + ((31 : Int32) * x0)))), h)) : (z_J G (d + 1) (m_X12_shelfAt z_puA) r) 0 [some (.int x0)] [] h := z_bq (v_X12 z_puA (vP_X12_shelfAt z_puA) hPu) hd_X12_shelfAt 8 hT
theorem en_X12_areInLine {pu : Nat → Option ((List Value → z_H → Prop) × (List Value → z_H → Int32))} {G : z_G} {d : Nat} {r : z_Res} {h : z_H} {x0 : Int32} {x1 : Int32} {x2 : Int32} {x3 : Int32} {x4 : Int32} {x5 : Int32} (hJ : z_J G d (m_X12_areInLine pu) r 0 [some (.int x0), some (.int x1), some (.int x2), some (.int x3), some (.int x4), some (.int x5)] [] h) : z_Ev G d k_X12_areInLine [.int x0, .int x1, .int x2, .int x3, .int x4, .int x5] h r := z_enter (μ := m_X12_areInLine pu) rfl (by decide) rfl rfl (fun q => by cases q) (Nat.le_of_ble_eq_true rfl) hJ
def hd_X12_areInLine : Nat → Option (List Bool) := (fun k => none)
set_option maxRecDepth 20000 in
theorem b_X12_areInLine_0 {G : z_G} {d : Nat} {r : z_Res} (hPu : z_PuV G d (t_X12 z_puA)) {h : z_H} {x0 : Int32} {x1 : Int32} {x2 : Int32} {x3 : Int32} {x4 : Int32} {x5 : Int32} (hT : (if ((x2 - x0) * (x5 - x1)) = ((x4 - x0) * (x3 - x1)) then (z_bz (1 : Int32) ∧ r = (.inl (some (.int (1 : Int32))), h)) else (z_bz (0 : Int32) ∧ r = (.inl (some (.int (0 : Int32))), h)))) : (z_J G (d + 1) (m_X12_areInLine z_puA) r) 0 [some (.int x0), some (.int x1), some (.int x2), some (.int x3), some (.int x4), some (.int x5)] [] h := z_bq (v_X12 z_puA (vP_X12_areInLine z_puA) hPu) hd_X12_areInLine 20 hT
theorem en_X12_byteAt {pu : Nat → Option ((List Value → z_H → Prop) × (List Value → z_H → Int32))} {G : z_G} {d : Nat} {r : z_Res} {h : z_H} {x0 : Nat} {x1 : Int32} (hJ : z_J G d (m_X12_byteAt pu) r 0 [some (.ref x0), some (.int x1)] [] h) : z_Ev G d k_X12_byteAt [.ref x0, .int x1] h r := z_enter (μ := m_X12_byteAt pu) rfl (by decide) rfl rfl (fun q => by cases q) (Nat.le_of_ble_eq_true rfl) hJ
def hd_X12_byteAt : Nat → Option (List Bool) := (fun k => none)
set_option maxRecDepth 20000 in
theorem b_X12_byteAt_0 {G : z_G} {d : Nat} {r : z_Res} (hPu : z_PuV G d (t_X12 z_puA)) {h : z_H} {x0 : Nat} {x1 : Int32} (hT : (z_kd h x0 = 28 ∧ (if x1 < (z_oi h x0 7) then (z_kd h x0 = 28 ∧ (z_rc (z_or h x0 4) False (fun x_1 => (z_kd h x_1 = 1 ∧ vp_in x1 (z_ln h x_1) ∧ r = (.inl (some (.int (z_ai h x_1 (Int32.toNatClampNeg x1)))), h))))) else r = (.inl (some (.int (-1 : Int32))), h)))) : (z_J G (d + 1) (m_X12_byteAt z_puA) r) 0 [some (.ref x0), some (.int x1)] [] h := z_bq (v_X12 z_puA (vP_X12_byteAt z_puA) hPu) hd_X12_byteAt 12 hT
section CB
variable {G : z_G} {d : Nat} {h : z_H} {M : Nat}
def s_X12_isIn (_ _ _ : Int32) (_ : z_H) : Prop := True
def f_X12_isIn (v a b : Int32) (_ : z_H) : Int32 := if v < a then 0 else if b < v then 0 else 1
theorem c_X12_isIn {v a b : Int32} (_ : s_X12_isIn v a b h) : z_Ev G (d + 2) k_X12_isIn [.int v, .int a, .int b] h (.inl (some (.int (f_X12_isIn v a b h))), h) := by
  refine en_X12_isIn (b_X12_isIn_0 z_puAV ?_)
  unfold f_X12_isIn
  split
  · exact ⟨Or.inl rfl, rfl⟩
  · split
    · exact ⟨Or.inl rfl, rfl⟩
    · exact ⟨Or.inr rfl, rfl⟩
def s_X12_bits (_ : Int32) (_ : z_H) : Prop := True
def f_X12_bits (x : Int32) (_ : z_H) : Int32 := n_bcI x
theorem c_X12_bits {x : Int32} (_ : s_X12_bits x h) : z_Ev G (d + 2) k_X12_bits [.int x] h (.inl (some (.int (f_X12_bits x h))), h) := en_X12_bits (b_X12_bits_0 z_puAV ⟨trivial, rfl⟩)
def s_X12_points (M : Nat) (h : z_H) : Prop := z_sh M h
def f_X12_points (M : Nat) (h : z_H) : Int32 := z_ai h (M + 1) 0
theorem c_X12_points (hM : s_X12_points M h) : z_Ev G (d + 2) k_X12_points [.ref M] h (.inl (some (.int (f_X12_points M h))), h) := by
  refine en_X12_points (b_X12_points_0 z_puAV ⟨sh_kd hM, ?_⟩)
  rw [(sh_now hM).1]
  exact ⟨(sh_now hM).2.1, by rw [(sh_now hM).2.2]; unfold vp_in; decide, rfl⟩
def s_X12_lines (M : Nat) (h : z_H) : Prop := z_sh M h
def f_X12_lines (M : Nat) (h : z_H) : Int32 := z_ai h (M + 1) 1
theorem c_X12_lines (hM : s_X12_lines M h) : z_Ev G (d + 2) k_X12_lines [.ref M] h (.inl (some (.int (f_X12_lines M h))), h) := by
  refine en_X12_lines (b_X12_lines_0 z_puAV ⟨sh_kd hM, ?_⟩)
  rw [(sh_now hM).1]
  exact ⟨(sh_now hM).2.1, by rw [(sh_now hM).2.2]; unfold vp_in; decide, rfl⟩
def s_X12_lineAt (M : Nat) (l : Int32) (h : z_H) : Prop := z_sh M h ∧ vp_in (2 + l) 154
def f_X12_lineAt (M : Nat) (l : Int32) (h : z_H) : Int32 := z_ai h (M + 1) (Int32.toNatClampNeg (2 + l))
theorem c_X12_lineAt {l : Int32} (hM : s_X12_lineAt M l h) : z_Ev G (d + 2) k_X12_lineAt [.ref M, .int l] h (.inl (some (.int (f_X12_lineAt M l h))), h) := by
  obtain ⟨hM, hl⟩ := hM
  refine en_X12_lineAt (b_X12_lineAt_0 z_puAV ⟨sh_kd hM, ?_⟩)
  rw [(sh_now hM).1]
  exact ⟨(sh_now hM).2.1, by rw [(sh_now hM).2.2]; exact hl, rfl⟩
def s_X12_isLetter (_ : Int32) (_ : z_H) : Prop := True
def f_X12_isLetter (x : Int32) (_ : z_H) : Int32 := if x < 97 then 0 else if 122 < x then 0 else 1
theorem c_X12_isLetter {x : Int32} (_ : s_X12_isLetter x h) : z_Ev G (d + 2) k_X12_isLetter [.int x] h (.inl (some (.int (f_X12_isLetter x h))), h) := by
  refine en_X12_isLetter (b_X12_isLetter_0 z_puAV ?_)
  unfold f_X12_isLetter
  split
  · exact ⟨Or.inl rfl, rfl⟩
  · split
    · exact ⟨Or.inl rfl, rfl⟩
    · exact ⟨Or.inr rfl, rfl⟩
def s_X12_isDigit (_ : Int32) (_ : z_H) : Prop := True
def f_X12_isDigit (x : Int32) (_ : z_H) : Int32 := if x < 48 then 0 else if 57 < x then 0 else 1
theorem c_X12_isDigit {x : Int32} (_ : s_X12_isDigit x h) : z_Ev G (d + 2) k_X12_isDigit [.int x] h (.inl (some (.int (f_X12_isDigit x h))), h) := by
  refine en_X12_isDigit (b_X12_isDigit_0 z_puAV ?_)
  unfold f_X12_isDigit
  split
  · exact ⟨Or.inl rfl, rfl⟩
  · split
    · exact ⟨Or.inl rfl, rfl⟩
    · exact ⟨Or.inr rfl, rfl⟩
def s_X12_shelfAt (_ : Int32) (_ : z_H) : Prop := True
def f_X12_shelfAt (x : Int32) (_ : z_H) : Int32 := 30 + 31 * x
theorem c_X12_shelfAt {x : Int32} (_ : s_X12_shelfAt x h) : z_Ev G (d + 2) k_X12_shelfAt [.int x] h (.inl (some (.int (f_X12_shelfAt x h))), h) := en_X12_shelfAt (b_X12_shelfAt_0 z_puAV rfl)
def s_X12_areInLine (_ _ _ _ _ _ : Int32) (_ : z_H) : Prop := True
def f_X12_areInLine (a b c e f g : Int32) (_ : z_H) : Int32 := if (c - a) * (g - b) = (f - a) * (e - b) then 1 else 0
theorem c_X12_areInLine {a0 a1 a2 a3 a4 a5 : Int32} (_ : s_X12_areInLine a0 a1 a2 a3 a4 a5 h) : z_Ev G (d + 2) k_X12_areInLine [.int a0, .int a1, .int a2, .int a3, .int a4, .int a5] h (.inl (some (.int (f_X12_areInLine a0 a1 a2 a3 a4 a5 h))), h) := by
  refine en_X12_areInLine (b_X12_areInLine_0 z_puAV ?_)
  unfold f_X12_areInLine
  split
  · exact ⟨Or.inr rfl, rfl⟩
  · exact ⟨Or.inl rfl, rfl⟩
def s_X12_byteAt (M : Nat) (k : Int32) (h : z_H) : Prop := z_sh M h ∧ (k < z_oi h M 7 → vp_in k 400)
def f_X12_byteAt (M : Nat) (k : Int32) (h : z_H) : Int32 := if k < z_oi h M 7 then z_ai h (M + 4) (Int32.toNatClampNeg k) else -1
theorem c_X12_byteAt {k : Int32} (hM : s_X12_byteAt M k h) : z_Ev G (d + 2) k_X12_byteAt [.ref M, .int k] h (.inl (some (.int (f_X12_byteAt M k h))), h) := by
  obtain ⟨hM, hl⟩ := hM
  refine en_X12_byteAt (b_X12_byteAt_0 z_puAV ⟨sh_kd hM, ?_⟩)
  unfold f_X12_byteAt
  split
  · rename_i hk
    refine ⟨sh_kd hM, ?_⟩
    rw [(sh_tape hM).1]
    exact ⟨(sh_tape hM).2.1, by rw [(sh_tape hM).2.2]; exact hl hk, rfl⟩
  · rfl
end CB
def z_pB : List z_PE := [(205, q_i s_J6_bitCount_0f7a4, g_i f_J6_bitCount_0f7a4), (240, q_i s_J6_numberOfTrailingZeros_0f7a4, g_i f_J6_numberOfTrailingZeros_0f7a4), (460, q_ii s_J9_max_7cf53, g_ii f_J9_max_7cf53), (126, q_ii s_J9_min_7cf53, g_ii f_J9_min_7cf53), (327, q_iii s_X12_isIn, g_iii f_X12_isIn), (210, q_i s_X12_bits, g_i f_X12_bits), (222, q_r s_X12_points, g_r f_X12_points), (213, q_r s_X12_lines, g_r f_X12_lines), (216, q_ri s_X12_lineAt, g_ri f_X12_lineAt), (115, q_i s_X12_isLetter, g_i f_X12_isLetter), (119, q_i s_X12_isDigit, g_i f_X12_isDigit), (349, q_i s_X12_shelfAt, g_i f_X12_shelfAt), (272, q_iiiiii s_X12_areInLine, g_iiiiii f_X12_areInLine), (105, q_ri s_X12_byteAt, g_ri f_X12_byteAt)]
def z_puB : Nat → Option ((List Value → z_H → Prop) × (List Value → z_H → Int32)) := z_pul z_pB
theorem z_puBV {G : z_G} {d : Nat} : z_PuV G (d + 2) (t_X12 z_puB) := z_pulV rfl (z_hc (k := 205) rfl (e_q_i (fun a0 h hS => c_J6_bitCount_0f7a4 hS)) (z_hc (k := 240) rfl (e_q_i (fun a0 h hS => c_J6_numberOfTrailingZeros_0f7a4 hS)) (z_hc (k := 460) rfl (e_q_ii (fun a0 a1 h hS => c_J9_max_7cf53 hS)) (z_hc (k := 126) rfl (e_q_ii (fun a0 a1 h hS => c_J9_min_7cf53 hS)) (z_hc (k := 327) rfl (e_q_iii (fun a0 a1 a2 h hS => c_X12_isIn hS)) (z_hc (k := 210) rfl (e_q_i (fun a0 h hS => c_X12_bits hS)) (z_hc (k := 222) rfl (e_q_r (fun a0 h hS => c_X12_points hS)) (z_hc (k := 213) rfl (e_q_r (fun a0 h hS => c_X12_lines hS)) (z_hc (k := 216) rfl (e_q_ri (fun a0 a1 h hS => c_X12_lineAt hS)) (z_hc (k := 115) rfl (e_q_i (fun a0 h hS => c_X12_isLetter hS)) (z_hc (k := 119) rfl (e_q_i (fun a0 h hS => c_X12_isDigit hS)) (z_hc (k := 349) rfl (e_q_i (fun a0 h hS => c_X12_shelfAt hS)) (z_hc (k := 272) rfl (e_q_iiiiii (fun a0 a1 a2 a3 a4 a5 h hS => c_X12_areInLine hS)) (z_hc (k := 105) rfl (e_q_ri (fun a0 a1 h hS => c_X12_byteAt hS)) z_hn))))))))))))))
