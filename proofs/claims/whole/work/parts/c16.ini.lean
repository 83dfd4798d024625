theorem en_X11_init {pu : Nat → Option ((List Value → z_H → Prop) × (List Value → z_H → Int32))} {G : z_G} {d : Nat} {r : z_Res} {h : z_H} {x0 : Nat} (hJ : z_J G d (m_X11_init pu) r 0 [some (.ref x0)] [] h) : z_Ev G d k_X11_init [.ref x0] h r := z_enter (μ := m_X11_init pu) rfl (by decide) rfl rfl (fun _ => rfl) (Nat.le_of_ble_eq_true rfl) hJ
def hd_X11_init : Nat → Option (List Bool) := (fun k => (cond (Nat.blt k 166) (cond (Nat.blt k 83) (cond (Nat.blt k 55) (cond (Nat.blt k 18) (cond (Nat.blt k 13) (cond (Nat.beq k 4) (some [true]) none) (cond (Nat.beq k 13) (some [true]) none)) (cond (Nat.blt k 23) (cond (Nat.beq k 18) (some [true]) none) (cond (Nat.beq k 23) (some [true]) none))) (cond (Nat.blt k 68) (cond (Nat.blt k 63) (cond (Nat.beq k 55) (some [true]) none) (cond (Nat.beq k 63) (some [true]) none)) (cond (Nat.blt k 73) (cond (Nat.beq k 68) (some [true]) none) (cond (Nat.blt k 78) (cond (Nat.beq k 73) (some [true]) none) (cond (Nat.beq k 78) (some [true]) none))))) (cond (Nat.blt k 121) (cond (Nat.blt k 99) (cond (Nat.blt k 88) (cond (Nat.beq k 83) (some [true]) none) (cond (Nat.beq k 88) (some [true]) none)) (cond (Nat.blt k 110) (cond (Nat.beq k 99) (some [true]) none) (cond (Nat.beq k 110) (some [true]) none))) (cond (Nat.blt k 143) (cond (Nat.blt k 132) (cond (Nat.beq k 121) (some [true]) none) (cond (Nat.beq k 132) (some [true]) none)) (cond (Nat.blt k 154) (cond (Nat.beq k 143) (some [true]) none) (cond (Nat.blt k 165) (cond (Nat.beq k 154) (some [true]) none) (cond (Nat.beq k 165) (some [false]) none)))))) none))
set_option maxRecDepth 20000 in
theorem b_X11_init_0 {G : z_G} {d : Nat} {r : z_Res} (hPu : z_PuV G d (t_X11 z_pu0)) {h : z_H} {x0 : Nat} (hT : (z_J G (d + 1) (m_X11_init z_pu0) r) 4 [some (.ref x0)] [] h) : (z_J G (d + 1) (m_X11_init z_pu0) r) 0 [some (.ref x0)] [] h := z_bq (v_X11 z_pu0 (vP_X11_init z_pu0) hPu) hd_X11_init 5 hT
set_option maxRecDepth 20000 in
theorem b_X11_init_4 {G : z_G} {d : Nat} {r : z_Res} (hPu : z_PuV G d (t_X11 z_pu0)) {h : z_H} {x0 : Nat} (hT : (¬ (nI 400) < 0 ∧ Int32.toNatClampNeg (nI 400) ≤ 1000000 ∧ (z_kd (z_nwi h 1 (Int32.toNatClampNeg (nI 400)) (fun _ => 0)) x0 = 27 ∧ (z_J G (d + 1) (m_X11_init z_pu0) r) 13 [some (.ref x0)] [] (z_por (z_nwi h 1 (Int32.toNatClampNeg (nI 400)) (fun _ => 0)) x0 0 (some (z_n h)))))) : (z_J G (d + 1) (m_X11_init z_pu0) r) 4 [some (.ref x0)] [] h := z_bq (v_X11 z_pu0 (vP_X11_init z_pu0) hPu) hd_X11_init 7 hT
set_option maxRecDepth 20000 in
theorem b_X11_init_13 {G : z_G} {d : Nat} {r : z_Res} (hPu : z_PuV G d (t_X11 z_pu0)) {h : z_H} {x0 : Nat} (hT : (z_kd h x0 = 27 ∧ (z_J G (d + 1) (m_X11_init z_pu0) r) 18 [some (.ref x0)] [] (z_poi h x0 1 (nI 0)))) : (z_J G (d + 1) (m_X11_init z_pu0) r) 13 [some (.ref x0)] [] h := z_bq (v_X11 z_pu0 (vP_X11_init z_pu0) hPu) hd_X11_init 6 hT
set_option maxRecDepth 20000 in
theorem b_X11_init_18 {G : z_G} {d : Nat} {r : z_Res} (hPu : z_PuV G d (t_X11 z_pu0)) {h : z_H} {x0 : Nat} (hT : (z_kd h x0 = 27 ∧ (z_J G (d + 1) (m_X11_init z_pu0) r) 23 [some (.ref x0)] [] (z_poi h x0 2 mI))) : (z_J G (d + 1) (m_X11_init z_pu0) r) 18 [some (.ref x0)] [] h := z_bq (v_X11 z_pu0 (vP_X11_init z_pu0) hPu) hd_X11_init 6 hT
set_option maxRecDepth 20000 in
theorem b_X11_init_23 {G : z_G} {d : Nat} {r : z_Res} (hPu : z_PuV G d (t_X11 z_pu0)) {h : z_H} {x0 : Nat} (hT : (¬ (nI 0) < 0 ∧ Int32.toNatClampNeg (nI 0) ≤ 1000000 ∧ (∃ h_1, z_Ev G d k_X8_init [.ref (z_n (z_nwo h 1 3)), .int (nI 7), .ref (z_n (z_nwo (z_nwo h 1 3) 8 15)), .int (nI 0)] (z_nwi (z_nwo (z_nwo h 1 3) 8 15) 1 (Int32.toNatClampNeg (nI 0)) (fun _ => 0)) (.inl none, h_1) ∧ (¬ (nI 8) < 0 ∧ Int32.toNatClampNeg (nI 8) ≤ 1000000 ∧ (¬ (nI 8) < 0 ∧ Int32.toNatClampNeg (nI 8) ≤ 1000000 ∧ (∃ h_2, z_Ev G d k_X1_init [.ref (z_n h), .ref (z_n (z_nwo h 1 3)), .ref (z_n h_1), .ref (z_n (z_nwi h_1 1 (Int32.toNatClampNeg (nI 8)) (fun _ => 0)))] (z_nwi (z_nwi h_1 1 (Int32.toNatClampNeg (nI 8)) (fun _ => 0)) 1 (Int32.toNatClampNeg (nI 8)) (fun _ => 0)) (.inl none, h_2) ∧ (z_kd h_2 x0 = 27 ∧ (z_J G (d + 1) (m_X11_init z_pu0) r) 55 [some (.ref x0)] [] (z_por h_2 x0 3 (some (z_n h)))))))))) : (z_J G (d + 1) (m_X11_init z_pu0) r) 23 [some (.ref x0)] [] h := z_bq (v_X11 z_pu0 (vP_X11_init z_pu0) hPu) hd_X11_init 19 hT
/-! the class 20 is named by a new and by an array: the table holds the new; here the other -/
def fK_X11q : Nat → Option (Nat × Nat × String) := fun k => (cond (Nat.blt k 1000) (cond (Nat.beq k 20) (some (2, 5, "")) none) none)
def t_X11q (pu : Nat → Option ((List Value → z_H → Prop) × (List Value → z_H → Int32))) : z_CT := (RX11, 11, fF_X11, fM_X11, fK_X11q, fQ_X11, pu)
def m_X11_initq (pu : Nat → Option ((List Value → z_H → Prop) × (List Value → z_H → Int32))) : z_M := (k_X11_init, true, t_X11q pu, p_X11_init)
def xK_X11q : Nat → Nat := fun _ => 1035
theorem vK_X11q (pu : Nat → Option ((List Value → z_H → Prop) × (List Value → z_H → Int32))) : z_KV (t_X11q pu) ∧ z_TV (t_X11q pu) := z_KVof (C := (t_X11q (fun _ => none))) xK_X11q 1000 (by decide +kernel) (fun k hk => by show fK_X11q k = none; unfold fK_X11q; first | rfl | (rw [z_bltF hk]; rfl))
theorem v_X11q {G : z_G} {d : Nat} (hPu : z_PuV G d (t_X11 z_pu0)) : z_V G d (m_X11_initq z_pu0) := ⟨z_CFv, z_AVv, vP_X11_init z_pu0, vF_X11 z_pu0, (vK_X11q z_pu0).1, (vK_X11q z_pu0).2, vM_X11 z_pu0, (vQ_X11 z_pu0).1, (vQ_X11 z_pu0).2, vS_X11 z_pu0, hPu⟩
set_option maxRecDepth 20000 in
theorem b_X11_init_55 {G : z_G} {d : Nat} {r : z_Res} (hPu : z_PuV G d (t_X11 z_pu0)) {h : z_H} {x0 : Nat} (hT : (¬ (nI 4) < 0 ∧ Int32.toNatClampNeg (nI 4) ≤ 1000000 ∧ (z_kd (z_nwr h 5 (Int32.toNatClampNeg (nI 4))) x0 = 27 ∧ (z_J G (d + 1) (m_X11_init z_pu0) r) 63 [some (.ref x0)] [] (z_por (z_nwr h 5 (Int32.toNatClampNeg (nI 4))) x0 4 (some (z_n h)))))) : (z_J G (d + 1) (m_X11_init z_pu0) r) 55 [some (.ref x0)] [] h := (z_bq (μ := m_X11_initq z_pu0) (v_X11q hPu) hd_X11_init 7 hT : (z_J G (d + 1) (m_X11_initq z_pu0) r) 55 [some (.ref x0)] [] h)
set_option maxRecDepth 20000 in
theorem b_X11_init_63 {G : z_G} {d : Nat} {r : z_Res} (hPu : z_PuV G d (t_X11 z_pu0)) {h : z_H} {x0 : Nat} (hT : (z_kd h x0 = 27 ∧ (z_J G (d + 1) (m_X11_init z_pu0) r) 68 [some (.ref x0)] [] (z_por h x0 5 none))) : (z_J G (d + 1) (m_X11_init z_pu0) r) 63 [some (.ref x0)] [] h := z_bq (v_X11 z_pu0 (vP_X11_init z_pu0) hPu) hd_X11_init 6 hT
set_option maxRecDepth 20000 in
theorem b_X11_init_68 {G : z_G} {d : Nat} {r : z_Res} (hPu : z_PuV G d (t_X11 z_pu0)) {h : z_H} {x0 : Nat} (hT : (z_kd h x0 = 27 ∧ (z_J G (d + 1) (m_X11_init z_pu0) r) 73 [some (.ref x0)] [] (z_poi h x0 6 (nI 0)))) : (z_J G (d + 1) (m_X11_init z_pu0) r) 68 [some (.ref x0)] [] h := z_bq (v_X11 z_pu0 (vP_X11_init z_pu0) hPu) hd_X11_init 6 hT
set_option maxRecDepth 20000 in
theorem b_X11_init_73 {G : z_G} {d : Nat} {r : z_Res} (hPu : z_PuV G d (t_X11 z_pu0)) {h : z_H} {x0 : Nat} (hT : (z_kd h x0 = 27 ∧ (z_J G (d + 1) (m_X11_init z_pu0) r) 78 [some (.ref x0)] [] (z_poi h x0 7 (nI 0)))) : (z_J G (d + 1) (m_X11_init z_pu0) r) 73 [some (.ref x0)] [] h := z_bq (v_X11 z_pu0 (vP_X11_init z_pu0) hPu) hd_X11_init 6 hT
set_option maxRecDepth 20000 in
theorem b_X11_init_78 {G : z_G} {d : Nat} {r : z_Res} (hPu : z_PuV G d (t_X11 z_pu0)) {h : z_H} {x0 : Nat} (hT : (z_kd h x0 = 27 ∧ (z_J G (d + 1) (m_X11_init z_pu0) r) 83 [some (.ref x0)] [] (z_poi h x0 8 (nI 0)))) : (z_J G (d + 1) (m_X11_init z_pu0) r) 78 [some (.ref x0)] [] h := z_bq (v_X11 z_pu0 (vP_X11_init z_pu0) hPu) hd_X11_init 6 hT
set_option maxRecDepth 20000 in
theorem b_X11_init_83 {G : z_G} {d : Nat} {r : z_Res} (hPu : z_PuV G d (t_X11 z_pu0)) {h : z_H} {x0 : Nat} (hT : (z_kd h x0 = 27 ∧ (z_J G (d + 1) (m_X11_init z_pu0) r) 88 [some (.ref x0)] [] (z_por h x0 9 none))) : (z_J G (d + 1) (m_X11_init z_pu0) r) 83 [some (.ref x0)] [] h := z_bq (v_X11 z_pu0 (vP_X11_init z_pu0) hPu) hd_X11_init 6 hT
set_option maxRecDepth 20000 in
theorem b_X11_init_88 {G : z_G} {d : Nat} {r : z_Res} (hPu : z_PuV G d (t_X11 z_pu0)) {h : z_H} {x0 : Nat} (hT : (∃ h_1, z_Ev G d k_X7_init [.ref (z_n h)] (z_nwo h 7 14) (.inl none, h_1) ∧ (z_kd h_1 x0 = 27 ∧ (z_J G (d + 1) (m_X11_init z_pu0) r) 99 [some (.ref x0)] [] (z_por h_1 x0 10 (some (z_n h)))))) : (z_J G (d + 1) (m_X11_init z_pu0) r) 88 [some (.ref x0)] [] h := z_bq (v_X11 z_pu0 (vP_X11_init z_pu0) hPu) hd_X11_init 8 hT
set_option maxRecDepth 20000 in
theorem b_X11_init_99 {G : z_G} {d : Nat} {r : z_Res} (hPu : z_PuV G d (t_X11 z_pu0)) {h : z_H} {x0 : Nat} (hT : (∃ h_1, z_Ev G d k_X5_init [.ref (z_n h)] (z_nwo h 5 13) (.inl none, h_1) ∧ (z_kd h_1 x0 = 27 ∧ (z_J G (d + 1) (m_X11_init z_pu0) r) 110 [some (.ref x0)] [] (z_por h_1 x0 11 (some (z_n h)))))) : (z_J G (d + 1) (m_X11_init z_pu0) r) 99 [some (.ref x0)] [] h := z_bq (v_X11 z_pu0 (vP_X11_init z_pu0) hPu) hd_X11_init 8 hT
set_option maxRecDepth 20000 in
theorem b_X11_init_110 {G : z_G} {d : Nat} {r : z_Res} (hPu : z_PuV G d (t_X11 z_pu0)) {h : z_H} {x0 : Nat} (hT : (∃ h_1, z_Ev G d k_X4_init [.ref (z_n h)] (z_nwo h 4 12) (.inl none, h_1) ∧ (z_kd h_1 x0 = 27 ∧ (z_J G (d + 1) (m_X11_init z_pu0) r) 121 [some (.ref x0)] [] (z_por h_1 x0 12 (some (z_n h)))))) : (z_J G (d + 1) (m_X11_init z_pu0) r) 110 [some (.ref x0)] [] h := z_bq (v_X11 z_pu0 (vP_X11_init z_pu0) hPu) hd_X11_init 8 hT
set_option maxRecDepth 20000 in
theorem b_X11_init_121 {G : z_G} {d : Nat} {r : z_Res} (hPu : z_PuV G d (t_X11 z_pu0)) {h : z_H} {x0 : Nat} (hT : (∃ h_1, z_Ev G d k_X2_init [.ref (z_n h)] (z_nwo h 2 14) (.inl none, h_1) ∧ (z_kd h_1 x0 = 27 ∧ (z_J G (d + 1) (m_X11_init z_pu0) r) 132 [some (.ref x0)] [] (z_por h_1 x0 13 (some (z_n h)))))) : (z_J G (d + 1) (m_X11_init z_pu0) r) 121 [some (.ref x0)] [] h := z_bq (v_X11 z_pu0 (vP_X11_init z_pu0) hPu) hd_X11_init 8 hT
set_option maxRecDepth 20000 in
theorem b_X11_init_132 {G : z_G} {d : Nat} {r : z_Res} (hPu : z_PuV G d (t_X11 z_pu0)) {h : z_H} {x0 : Nat} (hT : (∃ h_1, z_Ev G d k_X6_init [.ref (z_n h)] (z_nwo h 6 4) (.inl none, h_1) ∧ (z_kd h_1 x0 = 27 ∧ (z_J G (d + 1) (m_X11_init z_pu0) r) 143 [some (.ref x0)] [] (z_por h_1 x0 14 (some (z_n h)))))) : (z_J G (d + 1) (m_X11_init z_pu0) r) 132 [some (.ref x0)] [] h := z_bq (v_X11 z_pu0 (vP_X11_init z_pu0) hPu) hd_X11_init 8 hT
set_option maxRecDepth 20000 in
theorem b_X11_init_143 {G : z_G} {d : Nat} {r : z_Res} (hPu : z_PuV G d (t_X11 z_pu0)) {h : z_H} {x0 : Nat} (hT : (∃ h_1, z_Ev G d k_X9_init [.ref (z_n h)] (z_nwo h 9 2) (.inl none, h_1) ∧ (z_kd h_1 x0 = 27 ∧ (z_J G (d + 1) (m_X11_init z_pu0) r) 154 [some (.ref x0)] [] (z_por h_1 x0 15 (some (z_n h)))))) : (z_J G (d + 1) (m_X11_init z_pu0) r) 143 [some (.ref x0)] [] h := z_bq (v_X11 z_pu0 (vP_X11_init z_pu0) hPu) hd_X11_init 8 hT
set_option maxRecDepth 20000 in
theorem b_X11_init_154 {G : z_G} {d : Nat} {r : z_Res} (hPu : z_PuV G d (t_X11 z_pu0)) {h : z_H} {x0 : Nat} (hT : (∃ h_1, z_Ev G d k_X10_init [.ref (z_n h)] (z_nwo h 10 4) (.inl none, h_1) ∧ (z_kd h_1 x0 = 27 ∧ (z_J G (d + 1) (m_X11_init z_pu0) r) 165 [none] [] (z_por h_1 x0 16 (some (z_n h)))))) : (z_J G (d + 1) (m_X11_init z_pu0) r) 154 [some (.ref x0)] [] h := z_bq (v_X11 z_pu0 (vP_X11_init z_pu0) hPu) hd_X11_init 8 hT
set_option maxRecDepth 20000 in
theorem b_X11_init_165 {G : z_G} {d : Nat} {r : z_Res} (hPu : z_PuV G d (t_X11 z_pu0)) {h : z_H}  (hT : r = (.inl none, h)) : (z_J G (d + 1) (m_X11_init z_pu0) r) 165 [none] [] h := z_bq (v_X11 z_pu0 (vP_X11_init z_pu0) hPu) hd_X11_init 3 hT
/-! THE LISTER MADE -/
def foL (L B : Nat) (h h' : z_H) : Prop := ∀ a, a < B → a ≠ L → z_kd h' a = z_kd h a ∧ z_ln h' a = z_ln h a ∧ z_oi h' a = z_oi h a ∧ z_or h' a = z_or h a ∧ z_ai h' a = z_ai h a ∧ z_al h' a = z_al h a ∧ z_ar h' a = z_ar h a
def SI (h0 : z_H) (L N c s : Nat) (O : Nat → Option Nat) (F : Nat → Int32) (h : z_H) : Prop := (z_n h = N ∧ ∀ a, N ≤ a → z_kd h a = z_kd h0 a) ∧ z_c h = z_c h0 + c ∧ z_s h = z_s h0 + s ∧ z_kd h L = 27 ∧ z_or h L = O ∧ z_oi h L = F ∧ L < N ∧ frm L h0 h
/-- a helper as it was made -/
def hF (x k κ : Nat) (K Ln : Nat → Nat) (O : Nat → Option Nat) (F : Nat → Int32) (h : z_H) : Prop := z_kd h x = κ ∧ z_or h x = O ∧ z_oi h x = F ∧ ∀ j, j < k → z_kd h (x + 1 + j) = K j ∧ z_ln h (x + 1 + j) = Ln j ∧ (K j = 1 ∨ K j = 3 ∨ K j = 4 → z_ai h (x + 1 + j) = fun _ => 0) ∧ (K j = 2 → z_al h (x + 1 + j) = fun _ => 0) ∧ (K j = 5 ∨ K j = 6 → z_ar h (x + 1 + j) = fun _ => none)
section C16
variable {G : z_G} {d L N B c s x k κ t : Nat} {h0 h h' h'' : z_H} {K Ln : Nat → Nat} {O O' : Nat → Option Nat} {F F' : Nat → Int32}
theorem fo_t (e1 : foL L B h h') (e2 : foL L B h' h'') : foL L B h h'' := fun a ha hn => by
  obtain ⟨p1, p2, p3, p4, p5, p6, p7⟩ := e1 a ha hn
  obtain ⟨q1, q2, q3, q4, q5, q6, q7⟩ := e2 a ha hn
  exact ⟨q1.trans p1, q2.trans p2, q3.trans p3, q4.trans p4, q5.trans p5, q6.trans p6, q7.trans p7⟩
theorem fo_l {B' : Nat} (e : foL L B h h') (hB : B' ≤ B) : foL L B' h h' := fun a ha hn => e a (by omega) hn
theorem hF_fo (e : foL L B h h') (hx : L < x) (hk : x + k < B) (hf : hF x k κ K Ln O F h) : hF x k κ K Ln O F h' := by
  obtain ⟨f1, f2, f3, f4⟩ := hf
  obtain ⟨p1, p2, p3, p4, p5, p6, p7⟩ := e x (by omega) (by omega)
  refine ⟨p1.trans f1, p4.trans f2, p3.trans f3, fun j hj => ?_⟩
  obtain ⟨q1, q2, q3, q4, q5, q6, q7⟩ := e (x + 1 + j) (by omega) (by omega)
  rw [q1, q2, q5, q6, q7]
  exact f4 j hj
theorem hF_k (hf : hF x k κ K Ln O F h) (h1 : κ ≠ 24) (h2 : ∀ j, j < k → K j ≠ 24) : ∀ a, x ≤ a → a < x + 1 + k → z_kd h a ≠ 24 := fun a h3 h4 => by
  by_cases e : a = x
  · rw [e, hf.1]; exact h1
  · obtain ⟨j, ej⟩ : ∃ j, a = x + 1 + j := ⟨a - (x + 1), by omega⟩
    rw [ej, (hf.2.2.2 j (by omega)).1]
    exact h2 j (by omega)
theorem si_por (hs : SI h0 L N c s O F h) (k : Nat) (v : Option Nat) : SI h0 L N c s (z_u O k v) F (z_por h L k v) ∧ ∀ B, foL L B h (z_por h L k v) := by
  obtain ⟨i1, i2, i3, i4, i5, i6, i7, i8⟩ := hs
  refine ⟨⟨i1, i2, i3, i4, ?_, i6, i7, fun a ha => ?_⟩, fun B a ha hn => ⟨rfl, rfl, rfl, u_ne _ _ hn, rfl, rfl, rfl⟩⟩
  · show z_u (z_or h) L (z_u (z_or h L) k v) L = _
    rw [u_eq, i5]
  · obtain ⟨q1, q2, q3, q4, q5, q6, q7⟩ := i8 a ha
    exact ⟨q1, q2, q3, (u_ne _ _ (by omega)).trans q4, q5, q6, q7⟩
theorem si_poi (hs : SI h0 L N c s O F h) (k : Nat) (v : Int32) : SI h0 L N c s O (z_u F k v) (z_poi h L k v) ∧ ∀ B, foL L B h (z_poi h L k v) := by
  obtain ⟨i1, i2, i3, i4, i5, i6, i7, i8⟩ := hs
  refine ⟨⟨i1, i2, i3, i4, i5, ?_, i7, fun a ha => ?_⟩, fun B a ha hn => ⟨rfl, rfl, u_ne _ _ hn, rfl, rfl, rfl, rfl⟩⟩
  · show z_u (z_oi h) L (z_u (z_oi h L) k v) L = _
    rw [u_eq, i6]
  · obtain ⟨q1, q2, q3, q4, q5, q6, q7⟩ := i8 a ha
    exact ⟨q1, q2, (u_ne _ _ (by omega)).trans q3, q4, q5, q6, q7⟩
/-- something made behind -/
theorem si_new {N' c' s' : Nat} (hs : SI h0 L N c s O F h) (hn : z_n h' = N' ∧ ∀ a, N' ≤ a → z_kd h' a = z_kd h a) (hN : N ≤ N') (hc : z_c h' = z_c h + c') (hs' : z_s h' = z_s h + s') (fr : ∀ a, a < N → z_kd h' a = z_kd h a ∧ z_ln h' a = z_ln h a ∧ z_oi h' a = z_oi h a ∧ z_or h' a = z_or h a ∧ z_ai h' a = z_ai h a ∧ z_al h' a = z_al h a ∧ z_ar h' a = z_ar h a) : SI h0 L N' (c + c') (s + s') O F h' ∧ foL L N h h' := by
  obtain ⟨⟨i1, ik⟩, i2, i3, i4, i5, i6, i7, i8⟩ := hs
  obtain ⟨p1, p2, p3, p4, p5, p6, p7⟩ := fr L i7
  refine ⟨⟨⟨hn.1, fun a ha => (hn.2 a ha).trans (ik a (by omega))⟩, by omega, by omega, p1.trans i4, p4.trans i5, p3.trans i6, by omega, fun a ha => ?_⟩, fun a ha _ => fr a ha⟩
  obtain ⟨q1, q2, q3, q4, q5, q6, q7⟩ := i8 a ha
  obtain ⟨r1, r2, r3, r4, r5, r6, r7⟩ := fr a (by omega)
  exact ⟨r1.trans q1, r2.trans q2, r3.trans q3, r4.trans q4, r5.trans q5, r6.trans q6, r7.trans q7⟩
theorem si_help {ci nf : Nat} (hs : SI h0 L N c s O F h) (g : gI (z_nwo h ci nf) N k t κ K Ln O' F' h') : SI h0 L (N + 1 + k) (c + (1 + k)) (s + (nf + t)) O F h' ∧ foL L N h h' ∧ hF N k κ K Ln O' F' h' := by
  have hN := hs.1.1
  obtain ⟨⟨g1, g2⟩, g3, g4, g5, g6, g7, g8, g9⟩ := g
  have h3 : z_c (z_nwo h ci nf) = z_c h + 1 := rfl
  have h4 : z_s (z_nwo h ci nf) = z_s h + nf := rfl
  have := si_new (h' := h') hs ⟨g1, fun a ha => (g2 a ha).trans (u_ne _ _ (by omega))⟩ (by omega) (c' := 1 + k) (by omega) (s' := nf + t) (by omega) (fun a ha => by
    obtain ⟨q1, q2, q3, q4, q5, q6, q7⟩ := g9 a ha
    exact ⟨q1.trans (u_ne _ _ (by omega)), q2, q3.trans (u_ne _ _ (by omega)), q4.trans (u_ne _ _ (by omega)), q5, q6, q7⟩)
  exact ⟨this.1, this.2, g5, g6, g7, g8⟩
def c_S0 : Sc := (7, 0, fun _ => 0)
/-- the first card -/
theorem si_card (hs : SI h0 L N c s O F h) (hN : N = L + 2) : ∃ h1 h2, z_Ev G (d + 5) k_X8_init [.ref (z_n (z_nwo h 1 3)), .int (nI 7), .ref (z_n (z_nwo (z_nwo h 1 3) 8 15)), .int (nI 0)] (z_nwi (z_nwo (z_nwo h 1 3) 8 15) 1 (Int32.toNatClampNeg (nI 0)) (fun _ => 0)) (.inl none, h1) ∧ z_Ev G (d + 5) k_X1_init [.ref (z_n h), .ref (z_n (z_nwo h 1 3)), .ref (z_n h1), .ref (z_n (z_nwi h1 1 (Int32.toNatClampNeg (nI 8)) (fun _ => 0)))] (z_nwi (z_nwi h1 1 (Int32.toNatClampNeg (nI 8)) (fun _ => 0)) 1 (Int32.toNatClampNeg (nI 8)) (fun _ => 0)) (.inl none, h2) ∧ SI h0 L (L + 15) (c + 13) (s + 127) O F h2 ∧ foL L N h h2 ∧ cd_at (L + 2) (L + 3) (L + 5) (L + 13) (L + 14) h2 (c_S0, fun _ => nI 0, fun _ => nI 0) ∧ sc_no (L + 3) (L + 5) h2 ∧ z_kd h2 (L + 4) = 1 := by
  subst hN
  have hn := hs.1.1
  obtain ⟨g, eg⟩ : ∃ g, g = z_nwi (z_nwo (z_nwo h 1 3) 8 15) 1 0 (fun _ => 0) := ⟨_, rfl⟩
  have gn : z_n g = L + 5 := by rw [eg]; show z_n h + 1 + 1 + 1 = _; omega
  have kq : z_kd g (L + 3) = 24 := by
    rw [eg]
    show z_u (z_u (z_u (z_kd h) (z_n h) 17) (z_n h + 1) 24) (z_n h + 1 + 1) 1 (L + 3) = 24
    rw [hn, u_ne _ _ (by omega), show L + 2 + 1 = L + 3 by omega, u_eq]
  have kc : z_kd g (L + 2) = 17 := by
    rw [eg]
    show z_u (z_u (z_u (z_kd h) (z_n h) 17) (z_n h + 1) 24) (z_n h + 1 + 1) 1 (L + 2) = 17
    rw [hn, u_ne _ _ (by omega), u_ne _ _ (by omega), u_eq]
  have ka : z_kd g (L + 4) = 1 ∧ z_ln g (L + 4) = 0 := by
    rw [eg]
    refine ⟨?_, ?_⟩
    · show z_u (z_u (z_u (z_kd h) (z_n h) 17) (z_n h + 1) 24) (z_n h + 1 + 1) 1 (L + 4) = 1
      rw [hn, show L + 2 + 1 + 1 = L + 4 by omega, u_eq]
    · show z_u (z_ln h) (z_n h + 1 + 1) 0 (L + 4) = 0
      rw [hn, show L + 2 + 1 + 1 = L + 4 by omega, u_eq]
  have go : ∀ a, a < L + 2 → z_kd g a = z_kd h a ∧ z_ln g a = z_ln h a ∧ z_oi g a = z_oi h a ∧ z_or g a = z_or h a ∧ z_ai g a = z_ai h a ∧ z_al g a = z_al h a ∧ z_ar g a = z_ar h a := fun a ha => by
    rw [eg]
    refine ⟨?_, ?_, ?_, ?_, ?_, rfl, rfl⟩
    · show z_u (z_u (z_u (z_kd h) (z_n h) 17) (z_n h + 1) 24) (z_n h + 1 + 1) 1 a = _
      rw [u_ne _ _ (by omega), u_ne _ _ (by omega), u_ne _ _ (by omega)]
    · show z_u (z_ln h) (z_n h + 1 + 1) 0 a = _
      rw [u_ne _ _ (by omega)]
    · show z_u (z_u (z_oi h) (z_n h) _) (z_n h + 1) _ a = _
      rw [u_ne _ _ (by omega), u_ne _ _ (by omega)]
    · show z_u (z_u (z_or h) (z_n h) _) (z_n h + 1) _ a = _
      rw [u_ne _ _ (by omega), u_ne _ _ (by omega)]
    · show z_u (z_ai h) (z_n h + 1 + 1) _ a = _
      rw [u_ne _ _ (by omega)]
  have gk : ∀ a, L + 5 ≤ a → z_kd g a = z_kd h a := fun a ha => by
    rw [eg]
    show z_u (z_u (z_u (z_kd h) (z_n h) 17) (z_n h + 1) 24) (z_n h + 1 + 1) 1 a = _
    rw [u_ne _ _ (by omega), u_ne _ _ (by omega), u_ne _ _ (by omega)]
  have gc : z_c g = z_c h + 3 ∧ z_s g = z_s h + 18 := by rw [eg]; exact ⟨rfl, rfl⟩
  have c0 : c_sok c_S0 := cok_0.1
  obtain ⟨h1, E1, ⟨n1, k1⟩, cc1, ss1, A1, no1, fq1⟩ := e8_init (G := G) (d := d) (S := c_S0) c0 gn kq (by omega) (a := L + 4) (by omega) (by omega) ka.1 ka.2 (by decide) (Nat.le_refl _) (fun l hl => absurd hl (Nat.not_lt_zero _))
  have z0 : (Int32.toNatClampNeg (nI 0)) = 0 := nI_clamp (by decide)
  have z8 : (Int32.toNatClampNeg (nI 8)) = 8 := nI_clamp (by decide)
  have e2 : z_n (z_nwo h 1 3) = L + 3 ∧ z_n (z_nwo (z_nwo h 1 3) 8 15) = L + 4 := by
    refine ⟨?_, ?_⟩
    · show z_n h + 1 = _; omega
    · show z_n h + 1 + 1 = _; omega
  obtain ⟨g2, eg2⟩ : ∃ g2, g2 = z_nwi (z_nwi h1 1 8 (fun _ => 0)) 1 8 (fun _ => 0) := ⟨_, rfl⟩
  have g2o : ∀ a, a < L + 13 → z_kd g2 a = z_kd h1 a ∧ z_ln g2 a = z_ln h1 a ∧ z_oi g2 a = z_oi h1 a ∧ z_or g2 a = z_or h1 a ∧ z_ai g2 a = z_ai h1 a ∧ z_al g2 a = z_al h1 a ∧ z_ar g2 a = z_ar h1 a := fun a ha => by
    rw [eg2]
    refine ⟨?_, ?_, rfl, rfl, ?_, rfl, rfl⟩
    · show z_u (z_u (z_kd h1) (z_n h1) 1) (z_n h1 + 1) 1 a = _
      rw [u_ne _ _ (by omega), u_ne _ _ (by omega)]
    · show z_u (z_u (z_ln h1) (z_n h1) 8) (z_n h1 + 1) 8 a = _
      rw [u_ne _ _ (by omega), u_ne _ _ (by omega)]
    · show z_u (z_u (z_ai h1) (z_n h1) _) (z_n h1 + 1) _ a = _
      rw [u_ne _ _ (by omega), u_ne _ _ (by omega)]
  have g2u : (z_kd g2 (L + 13) = 1 ∧ z_ln g2 (L + 13) = 8 ∧ z_ai g2 (L + 13) = fun _ => 0) ∧ z_kd g2 (L + 14) = 1 ∧ z_ln g2 (L + 14) = 8 ∧ z_ai g2 (L + 14) = fun _ => 0 := by
    rw [eg2]
    have e3 : L + 13 = z_n h1 := by omega
    have e4 : L + 14 = z_n h1 + 1 := by omega
    rw [e3, e4]
    refine ⟨⟨?_, ?_, ?_⟩, u_eq _ _ _, u_eq _ _ _, u_eq _ _ _⟩
    · show z_u (z_u (z_kd h1) (z_n h1) 1) (z_n h1 + 1) 1 (z_n h1) = _
      rw [u_ne _ _ (by omega), u_eq]
    · show z_u (z_u (z_ln h1) (z_n h1) 8) (z_n h1 + 1) 8 (z_n h1) = _
      rw [u_ne _ _ (by omega), u_eq]
    · show z_u (z_u (z_ai h1) (z_n h1) _) (z_n h1 + 1) _ (z_n h1) = _
      rw [u_ne _ _ (by omega), u_eq]
  have g2k : ∀ a, L + 15 ≤ a → z_kd g2 a = z_kd h1 a := fun a ha => by
    rw [eg2]
    show z_u (z_u (z_kd h1) (z_n h1) 1) (z_n h1 + 1) 1 a = _
    rw [u_ne _ _ (by omega), u_ne _ _ (by omega)]
  have g2n : z_n g2 = L + 15 ∧ z_c g2 = z_c h1 + 2 ∧ z_s g2 = z_s h1 + 16 := by
    rw [eg2]
    exact ⟨by show z_n h1 + 1 + 1 = _; omega, rfl, rfl⟩
  have fc := fq1 (L + 2) (by omega) (by omega)
  have kc2 : z_kd g2 (L + 2) = 17 := (g2o _ (by omega)).1.trans (fc.1.trans kc)
  have A2 : sc_at (L + 3) (L + 5) g2 c_S0 := sc_at_of A1 (fun a ha => ⟨(g2o a (by omega)).1, (g2o a (by omega)).2.1⟩) (g2o _ (by omega)).2.2.1 (fun k _ => by rw [(g2o _ (by omega)).2.2.2.1]) (fun j hj _ _ => (g2o _ (by omega)).2.2.2.2.1)
  obtain ⟨h2, eh2⟩ : ∃ h2, h2 = crd g2 (L + 2) (L + 3) (L + 13) (L + 14) := ⟨_, rfl⟩
  have h2x : z_n h2 = z_n g2 ∧ z_c h2 = z_c g2 ∧ z_s h2 = z_s g2 ∧ z_kd h2 = z_kd g2 ∧ z_ln h2 = z_ln g2 ∧ z_oi h2 = z_oi g2 ∧ z_ai h2 = z_ai g2 ∧ z_al h2 = z_al g2 ∧ z_ar h2 = z_ar g2 := by rw [eh2]; exact ⟨rfl, rfl, rfl, rfl, rfl, rfl, rfl, rfl, rfl⟩
  have h2o : ∀ a, a ≠ L + 2 → z_or h2 a = z_or g2 a := fun a ha => by rw [eh2]; exact funext fun j => crd_or a j ha
  have h2c : z_or h2 (L + 2) 0 = some (L + 3) ∧ z_or h2 (L + 2) 1 = some (L + 13) ∧ z_or h2 (L + 2) 2 = some (L + 14) := by
    rw [eh2]
    refine ⟨?_, ?_, ?_⟩
    · show z_u (z_u (z_u (z_or g2) (L + 2) (z_u (z_or g2 (L + 2)) 0 (some (L + 3)))) (L + 2) (z_u (z_u (z_or g2) (L + 2) (z_u (z_or g2 (L + 2)) 0 (some (L + 3))) (L + 2)) 1 (some (L + 13)))) (L + 2) (z_u (z_u (z_u (z_or g2) (L + 2) (z_u (z_or g2 (L + 2)) 0 (some (L + 3)))) (L + 2) (z_u (z_u (z_or g2) (L + 2) (z_u (z_or g2 (L + 2)) 0 (some (L + 3))) (L + 2)) 1 (some (L + 13))) (L + 2)) 2 (some (L + 14))) (L + 2) 0 = _
      rw [u_eq, u_ne _ _ (by decide), u_eq, u_ne _ _ (by decide), u_eq, u_eq]
    · show z_u (z_u (z_u (z_or g2) (L + 2) (z_u (z_or g2 (L + 2)) 0 (some (L + 3)))) (L + 2) (z_u (z_u (z_or g2) (L + 2) (z_u (z_or g2 (L + 2)) 0 (some (L + 3))) (L + 2)) 1 (some (L + 13)))) (L + 2) (z_u (z_u (z_u (z_or g2) (L + 2) (z_u (z_or g2 (L + 2)) 0 (some (L + 3)))) (L + 2) (z_u (z_u (z_or g2) (L + 2) (z_u (z_or g2 (L + 2)) 0 (some (L + 3))) (L + 2)) 1 (some (L + 13))) (L + 2)) 2 (some (L + 14))) (L + 2) 1 = _
      rw [u_eq, u_ne _ _ (by decide), u_eq, u_eq]
    · show z_u (z_u (z_u (z_or g2) (L + 2) (z_u (z_or g2 (L + 2)) 0 (some (L + 3)))) (L + 2) (z_u (z_u (z_or g2) (L + 2) (z_u (z_or g2 (L + 2)) 0 (some (L + 3))) (L + 2)) 1 (some (L + 13)))) (L + 2) (z_u (z_u (z_u (z_or g2) (L + 2) (z_u (z_or g2 (L + 2)) 0 (some (L + 3)))) (L + 2) (z_u (z_u (z_or g2) (L + 2) (z_u (z_or g2 (L + 2)) 0 (some (L + 3))) (L + 2)) 1 (some (L + 13))) (L + 2)) 2 (some (L + 14))) (L + 2) 2 = _
      rw [u_eq, u_eq]
  have E2 := e1_init (G := G) (d := d + 1) (h := g2) (c := L + 2) (q := L + 3) (u := L + 13) (v := L + 14) kc2
  rw [← eh2] at E2
  have A3 : sc_at (L + 3) (L + 5) h2 c_S0 := sc_at_of A2 (fun a _ => ⟨by rw [h2x.2.2.2.1], by rw [h2x.2.2.2.2.1]⟩) (by rw [h2x.2.2.2.2.2.1]) (fun k _ => by rw [h2o _ (by omega)]) (fun j _ _ _ => by rw [h2x.2.2.2.2.2.2.1])
  have all : ∀ a, a < L + 2 → z_kd h2 a = z_kd h a ∧ z_ln h2 a = z_ln h a ∧ z_oi h2 a = z_oi h a ∧ z_or h2 a = z_or h a ∧ z_ai h2 a = z_ai h a ∧ z_al h2 a = z_al h a ∧ z_ar h2 a = z_ar h a := fun a ha => by
    obtain ⟨p1, p2, p3, p4, p5, p6, p7⟩ := go a ha
    obtain ⟨q1, q2, q3, q4, q5, q6, q7⟩ := fq1 a (by omega) (by omega)
    obtain ⟨r1, r2, r3, r4, r5, r6, r7⟩ := g2o a (by omega)
    rw [h2x.2.2.2.1, h2x.2.2.2.2.1, h2x.2.2.2.2.2.1, h2o a (by omega), h2x.2.2.2.2.2.2.1, h2x.2.2.2.2.2.2.2.1, h2x.2.2.2.2.2.2.2.2]
    exact ⟨r1.trans (q1.trans p1), r2.trans (q2.trans p2), r3.trans (q3.trans p3), r4.trans (q4.trans p4), r5.trans (q5.trans p5), r6.trans (q6.trans p6), r7.trans (q7.trans p7)⟩
  have ss1' : z_s h1 = z_s g + 93 := ss1
  have si := si_new (h' := h2) hs (N' := L + 15) ⟨by rw [h2x.1]; exact g2n.1, fun a ha => by rw [h2x.2.2.2.1, g2k a ha, k1 a (by omega), gk a (by omega)]⟩ (by omega) (c' := 13) (by rw [h2x.2.1]; omega) (s' := 127) (by rw [h2x.2.2.1]; omega) all
  refine ⟨h1, h2, ?_, ?_, si.1, si.2, ⟨?_, h2c.1, ⟨h2c.2.1, ?_, ?_⟩, ⟨h2c.2.2, ?_, ?_⟩, A3, fun p _ => ⟨?_, ?_⟩⟩, ?_, ?_⟩
  · rw [e2.1, e2.2, z0, ← eg]; exact E1
  · rw [z8, ← eg2, hn, e2.1, n1, show z_n (z_nwi h1 1 8 (fun _ => 0)) = L + 14 by show z_n h1 + 1 = _; omega]
    exact E2
  · rw [h2x.2.2.2.1]; exact kc2
  · rw [h2x.2.2.2.1]; exact g2u.1.1
  · rw [h2x.2.2.2.2.1]; exact g2u.1.2.1
  · rw [h2x.2.2.2.1]; exact g2u.2.1
  · rw [h2x.2.2.2.2.1]; exact g2u.2.2.1
  · rw [h2x.2.2.2.2.2.2.1, g2u.1.2.2]; rfl
  · rw [h2x.2.2.2.2.2.2.1, g2u.2.2.2]; rfl
  · obtain ⟨n1, n2, n3, n4, n5⟩ := no1
    unfold sc_no
    rw [h2o _ (by omega), (g2o _ (by omega)).2.2.2.1, h2x.2.2.2.1, h2x.2.2.2.2.1, h2x.2.2.2.2.2.2.2.2, (g2o (L + 5 + 4) (by omega)).1, (g2o (L + 5 + 4) (by omega)).2.1, (g2o (L + 5 + 4) (by omega)).2.2.2.2.2.2]
    exact ⟨n1, n2, n3, n4, n5⟩
  · rw [h2x.2.2.2.1, (g2o _ (by omega)).1]
    exact (fq1 (L + 4) (by omega) (by omega)).1.trans ka.1

theorem e11_init (hn : z_n h0 = L + 1) (hk : z_kd h0 L = 27) (ho : z_or h0 L = fun _ => none) (hi : z_oi h0 L = fun _ => 0) : ∃ h' s, SI h0 L (L + 48) 47 s (z_u (z_u (z_u (z_u (z_u (z_u (z_u (z_u (z_u (z_u (z_u (z_u (fun _ => none) 0 (some (L + 1))) 3 (some (L + 2))) 4 (some (L + 15))) 5 none) 9 none) 10 (some (L + 16))) 11 (some (L + 21))) 12 (some (L + 25))) 13 (some (L + 33))) 14 (some (L + 41))) 15 (some (L + 45))) 16 (some (L + 46))) (z_u (z_u (z_u (z_u (z_u (fun _ => 0) 1 (nI 0)) 2 mI) 6 (nI 0)) 7 (nI 0)) 8 (nI 0)) h' ∧ s ≤ 9000 ∧ (z_kd h' (L + 1) = 1 ∧ z_ln h' (L + 1) = 400) ∧ (cd_at (L + 2) (L + 3) (L + 5) (L + 13) (L + 14) h' (c_S0, fun _ => nI 0, fun _ => nI 0) ∧ sc_no (L + 3) (L + 5) h' ∧ z_kd h' (L + 4) = 1) ∧ (z_kd h' (L + 15) = 5 ∧ z_ln h' (L + 15) = 4 ∧ z_ar h' (L + 15) = fun _ => none) ∧ (hF (L + 16) 4 23 (fun j => if j = 0 then 1 else if j = 1 then 1 else if j = 2 then 1 else if j = 3 then 1 else 0) (fun j => if j = 0 then 0 else if j = 1 then 12 else if j = 2 then 8 else if j = 3 then 8 else 0) (z_u (z_u (z_u (z_u (fun _ => none) 0 (some (L + 16 + 1 + 0))) 9 (some (L + 16 + 1 + 1))) 10 (some (L + 16 + 1 + 2))) 11 (some (L + 16 + 1 + 3))) (z_u (z_u (z_u (z_u (z_u (z_u (z_u (z_u (z_u (z_u (fun _ => 0) 1 (nI 0)) 2 (nI 0)) 3 (nI 0)) 4 (nI 0)) 5 (nI 0)) 6 (nI 0)) 7 (nI 7)) 8 (nI 0)) 12 (nI 0)) 13 mI) h' ∧ hF (L + 21) 3 21 (fun j => if j = 0 then 1 else if j = 1 then 1 else if j = 2 then 1 else 0) (fun j => if j = 0 then 8 else if j = 1 then 8 else if j = 2 then 8 else 0) (z_u (z_u (z_u (z_u (z_u (z_u (z_u (z_u (z_u (z_u (fun _ => none) 0 none) 1 none) 2 none) 3 none) 5 (some (L + 21 + 1 + 0))) 6 none) 8 (some (L + 21 + 1 + 1))) 9 none) 10 none) 12 (some (L + 21 + 1 + 2))) (z_u (z_u (z_u (fun _ => 0) 4 (nI 1)) 7 mI) 11 (nI 0)) h' ∧ hF (L + 25) 7 20 (fun j => if j = 0 then 2 else if j = 1 then 2 else if j = 2 then 1 else if j = 3 then 1 else if j = 4 then 1 else if j = 5 then 6 else if j = 6 then 1 else 0) (fun j => if j = 0 then 8 else if j = 1 then 8 else if j = 2 then 108 else if j = 3 then 12 else if j = 4 then 12 else if j = 5 then 8 else if j = 6 then 8 else 0) (z_u (z_u (z_u (z_u (z_u (z_u (z_u (z_u (z_u (fun _ => none) 0 none) 1 none) 2 (some (L + 25 + 1 + 0))) 3 (some (L + 25 + 1 + 1))) 6 (some (L + 25 + 1 + 2))) 7 (some (L + 25 + 1 + 3))) 8 (some (L + 25 + 1 + 4))) 9 (some (L + 25 + 1 + 5))) 10 (some (L + 25 + 1 + 6))) (z_u (z_u (z_u (fun _ => 0) 4 (nI 0)) 5 (nI 0)) 11 mI) h' ∧ hF (L + 33) 7 18 (fun j => if j = 0 then 6 else if j = 1 then 1 else if j = 2 then 1 else if j = 3 then 1 else if j = 4 then 1 else if j = 5 then 1 else if j = 6 then 1 else 0) (fun j => if j = 0 then 5 else if j = 1 then 16 else if j = 2 then 16 else if j = 3 then 16 else if j = 4 then 64 else if j = 5 then 8 else if j = 6 then 72 else 0) (z_u (z_u (z_u (z_u (z_u (z_u (z_u (z_u (z_u (z_u (fun _ => none) 0 (some (L + 33 + 1 + 0))) 1 (some (L + 33 + 1 + 1))) 2 (some (L + 33 + 1 + 2))) 3 (some (L + 33 + 1 + 3))) 6 none) 7 none) 10 (some (L + 33 + 1 + 4))) 11 (some (L + 33 + 1 + 5))) 12 (some (L + 33 + 1 + 6))) 13 none) (z_u (z_u (z_u (z_u (fun _ => 0) 4 (nI 0)) 5 (nI 0)) 8 (nI 0)) 9 (nI 0)) h' ∧ hF (L + 41) 3 22 (fun j => if j = 0 then 4 else if j = 1 then 1 else if j = 2 then 3 else 0) (fun j => if j = 0 then 256 else if j = 1 then 256 else if j = 2 then 6561 else 0) (z_u (z_u (z_u (fun _ => none) 0 (some (L + 41 + 1 + 0))) 1 (some (L + 41 + 1 + 1))) 2 (some (L + 41 + 1 + 2))) (z_u (fun _ => 0) 3 (nI 0)) h' ∧ hF (L + 45) 0 25 (fun j => 0) (fun j => 0) (fun _ => none) (z_u (z_u (fun _ => 0) 0 (nI 0)) 1 mI) h' ∧ hF (L + 46) 1 26 (fun j => if j = 0 then 1 else 0) (fun j => if j = 0 then 12 else 0) (z_u (fun _ => none) 1 (some (L + 46 + 1 + 0))) (z_u (z_u (z_u (fun _ => 0) 0 (nI 0)) 2 (nI 0)) 3 (nI 0)) h') ∧ z_Ev G (d + 6) k_X11_init [.ref L] h0 (.inl none, h') := by
  have z400 : (Int32.toNatClampNeg (nI 400)) = 400 := nI_clamp (by decide)
  have zc4 : (Int32.toNatClampNeg (nI 4)) = 4 := nI_clamp (by decide)
  -- the tape
  have s0 : SI h0 L (L + 1) 0 0 (fun _ => none) (fun _ => 0) h0 := ⟨⟨hn, fun _ _ => rfl⟩, rfl, rfl, hk, ho, hi, by omega, fun _ _ => ⟨rfl, rfl, rfl, rfl, rfl, rfl, rfl⟩⟩
  obtain ⟨h1, eh1⟩ : ∃ h1, h1 = z_nwi h0 1 400 (fun _ => 0) := ⟨_, rfl⟩
  have s1 := si_new (h' := h1) s0 (N' := L + 2) ⟨by rw [eh1]; show z_n h0 + 1 = _; omega, fun a ha => by rw [eh1]; exact u_ne _ _ (by omega)⟩ (by omega) (c' := 1) (by rw [eh1]; rfl) (s' := 400) (by rw [eh1]; rfl) (fun a ha => by rw [eh1]; exact ⟨u_ne _ _ (by omega), u_ne _ _ (by omega), rfl, rfl, u_ne _ _ (by omega), rfl, rfl⟩)
  have t1 : z_kd h1 (L + 1) = 1 ∧ z_ln h1 (L + 1) = 400 := by
    rw [eh1, ← hn]
    exact ⟨u_eq _ _ _, u_eq _ _ _⟩
  have s1a := si_por s1.1 0 (some (L + 1))
  have s1b := si_poi s1a.1 1 (nI 0)
  have s1c := si_poi s1b.1 2 mI
  obtain ⟨h2, eh2⟩ : ∃ h2, h2 = z_poi (z_poi (z_por h1 L 0 (some (L + 1))) L 1 (nI 0)) L 2 mI := ⟨_, rfl⟩
  have f12 : ∀ B, foL L B h1 h2 := fun B => by rw [eh2]; exact fo_t (s1a.2 B) (fo_t (s1b.2 B) (s1c.2 B))
  have s2 := s1c.1
  rw [← eh2] at s2
  have t2 : z_kd h2 (L + 1) = 1 ∧ z_ln h2 (L + 1) = 400 := by
    obtain ⟨q1, q2, -⟩ := f12 (L + 2) (L + 1) (by omega) (by omega)
    rw [q1, q2]; exact t1
  -- the card
  obtain ⟨h2a, h3, E8, E1, s3, f23, cd3, no3, k43⟩ := si_card (G := G) (d := d) s2 rfl
  have t3 : z_kd h3 (L + 1) = 1 ∧ z_ln h3 (L + 1) = 400 := by
    obtain ⟨q1, q2, -⟩ := f23 (L + 1) (by omega) (by omega)
    rw [q1, q2]; exact t2
  have s3a := si_por s3 3 (some (L + 2))
  -- the shelves
  obtain ⟨h4, eh4⟩ : ∃ h4, h4 = z_nwr (z_por h3 L 3 (some (L + 2))) 5 4 := ⟨_, rfl⟩
  have n3a : z_n (z_por h3 L 3 (some (L + 2))) = L + 15 := s3a.1.1.1
  have s4 := si_new (h' := h4) s3a.1 (N' := L + 16) ⟨by rw [eh4]; show z_n (z_por h3 L 3 (some (L + 2))) + 1 = _; omega, fun a ha => by rw [eh4]; exact u_ne _ _ (by omega)⟩ (by omega) (c' := 1) (by rw [eh4]; rfl) (s' := 4) (by rw [eh4]; rfl) (fun a ha => by rw [eh4]; exact ⟨u_ne _ _ (by omega), u_ne _ _ (by omega), rfl, rfl, rfl, rfl, u_ne _ _ (by omega)⟩)
  have t4 : z_kd h4 (L + 15) = 5 ∧ z_ln h4 (L + 15) = 4 ∧ z_ar h4 (L + 15) = fun _ => none := by
    rw [eh4, ← n3a]
    exact ⟨u_eq _ _ _, u_eq _ _ _, u_eq _ _ _⟩
  have s4a := si_por s4.1 4 (some (L + 15))
  have s4b := si_por s4a.1 5 none
  have s4c := si_poi s4b.1 6 (nI 0)
  have s4d := si_poi s4c.1 7 (nI 0)
  have s4e := si_poi s4d.1 8 (nI 0)
  have s4f := si_por s4e.1 9 none
  obtain ⟨h5, eh5⟩ : ∃ h5, h5 = z_por (z_poi (z_poi (z_poi (z_por (z_por h4 L 4 (some (L + 15))) L 5 none) L 6 (nI 0)) L 7 (nI 0)) L 8 (nI 0)) L 9 none := ⟨_, rfl⟩
  have f45 : ∀ B, foL L B h4 h5 := fun B => by rw [eh5]; exact fo_t (s4a.2 B) (fo_t (s4b.2 B) (fo_t (s4c.2 B) (fo_t (s4d.2 B) (fo_t (s4e.2 B) (s4f.2 B)))))
  have f35 : foL L (L + 15) h3 h5 := fo_t (s3a.2 _) (fo_t s4.2 (f45 _))
  have g0 := s4f.1
  rw [← eh5] at g0
  -- X7
  obtain ⟨k0, q0, E0x⟩ := e7_init (G := G) (d := d + 1) (h0 := z_nwo h5 7 14) (x := L + 16) (by show z_n h5 + 1 = _; rw [g0.1.1]) (by rw [← g0.1.1]; exact u_eq _ _ _)
  have y0 : z_or (z_nwo h5 7 14) (L + 16) = (fun _ => none) ∧ z_oi (z_nwo h5 7 14) (L + 16) = fun _ => 0 := by
    rw [← g0.1.1]
    exact ⟨u_eq _ _ _, u_eq _ _ _⟩
  rw [y0.1, y0.2] at q0
  obtain ⟨w0, v0, u0⟩ := si_help g0 q0
  have w0a := si_por w0 10 (some (L + 16))
  obtain ⟨m0, em0⟩ : ∃ m, m = z_por k0 L 10 (some (L + 16)) := ⟨_, rfl⟩
  have vv0 : foL L (L + 16) h5 m0 := by rw [em0]; exact fo_t v0 (w0a.2 _)
  have uu0 := hF_fo (w0a.2 (L + 100)) (by omega) (by omega) u0
  have g1 := w0a.1
  rw [← em0] at g1 uu0
  -- X5
  obtain ⟨k1, q1, E1x⟩ := e5_init (G := G) (d := d + 1) (h0 := z_nwo m0 5 13) (x := L + 21) (by show z_n m0 + 1 = _; rw [g1.1.1]) (by rw [← g1.1.1]; exact u_eq _ _ _)
  have y1 : z_or (z_nwo m0 5 13) (L + 21) = (fun _ => none) ∧ z_oi (z_nwo m0 5 13) (L + 21) = fun _ => 0 := by
    rw [← g1.1.1]
    exact ⟨u_eq _ _ _, u_eq _ _ _⟩
  rw [y1.1, y1.2] at q1
  obtain ⟨w1, v1, u1⟩ := si_help g1 q1
  have w1a := si_por w1 11 (some (L + 21))
  obtain ⟨m1, em1⟩ : ∃ m, m = z_por k1 L 11 (some (L + 21)) := ⟨_, rfl⟩
  have vv1 : foL L (L + 21) m0 m1 := by rw [em1]; exact fo_t v1 (w1a.2 _)
  have uu1 := hF_fo (w1a.2 (L + 100)) (by omega) (by omega) u1
  have g2 := w1a.1
  rw [← em1] at g2 uu1
  -- X4
  obtain ⟨k2, q2, E2x⟩ := e4_init (G := G) (d := d + 1) (h0 := z_nwo m1 4 12) (x := L + 25) (by show z_n m1 + 1 = _; rw [g2.1.1]) (by rw [← g2.1.1]; exact u_eq _ _ _)
  have y2 : z_or (z_nwo m1 4 12) (L + 25) = (fun _ => none) ∧ z_oi (z_nwo m1 4 12) (L + 25) = fun _ => 0 := by
    rw [← g2.1.1]
    exact ⟨u_eq _ _ _, u_eq _ _ _⟩
  rw [y2.1, y2.2] at q2
  obtain ⟨w2, v2, u2⟩ := si_help g2 q2
  have w2a := si_por w2 12 (some (L + 25))
  obtain ⟨m2, em2⟩ : ∃ m, m = z_por k2 L 12 (some (L + 25)) := ⟨_, rfl⟩
  have vv2 : foL L (L + 25) m1 m2 := by rw [em2]; exact fo_t v2 (w2a.2 _)
  have uu2 := hF_fo (w2a.2 (L + 100)) (by omega) (by omega) u2
  have g3 := w2a.1
  rw [← em2] at g3 uu2
  -- X2
  obtain ⟨k3, q3, E3x⟩ := e2_init (G := G) (d := d + 1) (h0 := z_nwo m2 2 14) (x := L + 33) (by show z_n m2 + 1 = _; rw [g3.1.1]) (by rw [← g3.1.1]; exact u_eq _ _ _)
  have y3 : z_or (z_nwo m2 2 14) (L + 33) = (fun _ => none) ∧ z_oi (z_nwo m2 2 14) (L + 33) = fun _ => 0 := by
    rw [← g3.1.1]
    exact ⟨u_eq _ _ _, u_eq _ _ _⟩
  rw [y3.1, y3.2] at q3
  obtain ⟨w3, v3, u3⟩ := si_help g3 q3
  have w3a := si_por w3 13 (some (L + 33))
  obtain ⟨m3, em3⟩ : ∃ m, m = z_por k3 L 13 (some (L + 33)) := ⟨_, rfl⟩
  have vv3 : foL L (L + 33) m2 m3 := by rw [em3]; exact fo_t v3 (w3a.2 _)
  have uu3 := hF_fo (w3a.2 (L + 100)) (by omega) (by omega) u3
  have g4 := w3a.1
  rw [← em3] at g4 uu3
  -- X6
  obtain ⟨k4, q4, E4x⟩ := e6_init (G := G) (d := d + 1) (h0 := z_nwo m3 6 4) (x := L + 41) (by show z_n m3 + 1 = _; rw [g4.1.1]) (by rw [← g4.1.1]; exact u_eq _ _ _)
  have y4 : z_or (z_nwo m3 6 4) (L + 41) = (fun _ => none) ∧ z_oi (z_nwo m3 6 4) (L + 41) = fun _ => 0 := by
    rw [← g4.1.1]
    exact ⟨u_eq _ _ _, u_eq _ _ _⟩
  rw [y4.1, y4.2] at q4
  obtain ⟨w4, v4, u4⟩ := si_help g4 q4
  have w4a := si_por w4 14 (some (L + 41))
  obtain ⟨m4, em4⟩ : ∃ m, m = z_por k4 L 14 (some (L + 41)) := ⟨_, rfl⟩
  have vv4 : foL L (L + 41) m3 m4 := by rw [em4]; exact fo_t v4 (w4a.2 _)
  have uu4 := hF_fo (w4a.2 (L + 100)) (by omega) (by omega) u4
  have g5 := w4a.1
  rw [← em4] at g5 uu4
  -- X9
  obtain ⟨k5, q5, E5x⟩ := e9_init (G := G) (d := d + 1) (h0 := z_nwo m4 9 2) (x := L + 45) (by show z_n m4 + 1 = _; rw [g5.1.1]) (by rw [← g5.1.1]; exact u_eq _ _ _)
  have y5 : z_or (z_nwo m4 9 2) (L + 45) = (fun _ => none) ∧ z_oi (z_nwo m4 9 2) (L + 45) = fun _ => 0 := by
    rw [← g5.1.1]
    exact ⟨u_eq _ _ _, u_eq _ _ _⟩
  rw [y5.1, y5.2] at q5
  obtain ⟨w5, v5, u5⟩ := si_help g5 q5
  have w5a := si_por w5 15 (some (L + 45))
  obtain ⟨m5, em5⟩ : ∃ m, m = z_por k5 L 15 (some (L + 45)) := ⟨_, rfl⟩
  have vv5 : foL L (L + 45) m4 m5 := by rw [em5]; exact fo_t v5 (w5a.2 _)
  have uu5 := hF_fo (w5a.2 (L + 100)) (by omega) (by omega) u5
  have g6 := w5a.1
  rw [← em5] at g6 uu5
  -- X10
  obtain ⟨k6, q6, E6x⟩ := e10_init (G := G) (d := d + 1) (h0 := z_nwo m5 10 4) (x := L + 46) (by show z_n m5 + 1 = _; rw [g6.1.1]) (by rw [← g6.1.1]; exact u_eq _ _ _)
  have y6 : z_or (z_nwo m5 10 4) (L + 46) = (fun _ => none) ∧ z_oi (z_nwo m5 10 4) (L + 46) = fun _ => 0 := by
    rw [← g6.1.1]
    exact ⟨u_eq _ _ _, u_eq _ _ _⟩
  rw [y6.1, y6.2] at q6
  obtain ⟨w6, v6, u6⟩ := si_help g6 q6
  have w6a := si_por w6 16 (some (L + 46))
  obtain ⟨m6, em6⟩ : ∃ m, m = z_por k6 L 16 (some (L + 46)) := ⟨_, rfl⟩
  have vv6 : foL L (L + 46) m5 m6 := by rw [em6]; exact fo_t v6 (w6a.2 _)
  have uu6 := hF_fo (w6a.2 (L + 100)) (by omega) (by omega) u6
  have g7 := w6a.1
  rw [← em6] at g7 uu6
  have z5 : foL L (L + 46) m5 m6 := vv6
  have z4 : foL L (L + 45) m4 m6 := fo_t vv5 (fo_l z5 (by omega))
  have z3 : foL L (L + 41) m3 m6 := fo_t vv4 (fo_l z4 (by omega))
  have z2 : foL L (L + 33) m2 m6 := fo_t vv3 (fo_l z3 (by omega))
  have z1 : foL L (L + 25) m1 m6 := fo_t vv2 (fo_l z2 (by omega))
  have z0 : foL L (L + 21) m0 m6 := fo_t vv1 (fo_l z1 (by omega))
  have zz : foL L (L + 16) h5 m6 := fo_t vv0 (fo_l z0 (by omega))
  have zh : foL L (L + 15) h3 m6 := fo_t f35 (fo_l zz (by omega))
  have cdl : cd_at (L + 2) (L + 3) (L + 5) (L + 13) (L + 14) m6 (c_S0, fun _ => nI 0, fun _ => nI 0) := by
    obtain ⟨c1, c2, ⟨c3, c4, c5⟩, ⟨c6, c7, c8⟩, c9, c10⟩ := cd3
    obtain ⟨p1, p2, p3, p4, p5, p6, p7⟩ := zh (L + 2) (by omega) (by omega)
    obtain ⟨q1, q2, q3, q4, q5, q6, q7⟩ := zh (L + 13) (by omega) (by omega)
    obtain ⟨r1, r2, r3, r4, r5, r6, r7⟩ := zh (L + 14) (by omega) (by omega)
    refine ⟨p1.trans c1, by rw [p4]; exact c2, ⟨by rw [p4]; exact c3, q1.trans c4, q2.trans c5⟩, ⟨by rw [p4]; exact c6, r1.trans c7, r2.trans c8⟩, ?_, fun p hp => by rw [q5, r5]; exact c10 p hp⟩
    exact sc_at_of c9 (fun a ha => ⟨(zh a (by omega) (by omega)).1, (zh a (by omega) (by omega)).2.1⟩) (zh (L + 3) (by omega) (by omega)).2.2.1 (fun k _ => by rw [(zh (L + 3) (by omega) (by omega)).2.2.2.1]) (fun j hj _ _ => (zh (L + 5 + j) (by omega) (by omega)).2.2.2.2.1)
  have nol : sc_no (L + 3) (L + 5) m6 := by
    obtain ⟨n1, n2, n3, n4, n5⟩ := no3
    obtain ⟨p1, p2, p3, p4, p5, p6, p7⟩ := zh (L + 3) (by omega) (by omega)
    obtain ⟨q1, q2, q3, q4, q5, q6, q7⟩ := zh (L + 5 + 4) (by omega) (by omega)
    unfold sc_no
    rw [p4, q1, q2, q7]
    exact ⟨n1, n2, n3, n4, n5⟩
  refine ⟨m6, _, g7, by decide, ?_, ⟨cdl, nol, (zh (L + 4) (by omega) (by omega)).1.trans k43⟩, ?_, ⟨hF_fo z0 (by omega) (by omega) uu0, hF_fo z1 (by omega) (by omega) uu1, hF_fo z2 (by omega) (by omega) uu2, hF_fo z3 (by omega) (by omega) uu3, hF_fo z4 (by omega) (by omega) uu4, hF_fo z5 (by omega) (by omega) uu5, uu6⟩, en_X11_init (b_X11_init_0 (z_pu0V rfl) (b_X11_init_4 (z_pu0V rfl) ⟨by decide, by decide, ?_, ?_⟩))⟩
  · obtain ⟨q1, q2, -⟩ := zh (L + 1) (by omega) (by omega)
    rw [q1, q2]; exact t3
  · obtain ⟨q1, q2, q3, q4, q5, q6, q7⟩ := fo_t (f45 (L + 16)) zz (L + 15) (by omega) (by omega)
    rw [q1, q2, q7]; exact t4
  · rw [z400, ← eh1]; exact s1.1.2.2.2.1
  rw [z400, ← eh1, hn]
  refine b_X11_init_13 (z_pu0V rfl) ⟨s1a.1.2.2.2.1, b_X11_init_18 (z_pu0V rfl) ⟨s1b.1.2.2.2.1, ?_⟩⟩
  rw [← eh2]
  refine b_X11_init_23 (z_pu0V rfl) ⟨by decide, by decide, h2a, E8, by decide, by decide, by decide, by decide, h3, E1, s3.2.2.2.1, ?_⟩
  rw [s2.1.1]
  refine b_X11_init_55 (z_pu0V rfl) ⟨by decide, by decide, ?_, ?_⟩
  · rw [zc4, ← eh4]; exact s4.1.2.2.2.1
  rw [zc4, ← eh4, n3a]
  refine b_X11_init_63 (z_pu0V rfl) ⟨s4a.1.2.2.2.1, b_X11_init_68 (z_pu0V rfl) ⟨s4b.1.2.2.2.1, b_X11_init_73 (z_pu0V rfl) ⟨s4c.1.2.2.2.1, b_X11_init_78 (z_pu0V rfl) ⟨s4d.1.2.2.2.1, b_X11_init_83 (z_pu0V rfl) ⟨s4e.1.2.2.2.1, ?_⟩⟩⟩⟩⟩
  rw [← eh5]
  refine b_X11_init_88 (z_pu0V rfl) ⟨k0, ?_, w0.2.2.2.1, ?_⟩
  · rw [g0.1.1]; exact E0x
  rw [g0.1.1, ← em0]
  refine b_X11_init_99 (z_pu0V rfl) ⟨k1, ?_, w1.2.2.2.1, ?_⟩
  · rw [g1.1.1]; exact E1x
  rw [g1.1.1, ← em1]
  refine b_X11_init_110 (z_pu0V rfl) ⟨k2, ?_, w2.2.2.2.1, ?_⟩
  · rw [g2.1.1]; exact E2x
  rw [g2.1.1, ← em2]
  refine b_X11_init_121 (z_pu0V rfl) ⟨k3, ?_, w3.2.2.2.1, ?_⟩
  · rw [g3.1.1]; exact E3x
  rw [g3.1.1, ← em3]
  refine b_X11_init_132 (z_pu0V rfl) ⟨k4, ?_, w4.2.2.2.1, ?_⟩
  · rw [g4.1.1]; exact E4x
  rw [g4.1.1, ← em4]
  refine b_X11_init_143 (z_pu0V rfl) ⟨k5, ?_, w5.2.2.2.1, ?_⟩
  · rw [g5.1.1]; exact E5x
  rw [g5.1.1, ← em5]
  refine b_X11_init_154 (z_pu0V rfl) ⟨k6, ?_, w6.2.2.2.1, ?_⟩
  · rw [g6.1.1]; exact E6x
  rw [g6.1.1, ← em6]
  exact b_X11_init_165 (z_pu0V rfl) rfl
end C16
