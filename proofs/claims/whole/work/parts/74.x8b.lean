theorem en_X8_pieces {pu : Nat → Option ((List Value → z_H → Prop) × (List Value → z_H → Int32))} {G : z_G} {d : Nat} {r : z_Res} {h : z_H} {x0 : Nat} (hJ : z_J G d (m_X8_pieces pu) r 0 [some (.ref x0), none, none, none] [] h) : z_Ev G d k_X8_pieces [.ref x0] h r := z_enter (μ := m_X8_pieces pu) rfl (by decide) rfl rfl (fun q => by cases q) (Nat.le_of_ble_eq_true rfl) hJ
def hd_X8_pieces : Nat → Option (List Bool) := (fun k => (cond (Nat.blt k 41) (cond (Nat.beq k 6) (some [true, true, true, true]) none) none))
set_option maxRecDepth 20000 in
theorem b_X8_pieces_0 {G : z_G} {d : Nat} {r : z_Res} (hPu : z_PuV G d (t_X8 z_pu0)) {h : z_H} {x0 : Nat} (hT : (z_J G (d + 1) (m_X8_pieces z_pu0) r) 6 [some (.ref x0), some (.int (nI 0)), some (.int (nI 0)), some (.int (nI 0))] [] h) : (z_J G (d + 1) (m_X8_pieces z_pu0) r) 0 [some (.ref x0), none, none, none] [] h := z_bq (v_X8 z_pu0 (vP_X8_pieces z_pu0) hPu) hd_X8_pieces 9 hT
set_option maxRecDepth 20000 in
theorem b_X8_pieces_6 {G : z_G} {d : Nat} {r : z_Res} (hPu : z_PuV G d (t_X8 z_pu0)) {h : z_H} {x0 : Nat} {x1 : Int32} {x2 : Int32} {x3 : Int32} (hT : (z_kd h x0 = 24 ∧ (if x3 < (z_oi h x0 0) then (if ((x2 >>> (x3 &&& (nI 31))) &&& (nI 1)) = (nI 0) then (z_kd h x0 = 24 ∧ ∃ x_2 h_1, z_Ev G d k_X8_piece [.ref x0, .int x3] h (.inl (some (.int x_2)), h_1) ∧ (z_J G (d + 1) (m_X8_pieces z_pu0) r) 6 [some (.ref x0), some (.int (x1 + (nI 1))), some (.int (x2 ||| x_2)), some (.int (x3 + (nI 1)))] [] h_1) else (z_J G (d + 1) (m_X8_pieces z_pu0) r) 6 [some (.ref x0), some (.int x1), some (.int x2), some (.int (x3 + (nI 1)))] [] h) else r = (.inl (some (.int x1)), h)))) : (z_J G (d + 1) (m_X8_pieces z_pu0) r) 6 [some (.ref x0), some (.int x1), some (.int x2), some (.int x3)] [] h := z_bq (v_X8 z_pu0 (vP_X8_pieces z_pu0) hPu) hd_X8_pieces 22 hT
theorem en_X8_keepsApart {pu : Nat → Option ((List Value → z_H → Prop) × (List Value → z_H → Int32))} {G : z_G} {d : Nat} {r : z_Res} {h : z_H} {x0 : Int32} {x1 : Nat} {x2 : Int32} (hJ : z_J G d (m_X8_keepsApart pu) r 0 [some (.int x0), some (.ref x1), some (.int x2), none] [] h) : z_Ev G d k_X8_keepsApart [.int x0, .ref x1, .int x2] h r := z_enter (μ := m_X8_keepsApart pu) rfl (by decide) rfl rfl (fun q => by cases q) (Nat.le_of_ble_eq_true rfl) hJ
def hd_X8_keepsApart : Nat → Option (List Bool) := (fun k => (cond (Nat.blt k 29) (cond (Nat.beq k 2) (some [true, true, true, true]) none) none))
set_option maxRecDepth 20000 in
theorem b_X8_keepsApart_0 {G : z_G} {d : Nat} {r : z_Res} (hPu : z_PuV G d (t_X8 z_pu0)) {h : z_H} {x0 : Int32} {x1 : Nat} {x2 : Int32} (hT : (z_J G (d + 1) (m_X8_keepsApart z_pu0) r) 2 [some (.int x0), some (.ref x1), some (.int x2), some (.int (nI 0))] [] h) : (z_J G (d + 1) (m_X8_keepsApart z_pu0) r) 0 [some (.int x0), some (.ref x1), some (.int x2), none] [] h := z_bq (v_X8 z_pu0 (vP_X8_keepsApart z_pu0) hPu) hd_X8_keepsApart 5 hT
set_option maxRecDepth 20000 in
theorem b_X8_keepsApart_2 {G : z_G} {d : Nat} {r : z_Res} (hPu : z_PuV G d (t_X8 z_pu0)) {h : z_H} {x0 : Int32} {x1 : Nat} {x2 : Int32} {x3 : Int32} (hT : (if x3 < x2 then (z_kd h x1 = 1 ∧ vp_in x3 (z_ln h x1) ∧ (∃ x_2 h_1, z_Ev G d k_J6_bitCount_0f7a4 [.int (x0 &&& (z_ai h x1 (Int32.toNatClampNeg x3)))] h (.inl (some (.int x_2)), h_1) ∧ (if (nI 1) < x_2 then (z_bz (nI 0) ∧ r = (.inl (some (.int (nI 0))), h_1)) else (z_J G (d + 1) (m_X8_keepsApart z_pu0) r) 2 [some (.int x0), some (.ref x1), some (.int x2), some (.int (x3 + (nI 1)))] [] h_1))) else (z_bz (nI 1) ∧ r = (.inl (some (.int (nI 1))), h)))) : (z_J G (d + 1) (m_X8_keepsApart z_pu0) r) 2 [some (.int x0), some (.ref x1), some (.int x2), some (.int x3)] [] h := z_bq (v_X8 z_pu0 (vP_X8_keepsApart z_pu0) hPu) hd_X8_keepsApart 16 hT
theorem en_X8_isLine {pu : Nat → Option ((List Value → z_H → Prop) × (List Value → z_H → Int32))} {G : z_G} {d : Nat} {r : z_Res} {h : z_H} {x0 : Nat} {x1 : Int32} (hJ : z_J G d (m_X8_isLine pu) r 0 [some (.ref x0), some (.int x1), none] [] h) : z_Ev G d k_X8_isLine [.ref x0, .int x1] h r := z_enter (μ := m_X8_isLine pu) rfl (by decide) rfl rfl (fun q => by cases q) (Nat.le_of_ble_eq_true rfl) hJ
def hd_X8_isLine : Nat → Option (List Bool) := (fun k => (cond (Nat.blt k 30) (cond (Nat.beq k 2) (some [true, true, true]) none) none))
set_option maxRecDepth 20000 in
theorem b_X8_isLine_0 {G : z_G} {d : Nat} {r : z_Res} (hPu : z_PuV G d (t_X8 z_pu0)) {h : z_H} {x0 : Nat} {x1 : Int32} (hT : (z_J G (d + 1) (m_X8_isLine z_pu0) r) 2 [some (.ref x0), some (.int x1), some (.int (nI 0))] [] h) : (z_J G (d + 1) (m_X8_isLine z_pu0) r) 0 [some (.ref x0), some (.int x1), none] [] h := z_bq (v_X8 z_pu0 (vP_X8_isLine z_pu0) hPu) hd_X8_isLine 5 hT
set_option maxRecDepth 20000 in
theorem b_X8_isLine_2 {G : z_G} {d : Nat} {r : z_Res} (hPu : z_PuV G d (t_X8 z_pu0)) {h : z_H} {x0 : Nat} {x1 : Int32} {x2 : Int32} (hT : (z_kd h x0 = 24 ∧ (if x2 < (z_oi h x0 1) then (z_kd h x0 = 24 ∧ (z_rc (z_or h x0 2) False (fun x_1 => (z_kd h x_1 = 1 ∧ vp_in x2 (z_ln h x_1) ∧ (if (z_ai h x_1 (Int32.toNatClampNeg x2)) = x1 then (z_bz (nI 1) ∧ r = (.inl (some (.int (nI 1))), h)) else (z_J G (d + 1) (m_X8_isLine z_pu0) r) 2 [some (.ref x0), some (.int x1), some (.int (x2 + (nI 1)))] [] h))))) else (z_bz (nI 0) ∧ r = (.inl (some (.int (nI 0))), h))))) : (z_J G (d + 1) (m_X8_isLine z_pu0) r) 2 [some (.ref x0), some (.int x1), some (.int x2)] [] h := z_bq (v_X8 z_pu0 (vP_X8_isLine z_pu0) hPu) hd_X8_isLine 15 hT
theorem en_X8_isRegular {pu : Nat → Option ((List Value → z_H → Prop) × (List Value → z_H → Int32))} {G : z_G} {d : Nat} {r : z_Res} {h : z_H} {x0 : Nat} (hJ : z_J G d (m_X8_isRegular pu) r 0 [some (.ref x0), none] [] h) : z_Ev G d k_X8_isRegular [.ref x0] h r := z_enter (μ := m_X8_isRegular pu) rfl (by decide) rfl rfl (fun q => by cases q) (Nat.le_of_ble_eq_true rfl) hJ
def hd_X8_isRegular : Nat → Option (List Bool) := (fun k => (cond (Nat.blt k 68) (cond (Nat.blt k 35) (cond (Nat.beq k 2) (some [true, true]) none) (cond (Nat.beq k 35) (some [true, true]) none)) none))
set_option maxRecDepth 20000 in
theorem b_X8_isRegular_0 {G : z_G} {d : Nat} {r : z_Res} (hPu : z_PuV G d (t_X8 z_pu0)) {h : z_H} {x0 : Nat} (hT : (z_J G (d + 1) (m_X8_isRegular z_pu0) r) 2 [some (.ref x0), some (.int (nI 1))] [] h) : (z_J G (d + 1) (m_X8_isRegular z_pu0) r) 0 [some (.ref x0), none] [] h := z_bq (v_X8 z_pu0 (vP_X8_isRegular z_pu0) hPu) hd_X8_isRegular 5 hT
set_option maxRecDepth 20000 in
theorem b_X8_isRegular_2 {G : z_G} {d : Nat} {r : z_Res} (hPu : z_PuV G d (t_X8 z_pu0)) {h : z_H} {x0 : Nat} {x1 : Int32} (hT : (z_kd h x0 = 24 ∧ (if x1 < (z_oi h x0 0) then (z_kd h x0 = 24 ∧ (z_rc (z_or h x0 5) False (fun x_1 => (z_kd h x_1 = 1 ∧ vp_in x1 (z_ln h x_1) ∧ (z_kd h x0 = 24 ∧ (z_rc (z_or h x0 5) False (fun x_2 => (z_kd h x_2 = 1 ∧ vp_in (nI 0) (z_ln h x_2) ∧ (if (z_ai h x_1 (Int32.toNatClampNeg x1)) = (z_ai h x_2 (Int32.toNatClampNeg (nI 0))) then (z_J G (d + 1) (m_X8_isRegular z_pu0) r) 2 [some (.ref x0), some (.int (x1 + (nI 1)))] [] h else (z_bz (nI 0) ∧ r = (.inl (some (.int (nI 0))), h))))))))))) else (z_J G (d + 1) (m_X8_isRegular z_pu0) r) 35 [some (.ref x0), some (.int (nI 1))] [] h))) : (z_J G (d + 1) (m_X8_isRegular z_pu0) r) 2 [some (.ref x0), some (.int x1)] [] h := z_bq (v_X8 z_pu0 (vP_X8_isRegular z_pu0) hPu) hd_X8_isRegular 18 hT
set_option maxRecDepth 20000 in
theorem b_X8_isRegular_35 {G : z_G} {d : Nat} {r : z_Res} (hPu : z_PuV G d (t_X8 z_pu0)) {h : z_H} {x0 : Nat} {x1 : Int32} (hT : (z_kd h x0 = 24 ∧ (if x1 < (z_oi h x0 1) then (z_kd h x0 = 24 ∧ (z_rc (z_or h x0 3) False (fun x_1 => (z_kd h x_1 = 1 ∧ vp_in x1 (z_ln h x_1) ∧ (z_kd h x0 = 24 ∧ (z_rc (z_or h x0 3) False (fun x_2 => (z_kd h x_2 = 1 ∧ vp_in (nI 0) (z_ln h x_2) ∧ (if (z_ai h x_1 (Int32.toNatClampNeg x1)) = (z_ai h x_2 (Int32.toNatClampNeg (nI 0))) then (z_J G (d + 1) (m_X8_isRegular z_pu0) r) 35 [some (.ref x0), some (.int (x1 + (nI 1)))] [] h else (z_bz (nI 0) ∧ r = (.inl (some (.int (nI 0))), h))))))))))) else (z_bz (nI 1) ∧ r = (.inl (some (.int (nI 1))), h))))) : (z_J G (d + 1) (m_X8_isRegular z_pu0) r) 35 [some (.ref x0), some (.int x1)] [] h := z_bq (v_X8 z_pu0 (vP_X8_isRegular z_pu0) hPu) hd_X8_isRegular 18 hT
theorem en_X8_joinedPairs {pu : Nat → Option ((List Value → z_H → Prop) × (List Value → z_H → Int32))} {G : z_G} {d : Nat} {r : z_Res} {h : z_H} {x0 : Nat} (hJ : z_J G d (m_X8_joinedPairs pu) r 0 [some (.ref x0), none, none] [] h) : z_Ev G d k_X8_joinedPairs [.ref x0] h r := z_enter (μ := m_X8_joinedPairs pu) rfl (by decide) rfl rfl (fun q => by cases q) (Nat.le_of_ble_eq_true rfl) hJ
def hd_X8_joinedPairs : Nat → Option (List Bool) := (fun k => (cond (Nat.blt k 40) (cond (Nat.beq k 4) (some [true, true, true]) none) none))
set_option maxRecDepth 20000 in
theorem b_X8_joinedPairs_0 {G : z_G} {d : Nat} {r : z_Res} (hPu : z_PuV G d (t_X8 z_pu0)) {h : z_H} {x0 : Nat} (hT : (z_J G (d + 1) (m_X8_joinedPairs z_pu0) r) 4 [some (.ref x0), some (.int (nI 0)), some (.int (nI 0))] [] h) : (z_J G (d + 1) (m_X8_joinedPairs z_pu0) r) 0 [some (.ref x0), none, none] [] h := z_bq (v_X8 z_pu0 (vP_X8_joinedPairs z_pu0) hPu) hd_X8_joinedPairs 7 hT
set_option maxRecDepth 20000 in
theorem b_X8_joinedPairs_4 {G : z_G} {d : Nat} {r : z_Res} (hPu : z_PuV G d (t_X8 z_pu0)) {h : z_H} {x0 : Nat} {x1 : Int32} {x2 : Int32} (hT : (z_kd h x0 = 24 ∧ (if x2 < (z_oi h x0 1) then (z_kd h x0 = 24 ∧ (z_rc (z_or h x0 3) False (fun x_1 => (z_kd h x_1 = 1 ∧ vp_in x2 (z_ln h x_1) ∧ (z_kd h x0 = 24 ∧ (z_rc (z_or h x0 3) False (fun x_2 => (z_kd h x_2 = 1 ∧ vp_in x2 (z_ln h x_2) ∧ (¬ (nI 2) = (nI 0) ∧ (z_J G (d + 1) (m_X8_joinedPairs z_pu0) r) 4 [some (.ref x0), some (.int (x1 + (((z_ai h x_1 (Int32.toNatClampNeg x2)) * ((z_ai h x_2 (Int32.toNatClampNeg x2)) - (nI 1))) / (nI 2)))), some (.int (x2 + (nI 1)))] [] h))))))))) else r = (.inl (some (.int x1)), h)))) : (z_J G (d + 1) (m_X8_joinedPairs z_pu0) r) 4 [some (.ref x0), some (.int x1), some (.int x2)] [] h := z_bq (v_X8 z_pu0 (vP_X8_joinedPairs z_pu0) hPu) hd_X8_joinedPairs 25 hT
theorem en_X8_girth {pu : Nat → Option ((List Value → z_H → Prop) × (List Value → z_H → Int32))} {G : z_G} {d : Nat} {r : z_Res} {h : z_H} {x0 : Nat} (hJ : z_J G d (m_X8_girth pu) r 0 [some (.ref x0), none, none, none, none] [] h) : z_Ev G d k_X8_girth [.ref x0] h r := z_enter (μ := m_X8_girth pu) rfl (by decide) rfl rfl (fun q => by cases q) (Nat.le_of_ble_eq_true rfl) hJ
def hd_X8_girth : Nat → Option (List Bool) := (fun k => (cond (Nat.blt k 95) (cond (Nat.blt k 14) (cond (Nat.beq k 4) (some [true, true, true, false, false]) none) (cond (Nat.beq k 14) (some [true, true, true, true, false]) none)) none))
set_option maxRecDepth 20000 in
theorem b_X8_girth_0 {G : z_G} {d : Nat} {r : z_Res} (hPu : z_PuV G d (t_X8 z_pu0)) {h : z_H} {x0 : Nat} (hT : (z_J G (d + 1) (m_X8_girth z_pu0) r) 4 [some (.ref x0), some (.int mI), some (.int (nI 0)), none, none] [] h) : (z_J G (d + 1) (m_X8_girth z_pu0) r) 0 [some (.ref x0), none, none, none, none] [] h := z_bq (v_X8 z_pu0 (vP_X8_girth z_pu0) hPu) hd_X8_girth 7 hT
set_option maxRecDepth 20000 in
theorem b_X8_girth_4 {G : z_G} {d : Nat} {r : z_Res} (hPu : z_PuV G d (t_X8 z_pu0)) {h : z_H} {x0 : Nat} {x1 : Int32} {x2 : Int32} (hT : (z_kd h x0 = 24 ∧ (if x2 < (z_oi h x0 1) then (z_J G (d + 1) (m_X8_girth z_pu0) r) 14 [some (.ref x0), some (.int x1), some (.int x2), some (.int (nI 0)), none] [] h else r = (.inl (some (.int x1)), h)))) : (z_J G (d + 1) (m_X8_girth z_pu0) r) 4 [some (.ref x0), some (.int x1), some (.int x2), none, none] [] h := z_bq (v_X8 z_pu0 (vP_X8_girth z_pu0) hPu) hd_X8_girth 9 hT
set_option maxRecDepth 20000 in
theorem b_X8_girth_14 {G : z_G} {d : Nat} {r : z_Res} (hPu : z_PuV G d (t_X8 z_pu0)) {h : z_H} {x0 : Nat} {x1 : Int32} {x2 : Int32} {x3 : Int32} (hT : (z_kd h x0 = 24 ∧ (if x3 < (z_oi h x0 0) then (z_kd h x0 = 24 ∧ (z_rc (z_or h x0 2) False (fun x_1 => (z_kd h x_1 = 1 ∧ vp_in x2 (z_ln h x_1) ∧ (if (((z_ai h x_1 (Int32.toNatClampNeg x2)) >>> (x3 &&& (nI 31))) &&& (nI 1)) = (nI 0) then (z_J G (d + 1) (m_X8_girth z_pu0) r) 14 [some (.ref x0), some (.int x1), some (.int x2), some (.int (x3 + (nI 1))), none] [] h else (z_kd h x0 = 24 ∧ (z_rc (z_or h x0 2) False (fun x_2 => (z_kd h x_2 = 1 ∧ vp_in x2 (z_ln h x_2) ∧ (z_kd h x0 = 24 ∧ ∃ x_4 h_3, z_Ev G d k_X8_steps [.ref x0, .int ((nI 1) <<< (x3 &&& (nI 31))), .int ((z_ai h x_2 (Int32.toNatClampNeg x2)) &&& (((nI 1) <<< (x3 &&& (nI 31))) ^^^ mI)), .int x2] h (.inl (some (.int x_4)), h_3) ∧ (if x_4 = mI then (z_J G (d + 1) (m_X8_girth z_pu0) r) 14 [some (.ref x0), some (.int x1), some (.int x2), some (.int (x3 + (nI 1))), none] [] h_3 else (if x1 = mI then (z_J G (d + 1) (m_X8_girth z_pu0) r) 14 [some (.ref x0), some (.int (x_4 + (nI 1))), some (.int x2), some (.int (x3 + (nI 1))), none] [] h_3 else (if (x_4 + (nI 1)) < x1 then (z_J G (d + 1) (m_X8_girth z_pu0) r) 14 [some (.ref x0), some (.int (x_4 + (nI 1))), some (.int x2), some (.int (x3 + (nI 1))), none] [] h_3 else (z_J G (d + 1) (m_X8_girth z_pu0) r) 14 [some (.ref x0), some (.int x1), some (.int x2), some (.int (x3 + (nI 1))), none] [] h_3))))))))))))) else (z_J G (d + 1) (m_X8_girth z_pu0) r) 4 [some (.ref x0), some (.int x1), some (.int (x2 + (nI 1))), none, none] [] h))) : (z_J G (d + 1) (m_X8_girth z_pu0) r) 14 [some (.ref x0), some (.int x1), some (.int x2), some (.int x3), none] [] h := z_bq (v_X8 z_pu0 (vP_X8_girth z_pu0) hPu) hd_X8_girth 50 hT
/-! the class: more readers of a scheme -/
def g_rch (S : Sc) (bar : Option Nat) (x k : Nat) : Nat := it (fun _ y => g_spr S bar y) x k
def g_stp (S : Sc) (x w : Nat) (bar : Option Nat) : Nat := fa_first (fun k => decide (g_rch S bar x k &&& w ≠ 0)) 9
def g_steps (S : Sc) (x w : Nat) (bar : Option Nat) : Int32 := if g_stp S x w bar < 9 then nI (g_stp S x w bar) else mI
section EB
variable {G : z_G} {d q b : Nat} {h : z_H} {S : Sc}
theorem rch_lt (hA : sc_at q b h S) {bar : Option Nat} {x : Nat} (hx : x < 256) : ∀ k, g_rch S bar x k < 256 := it_bd (P := fun x => x < 256) hx (fun _ x hx => g_spr_lt hA hx)
theorem e8_steps (hA : sc_at q b h S) {bar : Option Nat} (hb : ∀ l, bar = some l → l < 12) {x w : Nat} (hx : x < 256) : z_Ev G (d + 5) k_X8_steps [.ref q, .int (nI x), .int (nI w), .int (oI bar)] h (.inl (some (.int (g_steps S x w bar))), h) := by
  refine en_X8_steps (b_X8_steps_0 (z_pu0V rfl) ?_)
  refine z_fnd (fun k => [some (.ref q), none, some (.int (nI w)), some (.int (oI bar)), some (.int (nI (g_rch S bar x k))), some (.int (nI k))]) (fun k => decide (g_rch S bar x k &&& w ≠ 0)) 9 ?_ ?_
  · intro k hk hno hJ
    have hr := rch_lt (bar := bar) hA hx k
    have h2 := and_lt256 (b := w) hr
    refine b_X8_steps_6 (z_pu0V rfl) ?_
    rw [if_neg (nI_nlt (show k ≤ 8 by omega) (by decide)), fa_and, nI_add]
    by_cases c : g_rch S bar x k &&& w = 0
    · rw [if_pos (by rw [c])]
      exact ⟨y_kd hA, _, _, e8_spreadOut hA hb hr, hJ (decide_eq_false (fun e => e c))⟩
    · rw [if_neg (fun e => c ((nI_eq (by omega) (by omega)).mp e))]
      have e : g_stp S x w bar = k := fa_first_at hk (decide_eq_true c) hno
      unfold g_steps
      rw [e, if_pos hk]
  · intro hno
    refine b_X8_steps_6 (z_pu0V rfl) ?_
    have e : g_stp S x w bar = 9 := fa_first_n hno
    unfold g_steps
    rw [if_pos (show nI 8 < nI 9 by decide), e]
    rfl
def g_pieces (S : Sc) : Nat × Nat := it (fun p (a : Nat × Nat) => if a.2.testBit p then a else (a.1 + 1, a.2 ||| g_piece S p)) (0, 0) S.1
theorem g_piece_lt (hA : sc_at q b h S) {p : Nat} (hp : p < 8) : g_piece S p < 256 := it_bd (P := fun x => x < 256) (t_pow hp) (fun _ x hx => g_spr_lt hA hx) _
theorem e8_pieces (hA : sc_at q b h S) : z_Ev G (d + 6) k_X8_pieces [.ref q] h (.inl (some (.int (nI (g_pieces S).1))), h) := by
  have hn := y_n8 hA
  refine en_X8_pieces (b_X8_pieces_0 (z_pu0V rfl) ?_)
  refine z_forI (fun l (a : Nat × Nat) => [some (.ref q), some (.int (nI a.1)), some (.int (nI a.2)), some (.int (nI l))]) (fun _ _ => h) (fun _ a => a.2 < 256) (fun p (a : Nat × Nat) => if a.2.testBit p then a else (a.1 + 1, a.2 ||| g_piece S p)) (0, 0) S.1 (by decide) ?_ ?_
  · intro p a hp ha
    have hg := g_piece_lt hA (show p < 8 by omega)
    refine ⟨?_, fun hJ => b_X8_pieces_6 (z_pu0V rfl) ⟨y_kd hA, ?_⟩⟩
    · split
      · exact ha
      · exact or_lt256 ha hg
    · rw [y_n hA, if_pos (nI_lt hp (by omega))]
      cases c : a.2.testBit p
      · rw [c, if_neg (by decide)] at hJ
        rw [if_pos (show (nI a.2 >>> (nI p &&& nI 31)) &&& nI 1 = nI 0 by simp (disch := omega) only [l0, l1, l2, l3, l4, l5, l6, l7, l8, l9, l10, l11, l12, l13, l14, l15, l16, l18, l20, l22, l24, l30, l31, l39, l40, l48, l60, l154, l255, l256, l400, l2000, l6160, l14000, lm1, q_lt, q_le, q_eq, q_mI, q_mI', q_ltmI, q_in, q_bz0, q_bz1, q_bzn0, q_bzn1, q_bzb, q_bn0, q_bn1, q_shr, q_shl, q_1s, b_one, b_two, fa_and, fa_or, nI_add, n_mul, nI_clamp, z_rcs, true_and, and_true, if_true, if_false, c])]
        refine ⟨y_kd hA, _, _, e8_piece hA (by omega), ?_⟩
        rw [fa_or, nI_add, nI_add]; exact hJ
      · rw [c, if_pos rfl] at hJ
        rw [if_neg (show ¬ (nI a.2 >>> (nI p &&& nI 31)) &&& nI 1 = nI 0 by simp (disch := omega) only [l0, l1, l2, l3, l4, l5, l6, l7, l8, l9, l10, l11, l12, l13, l14, l15, l16, l18, l20, l22, l24, l30, l31, l39, l40, l48, l60, l154, l255, l256, l400, l2000, l6160, l14000, lm1, q_lt, q_le, q_eq, q_mI, q_mI', q_ltmI, q_in, q_bz0, q_bz1, q_bzn0, q_bzn1, q_bzb, q_bn0, q_bn1, q_shr, q_shl, q_1s, b_one, b_two, fa_and, fa_or, nI_add, n_mul, nI_clamp, z_rcs, true_and, and_true, if_true, if_false, c]; decide), nI_add]; exact hJ
  · intro _
    refine b_X8_pieces_6 (z_pu0V rfl) ⟨y_kd hA, ?_⟩
    rw [y_n hA, if_neg (nI_nlt (Nat.le_refl _) (by omega))]; rfl
theorem e8_keepsApart {a0 m : Nat} {L : Nat → Nat} (h1 : z_kd h a0 = 1) (h2 : m ≤ z_ln h a0) (h3 : z_ln h a0 < 2 ^ 31) (hl : ∀ l, l < m → z_ai h a0 l = nI (L l)) {x : Nat} (hx : x < 256) : z_Ev G (d + 4) k_X8_keepsApart [.int (nI x), .ref a0, .int (nI m)] h (.inl (some (.int (nI (!c_any (fun l => decide (1 < n_pc (x &&& L l))) m).toNat))), h) := by
  refine en_X8_keepsApart (b_X8_keepsApart_0 (z_pu0V rfl) ?_)
  refine z_fnd (fun k => [some (.int (nI x)), some (.ref a0), some (.int (nI m)), some (.int (nI k))]) (fun l => decide (1 < n_pc (x &&& L l))) m ?_ ?_
  · intro k hk hno hJ
    have h4 := and_lt256 (b := L k) hx
    have h5 := n_pc12 _ (show x &&& L k < 4096 by omega)
    refine b_X8_keepsApart_2 (z_pu0V rfl) ?_
    rw [if_pos (nI_lt hk (by omega)), nI_clamp (by omega), hl k hk, fa_and, nI_add]
    refine ⟨h1, vp_in_nI (by omega) h3, _, _, e_bits (by omega), ?_⟩
    by_cases c : 1 < n_pc (x &&& L k)
    · rw [if_pos (nI_lt c (by omega)), any_t hk (decide_eq_true c)]
      exact ⟨Or.inl rfl, rfl⟩
    · rw [if_neg (fun e => c ((nI_ltI (by omega) (by omega)).mp e))]
      exact hJ (decide_eq_false c)
  · intro hno
    refine b_X8_keepsApart_2 (z_pu0V rfl) ?_
    rw [if_neg (nI_nlt (Nat.le_refl _) (by omega)), any_f hno]
    exact ⟨Or.inr rfl, rfl⟩
theorem e8_isLine (hA : sc_at q b h S) {x : Nat} (hx : x < 2 ^ 31) : z_Ev G (d + 4) k_X8_isLine [.ref q, .int (nI x)] h (.inl (some (.int (nI (c_any (fun l => decide (S.2.2 l = x)) S.2.1).toNat))), h) := by
  have hm := y_m12 hA
  refine en_X8_isLine (b_X8_isLine_0 (z_pu0V rfl) ?_)
  refine z_fnd (fun k => [some (.ref q), some (.int (nI x)), some (.int (nI k))]) (fun l => decide (S.2.2 l = x)) S.2.1 ?_ ?_
  · intro k hk hno hJ
    have h4 := y_256 hA k
    refine b_X8_isLine_2 (z_pu0V rfl) ⟨y_kd hA, ?_⟩
    rw [y_m hA, if_pos (nI_lt hk (by omega)), (y_row hA).1, z_rcs, nI_clamp (by omega), y_Ln hA hk, nI_add]
    refine ⟨y_kd hA, (y_row hA).2.1, by rw [(y_row hA).2.2]; exact vp_in_nI hk (by omega), ?_⟩
    by_cases c : S.2.2 k = x
    · rw [if_pos (by rw [c]), any_t hk (decide_eq_true c)]
      exact ⟨Or.inr rfl, rfl⟩
    · rw [if_neg (fun e => c ((nI_eq (by omega) hx).mp e))]
      exact hJ (decide_eq_false c)
  · intro hno
    refine b_X8_isLine_2 (z_pu0V rfl) ⟨y_kd hA, ?_⟩
    rw [y_m hA, if_neg (nI_nlt (Nat.le_refl _) (by omega)), any_f hno]
    exact ⟨Or.inl rfl, rfl⟩
def g_pairs (S : Sc) : Nat := it (fun l n => n + n_pc (S.2.2 l) * (n_pc (S.2.2 l) - 1) / 2) 0 S.2.1
theorem q_half : ∀ k, k < 13 → (nI k * (nI k - nI 1)) / nI 2 = nI (k * (k - 1) / 2) := by decide
theorem e8_joinedPairs (hA : sc_at q b h S) : z_Ev G (d + 4) k_X8_joinedPairs [.ref q] h (.inl (some (.int (nI (g_pairs S)))), h) := by
  have hm := y_m12 hA
  refine en_X8_joinedPairs (b_X8_joinedPairs_0 (z_pu0V rfl) ?_)
  refine z_for (fun l x => [some (.ref q), some (.int (nI x)), some (.int (nI l))]) (fun l n => n + n_pc (S.2.2 l) * (n_pc (S.2.2 l) - 1) / 2) 0 S.2.1 ?_ ?_
  · intro l hl hJ
    have h4 := y_256 hA l
    have h5 := n_pc12 _ (show S.2.2 l < 4096 by omega)
    refine b_X8_joinedPairs_4 (z_pu0V rfl) ⟨y_kd hA, ?_⟩
    rw [y_m hA, if_pos (nI_lt hl (by omega)), (y_size hA).1, z_rcs, z_rcs, nI_clamp (by omega), y_Sz hA hl, q_half _ (by omega), nI_add, nI_add]
    have v : vp_in (nI l) (z_ln h (b + 6)) := by rw [(y_size hA).2.2]; exact vp_in_nI hl (by omega)
    exact ⟨y_kd hA, (y_size hA).2.1, v, y_kd hA, (y_size hA).2.1, v, by decide, hJ⟩
  · refine b_X8_joinedPairs_4 (z_pu0V rfl) ⟨y_kd hA, ?_⟩
    rw [y_m hA, if_neg (nI_nlt (Nat.le_refl _) (by omega))]; rfl
def g_reg (S : Sc) : Bool := !c_any (fun k => !decide (n_pc (c_on S (1 + k)) = n_pc (c_on S 0))) (S.1 - 1) && !c_any (fun k => !decide (n_pc (S.2.2 (1 + k)) = n_pc (S.2.2 0))) (S.2.1 - 1)
theorem e8_isRegular (hA : sc_at q b h S) : z_Ev G (d + 4) k_X8_isRegular [.ref q] h (.inl (some (.int (nI (g_reg S).toNat))), h) := by
  have hm := y_m12 hA
  have hn := y_n8 hA
  have hon : ∀ p, n_pc (c_on S p) ≤ 12 := fun p => n_pc12 _ (Nat.lt_of_lt_of_le (c_on_lt S p) (show 2 ^ S.2.1 ≤ 2 ^ 12 from Nat.pow_le_pow_right (by decide) hm))
  have hsz : ∀ l, n_pc (S.2.2 l) ≤ 12 := fun l => n_pc12 _ (Nat.lt_of_lt_of_le (y_256 hA l) (by decide))
  refine en_X8_isRegular (b_X8_isRegular_0 (z_pu0V rfl) ?_)
  refine z_fnd (fun k => [some (.ref q), some (.int (nI (1 + k)))]) (fun k => !decide (n_pc (c_on S (1 + k)) = n_pc (c_on S 0))) (S.1 - 1) ?_ ?_
  · intro k hk hno hJ
    have h1 := hon (1 + k)
    have h2 := hon 0
    refine b_X8_isRegular_2 (z_pu0V rfl) ⟨y_kd hA, ?_⟩
    rw [y_n hA, if_pos (nI_lt (show 1 + k < S.1 by omega) (by omega)), (y_deg hA).1, z_rcs, z_rcs, nI_clamp (by omega), nI_clamp (by omega), y_Dg hA (by omega), y_Dg hA (by omega), nI_add]
    refine ⟨y_kd hA, (y_deg hA).2.1, by rw [(y_deg hA).2.2]; exact vp_in_nI (by omega) (by omega), y_kd hA, (y_deg hA).2.1, by rw [(y_deg hA).2.2]; exact vp_in_nI (by omega) (by omega), ?_⟩
    by_cases c : n_pc (c_on S (1 + k)) = n_pc (c_on S 0)
    · rw [if_pos (by rw [c])]
      exact hJ (by rw [decide_eq_true c]; rfl)
    · rw [if_neg (fun e => c ((nI_eq (by omega) (by omega)).mp e))]
      unfold g_reg
      rw [any_t hk (by rw [decide_eq_false c]; rfl)]
      exact ⟨Or.inl rfl, rfl⟩
  · intro hno
    refine b_X8_isRegular_2 (z_pu0V rfl) ⟨y_kd hA, ?_⟩
    rw [y_n hA, if_neg (nI_nlt (show S.1 ≤ 1 + (S.1 - 1) by omega) (by omega))]
    have fin : g_reg S = !c_any (fun k => !decide (n_pc (S.2.2 (1 + k)) = n_pc (S.2.2 0))) (S.2.1 - 1) := by
      unfold g_reg
      rw [any_f hno]; rfl
    rw [fin]
    refine z_fnd (fun k => [some (.ref q), some (.int (nI (1 + k)))]) (fun k => !decide (n_pc (S.2.2 (1 + k)) = n_pc (S.2.2 0))) (S.2.1 - 1) ?_ ?_
    · intro k hk hno2 hJ
      have h1 := hsz (1 + k)
      have h2 := hsz 0
      refine b_X8_isRegular_35 (z_pu0V rfl) ⟨y_kd hA, ?_⟩
      rw [y_m hA, if_pos (nI_lt (show 1 + k < S.2.1 by omega) (by omega)), (y_size hA).1, z_rcs, z_rcs, nI_clamp (by omega), nI_clamp (by omega), y_Sz hA (by omega), y_Sz hA (by omega), nI_add]
      refine ⟨y_kd hA, (y_size hA).2.1, by rw [(y_size hA).2.2]; exact vp_in_nI (by omega) (by omega), y_kd hA, (y_size hA).2.1, by rw [(y_size hA).2.2]; exact vp_in_nI (by omega) (by omega), ?_⟩
      by_cases c : n_pc (S.2.2 (1 + k)) = n_pc (S.2.2 0)
      · rw [if_pos (by rw [c])]
        exact hJ (by rw [decide_eq_true c]; rfl)
      · rw [if_neg (fun e => c ((nI_eq (by omega) (by omega)).mp e)), any_t hk (by rw [decide_eq_false c]; rfl)]
        exact ⟨Or.inl rfl, rfl⟩
    · intro hno2
      refine b_X8_isRegular_35 (z_pu0V rfl) ⟨y_kd hA, ?_⟩
      rw [y_m hA, if_neg (nI_nlt (show S.2.1 ≤ 1 + (S.2.1 - 1) by omega) (by omega)), any_f hno2]
      exact ⟨Or.inr rfl, rfl⟩
end EB
