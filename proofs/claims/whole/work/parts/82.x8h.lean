theorem en_X8_init {pu : Nat → Option ((List Value → z_H → Prop) × (List Value → z_H → Int32))} {G : z_G} {d : Nat} {r : z_Res} {h : z_H} {x0 : Nat} {x1 : Int32} {x2 : Nat} {x3 : Int32} (hJ : z_J G d (m_X8_init pu) r 0 [some (.ref x0), some (.int x1), some (.ref x2), some (.int x3), none, none] [] h) : z_Ev G d k_X8_init [.ref x0, .int x1, .ref x2, .int x3] h r := z_enter (μ := m_X8_init pu) rfl (by decide) rfl rfl (fun _ => rfl) (Nat.le_of_ble_eq_true rfl) hJ
def hd_X8_init : Nat → Option (List Bool) := (fun k => (cond (Nat.blt k 164) (cond (Nat.blt k 64) (cond (Nat.blt k 33) (cond (Nat.blt k 20) (cond (Nat.blt k 12) (cond (Nat.beq k 4) (some [true, true, true, true, false, false]) none) (cond (Nat.beq k 12) (some [true, true, true, true, false, false]) none)) (cond (Nat.blt k 28) (cond (Nat.beq k 20) (some [true, true, true, true, false, false]) none) (cond (Nat.beq k 28) (some [true, true, true, true, false, false]) none))) (cond (Nat.blt k 46) (cond (Nat.blt k 41) (cond (Nat.beq k 33) (some [true, true, true, true, false, false]) none) (cond (Nat.beq k 41) (some [true, true, true, true, false, false]) none)) (cond (Nat.blt k 51) (cond (Nat.beq k 46) (some [true, true, true, true, false, false]) none) (cond (Nat.blt k 59) (cond (Nat.beq k 51) (some [true, true, true, true, false, false]) none) (cond (Nat.beq k 59) (some [true, true, true, true, false, false]) none))))) (cond (Nat.blt k 95) (cond (Nat.blt k 74) (cond (Nat.blt k 69) (cond (Nat.beq k 64) (some [true, true, true, true, false, false]) none) (cond (Nat.beq k 69) (some [true, true, true, true, false, false]) none)) (cond (Nat.blt k 79) (cond (Nat.beq k 74) (some [true, true, true, true, false, false]) none) (cond (Nat.blt k 88) (cond (Nat.beq k 79) (some [true, true, true, true, false, false]) none) (cond (Nat.beq k 88) (some [true, true, false, true, false, false]) none)))) (cond (Nat.blt k 110) (cond (Nat.blt k 102) (cond (Nat.beq k 95) (some [true, true, false, true, false, false]) none) (cond (Nat.beq k 102) (some [true, true, false, true, false, false]) none)) (cond (Nat.blt k 113) (cond (Nat.beq k 110) (some [true, true, false, true, false, false]) none) (cond (Nat.blt k 122) (cond (Nat.beq k 113) (some [true, true, false, true, true, false]) none) (cond (Nat.beq k 122) (some [true, true, false, true, true, true]) none)))))) none))
set_option maxRecDepth 20000 in
theorem b_X8_init_0 {G : z_G} {d : Nat} {r : z_Res} (hPu : z_PuV G d (t_X8 z_pu0)) {h : z_H} {x0 : Nat} {x1 : Int32} {x2 : Nat} {x3 : Int32} (hT : (z_J G (d + 1) (m_X8_init z_pu0) r) 4 [some (.ref x0), some (.int x1), some (.ref x2), some (.int x3), none, none] [] h) : (z_J G (d + 1) (m_X8_init z_pu0) r) 0 [some (.ref x0), some (.int x1), some (.ref x2), some (.int x3), none, none] [] h := z_bq (v_X8 z_pu0 (vP_X8_init z_pu0) hPu) hd_X8_init 5 hT
set_option maxRecDepth 20000 in
theorem b_X8_init_4 {G : z_G} {d : Nat} {r : z_Res} (hPu : z_PuV G d (t_X8 z_pu0)) {h : z_H} {x0 : Nat} {x1 : Int32} {x2 : Nat} {x3 : Int32} (hT : (¬ (nI 8) < 0 ∧ Int32.toNatClampNeg (nI 8) ≤ 1000000 ∧ (z_kd (z_nwi h 1 (Int32.toNatClampNeg (nI 8)) (fun _ => 0)) x0 = 24 ∧ (z_J G (d + 1) (m_X8_init z_pu0) r) 12 [some (.ref x0), some (.int x1), some (.ref x2), some (.int x3), none, none] [] (z_por (z_nwi h 1 (Int32.toNatClampNeg (nI 8)) (fun _ => 0)) x0 5 (some (z_n h)))))) : (z_J G (d + 1) (m_X8_init z_pu0) r) 4 [some (.ref x0), some (.int x1), some (.ref x2), some (.int x3), none, none] [] h := z_bq (v_X8 z_pu0 (vP_X8_init z_pu0) hPu) hd_X8_init 7 hT
set_option maxRecDepth 20000 in
theorem b_X8_init_12 {G : z_G} {d : Nat} {r : z_Res} (hPu : z_PuV G d (t_X8 z_pu0)) {h : z_H} {x0 : Nat} {x1 : Int32} {x2 : Nat} {x3 : Int32} (hT : (¬ (nI 8) < 0 ∧ Int32.toNatClampNeg (nI 8) ≤ 1000000 ∧ (z_kd (z_nwi h 1 (Int32.toNatClampNeg (nI 8)) (fun _ => 0)) x0 = 24 ∧ (z_J G (d + 1) (m_X8_init z_pu0) r) 20 [some (.ref x0), some (.int x1), some (.ref x2), some (.int x3), none, none] [] (z_por (z_nwi h 1 (Int32.toNatClampNeg (nI 8)) (fun _ => 0)) x0 6 (some (z_n h)))))) : (z_J G (d + 1) (m_X8_init z_pu0) r) 12 [some (.ref x0), some (.int x1), some (.ref x2), some (.int x3), none, none] [] h := z_bq (v_X8 z_pu0 (vP_X8_init z_pu0) hPu) hd_X8_init 7 hT
set_option maxRecDepth 20000 in
theorem b_X8_init_20 {G : z_G} {d : Nat} {r : z_Res} (hPu : z_PuV G d (t_X8 z_pu0)) {h : z_H} {x0 : Nat} {x1 : Int32} {x2 : Nat} {x3 : Int32} (hT : (¬ (nI 64) < 0 ∧ Int32.toNatClampNeg (nI 64) ≤ 1000000 ∧ (z_kd (z_nwi h 1 (Int32.toNatClampNeg (nI 64)) (fun _ => 0)) x0 = 24 ∧ (z_J G (d + 1) (m_X8_init z_pu0) r) 28 [some (.ref x0), some (.int x1), some (.ref x2), some (.int x3), none, none] [] (z_por (z_nwi h 1 (Int32.toNatClampNeg (nI 64)) (fun _ => 0)) x0 7 (some (z_n h)))))) : (z_J G (d + 1) (m_X8_init z_pu0) r) 20 [some (.ref x0), some (.int x1), some (.ref x2), some (.int x3), none, none] [] h := z_bq (v_X8 z_pu0 (vP_X8_init z_pu0) hPu) hd_X8_init 7 hT
set_option maxRecDepth 20000 in
theorem b_X8_init_28 {G : z_G} {d : Nat} {r : z_Res} (hPu : z_PuV G d (t_X8 z_pu0)) {h : z_H} {x0 : Nat} {x1 : Int32} {x2 : Nat} {x3 : Int32} (hT : (z_kd h x0 = 24 ∧ (z_J G (d + 1) (m_X8_init z_pu0) r) 33 [some (.ref x0), some (.int x1), some (.ref x2), some (.int x3), none, none] [] (z_por h x0 8 none))) : (z_J G (d + 1) (m_X8_init z_pu0) r) 28 [some (.ref x0), some (.int x1), some (.ref x2), some (.int x3), none, none] [] h := z_bq (v_X8 z_pu0 (vP_X8_init z_pu0) hPu) hd_X8_init 6 hT
set_option maxRecDepth 20000 in
theorem b_X8_init_33 {G : z_G} {d : Nat} {r : z_Res} (hPu : z_PuV G d (t_X8 z_pu0)) {h : z_H} {x0 : Nat} {x1 : Int32} {x2 : Nat} {x3 : Int32} (hT : (¬ (nI 8) < 0 ∧ Int32.toNatClampNeg (nI 8) ≤ 1000000 ∧ (z_kd (z_nwi h 1 (Int32.toNatClampNeg (nI 8)) (fun _ => 0)) x0 = 24 ∧ (z_J G (d + 1) (m_X8_init z_pu0) r) 41 [some (.ref x0), some (.int x1), some (.ref x2), some (.int x3), none, none] [] (z_por (z_nwi h 1 (Int32.toNatClampNeg (nI 8)) (fun _ => 0)) x0 9 (some (z_n h)))))) : (z_J G (d + 1) (m_X8_init z_pu0) r) 33 [some (.ref x0), some (.int x1), some (.ref x2), some (.int x3), none, none] [] h := z_bq (v_X8 z_pu0 (vP_X8_init z_pu0) hPu) hd_X8_init 7 hT
set_option maxRecDepth 20000 in
theorem b_X8_init_41 {G : z_G} {d : Nat} {r : z_Res} (hPu : z_PuV G d (t_X8 z_pu0)) {h : z_H} {x0 : Nat} {x1 : Int32} {x2 : Nat} {x3 : Int32} (hT : (z_kd h x0 = 24 ∧ (z_J G (d + 1) (m_X8_init z_pu0) r) 46 [some (.ref x0), some (.int x1), some (.ref x2), some (.int x3), none, none] [] (z_por h x0 10 none))) : (z_J G (d + 1) (m_X8_init z_pu0) r) 41 [some (.ref x0), some (.int x1), some (.ref x2), some (.int x3), none, none] [] h := z_bq (v_X8 z_pu0 (vP_X8_init z_pu0) hPu) hd_X8_init 6 hT
set_option maxRecDepth 20000 in
theorem b_X8_init_46 {G : z_G} {d : Nat} {r : z_Res} (hPu : z_PuV G d (t_X8 z_pu0)) {h : z_H} {x0 : Nat} {x1 : Int32} {x2 : Nat} {x3 : Int32} (hT : (z_kd h x0 = 24 ∧ (z_J G (d + 1) (m_X8_init z_pu0) r) 51 [some (.ref x0), some (.int x1), some (.ref x2), some (.int x3), none, none] [] (z_por h x0 11 none))) : (z_J G (d + 1) (m_X8_init z_pu0) r) 46 [some (.ref x0), some (.int x1), some (.ref x2), some (.int x3), none, none] [] h := z_bq (v_X8 z_pu0 (vP_X8_init z_pu0) hPu) hd_X8_init 6 hT
set_option maxRecDepth 20000 in
theorem b_X8_init_51 {G : z_G} {d : Nat} {r : z_Res} (hPu : z_PuV G d (t_X8 z_pu0)) {h : z_H} {x0 : Nat} {x1 : Int32} {x2 : Nat} {x3 : Int32} (hT : (¬ (nI 5) < 0 ∧ Int32.toNatClampNeg (nI 5) ≤ 1000000 ∧ (z_kd (z_nwr h 6 (Int32.toNatClampNeg (nI 5))) x0 = 24 ∧ (z_J G (d + 1) (m_X8_init z_pu0) r) 59 [some (.ref x0), some (.int x1), some (.ref x2), some (.int x3), none, none] [] (z_por (z_nwr h 6 (Int32.toNatClampNeg (nI 5))) x0 12 (some (z_n h)))))) : (z_J G (d + 1) (m_X8_init z_pu0) r) 51 [some (.ref x0), some (.int x1), some (.ref x2), some (.int x3), none, none] [] h := z_bq (v_X8 z_pu0 (vP_X8_init z_pu0) hPu) hd_X8_init 7 hT
set_option maxRecDepth 20000 in
theorem b_X8_init_59 {G : z_G} {d : Nat} {r : z_Res} (hPu : z_PuV G d (t_X8 z_pu0)) {h : z_H} {x0 : Nat} {x1 : Int32} {x2 : Nat} {x3 : Int32} (hT : (z_kd h x0 = 24 ∧ (z_J G (d + 1) (m_X8_init z_pu0) r) 64 [some (.ref x0), some (.int x1), some (.ref x2), some (.int x3), none, none] [] (z_por h x0 13 none))) : (z_J G (d + 1) (m_X8_init z_pu0) r) 59 [some (.ref x0), some (.int x1), some (.ref x2), some (.int x3), none, none] [] h := z_bq (v_X8 z_pu0 (vP_X8_init z_pu0) hPu) hd_X8_init 6 hT
set_option maxRecDepth 20000 in
theorem b_X8_init_64 {G : z_G} {d : Nat} {r : z_Res} (hPu : z_PuV G d (t_X8 z_pu0)) {h : z_H} {x0 : Nat} {x1 : Int32} {x2 : Nat} {x3 : Int32} (hT : (z_kd h x0 = 24 ∧ (z_J G (d + 1) (m_X8_init z_pu0) r) 69 [some (.ref x0), some (.int x1), some (.ref x2), some (.int x3), none, none] [] (z_por h x0 14 none))) : (z_J G (d + 1) (m_X8_init z_pu0) r) 64 [some (.ref x0), some (.int x1), some (.ref x2), some (.int x3), none, none] [] h := z_bq (v_X8 z_pu0 (vP_X8_init z_pu0) hPu) hd_X8_init 6 hT
set_option maxRecDepth 20000 in
theorem b_X8_init_69 {G : z_G} {d : Nat} {r : z_Res} (hPu : z_PuV G d (t_X8 z_pu0)) {h : z_H} {x0 : Nat} {x1 : Int32} {x2 : Nat} {x3 : Int32} (hT : (z_kd h x0 = 24 ∧ (z_J G (d + 1) (m_X8_init z_pu0) r) 74 [some (.ref x0), some (.int x1), some (.ref x2), some (.int x3), none, none] [] (z_poi h x0 0 x1))) : (z_J G (d + 1) (m_X8_init z_pu0) r) 69 [some (.ref x0), some (.int x1), some (.ref x2), some (.int x3), none, none] [] h := z_bq (v_X8 z_pu0 (vP_X8_init z_pu0) hPu) hd_X8_init 6 hT
set_option maxRecDepth 20000 in
theorem b_X8_init_74 {G : z_G} {d : Nat} {r : z_Res} (hPu : z_PuV G d (t_X8 z_pu0)) {h : z_H} {x0 : Nat} {x1 : Int32} {x2 : Nat} {x3 : Int32} (hT : (z_kd h x0 = 24 ∧ (z_J G (d + 1) (m_X8_init z_pu0) r) 79 [some (.ref x0), some (.int x1), some (.ref x2), some (.int x3), none, none] [] (z_poi h x0 1 x3))) : (z_J G (d + 1) (m_X8_init z_pu0) r) 74 [some (.ref x0), some (.int x1), some (.ref x2), some (.int x3), none, none] [] h := z_bq (v_X8 z_pu0 (vP_X8_init z_pu0) hPu) hd_X8_init 6 hT
set_option maxRecDepth 20000 in
theorem b_X8_init_79 {G : z_G} {d : Nat} {r : z_Res} (hPu : z_PuV G d (t_X8 z_pu0)) {h : z_H} {x0 : Nat} {x1 : Int32} {x2 : Nat} {x3 : Int32} (hT : (∃ o_2 h_1, z_Ev G d k_J7_copyOf_59c91 [.ref x2, .int x3] h (.inl (some (va_rf o_2)), h_1) ∧ (z_rc o_2 (z_kd h_1 x0 = 24 ∧ (z_J G (d + 1) (m_X8_init z_pu0) r) 88 [some (.ref x0), some (.int x1), none, some (.int x3), none, none] [] (z_por h_1 x0 2 none)) (fun x_3 => (z_kd h_1 x0 = 24 ∧ (z_J G (d + 1) (m_X8_init z_pu0) r) 88 [some (.ref x0), some (.int x1), none, some (.int x3), none, none] [] (z_por h_1 x0 2 (some x_3))))))) : (z_J G (d + 1) (m_X8_init z_pu0) r) 79 [some (.ref x0), some (.int x1), some (.ref x2), some (.int x3), none, none] [] h := z_bq (v_X8 z_pu0 (vP_X8_init z_pu0) hPu) hd_X8_init 8 hT
set_option maxRecDepth 20000 in
theorem b_X8_init_88 {G : z_G} {d : Nat} {r : z_Res} (hPu : z_PuV G d (t_X8 z_pu0)) {h : z_H} {x0 : Nat} {x1 : Int32} {x3 : Int32} (hT : (¬ x3 < 0 ∧ Int32.toNatClampNeg x3 ≤ 1000000 ∧ (z_kd (z_nwi h 1 (Int32.toNatClampNeg x3) (fun _ => 0)) x0 = 24 ∧ (z_J G (d + 1) (m_X8_init z_pu0) r) 95 [some (.ref x0), some (.int x1), none, some (.int x3), none, none] [] (z_por (z_nwi h 1 (Int32.toNatClampNeg x3) (fun _ => 0)) x0 3 (some (z_n h)))))) : (z_J G (d + 1) (m_X8_init z_pu0) r) 88 [some (.ref x0), some (.int x1), none, some (.int x3), none, none] [] h := z_bq (v_X8 z_pu0 (vP_X8_init z_pu0) hPu) hd_X8_init 7 hT
set_option maxRecDepth 20000 in
theorem b_X8_init_95 {G : z_G} {d : Nat} {r : z_Res} (hPu : z_PuV G d (t_X8 z_pu0)) {h : z_H} {x0 : Nat} {x1 : Int32} {x3 : Int32} (hT : (¬ x3 < 0 ∧ Int32.toNatClampNeg x3 ≤ 1000000 ∧ (z_kd (z_nwi h 1 (Int32.toNatClampNeg x3) (fun _ => 0)) x0 = 24 ∧ (z_J G (d + 1) (m_X8_init z_pu0) r) 102 [some (.ref x0), some (.int x1), none, some (.int x3), none, none] [] (z_por (z_nwi h 1 (Int32.toNatClampNeg x3) (fun _ => 0)) x0 4 (some (z_n h)))))) : (z_J G (d + 1) (m_X8_init z_pu0) r) 95 [some (.ref x0), some (.int x1), none, some (.int x3), none, none] [] h := z_bq (v_X8 z_pu0 (vP_X8_init z_pu0) hPu) hd_X8_init 7 hT
set_option maxRecDepth 20000 in
theorem b_X8_init_102 {G : z_G} {d : Nat} {r : z_Res} (hPu : z_PuV G d (t_X8 z_pu0)) {h : z_H} {x0 : Nat} {x1 : Int32} {x3 : Int32} (hT : (z_kd h x0 = 24 ∧ (z_rc (z_or h x0 7) (∃ h_2, z_Ev G d k_J7_fill_53178 [.null, .int mI] h (.inl none, h_2) ∧ (z_J G (d + 1) (m_X8_init z_pu0) r) 110 [some (.ref x0), some (.int x1), none, some (.int x3), none, none] [] h_2) (fun x_1 => (∃ h_3, z_Ev G d k_J7_fill_53178 [.ref x_1, .int mI] h (.inl none, h_3) ∧ (z_J G (d + 1) (m_X8_init z_pu0) r) 110 [some (.ref x0), some (.int x1), none, some (.int x3), none, none] [] h_3))))) : (z_J G (d + 1) (m_X8_init z_pu0) r) 102 [some (.ref x0), some (.int x1), none, some (.int x3), none, none] [] h := z_bq (v_X8 z_pu0 (vP_X8_init z_pu0) hPu) hd_X8_init 7 hT
set_option maxRecDepth 20000 in
theorem b_X8_init_110 {G : z_G} {d : Nat} {r : z_Res} (hPu : z_PuV G d (t_X8 z_pu0)) {h : z_H} {x0 : Nat} {x1 : Int32} {x3 : Int32} (hT : (z_J G (d + 1) (m_X8_init z_pu0) r) 113 [some (.ref x0), some (.int x1), none, some (.int x3), some (.int (nI 0)), none] [] h) : (z_J G (d + 1) (m_X8_init z_pu0) r) 110 [some (.ref x0), some (.int x1), none, some (.int x3), none, none] [] h := z_bq (v_X8 z_pu0 (vP_X8_init z_pu0) hPu) hd_X8_init 5 hT
set_option maxRecDepth 20000 in
theorem b_X8_init_113 {G : z_G} {d : Nat} {r : z_Res} (hPu : z_PuV G d (t_X8 z_pu0)) {h : z_H} {x0 : Nat} {x1 : Int32} {x3 : Int32} {x4 : Int32} (hT : (if x4 < x3 then (z_J G (d + 1) (m_X8_init z_pu0) r) 122 [some (.ref x0), some (.int x1), none, some (.int x3), some (.int x4), some (.int (nI 0))] [] h else r = (.inl none, h))) : (z_J G (d + 1) (m_X8_init z_pu0) r) 113 [some (.ref x0), some (.int x1), none, some (.int x3), some (.int x4), none] [] h := z_bq (v_X8 z_pu0 (vP_X8_init z_pu0) hPu) hd_X8_init 8 hT
set_option maxRecDepth 20000 in
theorem b_X8_init_122 {G : z_G} {d : Nat} {r : z_Res} (hPu : z_PuV G d (t_X8 z_pu0)) {h : z_H} {x0 : Nat} {x1 : Int32} {x3 : Int32} {x4 : Int32} {x5 : Int32} (hT : (if x5 < x1 then (z_kd h x0 = 24 ∧ (z_rc (z_or h x0 2) False (fun x_1 => (z_kd h x_1 = 1 ∧ vp_in x4 (z_ln h x_1) ∧ (if (((z_ai h x_1 (Int32.toNatClampNeg x4)) >>> (x5 &&& (nI 31))) &&& (nI 1)) = (nI 0) then (z_J G (d + 1) (m_X8_init z_pu0) r) 122 [some (.ref x0), some (.int x1), none, some (.int x3), some (.int x4), some (.int (x5 + (nI 1)))] [] h else (z_kd h x0 = 24 ∧ ∃ h_2, z_Ev G d k_X8_addFlag [.ref x0, .int x4, .int x5] h (.inl none, h_2) ∧ (z_J G (d + 1) (m_X8_init z_pu0) r) 122 [some (.ref x0), some (.int x1), none, some (.int x3), some (.int x4), some (.int (x5 + (nI 1)))] [] h_2)))))) else (z_J G (d + 1) (m_X8_init z_pu0) r) 113 [some (.ref x0), some (.int x1), none, some (.int x3), some (.int (x4 + (nI 1))), none] [] h)) : (z_J G (d + 1) (m_X8_init z_pu0) r) 122 [some (.ref x0), some (.int x1), none, some (.int x3), some (.int x4), some (.int x5)] [] h := z_bq (v_X8 z_pu0 (vP_X8_init z_pu0) hPu) hd_X8_init 21 hT
/-! a scheme's object made: its rows one by one -/
def frq (q b : Nat) (h0 h : z_H) : Prop := ∀ a, a < b → a ≠ q → z_kd h a = z_kd h0 a ∧ z_ln h a = z_ln h0 a ∧ z_oi h a = z_oi h0 a ∧ z_or h a = z_or h0 a ∧ z_ai h a = z_ai h0 a ∧ z_al h a = z_al h0 a ∧ z_ar h a = z_ar h0 a
/-- behind k rows: kinds K, lengths L, rows W; the object's own fields O, F; t slots taken -/
def yI (h0 : z_H) (q b k t : Nat) (K L : Nat → Nat) (W : Nat → Nat → Int32) (O : Nat → Option Nat) (F : Nat → Int32) (h : z_H) : Prop := (z_n h = b + k ∧ ∀ a, b + k ≤ a → z_kd h a = z_kd h0 a) ∧ z_c h = z_c h0 + k ∧ z_s h = z_s h0 + t ∧ z_kd h q = 24 ∧ z_or h q = O ∧ z_oi h q = F ∧ (∀ j, j < k → z_kd h (b + j) = K j ∧ z_ln h (b + j) = L j ∧ (K j = 1 → z_ai h (b + j) = W j) ∧ (K j = 6 → z_ar h (b + j) = fun _ => none)) ∧ frq q b h0 h
section EK
variable {h0 h : z_H} {q b k t : Nat} {K L : Nat → Nat} {W : Nat → Nat → Int32} {O : Nat → Option Nat} {F : Nat → Int32}
theorem y_por (hI : yI h0 q b k t K L W O F h) (hq : q < b) (s : Nat) (v : Option Nat) : yI h0 q b k t K L W (z_u O s v) F (z_por h q s v) := by
  obtain ⟨⟨i1, ik⟩, i2, i3, i4, i5, i6, i7, i8⟩ := hI
  refine ⟨⟨i1, ik⟩, i2, i3, i4, ?_, i6, i7, fun a ha hn => ?_⟩
  · show z_u (z_or h) q (z_u (z_or h q) s v) q = _
    rw [u_eq, i5]
  · obtain ⟨q1, q2, q3, q4, q5, q6, q7⟩ := i8 a ha hn
    refine ⟨q1, q2, q3, ?_, q5, q6, q7⟩
    show z_u (z_or h) q (z_u (z_or h q) s v) a = _
    rw [u_ne _ _ hn]; exact q4
theorem y_poi (hI : yI h0 q b k t K L W O F h) (s : Nat) (v : Int32) : yI h0 q b k t K L W O (z_u F s v) (z_poi h q s v) := by
  obtain ⟨⟨i1, ik⟩, i2, i3, i4, i5, i6, i7, i8⟩ := hI
  refine ⟨⟨i1, ik⟩, i2, i3, i4, i5, ?_, i7, fun a ha hn => ?_⟩
  · show z_u (z_oi h) q (z_u (z_oi h q) s v) q = _
    rw [u_eq, i6]
  · obtain ⟨q1, q2, q3, q4, q5, q6, q7⟩ := i8 a ha hn
    refine ⟨q1, q2, ?_, q4, q5, q6, q7⟩
    show z_u (z_oi h) q (z_u (z_oi h q) s v) a = _
    rw [u_ne _ _ hn]; exact q3
theorem y_nwi (hI : yI h0 q b k t K L W O F h) (hq : q < b) {m : Nat} {f : Nat → Int32} (hK : K k = 1) (hL : L k = m) (hW : W k = f) : yI h0 q b (k + 1) (t + m) K L W O F (z_nwi h 1 m f) := by
  obtain ⟨⟨i1, ik⟩, i2, i3, i4, i5, i6, i7, i8⟩ := hI
  refine ⟨⟨by show z_n h + 1 = _; omega, fun a ha => ?_⟩, ?_, ?_, ?_, i5, i6, fun j hj => ?_, fun a ha hn => ?_⟩
  · show z_u (z_kd h) (z_n h) 1 a = _
    rw [u_ne _ _ (by omega)]; exact ik a (by omega)
  · show z_c h + 1 = _
    omega
  · show z_s h + m = _
    omega
  · show z_u (z_kd h) (z_n h) 1 q = 24
    rw [u_ne _ _ (by omega)]; exact i4
  · show z_u (z_kd h) (z_n h) 1 (b + j) = K j ∧ z_u (z_ln h) (z_n h) m (b + j) = L j ∧ (K j = 1 → z_u (z_ai h) (z_n h) f (b + j) = W j) ∧ (K j = 6 → z_ar h (b + j) = fun _ => none)
    rw [i1]
    by_cases e : j = k
    · subst e
      rw [u_eq, u_eq, u_eq, hK, hL, hW]; exact ⟨rfl, rfl, fun _ => rfl, fun e => by omega⟩
    · rw [u_ne _ _ (by omega), u_ne _ _ (by omega), u_ne _ _ (by omega)]
      exact i7 j (by omega)
  · obtain ⟨q1, q2, q3, q4, q5, q6, q7⟩ := i8 a ha hn
    refine ⟨?_, ?_, q3, q4, ?_, q6, q7⟩
    · show z_u (z_kd h) (z_n h) 1 a = _
      rw [u_ne _ _ (by omega)]; exact q1
    · show z_u (z_ln h) (z_n h) m a = _
      rw [u_ne _ _ (by omega)]; exact q2
    · show z_u (z_ai h) (z_n h) f a = _
      rw [u_ne _ _ (by omega)]; exact q5
theorem y_nwr (hI : yI h0 q b k t K L W O F h) (hq : q < b) {m : Nat} (hK : K k = 6) (hL : L k = m) : yI h0 q b (k + 1) (t + m) K L W O F (z_nwr h 6 m) := by
  obtain ⟨⟨i1, ik⟩, i2, i3, i4, i5, i6, i7, i8⟩ := hI
  refine ⟨⟨by show z_n h + 1 = _; omega, fun a ha => ?_⟩, ?_, ?_, ?_, i5, i6, fun j hj => ?_, fun a ha hn => ?_⟩
  · show z_u (z_kd h) (z_n h) 6 a = _
    rw [u_ne _ _ (by omega)]; exact ik a (by omega)
  · show z_c h + 1 = _
    omega
  · show z_s h + m = _
    omega
  · show z_u (z_kd h) (z_n h) 6 q = 24
    rw [u_ne _ _ (by omega)]; exact i4
  · show z_u (z_kd h) (z_n h) 6 (b + j) = K j ∧ z_u (z_ln h) (z_n h) m (b + j) = L j ∧ (K j = 1 → z_ai h (b + j) = W j) ∧ (K j = 6 → z_u (z_ar h) (z_n h) (fun _ => none) (b + j) = fun _ => none)
    rw [i1]
    by_cases e : j = k
    · subst e
      rw [u_eq, u_eq, u_eq, hK, hL]; exact ⟨rfl, rfl, fun e => by omega, fun _ => rfl⟩
    · rw [u_ne _ _ (by omega), u_ne _ _ (by omega), u_ne _ _ (by omega)]
      exact i7 j (by omega)
  · obtain ⟨q1, q2, q3, q4, q5, q6, q7⟩ := i8 a ha hn
    refine ⟨?_, ?_, q3, q4, q5, q6, ?_⟩
    · show z_u (z_kd h) (z_n h) 6 a = _
      rw [u_ne _ _ (by omega)]; exact q1
    · show z_u (z_ln h) (z_n h) m a = _
      rw [u_ne _ _ (by omega)]; exact q2
    · show z_u (z_ar h) (z_n h) (fun _ => none) a = _
      rw [u_ne _ _ (by omega)]; exact q7
theorem y_W {W' : Nat → Nat → Int32} (hI : yI h0 q b k t K L W O F h) (hW : ∀ j, j < k → W' j = W j) : yI h0 q b k t K L W' O F h := by
  obtain ⟨⟨i1, ik⟩, i2, i3, i4, i5, i6, i7, i8⟩ := hI
  exact ⟨⟨i1, ik⟩, i2, i3, i4, i5, i6, fun j hj => by rw [hW j hj]; exact i7 j hj, i8⟩
end EK
