theorem en_X7_init {pu : Nat → Option ((List Value → z_H → Prop) × (List Value → z_H → Int32))} {G : z_G} {d : Nat} {r : z_Res} {h : z_H} {x0 : Nat} (hJ : z_J G d (m_X7_init pu) r 0 [some (.ref x0)] [] h) : z_Ev G d k_X7_init [.ref x0] h r := z_enter (μ := m_X7_init pu) rfl (by decide) rfl rfl (fun _ => rfl) (Nat.le_of_ble_eq_true rfl) hJ
def hd_X7_init : Nat → Option (List Bool) := (fun k => (cond (Nat.blt k 87) (cond (Nat.blt k 41) (cond (Nat.blt k 21) (cond (Nat.blt k 11) (cond (Nat.beq k 4) (some [true]) none) (cond (Nat.blt k 16) (cond (Nat.beq k 11) (some [true]) none) (cond (Nat.beq k 16) (some [true]) none))) (cond (Nat.blt k 31) (cond (Nat.blt k 26) (cond (Nat.beq k 21) (some [true]) none) (cond (Nat.beq k 26) (some [true]) none)) (cond (Nat.blt k 36) (cond (Nat.beq k 31) (some [true]) none) (cond (Nat.beq k 36) (some [true]) none)))) (cond (Nat.blt k 68) (cond (Nat.blt k 52) (cond (Nat.blt k 47) (cond (Nat.beq k 41) (some [true]) none) (cond (Nat.beq k 47) (some [true]) none)) (cond (Nat.blt k 60) (cond (Nat.beq k 52) (some [true]) none) (cond (Nat.beq k 60) (some [true]) none))) (cond (Nat.blt k 81) (cond (Nat.blt k 76) (cond (Nat.beq k 68) (some [true]) none) (cond (Nat.beq k 76) (some [true]) none)) (cond (Nat.blt k 86) (cond (Nat.beq k 81) (some [true]) none) (cond (Nat.beq k 86) (some [false]) none))))) none))
set_option maxRecDepth 20000 in
theorem b_X7_init_0 {G : z_G} {d : Nat} {r : z_Res} (hPu : z_PuV G d (t_X7 z_pu0)) {h : z_H} {x0 : Nat} (hT : (z_J G (d + 1) (m_X7_init z_pu0) r) 4 [some (.ref x0)] [] h) : (z_J G (d + 1) (m_X7_init z_pu0) r) 0 [some (.ref x0)] [] h := z_bq (v_X7 z_pu0 (vP_X7_init z_pu0) hPu) hd_X7_init 5 hT
set_option maxRecDepth 20000 in
theorem b_X7_init_4 {G : z_G} {d : Nat} {r : z_Res} (hPu : z_PuV G d (t_X7 z_pu0)) {h : z_H} {x0 : Nat} (hT : (¬ (nI 0) < 0 ∧ Int32.toNatClampNeg (nI 0) ≤ 1000000 ∧ (z_kd (z_nwi h 1 (Int32.toNatClampNeg (nI 0)) (fun _ => 0)) x0 = 23 ∧ (z_J G (d + 1) (m_X7_init z_pu0) r) 11 [some (.ref x0)] [] (z_por (z_nwi h 1 (Int32.toNatClampNeg (nI 0)) (fun _ => 0)) x0 0 (some (z_n h)))))) : (z_J G (d + 1) (m_X7_init z_pu0) r) 4 [some (.ref x0)] [] h := z_bq (v_X7 z_pu0 (vP_X7_init z_pu0) hPu) hd_X7_init 7 hT
set_option maxRecDepth 20000 in
theorem b_X7_init_11 {G : z_G} {d : Nat} {r : z_Res} (hPu : z_PuV G d (t_X7 z_pu0)) {h : z_H} {x0 : Nat} (hT : (z_kd h x0 = 23 ∧ (z_J G (d + 1) (m_X7_init z_pu0) r) 16 [some (.ref x0)] [] (z_poi h x0 1 (nI 0)))) : (z_J G (d + 1) (m_X7_init z_pu0) r) 11 [some (.ref x0)] [] h := z_bq (v_X7 z_pu0 (vP_X7_init z_pu0) hPu) hd_X7_init 6 hT
set_option maxRecDepth 20000 in
theorem b_X7_init_16 {G : z_G} {d : Nat} {r : z_Res} (hPu : z_PuV G d (t_X7 z_pu0)) {h : z_H} {x0 : Nat} (hT : (z_kd h x0 = 23 ∧ (z_J G (d + 1) (m_X7_init z_pu0) r) 21 [some (.ref x0)] [] (z_poi h x0 2 (nI 0)))) : (z_J G (d + 1) (m_X7_init z_pu0) r) 16 [some (.ref x0)] [] h := z_bq (v_X7 z_pu0 (vP_X7_init z_pu0) hPu) hd_X7_init 6 hT
set_option maxRecDepth 20000 in
theorem b_X7_init_21 {G : z_G} {d : Nat} {r : z_Res} (hPu : z_PuV G d (t_X7 z_pu0)) {h : z_H} {x0 : Nat} (hT : (z_kd h x0 = 23 ∧ (z_J G (d + 1) (m_X7_init z_pu0) r) 26 [some (.ref x0)] [] (z_poi h x0 3 (nI 0)))) : (z_J G (d + 1) (m_X7_init z_pu0) r) 21 [some (.ref x0)] [] h := z_bq (v_X7 z_pu0 (vP_X7_init z_pu0) hPu) hd_X7_init 6 hT
set_option maxRecDepth 20000 in
theorem b_X7_init_26 {G : z_G} {d : Nat} {r : z_Res} (hPu : z_PuV G d (t_X7 z_pu0)) {h : z_H} {x0 : Nat} (hT : (z_kd h x0 = 23 ∧ (z_J G (d + 1) (m_X7_init z_pu0) r) 31 [some (.ref x0)] [] (z_poi h x0 4 (nI 0)))) : (z_J G (d + 1) (m_X7_init z_pu0) r) 26 [some (.ref x0)] [] h := z_bq (v_X7 z_pu0 (vP_X7_init z_pu0) hPu) hd_X7_init 6 hT
set_option maxRecDepth 20000 in
theorem b_X7_init_31 {G : z_G} {d : Nat} {r : z_Res} (hPu : z_PuV G d (t_X7 z_pu0)) {h : z_H} {x0 : Nat} (hT : (z_kd h x0 = 23 ∧ (z_J G (d + 1) (m_X7_init z_pu0) r) 36 [some (.ref x0)] [] (z_poi h x0 5 (nI 0)))) : (z_J G (d + 1) (m_X7_init z_pu0) r) 31 [some (.ref x0)] [] h := z_bq (v_X7 z_pu0 (vP_X7_init z_pu0) hPu) hd_X7_init 6 hT
set_option maxRecDepth 20000 in
theorem b_X7_init_36 {G : z_G} {d : Nat} {r : z_Res} (hPu : z_PuV G d (t_X7 z_pu0)) {h : z_H} {x0 : Nat} (hT : (z_kd h x0 = 23 ∧ z_bz (nI 0) ∧ (z_J G (d + 1) (m_X7_init z_pu0) r) 41 [some (.ref x0)] [] (z_poi h x0 6 (nI 0)))) : (z_J G (d + 1) (m_X7_init z_pu0) r) 36 [some (.ref x0)] [] h := z_bq (v_X7 z_pu0 (vP_X7_init z_pu0) hPu) hd_X7_init 6 hT
set_option maxRecDepth 20000 in
theorem b_X7_init_41 {G : z_G} {d : Nat} {r : z_Res} (hPu : z_PuV G d (t_X7 z_pu0)) {h : z_H} {x0 : Nat} (hT : (z_kd h x0 = 23 ∧ (z_J G (d + 1) (m_X7_init z_pu0) r) 47 [some (.ref x0)] [] (z_poi h x0 7 (nI 7)))) : (z_J G (d + 1) (m_X7_init z_pu0) r) 41 [some (.ref x0)] [] h := z_bq (v_X7 z_pu0 (vP_X7_init z_pu0) hPu) hd_X7_init 6 hT
set_option maxRecDepth 20000 in
theorem b_X7_init_47 {G : z_G} {d : Nat} {r : z_Res} (hPu : z_PuV G d (t_X7 z_pu0)) {h : z_H} {x0 : Nat} (hT : (z_kd h x0 = 23 ∧ (z_J G (d + 1) (m_X7_init z_pu0) r) 52 [some (.ref x0)] [] (z_poi h x0 8 (nI 0)))) : (z_J G (d + 1) (m_X7_init z_pu0) r) 47 [some (.ref x0)] [] h := z_bq (v_X7 z_pu0 (vP_X7_init z_pu0) hPu) hd_X7_init 6 hT
set_option maxRecDepth 20000 in
theorem b_X7_init_52 {G : z_G} {d : Nat} {r : z_Res} (hPu : z_PuV G d (t_X7 z_pu0)) {h : z_H} {x0 : Nat} (hT : (¬ (nI 12) < 0 ∧ Int32.toNatClampNeg (nI 12) ≤ 1000000 ∧ (z_kd (z_nwi h 1 (Int32.toNatClampNeg (nI 12)) (fun _ => 0)) x0 = 23 ∧ (z_J G (d + 1) (m_X7_init z_pu0) r) 60 [some (.ref x0)] [] (z_por (z_nwi h 1 (Int32.toNatClampNeg (nI 12)) (fun _ => 0)) x0 9 (some (z_n h)))))) : (z_J G (d + 1) (m_X7_init z_pu0) r) 52 [some (.ref x0)] [] h := z_bq (v_X7 z_pu0 (vP_X7_init z_pu0) hPu) hd_X7_init 7 hT
set_option maxRecDepth 20000 in
theorem b_X7_init_60 {G : z_G} {d : Nat} {r : z_Res} (hPu : z_PuV G d (t_X7 z_pu0)) {h : z_H} {x0 : Nat} (hT : (¬ (nI 8) < 0 ∧ Int32.toNatClampNeg (nI 8) ≤ 1000000 ∧ (z_kd (z_nwi h 1 (Int32.toNatClampNeg (nI 8)) (fun _ => 0)) x0 = 23 ∧ (z_J G (d + 1) (m_X7_init z_pu0) r) 68 [some (.ref x0)] [] (z_por (z_nwi h 1 (Int32.toNatClampNeg (nI 8)) (fun _ => 0)) x0 10 (some (z_n h)))))) : (z_J G (d + 1) (m_X7_init z_pu0) r) 60 [some (.ref x0)] [] h := z_bq (v_X7 z_pu0 (vP_X7_init z_pu0) hPu) hd_X7_init 7 hT
set_option maxRecDepth 20000 in
theorem b_X7_init_68 {G : z_G} {d : Nat} {r : z_Res} (hPu : z_PuV G d (t_X7 z_pu0)) {h : z_H} {x0 : Nat} (hT : (¬ (nI 8) < 0 ∧ Int32.toNatClampNeg (nI 8) ≤ 1000000 ∧ (z_kd (z_nwi h 1 (Int32.toNatClampNeg (nI 8)) (fun _ => 0)) x0 = 23 ∧ (z_J G (d + 1) (m_X7_init z_pu0) r) 76 [some (.ref x0)] [] (z_por (z_nwi h 1 (Int32.toNatClampNeg (nI 8)) (fun _ => 0)) x0 11 (some (z_n h)))))) : (z_J G (d + 1) (m_X7_init z_pu0) r) 68 [some (.ref x0)] [] h := z_bq (v_X7 z_pu0 (vP_X7_init z_pu0) hPu) hd_X7_init 7 hT
set_option maxRecDepth 20000 in
theorem b_X7_init_76 {G : z_G} {d : Nat} {r : z_Res} (hPu : z_PuV G d (t_X7 z_pu0)) {h : z_H} {x0 : Nat} (hT : (z_kd h x0 = 23 ∧ (z_J G (d + 1) (m_X7_init z_pu0) r) 81 [some (.ref x0)] [] (z_poi h x0 12 (nI 0)))) : (z_J G (d + 1) (m_X7_init z_pu0) r) 76 [some (.ref x0)] [] h := z_bq (v_X7 z_pu0 (vP_X7_init z_pu0) hPu) hd_X7_init 6 hT
set_option maxRecDepth 20000 in
theorem b_X7_init_81 {G : z_G} {d : Nat} {r : z_Res} (hPu : z_PuV G d (t_X7 z_pu0)) {h : z_H} {x0 : Nat} (hT : (z_kd h x0 = 23 ∧ (z_J G (d + 1) (m_X7_init z_pu0) r) 86 [none] [] (z_poi h x0 13 mI))) : (z_J G (d + 1) (m_X7_init z_pu0) r) 81 [some (.ref x0)] [] h := z_bq (v_X7 z_pu0 (vP_X7_init z_pu0) hPu) hd_X7_init 6 hT
set_option maxRecDepth 20000 in
theorem b_X7_init_86 {G : z_G} {d : Nat} {r : z_Res} (hPu : z_PuV G d (t_X7 z_pu0)) {h : z_H}  (hT : r = (.inl none, h)) : (z_J G (d + 1) (m_X7_init z_pu0) r) 86 [none] [] h := z_bq (v_X7 z_pu0 (vP_X7_init z_pu0) hPu) hd_X7_init 3 hT
theorem en_X5_init {pu : Nat → Option ((List Value → z_H → Prop) × (List Value → z_H → Int32))} {G : z_G} {d : Nat} {r : z_Res} {h : z_H} {x0 : Nat} (hJ : z_J G d (m_X5_init pu) r 0 [some (.ref x0)] [] h) : z_Ev G d k_X5_init [.ref x0] h r := z_enter (μ := m_X5_init pu) rfl (by decide) rfl rfl (fun _ => rfl) (Nat.le_of_ble_eq_true rfl) hJ
def hd_X5_init : Nat → Option (List Bool) := (fun k => (cond (Nat.blt k 79) (cond (Nat.blt k 42) (cond (Nat.blt k 19) (cond (Nat.blt k 9) (cond (Nat.beq k 4) (some [true]) none) (cond (Nat.blt k 14) (cond (Nat.beq k 9) (some [true]) none) (cond (Nat.beq k 14) (some [true]) none))) (cond (Nat.blt k 29) (cond (Nat.blt k 24) (cond (Nat.beq k 19) (some [true]) none) (cond (Nat.beq k 24) (some [true]) none)) (cond (Nat.blt k 37) (cond (Nat.beq k 29) (some [true]) none) (cond (Nat.beq k 37) (some [true]) none)))) (cond (Nat.blt k 60) (cond (Nat.blt k 47) (cond (Nat.beq k 42) (some [true]) none) (cond (Nat.blt k 55) (cond (Nat.beq k 47) (some [true]) none) (cond (Nat.beq k 55) (some [true]) none))) (cond (Nat.blt k 70) (cond (Nat.blt k 65) (cond (Nat.beq k 60) (some [true]) none) (cond (Nat.beq k 65) (some [true]) none)) (cond (Nat.blt k 78) (cond (Nat.beq k 70) (some [true]) none) (cond (Nat.beq k 78) (some [false]) none))))) none))
set_option maxRecDepth 20000 in
theorem b_X5_init_0 {G : z_G} {d : Nat} {r : z_Res} (hPu : z_PuV G d (t_X5 z_pu0)) {h : z_H} {x0 : Nat} (hT : (z_J G (d + 1) (m_X5_init z_pu0) r) 4 [some (.ref x0)] [] h) : (z_J G (d + 1) (m_X5_init z_pu0) r) 0 [some (.ref x0)] [] h := z_bq (v_X5 z_pu0 (vP_X5_init z_pu0) hPu) hd_X5_init 5 hT
set_option maxRecDepth 20000 in
theorem b_X5_init_4 {G : z_G} {d : Nat} {r : z_Res} (hPu : z_PuV G d (t_X5 z_pu0)) {h : z_H} {x0 : Nat} (hT : (z_kd h x0 = 21 ∧ (z_J G (d + 1) (m_X5_init z_pu0) r) 9 [some (.ref x0)] [] (z_por h x0 0 none))) : (z_J G (d + 1) (m_X5_init z_pu0) r) 4 [some (.ref x0)] [] h := z_bq (v_X5 z_pu0 (vP_X5_init z_pu0) hPu) hd_X5_init 6 hT
set_option maxRecDepth 20000 in
theorem b_X5_init_9 {G : z_G} {d : Nat} {r : z_Res} (hPu : z_PuV G d (t_X5 z_pu0)) {h : z_H} {x0 : Nat} (hT : (z_kd h x0 = 21 ∧ (z_J G (d + 1) (m_X5_init z_pu0) r) 14 [some (.ref x0)] [] (z_por h x0 1 none))) : (z_J G (d + 1) (m_X5_init z_pu0) r) 9 [some (.ref x0)] [] h := z_bq (v_X5 z_pu0 (vP_X5_init z_pu0) hPu) hd_X5_init 6 hT
set_option maxRecDepth 20000 in
theorem b_X5_init_14 {G : z_G} {d : Nat} {r : z_Res} (hPu : z_PuV G d (t_X5 z_pu0)) {h : z_H} {x0 : Nat} (hT : (z_kd h x0 = 21 ∧ (z_J G (d + 1) (m_X5_init z_pu0) r) 19 [some (.ref x0)] [] (z_por h x0 2 none))) : (z_J G (d + 1) (m_X5_init z_pu0) r) 14 [some (.ref x0)] [] h := z_bq (v_X5 z_pu0 (vP_X5_init z_pu0) hPu) hd_X5_init 6 hT
set_option maxRecDepth 20000 in
theorem b_X5_init_19 {G : z_G} {d : Nat} {r : z_Res} (hPu : z_PuV G d (t_X5 z_pu0)) {h : z_H} {x0 : Nat} (hT : (z_kd h x0 = 21 ∧ (z_J G (d + 1) (m_X5_init z_pu0) r) 24 [some (.ref x0)] [] (z_por h x0 3 none))) : (z_J G (d + 1) (m_X5_init z_pu0) r) 19 [some (.ref x0)] [] h := z_bq (v_X5 z_pu0 (vP_X5_init z_pu0) hPu) hd_X5_init 6 hT
set_option maxRecDepth 20000 in
theorem b_X5_init_24 {G : z_G} {d : Nat} {r : z_Res} (hPu : z_PuV G d (t_X5 z_pu0)) {h : z_H} {x0 : Nat} (hT : (z_kd h x0 = 21 ∧ z_bz (nI 1) ∧ (z_J G (d + 1) (m_X5_init z_pu0) r) 29 [some (.ref x0)] [] (z_poi h x0 4 (nI 1)))) : (z_J G (d + 1) (m_X5_init z_pu0) r) 24 [some (.ref x0)] [] h := z_bq (v_X5 z_pu0 (vP_X5_init z_pu0) hPu) hd_X5_init 6 hT
set_option maxRecDepth 20000 in
theorem b_X5_init_29 {G : z_G} {d : Nat} {r : z_Res} (hPu : z_PuV G d (t_X5 z_pu0)) {h : z_H} {x0 : Nat} (hT : (¬ (nI 8) < 0 ∧ Int32.toNatClampNeg (nI 8) ≤ 1000000 ∧ (z_kd (z_nwi h 1 (Int32.toNatClampNeg (nI 8)) (fun _ => 0)) x0 = 21 ∧ (z_J G (d + 1) (m_X5_init z_pu0) r) 37 [some (.ref x0)] [] (z_por (z_nwi h 1 (Int32.toNatClampNeg (nI 8)) (fun _ => 0)) x0 5 (some (z_n h)))))) : (z_J G (d + 1) (m_X5_init z_pu0) r) 29 [some (.ref x0)] [] h := z_bq (v_X5 z_pu0 (vP_X5_init z_pu0) hPu) hd_X5_init 7 hT
set_option maxRecDepth 20000 in
theorem b_X5_init_37 {G : z_G} {d : Nat} {r : z_Res} (hPu : z_PuV G d (t_X5 z_pu0)) {h : z_H} {x0 : Nat} (hT : (z_kd h x0 = 21 ∧ (z_J G (d + 1) (m_X5_init z_pu0) r) 42 [some (.ref x0)] [] (z_por h x0 6 none))) : (z_J G (d + 1) (m_X5_init z_pu0) r) 37 [some (.ref x0)] [] h := z_bq (v_X5 z_pu0 (vP_X5_init z_pu0) hPu) hd_X5_init 6 hT
set_option maxRecDepth 20000 in
theorem b_X5_init_42 {G : z_G} {d : Nat} {r : z_Res} (hPu : z_PuV G d (t_X5 z_pu0)) {h : z_H} {x0 : Nat} (hT : (z_kd h x0 = 21 ∧ (z_J G (d + 1) (m_X5_init z_pu0) r) 47 [some (.ref x0)] [] (z_poi h x0 7 mI))) : (z_J G (d + 1) (m_X5_init z_pu0) r) 42 [some (.ref x0)] [] h := z_bq (v_X5 z_pu0 (vP_X5_init z_pu0) hPu) hd_X5_init 6 hT
set_option maxRecDepth 20000 in
theorem b_X5_init_47 {G : z_G} {d : Nat} {r : z_Res} (hPu : z_PuV G d (t_X5 z_pu0)) {h : z_H} {x0 : Nat} (hT : (¬ (nI 8) < 0 ∧ Int32.toNatClampNeg (nI 8) ≤ 1000000 ∧ (z_kd (z_nwi h 1 (Int32.toNatClampNeg (nI 8)) (fun _ => 0)) x0 = 21 ∧ (z_J G (d + 1) (m_X5_init z_pu0) r) 55 [some (.ref x0)] [] (z_por (z_nwi h 1 (Int32.toNatClampNeg (nI 8)) (fun _ => 0)) x0 8 (some (z_n h)))))) : (z_J G (d + 1) (m_X5_init z_pu0) r) 47 [some (.ref x0)] [] h := z_bq (v_X5 z_pu0 (vP_X5_init z_pu0) hPu) hd_X5_init 7 hT
set_option maxRecDepth 20000 in
theorem b_X5_init_55 {G : z_G} {d : Nat} {r : z_Res} (hPu : z_PuV G d (t_X5 z_pu0)) {h : z_H} {x0 : Nat} (hT : (z_kd h x0 = 21 ∧ (z_J G (d + 1) (m_X5_init z_pu0) r) 60 [some (.ref x0)] [] (z_por h x0 9 none))) : (z_J G (d + 1) (m_X5_init z_pu0) r) 55 [some (.ref x0)] [] h := z_bq (v_X5 z_pu0 (vP_X5_init z_pu0) hPu) hd_X5_init 6 hT
set_option maxRecDepth 20000 in
theorem b_X5_init_60 {G : z_G} {d : Nat} {r : z_Res} (hPu : z_PuV G d (t_X5 z_pu0)) {h : z_H} {x0 : Nat} (hT : (z_kd h x0 = 21 ∧ (z_J G (d + 1) (m_X5_init z_pu0) r) 65 [some (.ref x0)] [] (z_por h x0 10 none))) : (z_J G (d + 1) (m_X5_init z_pu0) r) 60 [some (.ref x0)] [] h := z_bq (v_X5 z_pu0 (vP_X5_init z_pu0) hPu) hd_X5_init 6 hT
set_option maxRecDepth 20000 in
theorem b_X5_init_65 {G : z_G} {d : Nat} {r : z_Res} (hPu : z_PuV G d (t_X5 z_pu0)) {h : z_H} {x0 : Nat} (hT : (z_kd h x0 = 21 ∧ (z_J G (d + 1) (m_X5_init z_pu0) r) 70 [some (.ref x0)] [] (z_poi h x0 11 (nI 0)))) : (z_J G (d + 1) (m_X5_init z_pu0) r) 65 [some (.ref x0)] [] h := z_bq (v_X5 z_pu0 (vP_X5_init z_pu0) hPu) hd_X5_init 6 hT
set_option maxRecDepth 20000 in
theorem b_X5_init_70 {G : z_G} {d : Nat} {r : z_Res} (hPu : z_PuV G d (t_X5 z_pu0)) {h : z_H} {x0 : Nat} (hT : (¬ (nI 8) < 0 ∧ Int32.toNatClampNeg (nI 8) ≤ 1000000 ∧ (z_kd (z_nwi h 1 (Int32.toNatClampNeg (nI 8)) (fun _ => 0)) x0 = 21 ∧ (z_J G (d + 1) (m_X5_init z_pu0) r) 78 [none] [] (z_por (z_nwi h 1 (Int32.toNatClampNeg (nI 8)) (fun _ => 0)) x0 12 (some (z_n h)))))) : (z_J G (d + 1) (m_X5_init z_pu0) r) 70 [some (.ref x0)] [] h := z_bq (v_X5 z_pu0 (vP_X5_init z_pu0) hPu) hd_X5_init 7 hT
set_option maxRecDepth 20000 in
theorem b_X5_init_78 {G : z_G} {d : Nat} {r : z_Res} (hPu : z_PuV G d (t_X5 z_pu0)) {h : z_H}  (hT : r = (.inl none, h)) : (z_J G (d + 1) (m_X5_init z_pu0) r) 78 [none] [] h := z_bq (v_X5 z_pu0 (vP_X5_init z_pu0) hPu) hd_X5_init 3 hT
theorem en_X4_init {pu : Nat → Option ((List Value → z_H → Prop) × (List Value → z_H → Int32))} {G : z_G} {d : Nat} {r : z_Res} {h : z_H} {x0 : Nat} (hJ : z_J G d (m_X4_init pu) r 0 [some (.ref x0)] [] h) : z_Ev G d k_X4_init [.ref x0] h r := z_enter (μ := m_X4_init pu) rfl (by decide) rfl rfl (fun _ => rfl) (Nat.le_of_ble_eq_true rfl) hJ
def hd_X4_init : Nat → Option (List Bool) := (fun k => (cond (Nat.blt k 87) (cond (Nat.blt k 40) (cond (Nat.blt k 22) (cond (Nat.blt k 9) (cond (Nat.beq k 4) (some [true]) none) (cond (Nat.blt k 14) (cond (Nat.beq k 9) (some [true]) none) (cond (Nat.beq k 14) (some [true]) none))) (cond (Nat.blt k 30) (cond (Nat.beq k 22) (some [true]) none) (cond (Nat.blt k 35) (cond (Nat.beq k 30) (some [true]) none) (cond (Nat.beq k 35) (some [true]) none)))) (cond (Nat.blt k 64) (cond (Nat.blt k 48) (cond (Nat.beq k 40) (some [true]) none) (cond (Nat.blt k 56) (cond (Nat.beq k 48) (some [true]) none) (cond (Nat.beq k 56) (some [true]) none))) (cond (Nat.blt k 81) (cond (Nat.blt k 73) (cond (Nat.beq k 64) (some [true]) none) (cond (Nat.beq k 73) (some [true]) none)) (cond (Nat.blt k 86) (cond (Nat.beq k 81) (some [true]) none) (cond (Nat.beq k 86) (some [false]) none))))) none))
set_option maxRecDepth 20000 in
theorem b_X4_init_0 {G : z_G} {d : Nat} {r : z_Res} (hPu : z_PuV G d (t_X4 z_pu0)) {h : z_H} {x0 : Nat} (hT : (z_J G (d + 1) (m_X4_init z_pu0) r) 4 [some (.ref x0)] [] h) : (z_J G (d + 1) (m_X4_init z_pu0) r) 0 [some (.ref x0)] [] h := z_bq (v_X4 z_pu0 (vP_X4_init z_pu0) hPu) hd_X4_init 5 hT
set_option maxRecDepth 20000 in
theorem b_X4_init_4 {G : z_G} {d : Nat} {r : z_Res} (hPu : z_PuV G d (t_X4 z_pu0)) {h : z_H} {x0 : Nat} (hT : (z_kd h x0 = 20 ∧ (z_J G (d + 1) (m_X4_init z_pu0) r) 9 [some (.ref x0)] [] (z_por h x0 0 none))) : (z_J G (d + 1) (m_X4_init z_pu0) r) 4 [some (.ref x0)] [] h := z_bq (v_X4 z_pu0 (vP_X4_init z_pu0) hPu) hd_X4_init 6 hT
set_option maxRecDepth 20000 in
theorem b_X4_init_9 {G : z_G} {d : Nat} {r : z_Res} (hPu : z_PuV G d (t_X4 z_pu0)) {h : z_H} {x0 : Nat} (hT : (z_kd h x0 = 20 ∧ (z_J G (d + 1) (m_X4_init z_pu0) r) 14 [some (.ref x0)] [] (z_por h x0 1 none))) : (z_J G (d + 1) (m_X4_init z_pu0) r) 9 [some (.ref x0)] [] h := z_bq (v_X4 z_pu0 (vP_X4_init z_pu0) hPu) hd_X4_init 6 hT
set_option maxRecDepth 20000 in
theorem b_X4_init_14 {G : z_G} {d : Nat} {r : z_Res} (hPu : z_PuV G d (t_X4 z_pu0)) {h : z_H} {x0 : Nat} (hT : (¬ (nI 8) < 0 ∧ Int32.toNatClampNeg (nI 8) ≤ 1000000 ∧ (z_kd (z_nwl h (Int32.toNatClampNeg (nI 8))) x0 = 20 ∧ (z_J G (d + 1) (m_X4_init z_pu0) r) 22 [some (.ref x0)] [] (z_por (z_nwl h (Int32.toNatClampNeg (nI 8))) x0 2 (some (z_n h)))))) : (z_J G (d + 1) (m_X4_init z_pu0) r) 14 [some (.ref x0)] [] h := z_bq (v_X4 z_pu0 (vP_X4_init z_pu0) hPu) hd_X4_init 7 hT
set_option maxRecDepth 20000 in
theorem b_X4_init_22 {G : z_G} {d : Nat} {r : z_Res} (hPu : z_PuV G d (t_X4 z_pu0)) {h : z_H} {x0 : Nat} (hT : (¬ (nI 8) < 0 ∧ Int32.toNatClampNeg (nI 8) ≤ 1000000 ∧ (z_kd (z_nwl h (Int32.toNatClampNeg (nI 8))) x0 = 20 ∧ (z_J G (d + 1) (m_X4_init z_pu0) r) 30 [some (.ref x0)] [] (z_por (z_nwl h (Int32.toNatClampNeg (nI 8))) x0 3 (some (z_n h)))))) : (z_J G (d + 1) (m_X4_init z_pu0) r) 22 [some (.ref x0)] [] h := z_bq (v_X4 z_pu0 (vP_X4_init z_pu0) hPu) hd_X4_init 7 hT
set_option maxRecDepth 20000 in
theorem b_X4_init_30 {G : z_G} {d : Nat} {r : z_Res} (hPu : z_PuV G d (t_X4 z_pu0)) {h : z_H} {x0 : Nat} (hT : (z_kd h x0 = 20 ∧ z_bz (nI 0) ∧ (z_J G (d + 1) (m_X4_init z_pu0) r) 35 [some (.ref x0)] [] (z_poi h x0 4 (nI 0)))) : (z_J G (d + 1) (m_X4_init z_pu0) r) 30 [some (.ref x0)] [] h := z_bq (v_X4 z_pu0 (vP_X4_init z_pu0) hPu) hd_X4_init 6 hT
set_option maxRecDepth 20000 in
theorem b_X4_init_35 {G : z_G} {d : Nat} {r : z_Res} (hPu : z_PuV G d (t_X4 z_pu0)) {h : z_H} {x0 : Nat} (hT : (z_kd h x0 = 20 ∧ z_bz (nI 0) ∧ (z_J G (d + 1) (m_X4_init z_pu0) r) 40 [some (.ref x0)] [] (z_poi h x0 5 (nI 0)))) : (z_J G (d + 1) (m_X4_init z_pu0) r) 35 [some (.ref x0)] [] h := z_bq (v_X4 z_pu0 (vP_X4_init z_pu0) hPu) hd_X4_init 6 hT
set_option maxRecDepth 20000 in
theorem b_X4_init_40 {G : z_G} {d : Nat} {r : z_Res} (hPu : z_PuV G d (t_X4 z_pu0)) {h : z_H} {x0 : Nat} (hT : (¬ (nI 108) < 0 ∧ Int32.toNatClampNeg (nI 108) ≤ 1000000 ∧ (z_kd (z_nwi h 1 (Int32.toNatClampNeg (nI 108)) (fun _ => 0)) x0 = 20 ∧ (z_J G (d + 1) (m_X4_init z_pu0) r) 48 [some (.ref x0)] [] (z_por (z_nwi h 1 (Int32.toNatClampNeg (nI 108)) (fun _ => 0)) x0 6 (some (z_n h)))))) : (z_J G (d + 1) (m_X4_init z_pu0) r) 40 [some (.ref x0)] [] h := z_bq (v_X4 z_pu0 (vP_X4_init z_pu0) hPu) hd_X4_init 7 hT
set_option maxRecDepth 20000 in
theorem b_X4_init_48 {G : z_G} {d : Nat} {r : z_Res} (hPu : z_PuV G d (t_X4 z_pu0)) {h : z_H} {x0 : Nat} (hT : (¬ (nI 12) < 0 ∧ Int32.toNatClampNeg (nI 12) ≤ 1000000 ∧ (z_kd (z_nwi h 1 (Int32.toNatClampNeg (nI 12)) (fun _ => 0)) x0 = 20 ∧ (z_J G (d + 1) (m_X4_init z_pu0) r) 56 [some (.ref x0)] [] (z_por (z_nwi h 1 (Int32.toNatClampNeg (nI 12)) (fun _ => 0)) x0 7 (some (z_n h)))))) : (z_J G (d + 1) (m_X4_init z_pu0) r) 48 [some (.ref x0)] [] h := z_bq (v_X4 z_pu0 (vP_X4_init z_pu0) hPu) hd_X4_init 7 hT
set_option maxRecDepth 20000 in
theorem b_X4_init_56 {G : z_G} {d : Nat} {r : z_Res} (hPu : z_PuV G d (t_X4 z_pu0)) {h : z_H} {x0 : Nat} (hT : (¬ (nI 12) < 0 ∧ Int32.toNatClampNeg (nI 12) ≤ 1000000 ∧ (z_kd (z_nwi h 1 (Int32.toNatClampNeg (nI 12)) (fun _ => 0)) x0 = 20 ∧ (z_J G (d + 1) (m_X4_init z_pu0) r) 64 [some (.ref x0)] [] (z_por (z_nwi h 1 (Int32.toNatClampNeg (nI 12)) (fun _ => 0)) x0 8 (some (z_n h)))))) : (z_J G (d + 1) (m_X4_init z_pu0) r) 56 [some (.ref x0)] [] h := z_bq (v_X4 z_pu0 (vP_X4_init z_pu0) hPu) hd_X4_init 7 hT
set_option maxRecDepth 20000 in
theorem b_X4_init_64 {G : z_G} {d : Nat} {r : z_Res} (hPu : z_PuV G d (t_X4 z_pu0)) {h : z_H} {x0 : Nat} (hT : (¬ (nI 8) < 0 ∧ Int32.toNatClampNeg (nI 8) ≤ 1000000 ∧ (z_kd (z_nwr h 6 (Int32.toNatClampNeg (nI 8))) x0 = 20 ∧ (z_J G (d + 1) (m_X4_init z_pu0) r) 73 [some (.ref x0)] [] (z_por (z_nwr h 6 (Int32.toNatClampNeg (nI 8))) x0 9 (some (z_n h)))))) : (z_J G (d + 1) (m_X4_init z_pu0) r) 64 [some (.ref x0)] [] h := z_bq (v_X4 z_pu0 (vP_X4_init z_pu0) hPu) hd_X4_init 7 hT
set_option maxRecDepth 20000 in
theorem b_X4_init_73 {G : z_G} {d : Nat} {r : z_Res} (hPu : z_PuV G d (t_X4 z_pu0)) {h : z_H} {x0 : Nat} (hT : (¬ (nI 8) < 0 ∧ Int32.toNatClampNeg (nI 8) ≤ 1000000 ∧ (z_kd (z_nwi h 1 (Int32.toNatClampNeg (nI 8)) (fun _ => 0)) x0 = 20 ∧ (z_J G (d + 1) (m_X4_init z_pu0) r) 81 [some (.ref x0)] [] (z_por (z_nwi h 1 (Int32.toNatClampNeg (nI 8)) (fun _ => 0)) x0 10 (some (z_n h)))))) : (z_J G (d + 1) (m_X4_init z_pu0) r) 73 [some (.ref x0)] [] h := z_bq (v_X4 z_pu0 (vP_X4_init z_pu0) hPu) hd_X4_init 7 hT
set_option maxRecDepth 20000 in
theorem b_X4_init_81 {G : z_G} {d : Nat} {r : z_Res} (hPu : z_PuV G d (t_X4 z_pu0)) {h : z_H} {x0 : Nat} (hT : (z_kd h x0 = 20 ∧ (z_J G (d + 1) (m_X4_init z_pu0) r) 86 [none] [] (z_poi h x0 11 mI))) : (z_J G (d + 1) (m_X4_init z_pu0) r) 81 [some (.ref x0)] [] h := z_bq (v_X4 z_pu0 (vP_X4_init z_pu0) hPu) hd_X4_init 6 hT
set_option maxRecDepth 20000 in
theorem b_X4_init_86 {G : z_G} {d : Nat} {r : z_Res} (hPu : z_PuV G d (t_X4 z_pu0)) {h : z_H}  (hT : r = (.inl none, h)) : (z_J G (d + 1) (m_X4_init z_pu0) r) 86 [none] [] h := z_bq (v_X4 z_pu0 (vP_X4_init z_pu0) hPu) hd_X4_init 3 hT
theorem en_X2_init {pu : Nat → Option ((List Value → z_H → Prop) × (List Value → z_H → Int32))} {G : z_G} {d : Nat} {r : z_Res} {h : z_H} {x0 : Nat} (hJ : z_J G d (m_X2_init pu) r 0 [some (.ref x0)] [] h) : z_Ev G d k_X2_init [.ref x0] h r := z_enter (μ := m_X2_init pu) rfl (by decide) rfl rfl (fun _ => rfl) (Nat.le_of_ble_eq_true rfl) hJ
def hd_X2_init : Nat → Option (List Bool) := (fun k => (cond (Nat.blt k 96) (cond (Nat.blt k 51) (cond (Nat.blt k 28) (cond (Nat.blt k 12) (cond (Nat.beq k 4) (some [true]) none) (cond (Nat.blt k 20) (cond (Nat.beq k 12) (some [true]) none) (cond (Nat.beq k 20) (some [true]) none))) (cond (Nat.blt k 41) (cond (Nat.blt k 36) (cond (Nat.beq k 28) (some [true]) none) (cond (Nat.beq k 36) (some [true]) none)) (cond (Nat.blt k 46) (cond (Nat.beq k 41) (some [true]) none) (cond (Nat.beq k 46) (some [true]) none)))) (cond (Nat.blt k 74) (cond (Nat.blt k 61) (cond (Nat.blt k 56) (cond (Nat.beq k 51) (some [true]) none) (cond (Nat.beq k 56) (some [true]) none)) (cond (Nat.blt k 66) (cond (Nat.beq k 61) (some [true]) none) (cond (Nat.beq k 66) (some [true]) none))) (cond (Nat.blt k 90) (cond (Nat.blt k 82) (cond (Nat.beq k 74) (some [true]) none) (cond (Nat.beq k 82) (some [true]) none)) (cond (Nat.blt k 95) (cond (Nat.beq k 90) (some [true]) none) (cond (Nat.beq k 95) (some [false]) none))))) none))
set_option maxRecDepth 20000 in
theorem b_X2_init_0 {G : z_G} {d : Nat} {r : z_Res} (hPu : z_PuV G d (t_X2 z_pu0)) {h : z_H} {x0 : Nat} (hT : (z_J G (d + 1) (m_X2_init z_pu0) r) 4 [some (.ref x0)] [] h) : (z_J G (d + 1) (m_X2_init z_pu0) r) 0 [some (.ref x0)] [] h := z_bq (v_X2 z_pu0 (vP_X2_init z_pu0) hPu) hd_X2_init 5 hT
set_option maxRecDepth 20000 in
theorem b_X2_init_4 {G : z_G} {d : Nat} {r : z_Res} (hPu : z_PuV G d (t_X2 z_pu0)) {h : z_H} {x0 : Nat} (hT : (¬ (nI 5) < 0 ∧ Int32.toNatClampNeg (nI 5) ≤ 1000000 ∧ (z_kd (z_nwr h 6 (Int32.toNatClampNeg (nI 5))) x0 = 18 ∧ (z_J G (d + 1) (m_X2_init z_pu0) r) 12 [some (.ref x0)] [] (z_por (z_nwr h 6 (Int32.toNatClampNeg (nI 5))) x0 0 (some (z_n h)))))) : (z_J G (d + 1) (m_X2_init z_pu0) r) 4 [some (.ref x0)] [] h := z_bq (v_X2 z_pu0 (vP_X2_init z_pu0) hPu) hd_X2_init 7 hT
set_option maxRecDepth 20000 in
theorem b_X2_init_12 {G : z_G} {d : Nat} {r : z_Res} (hPu : z_PuV G d (t_X2 z_pu0)) {h : z_H} {x0 : Nat} (hT : (¬ (nI 16) < 0 ∧ Int32.toNatClampNeg (nI 16) ≤ 1000000 ∧ (z_kd (z_nwi h 1 (Int32.toNatClampNeg (nI 16)) (fun _ => 0)) x0 = 18 ∧ (z_J G (d + 1) (m_X2_init z_pu0) r) 20 [some (.ref x0)] [] (z_por (z_nwi h 1 (Int32.toNatClampNeg (nI 16)) (fun _ => 0)) x0 1 (some (z_n h)))))) : (z_J G (d + 1) (m_X2_init z_pu0) r) 12 [some (.ref x0)] [] h := z_bq (v_X2 z_pu0 (vP_X2_init z_pu0) hPu) hd_X2_init 7 hT
set_option maxRecDepth 20000 in
theorem b_X2_init_20 {G : z_G} {d : Nat} {r : z_Res} (hPu : z_PuV G d (t_X2 z_pu0)) {h : z_H} {x0 : Nat} (hT : (¬ (nI 16) < 0 ∧ Int32.toNatClampNeg (nI 16) ≤ 1000000 ∧ (z_kd (z_nwi h 1 (Int32.toNatClampNeg (nI 16)) (fun _ => 0)) x0 = 18 ∧ (z_J G (d + 1) (m_X2_init z_pu0) r) 28 [some (.ref x0)] [] (z_por (z_nwi h 1 (Int32.toNatClampNeg (nI 16)) (fun _ => 0)) x0 2 (some (z_n h)))))) : (z_J G (d + 1) (m_X2_init z_pu0) r) 20 [some (.ref x0)] [] h := z_bq (v_X2 z_pu0 (vP_X2_init z_pu0) hPu) hd_X2_init 7 hT
set_option maxRecDepth 20000 in
theorem b_X2_init_28 {G : z_G} {d : Nat} {r : z_Res} (hPu : z_PuV G d (t_X2 z_pu0)) {h : z_H} {x0 : Nat} (hT : (¬ (nI 16) < 0 ∧ Int32.toNatClampNeg (nI 16) ≤ 1000000 ∧ (z_kd (z_nwi h 1 (Int32.toNatClampNeg (nI 16)) (fun _ => 0)) x0 = 18 ∧ (z_J G (d + 1) (m_X2_init z_pu0) r) 36 [some (.ref x0)] [] (z_por (z_nwi h 1 (Int32.toNatClampNeg (nI 16)) (fun _ => 0)) x0 3 (some (z_n h)))))) : (z_J G (d + 1) (m_X2_init z_pu0) r) 28 [some (.ref x0)] [] h := z_bq (v_X2 z_pu0 (vP_X2_init z_pu0) hPu) hd_X2_init 7 hT
set_option maxRecDepth 20000 in
theorem b_X2_init_36 {G : z_G} {d : Nat} {r : z_Res} (hPu : z_PuV G d (t_X2 z_pu0)) {h : z_H} {x0 : Nat} (hT : (z_kd h x0 = 18 ∧ (z_J G (d + 1) (m_X2_init z_pu0) r) 41 [some (.ref x0)] [] (z_poi h x0 4 (nI 0)))) : (z_J G (d + 1) (m_X2_init z_pu0) r) 36 [some (.ref x0)] [] h := z_bq (v_X2 z_pu0 (vP_X2_init z_pu0) hPu) hd_X2_init 6 hT
set_option maxRecDepth 20000 in
theorem b_X2_init_41 {G : z_G} {d : Nat} {r : z_Res} (hPu : z_PuV G d (t_X2 z_pu0)) {h : z_H} {x0 : Nat} (hT : (z_kd h x0 = 18 ∧ (z_J G (d + 1) (m_X2_init z_pu0) r) 46 [some (.ref x0)] [] (z_poi h x0 5 (nI 0)))) : (z_J G (d + 1) (m_X2_init z_pu0) r) 41 [some (.ref x0)] [] h := z_bq (v_X2 z_pu0 (vP_X2_init z_pu0) hPu) hd_X2_init 6 hT
set_option maxRecDepth 20000 in
theorem b_X2_init_46 {G : z_G} {d : Nat} {r : z_Res} (hPu : z_PuV G d (t_X2 z_pu0)) {h : z_H} {x0 : Nat} (hT : (z_kd h x0 = 18 ∧ (z_J G (d + 1) (m_X2_init z_pu0) r) 51 [some (.ref x0)] [] (z_por h x0 6 none))) : (z_J G (d + 1) (m_X2_init z_pu0) r) 46 [some (.ref x0)] [] h := z_bq (v_X2 z_pu0 (vP_X2_init z_pu0) hPu) hd_X2_init 6 hT
set_option maxRecDepth 20000 in
theorem b_X2_init_51 {G : z_G} {d : Nat} {r : z_Res} (hPu : z_PuV G d (t_X2 z_pu0)) {h : z_H} {x0 : Nat} (hT : (z_kd h x0 = 18 ∧ (z_J G (d + 1) (m_X2_init z_pu0) r) 56 [some (.ref x0)] [] (z_por h x0 7 none))) : (z_J G (d + 1) (m_X2_init z_pu0) r) 51 [some (.ref x0)] [] h := z_bq (v_X2 z_pu0 (vP_X2_init z_pu0) hPu) hd_X2_init 6 hT
set_option maxRecDepth 20000 in
theorem b_X2_init_56 {G : z_G} {d : Nat} {r : z_Res} (hPu : z_PuV G d (t_X2 z_pu0)) {h : z_H} {x0 : Nat} (hT : (z_kd h x0 = 18 ∧ (z_J G (d + 1) (m_X2_init z_pu0) r) 61 [some (.ref x0)] [] (z_poi h x0 8 (nI 0)))) : (z_J G (d + 1) (m_X2_init z_pu0) r) 56 [some (.ref x0)] [] h := z_bq (v_X2 z_pu0 (vP_X2_init z_pu0) hPu) hd_X2_init 6 hT
set_option maxRecDepth 20000 in
theorem b_X2_init_61 {G : z_G} {d : Nat} {r : z_Res} (hPu : z_PuV G d (t_X2 z_pu0)) {h : z_H} {x0 : Nat} (hT : (z_kd h x0 = 18 ∧ z_bz (nI 0) ∧ (z_J G (d + 1) (m_X2_init z_pu0) r) 66 [some (.ref x0)] [] (z_poi h x0 9 (nI 0)))) : (z_J G (d + 1) (m_X2_init z_pu0) r) 61 [some (.ref x0)] [] h := z_bq (v_X2 z_pu0 (vP_X2_init z_pu0) hPu) hd_X2_init 6 hT
set_option maxRecDepth 20000 in
theorem b_X2_init_66 {G : z_G} {d : Nat} {r : z_Res} (hPu : z_PuV G d (t_X2 z_pu0)) {h : z_H} {x0 : Nat} (hT : (¬ (nI 64) < 0 ∧ Int32.toNatClampNeg (nI 64) ≤ 1000000 ∧ (z_kd (z_nwi h 1 (Int32.toNatClampNeg (nI 64)) (fun _ => 0)) x0 = 18 ∧ (z_J G (d + 1) (m_X2_init z_pu0) r) 74 [some (.ref x0)] [] (z_por (z_nwi h 1 (Int32.toNatClampNeg (nI 64)) (fun _ => 0)) x0 10 (some (z_n h)))))) : (z_J G (d + 1) (m_X2_init z_pu0) r) 66 [some (.ref x0)] [] h := z_bq (v_X2 z_pu0 (vP_X2_init z_pu0) hPu) hd_X2_init 7 hT
set_option maxRecDepth 20000 in
theorem b_X2_init_74 {G : z_G} {d : Nat} {r : z_Res} (hPu : z_PuV G d (t_X2 z_pu0)) {h : z_H} {x0 : Nat} (hT : (¬ (nI 8) < 0 ∧ Int32.toNatClampNeg (nI 8) ≤ 1000000 ∧ (z_kd (z_nwi h 1 (Int32.toNatClampNeg (nI 8)) (fun _ => 0)) x0 = 18 ∧ (z_J G (d + 1) (m_X2_init z_pu0) r) 82 [some (.ref x0)] [] (z_por (z_nwi h 1 (Int32.toNatClampNeg (nI 8)) (fun _ => 0)) x0 11 (some (z_n h)))))) : (z_J G (d + 1) (m_X2_init z_pu0) r) 74 [some (.ref x0)] [] h := z_bq (v_X2 z_pu0 (vP_X2_init z_pu0) hPu) hd_X2_init 7 hT
set_option maxRecDepth 20000 in
theorem b_X2_init_82 {G : z_G} {d : Nat} {r : z_Res} (hPu : z_PuV G d (t_X2 z_pu0)) {h : z_H} {x0 : Nat} (hT : (¬ (nI 72) < 0 ∧ Int32.toNatClampNeg (nI 72) ≤ 1000000 ∧ (z_kd (z_nwi h 1 (Int32.toNatClampNeg (nI 72)) (fun _ => 0)) x0 = 18 ∧ (z_J G (d + 1) (m_X2_init z_pu0) r) 90 [some (.ref x0)] [] (z_por (z_nwi h 1 (Int32.toNatClampNeg (nI 72)) (fun _ => 0)) x0 12 (some (z_n h)))))) : (z_J G (d + 1) (m_X2_init z_pu0) r) 82 [some (.ref x0)] [] h := z_bq (v_X2 z_pu0 (vP_X2_init z_pu0) hPu) hd_X2_init 7 hT
set_option maxRecDepth 20000 in
theorem b_X2_init_90 {G : z_G} {d : Nat} {r : z_Res} (hPu : z_PuV G d (t_X2 z_pu0)) {h : z_H} {x0 : Nat} (hT : (z_kd h x0 = 18 ∧ (z_J G (d + 1) (m_X2_init z_pu0) r) 95 [none] [] (z_por h x0 13 none))) : (z_J G (d + 1) (m_X2_init z_pu0) r) 90 [some (.ref x0)] [] h := z_bq (v_X2 z_pu0 (vP_X2_init z_pu0) hPu) hd_X2_init 6 hT
set_option maxRecDepth 20000 in
theorem b_X2_init_95 {G : z_G} {d : Nat} {r : z_Res} (hPu : z_PuV G d (t_X2 z_pu0)) {h : z_H}  (hT : r = (.inl none, h)) : (z_J G (d + 1) (m_X2_init z_pu0) r) 95 [none] [] h := z_bq (v_X2 z_pu0 (vP_X2_init z_pu0) hPu) hd_X2_init 3 hT
theorem en_X6_init {pu : Nat → Option ((List Value → z_H → Prop) × (List Value → z_H → Int32))} {G : z_G} {d : Nat} {r : z_Res} {h : z_H} {x0 : Nat} (hJ : z_J G d (m_X6_init pu) r 0 [some (.ref x0)] [] h) : z_Ev G d k_X6_init [.ref x0] h r := z_enter (μ := m_X6_init pu) rfl (by decide) rfl rfl (fun _ => rfl) (Nat.le_of_ble_eq_true rfl) hJ
def hd_X6_init : Nat → Option (List Bool) := (fun k => (cond (Nat.blt k 37) (cond (Nat.blt k 22) (cond (Nat.blt k 13) (cond (Nat.beq k 4) (some [true]) none) (cond (Nat.beq k 13) (some [true]) none)) (cond (Nat.blt k 31) (cond (Nat.beq k 22) (some [true]) none) (cond (Nat.blt k 36) (cond (Nat.beq k 31) (some [true]) none) (cond (Nat.beq k 36) (some [false]) none)))) none))
set_option maxRecDepth 20000 in
theorem b_X6_init_0 {G : z_G} {d : Nat} {r : z_Res} (hPu : z_PuV G d (t_X6 z_pu0)) {h : z_H} {x0 : Nat} (hT : (z_J G (d + 1) (m_X6_init z_pu0) r) 4 [some (.ref x0)] [] h) : (z_J G (d + 1) (m_X6_init z_pu0) r) 0 [some (.ref x0)] [] h := z_bq (v_X6 z_pu0 (vP_X6_init z_pu0) hPu) hd_X6_init 5 hT
set_option maxRecDepth 20000 in
theorem b_X6_init_4 {G : z_G} {d : Nat} {r : z_Res} (hPu : z_PuV G d (t_X6 z_pu0)) {h : z_H} {x0 : Nat} (hT : (¬ (nI 256) < 0 ∧ Int32.toNatClampNeg (nI 256) ≤ 1000000 ∧ (z_kd (z_nwi h 4 (Int32.toNatClampNeg (nI 256)) (fun _ => 0)) x0 = 22 ∧ (z_J G (d + 1) (m_X6_init z_pu0) r) 13 [some (.ref x0)] [] (z_por (z_nwi h 4 (Int32.toNatClampNeg (nI 256)) (fun _ => 0)) x0 0 (some (z_n h)))))) : (z_J G (d + 1) (m_X6_init z_pu0) r) 4 [some (.ref x0)] [] h := z_bq (v_X6 z_pu0 (vP_X6_init z_pu0) hPu) hd_X6_init 7 hT
set_option maxRecDepth 20000 in
theorem b_X6_init_13 {G : z_G} {d : Nat} {r : z_Res} (hPu : z_PuV G d (t_X6 z_pu0)) {h : z_H} {x0 : Nat} (hT : (¬ (nI 256) < 0 ∧ Int32.toNatClampNeg (nI 256) ≤ 1000000 ∧ (z_kd (z_nwi h 1 (Int32.toNatClampNeg (nI 256)) (fun _ => 0)) x0 = 22 ∧ (z_J G (d + 1) (m_X6_init z_pu0) r) 22 [some (.ref x0)] [] (z_por (z_nwi h 1 (Int32.toNatClampNeg (nI 256)) (fun _ => 0)) x0 1 (some (z_n h)))))) : (z_J G (d + 1) (m_X6_init z_pu0) r) 13 [some (.ref x0)] [] h := z_bq (v_X6 z_pu0 (vP_X6_init z_pu0) hPu) hd_X6_init 7 hT
set_option maxRecDepth 20000 in
theorem b_X6_init_22 {G : z_G} {d : Nat} {r : z_Res} (hPu : z_PuV G d (t_X6 z_pu0)) {h : z_H} {x0 : Nat} (hT : (¬ (nI 6561) < 0 ∧ Int32.toNatClampNeg (nI 6561) ≤ 1000000 ∧ (z_kd (z_nwi h 3 (Int32.toNatClampNeg (nI 6561)) (fun _ => 0)) x0 = 22 ∧ (z_J G (d + 1) (m_X6_init z_pu0) r) 31 [some (.ref x0)] [] (z_por (z_nwi h 3 (Int32.toNatClampNeg (nI 6561)) (fun _ => 0)) x0 2 (some (z_n h)))))) : (z_J G (d + 1) (m_X6_init z_pu0) r) 22 [some (.ref x0)] [] h := z_bq (v_X6 z_pu0 (vP_X6_init z_pu0) hPu) hd_X6_init 7 hT
set_option maxRecDepth 20000 in
theorem b_X6_init_31 {G : z_G} {d : Nat} {r : z_Res} (hPu : z_PuV G d (t_X6 z_pu0)) {h : z_H} {x0 : Nat} (hT : (z_kd h x0 = 22 ∧ (z_J G (d + 1) (m_X6_init z_pu0) r) 36 [none] [] (z_poi h x0 3 (nI 0)))) : (z_J G (d + 1) (m_X6_init z_pu0) r) 31 [some (.ref x0)] [] h := z_bq (v_X6 z_pu0 (vP_X6_init z_pu0) hPu) hd_X6_init 6 hT
set_option maxRecDepth 20000 in
theorem b_X6_init_36 {G : z_G} {d : Nat} {r : z_Res} (hPu : z_PuV G d (t_X6 z_pu0)) {h : z_H}  (hT : r = (.inl none, h)) : (z_J G (d + 1) (m_X6_init z_pu0) r) 36 [none] [] h := z_bq (v_X6 z_pu0 (vP_X6_init z_pu0) hPu) hd_X6_init 3 hT
theorem en_X9_init {pu : Nat → Option ((List Value → z_H → Prop) × (List Value → z_H → Int32))} {G : z_G} {d : Nat} {r : z_Res} {h : z_H} {x0 : Nat} (hJ : z_J G d (m_X9_init pu) r 0 [some (.ref x0)] [] h) : z_Ev G d k_X9_init [.ref x0] h r := z_enter (μ := m_X9_init pu) rfl (by decide) rfl rfl (fun _ => rfl) (Nat.le_of_ble_eq_true rfl) hJ
def hd_X9_init : Nat → Option (List Bool) := (fun k => (cond (Nat.blt k 15) (cond (Nat.blt k 9) (cond (Nat.beq k 4) (some [true]) none) (cond (Nat.blt k 14) (cond (Nat.beq k 9) (some [true]) none) (cond (Nat.beq k 14) (some [false]) none))) none))
set_option maxRecDepth 20000 in
theorem b_X9_init_0 {G : z_G} {d : Nat} {r : z_Res} (hPu : z_PuV G d (t_X9 z_pu0)) {h : z_H} {x0 : Nat} (hT : (z_J G (d + 1) (m_X9_init z_pu0) r) 4 [some (.ref x0)] [] h) : (z_J G (d + 1) (m_X9_init z_pu0) r) 0 [some (.ref x0)] [] h := z_bq (v_X9 z_pu0 (vP_X9_init z_pu0) hPu) hd_X9_init 5 hT
set_option maxRecDepth 20000 in
theorem b_X9_init_4 {G : z_G} {d : Nat} {r : z_Res} (hPu : z_PuV G d (t_X9 z_pu0)) {h : z_H} {x0 : Nat} (hT : (z_kd h x0 = 25 ∧ (z_J G (d + 1) (m_X9_init z_pu0) r) 9 [some (.ref x0)] [] (z_poi h x0 0 (nI 0)))) : (z_J G (d + 1) (m_X9_init z_pu0) r) 4 [some (.ref x0)] [] h := z_bq (v_X9 z_pu0 (vP_X9_init z_pu0) hPu) hd_X9_init 6 hT
set_option maxRecDepth 20000 in
theorem b_X9_init_9 {G : z_G} {d : Nat} {r : z_Res} (hPu : z_PuV G d (t_X9 z_pu0)) {h : z_H} {x0 : Nat} (hT : (z_kd h x0 = 25 ∧ (z_J G (d + 1) (m_X9_init z_pu0) r) 14 [none] [] (z_poi h x0 1 mI))) : (z_J G (d + 1) (m_X9_init z_pu0) r) 9 [some (.ref x0)] [] h := z_bq (v_X9 z_pu0 (vP_X9_init z_pu0) hPu) hd_X9_init 6 hT
set_option maxRecDepth 20000 in
theorem b_X9_init_14 {G : z_G} {d : Nat} {r : z_Res} (hPu : z_PuV G d (t_X9 z_pu0)) {h : z_H}  (hT : r = (.inl none, h)) : (z_J G (d + 1) (m_X9_init z_pu0) r) 14 [none] [] h := z_bq (v_X9 z_pu0 (vP_X9_init z_pu0) hPu) hd_X9_init 3 hT
theorem en_X10_init {pu : Nat → Option ((List Value → z_H → Prop) × (List Value → z_H → Int32))} {G : z_G} {d : Nat} {r : z_Res} {h : z_H} {x0 : Nat} (hJ : z_J G d (m_X10_init pu) r 0 [some (.ref x0)] [] h) : z_Ev G d k_X10_init [.ref x0] h r := z_enter (μ := m_X10_init pu) rfl (by decide) rfl rfl (fun _ => rfl) (Nat.le_of_ble_eq_true rfl) hJ
def hd_X10_init : Nat → Option (List Bool) := (fun k => (cond (Nat.blt k 28) (cond (Nat.blt k 17) (cond (Nat.blt k 9) (cond (Nat.beq k 4) (some [true]) none) (cond (Nat.beq k 9) (some [true]) none)) (cond (Nat.blt k 22) (cond (Nat.beq k 17) (some [true]) none) (cond (Nat.blt k 27) (cond (Nat.beq k 22) (some [true]) none) (cond (Nat.beq k 27) (some [false]) none)))) none))
set_option maxRecDepth 20000 in
theorem b_X10_init_0 {G : z_G} {d : Nat} {r : z_Res} (hPu : z_PuV G d (t_X10 z_pu0)) {h : z_H} {x0 : Nat} (hT : (z_J G (d + 1) (m_X10_init z_pu0) r) 4 [some (.ref x0)] [] h) : (z_J G (d + 1) (m_X10_init z_pu0) r) 0 [some (.ref x0)] [] h := z_bq (v_X10 z_pu0 (vP_X10_init z_pu0) hPu) hd_X10_init 5 hT
set_option maxRecDepth 20000 in
theorem b_X10_init_4 {G : z_G} {d : Nat} {r : z_Res} (hPu : z_PuV G d (t_X10 z_pu0)) {h : z_H} {x0 : Nat} (hT : (z_kd h x0 = 26 ∧ (z_J G (d + 1) (m_X10_init z_pu0) r) 9 [some (.ref x0)] [] (z_poi h x0 0 (nI 0)))) : (z_J G (d + 1) (m_X10_init z_pu0) r) 4 [some (.ref x0)] [] h := z_bq (v_X10 z_pu0 (vP_X10_init z_pu0) hPu) hd_X10_init 6 hT
set_option maxRecDepth 20000 in
theorem b_X10_init_9 {G : z_G} {d : Nat} {r : z_Res} (hPu : z_PuV G d (t_X10 z_pu0)) {h : z_H} {x0 : Nat} (hT : (¬ (nI 12) < 0 ∧ Int32.toNatClampNeg (nI 12) ≤ 1000000 ∧ (z_kd (z_nwi h 1 (Int32.toNatClampNeg (nI 12)) (fun _ => 0)) x0 = 26 ∧ (z_J G (d + 1) (m_X10_init z_pu0) r) 17 [some (.ref x0)] [] (z_por (z_nwi h 1 (Int32.toNatClampNeg (nI 12)) (fun _ => 0)) x0 1 (some (z_n h)))))) : (z_J G (d + 1) (m_X10_init z_pu0) r) 9 [some (.ref x0)] [] h := z_bq (v_X10 z_pu0 (vP_X10_init z_pu0) hPu) hd_X10_init 7 hT
set_option maxRecDepth 20000 in
theorem b_X10_init_17 {G : z_G} {d : Nat} {r : z_Res} (hPu : z_PuV G d (t_X10 z_pu0)) {h : z_H} {x0 : Nat} (hT : (z_kd h x0 = 26 ∧ (z_J G (d + 1) (m_X10_init z_pu0) r) 22 [some (.ref x0)] [] (z_poi h x0 2 (nI 0)))) : (z_J G (d + 1) (m_X10_init z_pu0) r) 17 [some (.ref x0)] [] h := z_bq (v_X10 z_pu0 (vP_X10_init z_pu0) hPu) hd_X10_init 6 hT
set_option maxRecDepth 20000 in
theorem b_X10_init_22 {G : z_G} {d : Nat} {r : z_Res} (hPu : z_PuV G d (t_X10 z_pu0)) {h : z_H} {x0 : Nat} (hT : (z_kd h x0 = 26 ∧ (z_J G (d + 1) (m_X10_init z_pu0) r) 27 [none] [] (z_poi h x0 3 (nI 0)))) : (z_J G (d + 1) (m_X10_init z_pu0) r) 22 [some (.ref x0)] [] h := z_bq (v_X10 z_pu0 (vP_X10_init z_pu0) hPu) hd_X10_init 6 hT
set_option maxRecDepth 20000 in
theorem b_X10_init_27 {G : z_G} {d : Nat} {r : z_Res} (hPu : z_PuV G d (t_X10 z_pu0)) {h : z_H}  (hT : r = (.inl none, h)) : (z_J G (d + 1) (m_X10_init z_pu0) r) 27 [none] [] h := z_bq (v_X10 z_pu0 (vP_X10_init z_pu0) hPu) hd_X10_init 3 hT
/-! MAKERS: an object at x with its rows behind it -/
def gI (h0 : z_H) (x k t κ : Nat) (K Ln : Nat → Nat) (O : Nat → Option Nat) (F : Nat → Int32) (h : z_H) : Prop := (z_n h = x + 1 + k ∧ ∀ a, x + 1 + k ≤ a → z_kd h a = z_kd h0 a) ∧ z_c h = z_c h0 + k ∧ z_s h = z_s h0 + t ∧ z_kd h x = κ ∧ z_or h x = O ∧ z_oi h x = F ∧ (∀ j, j < k → z_kd h (x + 1 + j) = K j ∧ z_ln h (x + 1 + j) = Ln j ∧ (K j = 1 ∨ K j = 3 ∨ K j = 4 → z_ai h (x + 1 + j) = fun _ => 0) ∧ (K j = 2 → z_al h (x + 1 + j) = fun _ => 0) ∧ (K j = 5 ∨ K j = 6 → z_ar h (x + 1 + j) = fun _ => none)) ∧ frm x h0 h
section C15
variable {G : z_G} {d x k t κ : Nat} {h0 h : z_H} {K Ln : Nat → Nat} {O : Nat → Option Nat} {F : Nat → Int32}
theorem g_0 (hn : z_n h0 = x + 1) (hk : z_kd h0 x = κ) : gI h0 x 0 0 κ K Ln (z_or h0 x) (z_oi h0 x) h0 := ⟨⟨hn, fun _ _ => rfl⟩, rfl, rfl, hk, rfl, rfl, fun _ hj => absurd hj (Nat.not_lt_zero _), fun _ _ => ⟨rfl, rfl, rfl, rfl, rfl, rfl, rfl⟩⟩
theorem g_por (g : gI h0 x k t κ K Ln O F h) (s : Nat) (v : Option Nat) : gI h0 x k t κ K Ln (z_u O s v) F (z_por h x s v) := by
  obtain ⟨i1, i2, i3, i4, i5, i6, i7, i8⟩ := g
  refine ⟨i1, i2, i3, i4, ?_, i6, i7, fun a ha => ?_⟩
  · show z_u (z_or h) x (z_u (z_or h x) s v) x = _
    rw [u_eq, i5]
  · obtain ⟨q1, q2, q3, q4, q5, q6, q7⟩ := i8 a ha
    exact ⟨q1, q2, q3, (u_ne _ _ (by omega)).trans q4, q5, q6, q7⟩
theorem g_poi (g : gI h0 x k t κ K Ln O F h) (s : Nat) (v : Int32) : gI h0 x k t κ K Ln O (z_u F s v) (z_poi h x s v) := by
  obtain ⟨i1, i2, i3, i4, i5, i6, i7, i8⟩ := g
  refine ⟨i1, i2, i3, i4, i5, ?_, i7, fun a ha => ?_⟩
  · show z_u (z_oi h) x (z_u (z_oi h x) s v) x = _
    rw [u_eq, i6]
  · obtain ⟨q1, q2, q3, q4, q5, q6, q7⟩ := i8 a ha
    exact ⟨q1, q2, (u_ne _ _ (by omega)).trans q3, q4, q5, q6, q7⟩
theorem g_new {m : Nat} {h' : z_H} (g : gI h0 x k t κ K Ln O F h) (hn : z_n h' = z_n h + 1) (hc : z_c h' = z_c h + 1) (hs : z_s h' = z_s h + m) (kd : z_kd h' = z_u (z_kd h) (z_n h) (K k)) (ln : z_ln h' = z_u (z_ln h) (z_n h) (Ln k)) (oi : z_oi h' = z_oi h) (or' : z_or h' = z_or h) (ai : ∀ a, a ≠ z_n h → z_ai h' a = z_ai h a) (al : ∀ a, a ≠ z_n h → z_al h' a = z_al h a) (ar : ∀ a, a ≠ z_n h → z_ar h' a = z_ar h a)
    (nw : (K k = 1 ∨ K k = 3 ∨ K k = 4 → z_ai h' (z_n h) = fun _ => 0) ∧ (K k = 2 → z_al h' (z_n h) = fun _ => 0) ∧ (K k = 5 ∨ K k = 6 → z_ar h' (z_n h) = fun _ => none)) : gI h0 x (k + 1) (t + m) κ K Ln O F h' := by
  obtain ⟨⟨i1, ik⟩, i2, i3, i4, i5, i6, i7, i8⟩ := g
  refine ⟨⟨by omega, fun a ha => ?_⟩, by omega, by omega, ?_, by rw [or']; exact i5, by rw [oi]; exact i6, fun j hj => ?_, fun a ha => ?_⟩
  · rw [kd, u_ne _ _ (by omega)]; exact ik a (by omega)
  · rw [kd, u_ne _ _ (by omega)]; exact i4
  · by_cases e : j = k
    · subst e
      rw [← i1, kd, ln, u_eq, u_eq]
      exact ⟨rfl, rfl, nw⟩
    · rw [kd, ln, u_ne _ _ (by omega), u_ne _ _ (by omega), ai _ (by omega), al _ (by omega), ar _ (by omega)]
      exact i7 j (by omega)
  · obtain ⟨q1, q2, q3, q4, q5, q6, q7⟩ := i8 a ha
    exact ⟨by rw [kd, u_ne _ _ (by omega)]; exact q1, by rw [ln, u_ne _ _ (by omega)]; exact q2, by rw [oi]; exact q3, by rw [or']; exact q4, by rw [ai _ (by omega)]; exact q5, by rw [al _ (by omega)]; exact q6, by rw [ar _ (by omega)]; exact q7⟩
theorem g_nwi {m tag : Nat} (g : gI h0 x k t κ K Ln O F h) (hK : K k = tag) (ht : tag = 1 ∨ tag = 3 ∨ tag = 4) (hL : Ln k = m) : gI h0 x (k + 1) (t + m) κ K Ln O F (z_nwi h tag m (fun _ => 0)) :=
  g_new g rfl rfl rfl (by rw [hK]; rfl) (by rw [hL]; rfl) rfl rfl (fun _ ha => u_ne _ _ ha) (fun _ _ => rfl) (fun _ _ => rfl) ⟨fun _ => u_eq _ _ _, fun e => by omega, fun e => by omega⟩
theorem g_nwl {m : Nat} (g : gI h0 x k t κ K Ln O F h) (hK : K k = 2) (hL : Ln k = m) : gI h0 x (k + 1) (t + m) κ K Ln O F (z_nwl h m) :=
  g_new g rfl rfl rfl (by rw [hK]; rfl) (by rw [hL]; rfl) rfl rfl (fun _ _ => rfl) (fun _ ha => u_ne _ _ ha) (fun _ _ => rfl) ⟨fun e => by omega, fun _ => u_eq _ _ _, fun e => by omega⟩
theorem g_nwr {m tag : Nat} (g : gI h0 x k t κ K Ln O F h) (hK : K k = tag) (ht : tag = 5 ∨ tag = 6) (hL : Ln k = m) : gI h0 x (k + 1) (t + m) κ K Ln O F (z_nwr h tag m) :=
  g_new g rfl rfl rfl (by rw [hK]; rfl) (by rw [hL]; rfl) rfl rfl (fun _ _ => rfl) (fun _ _ => rfl) (fun _ ha => u_ne _ _ ha) ⟨fun e => by omega, fun e => by omega, fun _ => u_eq _ _ _⟩

theorem e7_init (hn : z_n h0 = x + 1) (hk : z_kd h0 x = 23) : ∃ h2, gI h0 x 4 28 23 (fun j => if j = 0 then 1 else if j = 1 then 1 else if j = 2 then 1 else if j = 3 then 1 else 0) (fun j => if j = 0 then 0 else if j = 1 then 12 else if j = 2 then 8 else if j = 3 then 8 else 0) (z_u (z_u (z_u (z_u (z_or h0 x) 0 (some (x + 1 + 0))) 9 (some (x + 1 + 1))) 10 (some (x + 1 + 2))) 11 (some (x + 1 + 3))) (z_u (z_u (z_u (z_u (z_u (z_u (z_u (z_u (z_u (z_u (z_oi h0 x) 1 (nI 0)) 2 (nI 0)) 3 (nI 0)) 4 (nI 0)) 5 (nI 0)) 6 (nI 0)) 7 (nI 7)) 8 (nI 0)) 12 (nI 0)) 13 mI) h2 ∧ z_Ev G (d + 4) k_X7_init [.ref x] h0 (.inl none, h2) := by
  suffices hh : ∀ h : z_H, gI h0 x 0 0 23 (fun j => if j = 0 then 1 else if j = 1 then 1 else if j = 2 then 1 else if j = 3 then 1 else 0) (fun j => if j = 0 then 0 else if j = 1 then 12 else if j = 2 then 8 else if j = 3 then 8 else 0) (z_or h0 x) (z_oi h0 x) h → ∃ h2, gI h0 x 4 28 23 (fun j => if j = 0 then 1 else if j = 1 then 1 else if j = 2 then 1 else if j = 3 then 1 else 0) (fun j => if j = 0 then 0 else if j = 1 then 12 else if j = 2 then 8 else if j = 3 then 8 else 0) (z_u (z_u (z_u (z_u (z_or h0 x) 0 (some (x + 1 + 0))) 9 (some (x + 1 + 1))) 10 (some (x + 1 + 2))) 11 (some (x + 1 + 3))) (z_u (z_u (z_u (z_u (z_u (z_u (z_u (z_u (z_u (z_u (z_oi h0 x) 1 (nI 0)) 2 (nI 0)) 3 (nI 0)) 4 (nI 0)) 5 (nI 0)) 6 (nI 0)) 7 (nI 7)) 8 (nI 0)) 12 (nI 0)) 13 mI) h2 ∧ z_J G (d + 4) (m_X7_init z_pu0) (.inl none, h2) 4 [some (.ref x)] [] h by
    obtain ⟨h2, g2, J2⟩ := hh h0 (g_0 hn hk)
    exact ⟨h2, g2, en_X7_init (b_X7_init_0 (z_pu0V rfl) J2)⟩
  intro h g
  have ga := g_nwi g rfl (Or.inl rfl) (m := Int32.toNatClampNeg (nI 0)) (nI_clamp (by decide)).symm
  have gp := g_por ga 0 (some (z_n h))
  rw [nI_clamp (show 0 < 2 ^ 31 by decide), g.1.1] at gp
  have kk := ga.2.2.2.1
  suffices hh : ∀ h' : z_H, gI h0 x 1 0 23 (fun j => if j = 0 then 1 else if j = 1 then 1 else if j = 2 then 1 else if j = 3 then 1 else 0) (fun j => if j = 0 then 0 else if j = 1 then 12 else if j = 2 then 8 else if j = 3 then 8 else 0) (z_u (z_or h0 x) 0 (some (x + 1 + 0))) (z_oi h0 x) h' → ∃ h2, gI h0 x 4 28 23 (fun j => if j = 0 then 1 else if j = 1 then 1 else if j = 2 then 1 else if j = 3 then 1 else 0) (fun j => if j = 0 then 0 else if j = 1 then 12 else if j = 2 then 8 else if j = 3 then 8 else 0) (z_u (z_u (z_u (z_u (z_or h0 x) 0 (some (x + 1 + 0))) 9 (some (x + 1 + 1))) 10 (some (x + 1 + 2))) 11 (some (x + 1 + 3))) (z_u (z_u (z_u (z_u (z_u (z_u (z_u (z_u (z_u (z_u (z_oi h0 x) 1 (nI 0)) 2 (nI 0)) 3 (nI 0)) 4 (nI 0)) 5 (nI 0)) 6 (nI 0)) 7 (nI 7)) 8 (nI 0)) 12 (nI 0)) 13 mI) h2 ∧ z_J G (d + 4) (m_X7_init z_pu0) (.inl none, h2) 11 [some (.ref x)] [] h' by
    obtain ⟨h2, g2, J2⟩ := hh _ gp
    refine ⟨h2, g2, b_X7_init_4 (z_pu0V rfl) ⟨by decide, by decide, kk, ?_⟩⟩
    rw [nI_clamp (show 0 < 2 ^ 31 by decide), g.1.1]
    exact J2
  clear ga gp kk g h
  intro h g
  have gp := g_poi g 1 (nI 0)
  suffices hh : ∀ h' : z_H, gI h0 x 1 0 23 (fun j => if j = 0 then 1 else if j = 1 then 1 else if j = 2 then 1 else if j = 3 then 1 else 0) (fun j => if j = 0 then 0 else if j = 1 then 12 else if j = 2 then 8 else if j = 3 then 8 else 0) (z_u (z_or h0 x) 0 (some (x + 1 + 0))) (z_u (z_oi h0 x) 1 (nI 0)) h' → ∃ h2, gI h0 x 4 28 23 (fun j => if j = 0 then 1 else if j = 1 then 1 else if j = 2 then 1 else if j = 3 then 1 else 0) (fun j => if j = 0 then 0 else if j = 1 then 12 else if j = 2 then 8 else if j = 3 then 8 else 0) (z_u (z_u (z_u (z_u (z_or h0 x) 0 (some (x + 1 + 0))) 9 (some (x + 1 + 1))) 10 (some (x + 1 + 2))) 11 (some (x + 1 + 3))) (z_u (z_u (z_u (z_u (z_u (z_u (z_u (z_u (z_u (z_u (z_oi h0 x) 1 (nI 0)) 2 (nI 0)) 3 (nI 0)) 4 (nI 0)) 5 (nI 0)) 6 (nI 0)) 7 (nI 7)) 8 (nI 0)) 12 (nI 0)) 13 mI) h2 ∧ z_J G (d + 4) (m_X7_init z_pu0) (.inl none, h2) 16 [some (.ref x)] [] h' by
    obtain ⟨h2, g2, J2⟩ := hh _ gp
    exact ⟨h2, g2, b_X7_init_11 (z_pu0V rfl) ⟨g.2.2.2.1, J2⟩⟩
  clear gp g h
  intro h g
  have gp := g_poi g 2 (nI 0)
  suffices hh : ∀ h' : z_H, gI h0 x 1 0 23 (fun j => if j = 0 then 1 else if j = 1 then 1 else if j = 2 then 1 else if j = 3 then 1 else 0) (fun j => if j = 0 then 0 else if j = 1 then 12 else if j = 2 then 8 else if j = 3 then 8 else 0) (z_u (z_or h0 x) 0 (some (x + 1 + 0))) (z_u (z_u (z_oi h0 x) 1 (nI 0)) 2 (nI 0)) h' → ∃ h2, gI h0 x 4 28 23 (fun j => if j = 0 then 1 else if j = 1 then 1 else if j = 2 then 1 else if j = 3 then 1 else 0) (fun j => if j = 0 then 0 else if j = 1 then 12 else if j = 2 then 8 else if j = 3 then 8 else 0) (z_u (z_u (z_u (z_u (z_or h0 x) 0 (some (x + 1 + 0))) 9 (some (x + 1 + 1))) 10 (some (x + 1 + 2))) 11 (some (x + 1 + 3))) (z_u (z_u (z_u (z_u (z_u (z_u (z_u (z_u (z_u (z_u (z_oi h0 x) 1 (nI 0)) 2 (nI 0)) 3 (nI 0)) 4 (nI 0)) 5 (nI 0)) 6 (nI 0)) 7 (nI 7)) 8 (nI 0)) 12 (nI 0)) 13 mI) h2 ∧ z_J G (d + 4) (m_X7_init z_pu0) (.inl none, h2) 21 [some (.ref x)] [] h' by
    obtain ⟨h2, g2, J2⟩ := hh _ gp
    exact ⟨h2, g2, b_X7_init_16 (z_pu0V rfl) ⟨g.2.2.2.1, J2⟩⟩
  clear gp g h
  intro h g
  have gp := g_poi g 3 (nI 0)
  suffices hh : ∀ h' : z_H, gI h0 x 1 0 23 (fun j => if j = 0 then 1 else if j = 1 then 1 else if j = 2 then 1 else if j = 3 then 1 else 0) (fun j => if j = 0 then 0 else if j = 1 then 12 else if j = 2 then 8 else if j = 3 then 8 else 0) (z_u (z_or h0 x) 0 (some (x + 1 + 0))) (z_u (z_u (z_u (z_oi h0 x) 1 (nI 0)) 2 (nI 0)) 3 (nI 0)) h' → ∃ h2, gI h0 x 4 28 23 (fun j => if j = 0 then 1 else if j = 1 then 1 else if j = 2 then 1 else if j = 3 then 1 else 0) (fun j => if j = 0 then 0 else if j = 1 then 12 else if j = 2 then 8 else if j = 3 then 8 else 0) (z_u (z_u (z_u (z_u (z_or h0 x) 0 (some (x + 1 + 0))) 9 (some (x + 1 + 1))) 10 (some (x + 1 + 2))) 11 (some (x + 1 + 3))) (z_u (z_u (z_u (z_u (z_u (z_u (z_u (z_u (z_u (z_u (z_oi h0 x) 1 (nI 0)) 2 (nI 0)) 3 (nI 0)) 4 (nI 0)) 5 (nI 0)) 6 (nI 0)) 7 (nI 7)) 8 (nI 0)) 12 (nI 0)) 13 mI) h2 ∧ z_J G (d + 4) (m_X7_init z_pu0) (.inl none, h2) 26 [some (.ref x)] [] h' by
    obtain ⟨h2, g2, J2⟩ := hh _ gp
    exact ⟨h2, g2, b_X7_init_21 (z_pu0V rfl) ⟨g.2.2.2.1, J2⟩⟩
  clear gp g h
  intro h g
  have gp := g_poi g 4 (nI 0)
  suffices hh : ∀ h' : z_H, gI h0 x 1 0 23 (fun j => if j = 0 then 1 else if j = 1 then 1 else if j = 2 then 1 else if j = 3 then 1 else 0) (fun j => if j = 0 then 0 else if j = 1 then 12 else if j = 2 then 8 else if j = 3 then 8 else 0) (z_u (z_or h0 x) 0 (some (x + 1 + 0))) (z_u (z_u (z_u (z_u (z_oi h0 x) 1 (nI 0)) 2 (nI 0)) 3 (nI 0)) 4 (nI 0)) h' → ∃ h2, gI h0 x 4 28 23 (fun j => if j = 0 then 1 else if j = 1 then 1 else if j = 2 then 1 else if j = 3 then 1 else 0) (fun j => if j = 0 then 0 else if j = 1 then 12 else if j = 2 then 8 else if j = 3 then 8 else 0) (z_u (z_u (z_u (z_u (z_or h0 x) 0 (some (x + 1 + 0))) 9 (some (x + 1 + 1))) 10 (some (x + 1 + 2))) 11 (some (x + 1 + 3))) (z_u (z_u (z_u (z_u (z_u (z_u (z_u (z_u (z_u (z_u (z_oi h0 x) 1 (nI 0)) 2 (nI 0)) 3 (nI 0)) 4 (nI 0)) 5 (nI 0)) 6 (nI 0)) 7 (nI 7)) 8 (nI 0)) 12 (nI 0)) 13 mI) h2 ∧ z_J G (d + 4) (m_X7_init z_pu0) (.inl none, h2) 31 [some (.ref x)] [] h' by
    obtain ⟨h2, g2, J2⟩ := hh _ gp
    exact ⟨h2, g2, b_X7_init_26 (z_pu0V rfl) ⟨g.2.2.2.1, J2⟩⟩
  clear gp g h
  intro h g
  have gp := g_poi g 5 (nI 0)
  suffices hh : ∀ h' : z_H, gI h0 x 1 0 23 (fun j => if j = 0 then 1 else if j = 1 then 1 else if j = 2 then 1 else if j = 3 then 1 else 0) (fun j => if j = 0 then 0 else if j = 1 then 12 else if j = 2 then 8 else if j = 3 then 8 else 0) (z_u (z_or h0 x) 0 (some (x + 1 + 0))) (z_u (z_u (z_u (z_u (z_u (z_oi h0 x) 1 (nI 0)) 2 (nI 0)) 3 (nI 0)) 4 (nI 0)) 5 (nI 0)) h' → ∃ h2, gI h0 x 4 28 23 (fun j => if j = 0 then 1 else if j = 1 then 1 else if j = 2 then 1 else if j = 3 then 1 else 0) (fun j => if j = 0 then 0 else if j = 1 then 12 else if j = 2 then 8 else if j = 3 then 8 else 0) (z_u (z_u (z_u (z_u (z_or h0 x) 0 (some (x + 1 + 0))) 9 (some (x + 1 + 1))) 10 (some (x + 1 + 2))) 11 (some (x + 1 + 3))) (z_u (z_u (z_u (z_u (z_u (z_u (z_u (z_u (z_u (z_u (z_oi h0 x) 1 (nI 0)) 2 (nI 0)) 3 (nI 0)) 4 (nI 0)) 5 (nI 0)) 6 (nI 0)) 7 (nI 7)) 8 (nI 0)) 12 (nI 0)) 13 mI) h2 ∧ z_J G (d + 4) (m_X7_init z_pu0) (.inl none, h2) 36 [some (.ref x)] [] h' by
    obtain ⟨h2, g2, J2⟩ := hh _ gp
    exact ⟨h2, g2, b_X7_init_31 (z_pu0V rfl) ⟨g.2.2.2.1, J2⟩⟩
  clear gp g h
  intro h g
  have gp := g_poi g 6 (nI 0)
  suffices hh : ∀ h' : z_H, gI h0 x 1 0 23 (fun j => if j = 0 then 1 else if j = 1 then 1 else if j = 2 then 1 else if j = 3 then 1 else 0) (fun j => if j = 0 then 0 else if j = 1 then 12 else if j = 2 then 8 else if j = 3 then 8 else 0) (z_u (z_or h0 x) 0 (some (x + 1 + 0))) (z_u (z_u (z_u (z_u (z_u (z_u (z_oi h0 x) 1 (nI 0)) 2 (nI 0)) 3 (nI 0)) 4 (nI 0)) 5 (nI 0)) 6 (nI 0)) h' → ∃ h2, gI h0 x 4 28 23 (fun j => if j = 0 then 1 else if j = 1 then 1 else if j = 2 then 1 else if j = 3 then 1 else 0) (fun j => if j = 0 then 0 else if j = 1 then 12 else if j = 2 then 8 else if j = 3 then 8 else 0) (z_u (z_u (z_u (z_u (z_or h0 x) 0 (some (x + 1 + 0))) 9 (some (x + 1 + 1))) 10 (some (x + 1 + 2))) 11 (some (x + 1 + 3))) (z_u (z_u (z_u (z_u (z_u (z_u (z_u (z_u (z_u (z_u (z_oi h0 x) 1 (nI 0)) 2 (nI 0)) 3 (nI 0)) 4 (nI 0)) 5 (nI 0)) 6 (nI 0)) 7 (nI 7)) 8 (nI 0)) 12 (nI 0)) 13 mI) h2 ∧ z_J G (d + 4) (m_X7_init z_pu0) (.inl none, h2) 41 [some (.ref x)] [] h' by
    obtain ⟨h2, g2, J2⟩ := hh _ gp
    exact ⟨h2, g2, b_X7_init_36 (z_pu0V rfl) ⟨g.2.2.2.1, Or.inl rfl, J2⟩⟩
  clear gp g h
  intro h g
  have gp := g_poi g 7 (nI 7)
  suffices hh : ∀ h' : z_H, gI h0 x 1 0 23 (fun j => if j = 0 then 1 else if j = 1 then 1 else if j = 2 then 1 else if j = 3 then 1 else 0) (fun j => if j = 0 then 0 else if j = 1 then 12 else if j = 2 then 8 else if j = 3 then 8 else 0) (z_u (z_or h0 x) 0 (some (x + 1 + 0))) (z_u (z_u (z_u (z_u (z_u (z_u (z_u (z_oi h0 x) 1 (nI 0)) 2 (nI 0)) 3 (nI 0)) 4 (nI 0)) 5 (nI 0)) 6 (nI 0)) 7 (nI 7)) h' → ∃ h2, gI h0 x 4 28 23 (fun j => if j = 0 then 1 else if j = 1 then 1 else if j = 2 then 1 else if j = 3 then 1 else 0) (fun j => if j = 0 then 0 else if j = 1 then 12 else if j = 2 then 8 else if j = 3 then 8 else 0) (z_u (z_u (z_u (z_u (z_or h0 x) 0 (some (x + 1 + 0))) 9 (some (x + 1 + 1))) 10 (some (x + 1 + 2))) 11 (some (x + 1 + 3))) (z_u (z_u (z_u (z_u (z_u (z_u (z_u (z_u (z_u (z_u (z_oi h0 x) 1 (nI 0)) 2 (nI 0)) 3 (nI 0)) 4 (nI 0)) 5 (nI 0)) 6 (nI 0)) 7 (nI 7)) 8 (nI 0)) 12 (nI 0)) 13 mI) h2 ∧ z_J G (d + 4) (m_X7_init z_pu0) (.inl none, h2) 47 [some (.ref x)] [] h' by
    obtain ⟨h2, g2, J2⟩ := hh _ gp
    exact ⟨h2, g2, b_X7_init_41 (z_pu0V rfl) ⟨g.2.2.2.1, J2⟩⟩
  clear gp g h
  intro h g
  have gp := g_poi g 8 (nI 0)
  suffices hh : ∀ h' : z_H, gI h0 x 1 0 23 (fun j => if j = 0 then 1 else if j = 1 then 1 else if j = 2 then 1 else if j = 3 then 1 else 0) (fun j => if j = 0 then 0 else if j = 1 then 12 else if j = 2 then 8 else if j = 3 then 8 else 0) (z_u (z_or h0 x) 0 (some (x + 1 + 0))) (z_u (z_u (z_u (z_u (z_u (z_u (z_u (z_u (z_oi h0 x) 1 (nI 0)) 2 (nI 0)) 3 (nI 0)) 4 (nI 0)) 5 (nI 0)) 6 (nI 0)) 7 (nI 7)) 8 (nI 0)) h' → ∃ h2, gI h0 x 4 28 23 (fun j => if j = 0 then 1 else if j = 1 then 1 else if j = 2 then 1 else if j = 3 then 1 else 0) (fun j => if j = 0 then 0 else if j = 1 then 12 else if j = 2 then 8 else if j = 3 then 8 else 0) (z_u (z_u (z_u (z_u (z_or h0 x) 0 (some (x + 1 + 0))) 9 (some (x + 1 + 1))) 10 (some (x + 1 + 2))) 11 (some (x + 1 + 3))) (z_u (z_u (z_u (z_u (z_u (z_u (z_u (z_u (z_u (z_u (z_oi h0 x) 1 (nI 0)) 2 (nI 0)) 3 (nI 0)) 4 (nI 0)) 5 (nI 0)) 6 (nI 0)) 7 (nI 7)) 8 (nI 0)) 12 (nI 0)) 13 mI) h2 ∧ z_J G (d + 4) (m_X7_init z_pu0) (.inl none, h2) 52 [some (.ref x)] [] h' by
    obtain ⟨h2, g2, J2⟩ := hh _ gp
    exact ⟨h2, g2, b_X7_init_47 (z_pu0V rfl) ⟨g.2.2.2.1, J2⟩⟩
  clear gp g h
  intro h g
  have ga := g_nwi g rfl (Or.inl rfl) (m := Int32.toNatClampNeg (nI 12)) (nI_clamp (by decide)).symm
  have gp := g_por ga 9 (some (z_n h))
  rw [nI_clamp (show 12 < 2 ^ 31 by decide), g.1.1] at gp
  have kk := ga.2.2.2.1
  suffices hh : ∀ h' : z_H, gI h0 x 2 12 23 (fun j => if j = 0 then 1 else if j = 1 then 1 else if j = 2 then 1 else if j = 3 then 1 else 0) (fun j => if j = 0 then 0 else if j = 1 then 12 else if j = 2 then 8 else if j = 3 then 8 else 0) (z_u (z_u (z_or h0 x) 0 (some (x + 1 + 0))) 9 (some (x + 1 + 1))) (z_u (z_u (z_u (z_u (z_u (z_u (z_u (z_u (z_oi h0 x) 1 (nI 0)) 2 (nI 0)) 3 (nI 0)) 4 (nI 0)) 5 (nI 0)) 6 (nI 0)) 7 (nI 7)) 8 (nI 0)) h' → ∃ h2, gI h0 x 4 28 23 (fun j => if j = 0 then 1 else if j = 1 then 1 else if j = 2 then 1 else if j = 3 then 1 else 0) (fun j => if j = 0 then 0 else if j = 1 then 12 else if j = 2 then 8 else if j = 3 then 8 else 0) (z_u (z_u (z_u (z_u (z_or h0 x) 0 (some (x + 1 + 0))) 9 (some (x + 1 + 1))) 10 (some (x + 1 + 2))) 11 (some (x + 1 + 3))) (z_u (z_u (z_u (z_u (z_u (z_u (z_u (z_u (z_u (z_u (z_oi h0 x) 1 (nI 0)) 2 (nI 0)) 3 (nI 0)) 4 (nI 0)) 5 (nI 0)) 6 (nI 0)) 7 (nI 7)) 8 (nI 0)) 12 (nI 0)) 13 mI) h2 ∧ z_J G (d + 4) (m_X7_init z_pu0) (.inl none, h2) 60 [some (.ref x)] [] h' by
    obtain ⟨h2, g2, J2⟩ := hh _ gp
    refine ⟨h2, g2, b_X7_init_52 (z_pu0V rfl) ⟨by decide, by decide, kk, ?_⟩⟩
    rw [nI_clamp (show 12 < 2 ^ 31 by decide), g.1.1]
    exact J2
  clear ga gp kk g h
  intro h g
  have ga := g_nwi g rfl (Or.inl rfl) (m := Int32.toNatClampNeg (nI 8)) (nI_clamp (by decide)).symm
  have gp := g_por ga 10 (some (z_n h))
  rw [nI_clamp (show 8 < 2 ^ 31 by decide), g.1.1] at gp
  have kk := ga.2.2.2.1
  suffices hh : ∀ h' : z_H, gI h0 x 3 20 23 (fun j => if j = 0 then 1 else if j = 1 then 1 else if j = 2 then 1 else if j = 3 then 1 else 0) (fun j => if j = 0 then 0 else if j = 1 then 12 else if j = 2 then 8 else if j = 3 then 8 else 0) (z_u (z_u (z_u (z_or h0 x) 0 (some (x + 1 + 0))) 9 (some (x + 1 + 1))) 10 (some (x + 1 + 2))) (z_u (z_u (z_u (z_u (z_u (z_u (z_u (z_u (z_oi h0 x) 1 (nI 0)) 2 (nI 0)) 3 (nI 0)) 4 (nI 0)) 5 (nI 0)) 6 (nI 0)) 7 (nI 7)) 8 (nI 0)) h' → ∃ h2, gI h0 x 4 28 23 (fun j => if j = 0 then 1 else if j = 1 then 1 else if j = 2 then 1 else if j = 3 then 1 else 0) (fun j => if j = 0 then 0 else if j = 1 then 12 else if j = 2 then 8 else if j = 3 then 8 else 0) (z_u (z_u (z_u (z_u (z_or h0 x) 0 (some (x + 1 + 0))) 9 (some (x + 1 + 1))) 10 (some (x + 1 + 2))) 11 (some (x + 1 + 3))) (z_u (z_u (z_u (z_u (z_u (z_u (z_u (z_u (z_u (z_u (z_oi h0 x) 1 (nI 0)) 2 (nI 0)) 3 (nI 0)) 4 (nI 0)) 5 (nI 0)) 6 (nI 0)) 7 (nI 7)) 8 (nI 0)) 12 (nI 0)) 13 mI) h2 ∧ z_J G (d + 4) (m_X7_init z_pu0) (.inl none, h2) 68 [some (.ref x)] [] h' by
    obtain ⟨h2, g2, J2⟩ := hh _ gp
    refine ⟨h2, g2, b_X7_init_60 (z_pu0V rfl) ⟨by decide, by decide, kk, ?_⟩⟩
    rw [nI_clamp (show 8 < 2 ^ 31 by decide), g.1.1]
    exact J2
  clear ga gp kk g h
  intro h g
  have ga := g_nwi g rfl (Or.inl rfl) (m := Int32.toNatClampNeg (nI 8)) (nI_clamp (by decide)).symm
  have gp := g_por ga 11 (some (z_n h))
  rw [nI_clamp (show 8 < 2 ^ 31 by decide), g.1.1] at gp
  have kk := ga.2.2.2.1
  suffices hh : ∀ h' : z_H, gI h0 x 4 28 23 (fun j => if j = 0 then 1 else if j = 1 then 1 else if j = 2 then 1 else if j = 3 then 1 else 0) (fun j => if j = 0 then 0 else if j = 1 then 12 else if j = 2 then 8 else if j = 3 then 8 else 0) (z_u (z_u (z_u (z_u (z_or h0 x) 0 (some (x + 1 + 0))) 9 (some (x + 1 + 1))) 10 (some (x + 1 + 2))) 11 (some (x + 1 + 3))) (z_u (z_u (z_u (z_u (z_u (z_u (z_u (z_u (z_oi h0 x) 1 (nI 0)) 2 (nI 0)) 3 (nI 0)) 4 (nI 0)) 5 (nI 0)) 6 (nI 0)) 7 (nI 7)) 8 (nI 0)) h' → ∃ h2, gI h0 x 4 28 23 (fun j => if j = 0 then 1 else if j = 1 then 1 else if j = 2 then 1 else if j = 3 then 1 else 0) (fun j => if j = 0 then 0 else if j = 1 then 12 else if j = 2 then 8 else if j = 3 then 8 else 0) (z_u (z_u (z_u (z_u (z_or h0 x) 0 (some (x + 1 + 0))) 9 (some (x + 1 + 1))) 10 (some (x + 1 + 2))) 11 (some (x + 1 + 3))) (z_u (z_u (z_u (z_u (z_u (z_u (z_u (z_u (z_u (z_u (z_oi h0 x) 1 (nI 0)) 2 (nI 0)) 3 (nI 0)) 4 (nI 0)) 5 (nI 0)) 6 (nI 0)) 7 (nI 7)) 8 (nI 0)) 12 (nI 0)) 13 mI) h2 ∧ z_J G (d + 4) (m_X7_init z_pu0) (.inl none, h2) 76 [some (.ref x)] [] h' by
    obtain ⟨h2, g2, J2⟩ := hh _ gp
    refine ⟨h2, g2, b_X7_init_68 (z_pu0V rfl) ⟨by decide, by decide, kk, ?_⟩⟩
    rw [nI_clamp (show 8 < 2 ^ 31 by decide), g.1.1]
    exact J2
  clear ga gp kk g h
  intro h g
  have gp := g_poi g 12 (nI 0)
  suffices hh : ∀ h' : z_H, gI h0 x 4 28 23 (fun j => if j = 0 then 1 else if j = 1 then 1 else if j = 2 then 1 else if j = 3 then 1 else 0) (fun j => if j = 0 then 0 else if j = 1 then 12 else if j = 2 then 8 else if j = 3 then 8 else 0) (z_u (z_u (z_u (z_u (z_or h0 x) 0 (some (x + 1 + 0))) 9 (some (x + 1 + 1))) 10 (some (x + 1 + 2))) 11 (some (x + 1 + 3))) (z_u (z_u (z_u (z_u (z_u (z_u (z_u (z_u (z_u (z_oi h0 x) 1 (nI 0)) 2 (nI 0)) 3 (nI 0)) 4 (nI 0)) 5 (nI 0)) 6 (nI 0)) 7 (nI 7)) 8 (nI 0)) 12 (nI 0)) h' → ∃ h2, gI h0 x 4 28 23 (fun j => if j = 0 then 1 else if j = 1 then 1 else if j = 2 then 1 else if j = 3 then 1 else 0) (fun j => if j = 0 then 0 else if j = 1 then 12 else if j = 2 then 8 else if j = 3 then 8 else 0) (z_u (z_u (z_u (z_u (z_or h0 x) 0 (some (x + 1 + 0))) 9 (some (x + 1 + 1))) 10 (some (x + 1 + 2))) 11 (some (x + 1 + 3))) (z_u (z_u (z_u (z_u (z_u (z_u (z_u (z_u (z_u (z_u (z_oi h0 x) 1 (nI 0)) 2 (nI 0)) 3 (nI 0)) 4 (nI 0)) 5 (nI 0)) 6 (nI 0)) 7 (nI 7)) 8 (nI 0)) 12 (nI 0)) 13 mI) h2 ∧ z_J G (d + 4) (m_X7_init z_pu0) (.inl none, h2) 81 [some (.ref x)] [] h' by
    obtain ⟨h2, g2, J2⟩ := hh _ gp
    exact ⟨h2, g2, b_X7_init_76 (z_pu0V rfl) ⟨g.2.2.2.1, J2⟩⟩
  clear gp g h
  intro h g
  have gp := g_poi g 13 mI
  suffices hh : ∀ h' : z_H, gI h0 x 4 28 23 (fun j => if j = 0 then 1 else if j = 1 then 1 else if j = 2 then 1 else if j = 3 then 1 else 0) (fun j => if j = 0 then 0 else if j = 1 then 12 else if j = 2 then 8 else if j = 3 then 8 else 0) (z_u (z_u (z_u (z_u (z_or h0 x) 0 (some (x + 1 + 0))) 9 (some (x + 1 + 1))) 10 (some (x + 1 + 2))) 11 (some (x + 1 + 3))) (z_u (z_u (z_u (z_u (z_u (z_u (z_u (z_u (z_u (z_u (z_oi h0 x) 1 (nI 0)) 2 (nI 0)) 3 (nI 0)) 4 (nI 0)) 5 (nI 0)) 6 (nI 0)) 7 (nI 7)) 8 (nI 0)) 12 (nI 0)) 13 mI) h' → ∃ h2, gI h0 x 4 28 23 (fun j => if j = 0 then 1 else if j = 1 then 1 else if j = 2 then 1 else if j = 3 then 1 else 0) (fun j => if j = 0 then 0 else if j = 1 then 12 else if j = 2 then 8 else if j = 3 then 8 else 0) (z_u (z_u (z_u (z_u (z_or h0 x) 0 (some (x + 1 + 0))) 9 (some (x + 1 + 1))) 10 (some (x + 1 + 2))) 11 (some (x + 1 + 3))) (z_u (z_u (z_u (z_u (z_u (z_u (z_u (z_u (z_u (z_u (z_oi h0 x) 1 (nI 0)) 2 (nI 0)) 3 (nI 0)) 4 (nI 0)) 5 (nI 0)) 6 (nI 0)) 7 (nI 7)) 8 (nI 0)) 12 (nI 0)) 13 mI) h2 ∧ z_J G (d + 4) (m_X7_init z_pu0) (.inl none, h2) 86 [none] [] h' by
    obtain ⟨h2, g2, J2⟩ := hh _ gp
    exact ⟨h2, g2, b_X7_init_81 (z_pu0V rfl) ⟨g.2.2.2.1, J2⟩⟩
  clear gp g h
  intro h g
  exact ⟨h, g, b_X7_init_86 (z_pu0V rfl) rfl⟩
theorem e5_init (hn : z_n h0 = x + 1) (hk : z_kd h0 x = 21) : ∃ h2, gI h0 x 3 24 21 (fun j => if j = 0 then 1 else if j = 1 then 1 else if j = 2 then 1 else 0) (fun j => if j = 0 then 8 else if j = 1 then 8 else if j = 2 then 8 else 0) (z_u (z_u (z_u (z_u (z_u (z_u (z_u (z_u (z_u (z_u (z_or h0 x) 0 none) 1 none) 2 none) 3 none) 5 (some (x + 1 + 0))) 6 none) 8 (some (x + 1 + 1))) 9 none) 10 none) 12 (some (x + 1 + 2))) (z_u (z_u (z_u (z_oi h0 x) 4 (nI 1)) 7 mI) 11 (nI 0)) h2 ∧ z_Ev G (d + 4) k_X5_init [.ref x] h0 (.inl none, h2) := by
  suffices hh : ∀ h : z_H, gI h0 x 0 0 21 (fun j => if j = 0 then 1 else if j = 1 then 1 else if j = 2 then 1 else 0) (fun j => if j = 0 then 8 else if j = 1 then 8 else if j = 2 then 8 else 0) (z_or h0 x) (z_oi h0 x) h → ∃ h2, gI h0 x 3 24 21 (fun j => if j = 0 then 1 else if j = 1 then 1 else if j = 2 then 1 else 0) (fun j => if j = 0 then 8 else if j = 1 then 8 else if j = 2 then 8 else 0) (z_u (z_u (z_u (z_u (z_u (z_u (z_u (z_u (z_u (z_u (z_or h0 x) 0 none) 1 none) 2 none) 3 none) 5 (some (x + 1 + 0))) 6 none) 8 (some (x + 1 + 1))) 9 none) 10 none) 12 (some (x + 1 + 2))) (z_u (z_u (z_u (z_oi h0 x) 4 (nI 1)) 7 mI) 11 (nI 0)) h2 ∧ z_J G (d + 4) (m_X5_init z_pu0) (.inl none, h2) 4 [some (.ref x)] [] h by
    obtain ⟨h2, g2, J2⟩ := hh h0 (g_0 hn hk)
    exact ⟨h2, g2, en_X5_init (b_X5_init_0 (z_pu0V rfl) J2)⟩
  intro h g
  have gp := g_por g 0 none
  suffices hh : ∀ h' : z_H, gI h0 x 0 0 21 (fun j => if j = 0 then 1 else if j = 1 then 1 else if j = 2 then 1 else 0) (fun j => if j = 0 then 8 else if j = 1 then 8 else if j = 2 then 8 else 0) (z_u (z_or h0 x) 0 none) (z_oi h0 x) h' → ∃ h2, gI h0 x 3 24 21 (fun j => if j = 0 then 1 else if j = 1 then 1 else if j = 2 then 1 else 0) (fun j => if j = 0 then 8 else if j = 1 then 8 else if j = 2 then 8 else 0) (z_u (z_u (z_u (z_u (z_u (z_u (z_u (z_u (z_u (z_u (z_or h0 x) 0 none) 1 none) 2 none) 3 none) 5 (some (x + 1 + 0))) 6 none) 8 (some (x + 1 + 1))) 9 none) 10 none) 12 (some (x + 1 + 2))) (z_u (z_u (z_u (z_oi h0 x) 4 (nI 1)) 7 mI) 11 (nI 0)) h2 ∧ z_J G (d + 4) (m_X5_init z_pu0) (.inl none, h2) 9 [some (.ref x)] [] h' by
    obtain ⟨h2, g2, J2⟩ := hh _ gp
    exact ⟨h2, g2, b_X5_init_4 (z_pu0V rfl) ⟨g.2.2.2.1, J2⟩⟩
  clear gp g h
  intro h g
  have gp := g_por g 1 none
  suffices hh : ∀ h' : z_H, gI h0 x 0 0 21 (fun j => if j = 0 then 1 else if j = 1 then 1 else if j = 2 then 1 else 0) (fun j => if j = 0 then 8 else if j = 1 then 8 else if j = 2 then 8 else 0) (z_u (z_u (z_or h0 x) 0 none) 1 none) (z_oi h0 x) h' → ∃ h2, gI h0 x 3 24 21 (fun j => if j = 0 then 1 else if j = 1 then 1 else if j = 2 then 1 else 0) (fun j => if j = 0 then 8 else if j = 1 then 8 else if j = 2 then 8 else 0) (z_u (z_u (z_u (z_u (z_u (z_u (z_u (z_u (z_u (z_u (z_or h0 x) 0 none) 1 none) 2 none) 3 none) 5 (some (x + 1 + 0))) 6 none) 8 (some (x + 1 + 1))) 9 none) 10 none) 12 (some (x + 1 + 2))) (z_u (z_u (z_u (z_oi h0 x) 4 (nI 1)) 7 mI) 11 (nI 0)) h2 ∧ z_J G (d + 4) (m_X5_init z_pu0) (.inl none, h2) 14 [some (.ref x)] [] h' by
    obtain ⟨h2, g2, J2⟩ := hh _ gp
    exact ⟨h2, g2, b_X5_init_9 (z_pu0V rfl) ⟨g.2.2.2.1, J2⟩⟩
  clear gp g h
  intro h g
  have gp := g_por g 2 none
  suffices hh : ∀ h' : z_H, gI h0 x 0 0 21 (fun j => if j = 0 then 1 else if j = 1 then 1 else if j = 2 then 1 else 0) (fun j => if j = 0 then 8 else if j = 1 then 8 else if j = 2 then 8 else 0) (z_u (z_u (z_u (z_or h0 x) 0 none) 1 none) 2 none) (z_oi h0 x) h' → ∃ h2, gI h0 x 3 24 21 (fun j => if j = 0 then 1 else if j = 1 then 1 else if j = 2 then 1 else 0) (fun j => if j = 0 then 8 else if j = 1 then 8 else if j = 2 then 8 else 0) (z_u (z_u (z_u (z_u (z_u (z_u (z_u (z_u (z_u (z_u (z_or h0 x) 0 none) 1 none) 2 none) 3 none) 5 (some (x + 1 + 0))) 6 none) 8 (some (x + 1 + 1))) 9 none) 10 none) 12 (some (x + 1 + 2))) (z_u (z_u (z_u (z_oi h0 x) 4 (nI 1)) 7 mI) 11 (nI 0)) h2 ∧ z_J G (d + 4) (m_X5_init z_pu0) (.inl none, h2) 19 [some (.ref x)] [] h' by
    obtain ⟨h2, g2, J2⟩ := hh _ gp
    exact ⟨h2, g2, b_X5_init_14 (z_pu0V rfl) ⟨g.2.2.2.1, J2⟩⟩
  clear gp g h
  intro h g
  have gp := g_por g 3 none
  suffices hh : ∀ h' : z_H, gI h0 x 0 0 21 (fun j => if j = 0 then 1 else if j = 1 then 1 else if j = 2 then 1 else 0) (fun j => if j = 0 then 8 else if j = 1 then 8 else if j = 2 then 8 else 0) (z_u (z_u (z_u (z_u (z_or h0 x) 0 none) 1 none) 2 none) 3 none) (z_oi h0 x) h' → ∃ h2, gI h0 x 3 24 21 (fun j => if j = 0 then 1 else if j = 1 then 1 else if j = 2 then 1 else 0) (fun j => if j = 0 then 8 else if j = 1 then 8 else if j = 2 then 8 else 0) (z_u (z_u (z_u (z_u (z_u (z_u (z_u (z_u (z_u (z_u (z_or h0 x) 0 none) 1 none) 2 none) 3 none) 5 (some (x + 1 + 0))) 6 none) 8 (some (x + 1 + 1))) 9 none) 10 none) 12 (some (x + 1 + 2))) (z_u (z_u (z_u (z_oi h0 x) 4 (nI 1)) 7 mI) 11 (nI 0)) h2 ∧ z_J G (d + 4) (m_X5_init z_pu0) (.inl none, h2) 24 [some (.ref x)] [] h' by
    obtain ⟨h2, g2, J2⟩ := hh _ gp
    exact ⟨h2, g2, b_X5_init_19 (z_pu0V rfl) ⟨g.2.2.2.1, J2⟩⟩
  clear gp g h
  intro h g
  have gp := g_poi g 4 (nI 1)
  suffices hh : ∀ h' : z_H, gI h0 x 0 0 21 (fun j => if j = 0 then 1 else if j = 1 then 1 else if j = 2 then 1 else 0) (fun j => if j = 0 then 8 else if j = 1 then 8 else if j = 2 then 8 else 0) (z_u (z_u (z_u (z_u (z_or h0 x) 0 none) 1 none) 2 none) 3 none) (z_u (z_oi h0 x) 4 (nI 1)) h' → ∃ h2, gI h0 x 3 24 21 (fun j => if j = 0 then 1 else if j = 1 then 1 else if j = 2 then 1 else 0) (fun j => if j = 0 then 8 else if j = 1 then 8 else if j = 2 then 8 else 0) (z_u (z_u (z_u (z_u (z_u (z_u (z_u (z_u (z_u (z_u (z_or h0 x) 0 none) 1 none) 2 none) 3 none) 5 (some (x + 1 + 0))) 6 none) 8 (some (x + 1 + 1))) 9 none) 10 none) 12 (some (x + 1 + 2))) (z_u (z_u (z_u (z_oi h0 x) 4 (nI 1)) 7 mI) 11 (nI 0)) h2 ∧ z_J G (d + 4) (m_X5_init z_pu0) (.inl none, h2) 29 [some (.ref x)] [] h' by
    obtain ⟨h2, g2, J2⟩ := hh _ gp
    exact ⟨h2, g2, b_X5_init_24 (z_pu0V rfl) ⟨g.2.2.2.1, Or.inr rfl, J2⟩⟩
  clear gp g h
  intro h g
  have ga := g_nwi g rfl (Or.inl rfl) (m := Int32.toNatClampNeg (nI 8)) (nI_clamp (by decide)).symm
  have gp := g_por ga 5 (some (z_n h))
  rw [nI_clamp (show 8 < 2 ^ 31 by decide), g.1.1] at gp
  have kk := ga.2.2.2.1
  suffices hh : ∀ h' : z_H, gI h0 x 1 8 21 (fun j => if j = 0 then 1 else if j = 1 then 1 else if j = 2 then 1 else 0) (fun j => if j = 0 then 8 else if j = 1 then 8 else if j = 2 then 8 else 0) (z_u (z_u (z_u (z_u (z_u (z_or h0 x) 0 none) 1 none) 2 none) 3 none) 5 (some (x + 1 + 0))) (z_u (z_oi h0 x) 4 (nI 1)) h' → ∃ h2, gI h0 x 3 24 21 (fun j => if j = 0 then 1 else if j = 1 then 1 else if j = 2 then 1 else 0) (fun j => if j = 0 then 8 else if j = 1 then 8 else if j = 2 then 8 else 0) (z_u (z_u (z_u (z_u (z_u (z_u (z_u (z_u (z_u (z_u (z_or h0 x) 0 none) 1 none) 2 none) 3 none) 5 (some (x + 1 + 0))) 6 none) 8 (some (x + 1 + 1))) 9 none) 10 none) 12 (some (x + 1 + 2))) (z_u (z_u (z_u (z_oi h0 x) 4 (nI 1)) 7 mI) 11 (nI 0)) h2 ∧ z_J G (d + 4) (m_X5_init z_pu0) (.inl none, h2) 37 [some (.ref x)] [] h' by
    obtain ⟨h2, g2, J2⟩ := hh _ gp
    refine ⟨h2, g2, b_X5_init_29 (z_pu0V rfl) ⟨by decide, by decide, kk, ?_⟩⟩
    rw [nI_clamp (show 8 < 2 ^ 31 by decide), g.1.1]
    exact J2
  clear ga gp kk g h
  intro h g
  have gp := g_por g 6 none
  suffices hh : ∀ h' : z_H, gI h0 x 1 8 21 (fun j => if j = 0 then 1 else if j = 1 then 1 else if j = 2 then 1 else 0) (fun j => if j = 0 then 8 else if j = 1 then 8 else if j = 2 then 8 else 0) (z_u (z_u (z_u (z_u (z_u (z_u (z_or h0 x) 0 none) 1 none) 2 none) 3 none) 5 (some (x + 1 + 0))) 6 none) (z_u (z_oi h0 x) 4 (nI 1)) h' → ∃ h2, gI h0 x 3 24 21 (fun j => if j = 0 then 1 else if j = 1 then 1 else if j = 2 then 1 else 0) (fun j => if j = 0 then 8 else if j = 1 then 8 else if j = 2 then 8 else 0) (z_u (z_u (z_u (z_u (z_u (z_u (z_u (z_u (z_u (z_u (z_or h0 x) 0 none) 1 none) 2 none) 3 none) 5 (some (x + 1 + 0))) 6 none) 8 (some (x + 1 + 1))) 9 none) 10 none) 12 (some (x + 1 + 2))) (z_u (z_u (z_u (z_oi h0 x) 4 (nI 1)) 7 mI) 11 (nI 0)) h2 ∧ z_J G (d + 4) (m_X5_init z_pu0) (.inl none, h2) 42 [some (.ref x)] [] h' by
    obtain ⟨h2, g2, J2⟩ := hh _ gp
    exact ⟨h2, g2, b_X5_init_37 (z_pu0V rfl) ⟨g.2.2.2.1, J2⟩⟩
  clear gp g h
  intro h g
  have gp := g_poi g 7 mI
  suffices hh : ∀ h' : z_H, gI h0 x 1 8 21 (fun j => if j = 0 then 1 else if j = 1 then 1 else if j = 2 then 1 else 0) (fun j => if j = 0 then 8 else if j = 1 then 8 else if j = 2 then 8 else 0) (z_u (z_u (z_u (z_u (z_u (z_u (z_or h0 x) 0 none) 1 none) 2 none) 3 none) 5 (some (x + 1 + 0))) 6 none) (z_u (z_u (z_oi h0 x) 4 (nI 1)) 7 mI) h' → ∃ h2, gI h0 x 3 24 21 (fun j => if j = 0 then 1 else if j = 1 then 1 else if j = 2 then 1 else 0) (fun j => if j = 0 then 8 else if j = 1 then 8 else if j = 2 then 8 else 0) (z_u (z_u (z_u (z_u (z_u (z_u (z_u (z_u (z_u (z_u (z_or h0 x) 0 none) 1 none) 2 none) 3 none) 5 (some (x + 1 + 0))) 6 none) 8 (some (x + 1 + 1))) 9 none) 10 none) 12 (some (x + 1 + 2))) (z_u (z_u (z_u (z_oi h0 x) 4 (nI 1)) 7 mI) 11 (nI 0)) h2 ∧ z_J G (d + 4) (m_X5_init z_pu0) (.inl none, h2) 47 [some (.ref x)] [] h' by
    obtain ⟨h2, g2, J2⟩ := hh _ gp
    exact ⟨h2, g2, b_X5_init_42 (z_pu0V rfl) ⟨g.2.2.2.1, J2⟩⟩
  clear gp g h
  intro h g
  have ga := g_nwi g rfl (Or.inl rfl) (m := Int32.toNatClampNeg (nI 8)) (nI_clamp (by decide)).symm
  have gp := g_por ga 8 (some (z_n h))
  rw [nI_clamp (show 8 < 2 ^ 31 by decide), g.1.1] at gp
  have kk := ga.2.2.2.1
  suffices hh : ∀ h' : z_H, gI h0 x 2 16 21 (fun j => if j = 0 then 1 else if j = 1 then 1 else if j = 2 then 1 else 0) (fun j => if j = 0 then 8 else if j = 1 then 8 else if j = 2 then 8 else 0) (z_u (z_u (z_u (z_u (z_u (z_u (z_u (z_or h0 x) 0 none) 1 none) 2 none) 3 none) 5 (some (x + 1 + 0))) 6 none) 8 (some (x + 1 + 1))) (z_u (z_u (z_oi h0 x) 4 (nI 1)) 7 mI) h' → ∃ h2, gI h0 x 3 24 21 (fun j => if j = 0 then 1 else if j = 1 then 1 else if j = 2 then 1 else 0) (fun j => if j = 0 then 8 else if j = 1 then 8 else if j = 2 then 8 else 0) (z_u (z_u (z_u (z_u (z_u (z_u (z_u (z_u (z_u (z_u (z_or h0 x) 0 none) 1 none) 2 none) 3 none) 5 (some (x + 1 + 0))) 6 none) 8 (some (x + 1 + 1))) 9 none) 10 none) 12 (some (x + 1 + 2))) (z_u (z_u (z_u (z_oi h0 x) 4 (nI 1)) 7 mI) 11 (nI 0)) h2 ∧ z_J G (d + 4) (m_X5_init z_pu0) (.inl none, h2) 55 [some (.ref x)] [] h' by
    obtain ⟨h2, g2, J2⟩ := hh _ gp
    refine ⟨h2, g2, b_X5_init_47 (z_pu0V rfl) ⟨by decide, by decide, kk, ?_⟩⟩
    rw [nI_clamp (show 8 < 2 ^ 31 by decide), g.1.1]
    exact J2
  clear ga gp kk g h
  intro h g
  have gp := g_por g 9 none
  suffices hh : ∀ h' : z_H, gI h0 x 2 16 21 (fun j => if j = 0 then 1 else if j = 1 then 1 else if j = 2 then 1 else 0) (fun j => if j = 0 then 8 else if j = 1 then 8 else if j = 2 then 8 else 0) (z_u (z_u (z_u (z_u (z_u (z_u (z_u (z_u (z_or h0 x) 0 none) 1 none) 2 none) 3 none) 5 (some (x + 1 + 0))) 6 none) 8 (some (x + 1 + 1))) 9 none) (z_u (z_u (z_oi h0 x) 4 (nI 1)) 7 mI) h' → ∃ h2, gI h0 x 3 24 21 (fun j => if j = 0 then 1 else if j = 1 then 1 else if j = 2 then 1 else 0) (fun j => if j = 0 then 8 else if j = 1 then 8 else if j = 2 then 8 else 0) (z_u (z_u (z_u (z_u (z_u (z_u (z_u (z_u (z_u (z_u (z_or h0 x) 0 none) 1 none) 2 none) 3 none) 5 (some (x + 1 + 0))) 6 none) 8 (some (x + 1 + 1))) 9 none) 10 none) 12 (some (x + 1 + 2))) (z_u (z_u (z_u (z_oi h0 x) 4 (nI 1)) 7 mI) 11 (nI 0)) h2 ∧ z_J G (d + 4) (m_X5_init z_pu0) (.inl none, h2) 60 [some (.ref x)] [] h' by
    obtain ⟨h2, g2, J2⟩ := hh _ gp
    exact ⟨h2, g2, b_X5_init_55 (z_pu0V rfl) ⟨g.2.2.2.1, J2⟩⟩
  clear gp g h
  intro h g
  have gp := g_por g 10 none
  suffices hh : ∀ h' : z_H, gI h0 x 2 16 21 (fun j => if j = 0 then 1 else if j = 1 then 1 else if j = 2 then 1 else 0) (fun j => if j = 0 then 8 else if j = 1 then 8 else if j = 2 then 8 else 0) (z_u (z_u (z_u (z_u (z_u (z_u (z_u (z_u (z_u (z_or h0 x) 0 none) 1 none) 2 none) 3 none) 5 (some (x + 1 + 0))) 6 none) 8 (some (x + 1 + 1))) 9 none) 10 none) (z_u (z_u (z_oi h0 x) 4 (nI 1)) 7 mI) h' → ∃ h2, gI h0 x 3 24 21 (fun j => if j = 0 then 1 else if j = 1 then 1 else if j = 2 then 1 else 0) (fun j => if j = 0 then 8 else if j = 1 then 8 else if j = 2 then 8 else 0) (z_u (z_u (z_u (z_u (z_u (z_u (z_u (z_u (z_u (z_u (z_or h0 x) 0 none) 1 none) 2 none) 3 none) 5 (some (x + 1 + 0))) 6 none) 8 (some (x + 1 + 1))) 9 none) 10 none) 12 (some (x + 1 + 2))) (z_u (z_u (z_u (z_oi h0 x) 4 (nI 1)) 7 mI) 11 (nI 0)) h2 ∧ z_J G (d + 4) (m_X5_init z_pu0) (.inl none, h2) 65 [some (.ref x)] [] h' by
    obtain ⟨h2, g2, J2⟩ := hh _ gp
    exact ⟨h2, g2, b_X5_init_60 (z_pu0V rfl) ⟨g.2.2.2.1, J2⟩⟩
  clear gp g h
  intro h g
  have gp := g_poi g 11 (nI 0)
  suffices hh : ∀ h' : z_H, gI h0 x 2 16 21 (fun j => if j = 0 then 1 else if j = 1 then 1 else if j = 2 then 1 else 0) (fun j => if j = 0 then 8 else if j = 1 then 8 else if j = 2 then 8 else 0) (z_u (z_u (z_u (z_u (z_u (z_u (z_u (z_u (z_u (z_or h0 x) 0 none) 1 none) 2 none) 3 none) 5 (some (x + 1 + 0))) 6 none) 8 (some (x + 1 + 1))) 9 none) 10 none) (z_u (z_u (z_u (z_oi h0 x) 4 (nI 1)) 7 mI) 11 (nI 0)) h' → ∃ h2, gI h0 x 3 24 21 (fun j => if j = 0 then 1 else if j = 1 then 1 else if j = 2 then 1 else 0) (fun j => if j = 0 then 8 else if j = 1 then 8 else if j = 2 then 8 else 0) (z_u (z_u (z_u (z_u (z_u (z_u (z_u (z_u (z_u (z_u (z_or h0 x) 0 none) 1 none) 2 none) 3 none) 5 (some (x + 1 + 0))) 6 none) 8 (some (x + 1 + 1))) 9 none) 10 none) 12 (some (x + 1 + 2))) (z_u (z_u (z_u (z_oi h0 x) 4 (nI 1)) 7 mI) 11 (nI 0)) h2 ∧ z_J G (d + 4) (m_X5_init z_pu0) (.inl none, h2) 70 [some (.ref x)] [] h' by
    obtain ⟨h2, g2, J2⟩ := hh _ gp
    exact ⟨h2, g2, b_X5_init_65 (z_pu0V rfl) ⟨g.2.2.2.1, J2⟩⟩
  clear gp g h
  intro h g
  have ga := g_nwi g rfl (Or.inl rfl) (m := Int32.toNatClampNeg (nI 8)) (nI_clamp (by decide)).symm
  have gp := g_por ga 12 (some (z_n h))
  rw [nI_clamp (show 8 < 2 ^ 31 by decide), g.1.1] at gp
  have kk := ga.2.2.2.1
  suffices hh : ∀ h' : z_H, gI h0 x 3 24 21 (fun j => if j = 0 then 1 else if j = 1 then 1 else if j = 2 then 1 else 0) (fun j => if j = 0 then 8 else if j = 1 then 8 else if j = 2 then 8 else 0) (z_u (z_u (z_u (z_u (z_u (z_u (z_u (z_u (z_u (z_u (z_or h0 x) 0 none) 1 none) 2 none) 3 none) 5 (some (x + 1 + 0))) 6 none) 8 (some (x + 1 + 1))) 9 none) 10 none) 12 (some (x + 1 + 2))) (z_u (z_u (z_u (z_oi h0 x) 4 (nI 1)) 7 mI) 11 (nI 0)) h' → ∃ h2, gI h0 x 3 24 21 (fun j => if j = 0 then 1 else if j = 1 then 1 else if j = 2 then 1 else 0) (fun j => if j = 0 then 8 else if j = 1 then 8 else if j = 2 then 8 else 0) (z_u (z_u (z_u (z_u (z_u (z_u (z_u (z_u (z_u (z_u (z_or h0 x) 0 none) 1 none) 2 none) 3 none) 5 (some (x + 1 + 0))) 6 none) 8 (some (x + 1 + 1))) 9 none) 10 none) 12 (some (x + 1 + 2))) (z_u (z_u (z_u (z_oi h0 x) 4 (nI 1)) 7 mI) 11 (nI 0)) h2 ∧ z_J G (d + 4) (m_X5_init z_pu0) (.inl none, h2) 78 [none] [] h' by
    obtain ⟨h2, g2, J2⟩ := hh _ gp
    refine ⟨h2, g2, b_X5_init_70 (z_pu0V rfl) ⟨by decide, by decide, kk, ?_⟩⟩
    rw [nI_clamp (show 8 < 2 ^ 31 by decide), g.1.1]
    exact J2
  clear ga gp kk g h
  intro h g
  exact ⟨h, g, b_X5_init_78 (z_pu0V rfl) rfl⟩
theorem e4_init (hn : z_n h0 = x + 1) (hk : z_kd h0 x = 20) : ∃ h2, gI h0 x 7 164 20 (fun j => if j = 0 then 2 else if j = 1 then 2 else if j = 2 then 1 else if j = 3 then 1 else if j = 4 then 1 else if j = 5 then 6 else if j = 6 then 1 else 0) (fun j => if j = 0 then 8 else if j = 1 then 8 else if j = 2 then 108 else if j = 3 then 12 else if j = 4 then 12 else if j = 5 then 8 else if j = 6 then 8 else 0) (z_u (z_u (z_u (z_u (z_u (z_u (z_u (z_u (z_u (z_or h0 x) 0 none) 1 none) 2 (some (x + 1 + 0))) 3 (some (x + 1 + 1))) 6 (some (x + 1 + 2))) 7 (some (x + 1 + 3))) 8 (some (x + 1 + 4))) 9 (some (x + 1 + 5))) 10 (some (x + 1 + 6))) (z_u (z_u (z_u (z_oi h0 x) 4 (nI 0)) 5 (nI 0)) 11 mI) h2 ∧ z_Ev G (d + 4) k_X4_init [.ref x] h0 (.inl none, h2) := by
  suffices hh : ∀ h : z_H, gI h0 x 0 0 20 (fun j => if j = 0 then 2 else if j = 1 then 2 else if j = 2 then 1 else if j = 3 then 1 else if j = 4 then 1 else if j = 5 then 6 else if j = 6 then 1 else 0) (fun j => if j = 0 then 8 else if j = 1 then 8 else if j = 2 then 108 else if j = 3 then 12 else if j = 4 then 12 else if j = 5 then 8 else if j = 6 then 8 else 0) (z_or h0 x) (z_oi h0 x) h → ∃ h2, gI h0 x 7 164 20 (fun j => if j = 0 then 2 else if j = 1 then 2 else if j = 2 then 1 else if j = 3 then 1 else if j = 4 then 1 else if j = 5 then 6 else if j = 6 then 1 else 0) (fun j => if j = 0 then 8 else if j = 1 then 8 else if j = 2 then 108 else if j = 3 then 12 else if j = 4 then 12 else if j = 5 then 8 else if j = 6 then 8 else 0) (z_u (z_u (z_u (z_u (z_u (z_u (z_u (z_u (z_u (z_or h0 x) 0 none) 1 none) 2 (some (x + 1 + 0))) 3 (some (x + 1 + 1))) 6 (some (x + 1 + 2))) 7 (some (x + 1 + 3))) 8 (some (x + 1 + 4))) 9 (some (x + 1 + 5))) 10 (some (x + 1 + 6))) (z_u (z_u (z_u (z_oi h0 x) 4 (nI 0)) 5 (nI 0)) 11 mI) h2 ∧ z_J G (d + 4) (m_X4_init z_pu0) (.inl none, h2) 4 [some (.ref x)] [] h by
    obtain ⟨h2, g2, J2⟩ := hh h0 (g_0 hn hk)
    exact ⟨h2, g2, en_X4_init (b_X4_init_0 (z_pu0V rfl) J2)⟩
  intro h g
  have gp := g_por g 0 none
  suffices hh : ∀ h' : z_H, gI h0 x 0 0 20 (fun j => if j = 0 then 2 else if j = 1 then 2 else if j = 2 then 1 else if j = 3 then 1 else if j = 4 then 1 else if j = 5 then 6 else if j = 6 then 1 else 0) (fun j => if j = 0 then 8 else if j = 1 then 8 else if j = 2 then 108 else if j = 3 then 12 else if j = 4 then 12 else if j = 5 then 8 else if j = 6 then 8 else 0) (z_u (z_or h0 x) 0 none) (z_oi h0 x) h' → ∃ h2, gI h0 x 7 164 20 (fun j => if j = 0 then 2 else if j = 1 then 2 else if j = 2 then 1 else if j = 3 then 1 else if j = 4 then 1 else if j = 5 then 6 else if j = 6 then 1 else 0) (fun j => if j = 0 then 8 else if j = 1 then 8 else if j = 2 then 108 else if j = 3 then 12 else if j = 4 then 12 else if j = 5 then 8 else if j = 6 then 8 else 0) (z_u (z_u (z_u (z_u (z_u (z_u (z_u (z_u (z_u (z_or h0 x) 0 none) 1 none) 2 (some (x + 1 + 0))) 3 (some (x + 1 + 1))) 6 (some (x + 1 + 2))) 7 (some (x + 1 + 3))) 8 (some (x + 1 + 4))) 9 (some (x + 1 + 5))) 10 (some (x + 1 + 6))) (z_u (z_u (z_u (z_oi h0 x) 4 (nI 0)) 5 (nI 0)) 11 mI) h2 ∧ z_J G (d + 4) (m_X4_init z_pu0) (.inl none, h2) 9 [some (.ref x)] [] h' by
    obtain ⟨h2, g2, J2⟩ := hh _ gp
    exact ⟨h2, g2, b_X4_init_4 (z_pu0V rfl) ⟨g.2.2.2.1, J2⟩⟩
  clear gp g h
  intro h g
  have gp := g_por g 1 none
  suffices hh : ∀ h' : z_H, gI h0 x 0 0 20 (fun j => if j = 0 then 2 else if j = 1 then 2 else if j = 2 then 1 else if j = 3 then 1 else if j = 4 then 1 else if j = 5 then 6 else if j = 6 then 1 else 0) (fun j => if j = 0 then 8 else if j = 1 then 8 else if j = 2 then 108 else if j = 3 then 12 else if j = 4 then 12 else if j = 5 then 8 else if j = 6 then 8 else 0) (z_u (z_u (z_or h0 x) 0 none) 1 none) (z_oi h0 x) h' → ∃ h2, gI h0 x 7 164 20 (fun j => if j = 0 then 2 else if j = 1 then 2 else if j = 2 then 1 else if j = 3 then 1 else if j = 4 then 1 else if j = 5 then 6 else if j = 6 then 1 else 0) (fun j => if j = 0 then 8 else if j = 1 then 8 else if j = 2 then 108 else if j = 3 then 12 else if j = 4 then 12 else if j = 5 then 8 else if j = 6 then 8 else 0) (z_u (z_u (z_u (z_u (z_u (z_u (z_u (z_u (z_u (z_or h0 x) 0 none) 1 none) 2 (some (x + 1 + 0))) 3 (some (x + 1 + 1))) 6 (some (x + 1 + 2))) 7 (some (x + 1 + 3))) 8 (some (x + 1 + 4))) 9 (some (x + 1 + 5))) 10 (some (x + 1 + 6))) (z_u (z_u (z_u (z_oi h0 x) 4 (nI 0)) 5 (nI 0)) 11 mI) h2 ∧ z_J G (d + 4) (m_X4_init z_pu0) (.inl none, h2) 14 [some (.ref x)] [] h' by
    obtain ⟨h2, g2, J2⟩ := hh _ gp
    exact ⟨h2, g2, b_X4_init_9 (z_pu0V rfl) ⟨g.2.2.2.1, J2⟩⟩
  clear gp g h
  intro h g
  have ga := g_nwl g rfl (m := Int32.toNatClampNeg (nI 8)) (nI_clamp (by decide)).symm
  have gp := g_por ga 2 (some (z_n h))
  rw [nI_clamp (show 8 < 2 ^ 31 by decide), g.1.1] at gp
  have kk := ga.2.2.2.1
  suffices hh : ∀ h' : z_H, gI h0 x 1 8 20 (fun j => if j = 0 then 2 else if j = 1 then 2 else if j = 2 then 1 else if j = 3 then 1 else if j = 4 then 1 else if j = 5 then 6 else if j = 6 then 1 else 0) (fun j => if j = 0 then 8 else if j = 1 then 8 else if j = 2 then 108 else if j = 3 then 12 else if j = 4 then 12 else if j = 5 then 8 else if j = 6 then 8 else 0) (z_u (z_u (z_u (z_or h0 x) 0 none) 1 none) 2 (some (x + 1 + 0))) (z_oi h0 x) h' → ∃ h2, gI h0 x 7 164 20 (fun j => if j = 0 then 2 else if j = 1 then 2 else if j = 2 then 1 else if j = 3 then 1 else if j = 4 then 1 else if j = 5 then 6 else if j = 6 then 1 else 0) (fun j => if j = 0 then 8 else if j = 1 then 8 else if j = 2 then 108 else if j = 3 then 12 else if j = 4 then 12 else if j = 5 then 8 else if j = 6 then 8 else 0) (z_u (z_u (z_u (z_u (z_u (z_u (z_u (z_u (z_u (z_or h0 x) 0 none) 1 none) 2 (some (x + 1 + 0))) 3 (some (x + 1 + 1))) 6 (some (x + 1 + 2))) 7 (some (x + 1 + 3))) 8 (some (x + 1 + 4))) 9 (some (x + 1 + 5))) 10 (some (x + 1 + 6))) (z_u (z_u (z_u (z_oi h0 x) 4 (nI 0)) 5 (nI 0)) 11 mI) h2 ∧ z_J G (d + 4) (m_X4_init z_pu0) (.inl none, h2) 22 [some (.ref x)] [] h' by
    obtain ⟨h2, g2, J2⟩ := hh _ gp
    refine ⟨h2, g2, b_X4_init_14 (z_pu0V rfl) ⟨by decide, by decide, kk, ?_⟩⟩
    rw [nI_clamp (show 8 < 2 ^ 31 by decide), g.1.1]
    exact J2
  clear ga gp kk g h
  intro h g
  have ga := g_nwl g rfl (m := Int32.toNatClampNeg (nI 8)) (nI_clamp (by decide)).symm
  have gp := g_por ga 3 (some (z_n h))
  rw [nI_clamp (show 8 < 2 ^ 31 by decide), g.1.1] at gp
  have kk := ga.2.2.2.1
  suffices hh : ∀ h' : z_H, gI h0 x 2 16 20 (fun j => if j = 0 then 2 else if j = 1 then 2 else if j = 2 then 1 else if j = 3 then 1 else if j = 4 then 1 else if j = 5 then 6 else if j = 6 then 1 else 0) (fun j => if j = 0 then 8 else if j = 1 then 8 else if j = 2 then 108 else if j = 3 then 12 else if j = 4 then 12 else if j = 5 then 8 else if j = 6 then 8 else 0) (z_u (z_u (z_u (z_u (z_or h0 x) 0 none) 1 none) 2 (some (x + 1 + 0))) 3 (some (x + 1 + 1))) (z_oi h0 x) h' → ∃ h2, gI h0 x 7 164 20 (fun j => if j = 0 then 2 else if j = 1 then 2 else if j = 2 then 1 else if j = 3 then 1 else if j = 4 then 1 else if j = 5 then 6 else if j = 6 then 1 else 0) (fun j => if j = 0 then 8 else if j = 1 then 8 else if j = 2 then 108 else if j = 3 then 12 else if j = 4 then 12 else if j = 5 then 8 else if j = 6 then 8 else 0) (z_u (z_u (z_u (z_u (z_u (z_u (z_u (z_u (z_u (z_or h0 x) 0 none) 1 none) 2 (some (x + 1 + 0))) 3 (some (x + 1 + 1))) 6 (some (x + 1 + 2))) 7 (some (x + 1 + 3))) 8 (some (x + 1 + 4))) 9 (some (x + 1 + 5))) 10 (some (x + 1 + 6))) (z_u (z_u (z_u (z_oi h0 x) 4 (nI 0)) 5 (nI 0)) 11 mI) h2 ∧ z_J G (d + 4) (m_X4_init z_pu0) (.inl none, h2) 30 [some (.ref x)] [] h' by
    obtain ⟨h2, g2, J2⟩ := hh _ gp
    refine ⟨h2, g2, b_X4_init_22 (z_pu0V rfl) ⟨by decide, by decide, kk, ?_⟩⟩
    rw [nI_clamp (show 8 < 2 ^ 31 by decide), g.1.1]
    exact J2
  clear ga gp kk g h
  intro h g
  have gp := g_poi g 4 (nI 0)
  suffices hh : ∀ h' : z_H, gI h0 x 2 16 20 (fun j => if j = 0 then 2 else if j = 1 then 2 else if j = 2 then 1 else if j = 3 then 1 else if j = 4 then 1 else if j = 5 then 6 else if j = 6 then 1 else 0) (fun j => if j = 0 then 8 else if j = 1 then 8 else if j = 2 then 108 else if j = 3 then 12 else if j = 4 then 12 else if j = 5 then 8 else if j = 6 then 8 else 0) (z_u (z_u (z_u (z_u (z_or h0 x) 0 none) 1 none) 2 (some (x + 1 + 0))) 3 (some (x + 1 + 1))) (z_u (z_oi h0 x) 4 (nI 0)) h' → ∃ h2, gI h0 x 7 164 20 (fun j => if j = 0 then 2 else if j = 1 then 2 else if j = 2 then 1 else if j = 3 then 1 else if j = 4 then 1 else if j = 5 then 6 else if j = 6 then 1 else 0) (fun j => if j = 0 then 8 else if j = 1 then 8 else if j = 2 then 108 else if j = 3 then 12 else if j = 4 then 12 else if j = 5 then 8 else if j = 6 then 8 else 0) (z_u (z_u (z_u (z_u (z_u (z_u (z_u (z_u (z_u (z_or h0 x) 0 none) 1 none) 2 (some (x + 1 + 0))) 3 (some (x + 1 + 1))) 6 (some (x + 1 + 2))) 7 (some (x + 1 + 3))) 8 (some (x + 1 + 4))) 9 (some (x + 1 + 5))) 10 (some (x + 1 + 6))) (z_u (z_u (z_u (z_oi h0 x) 4 (nI 0)) 5 (nI 0)) 11 mI) h2 ∧ z_J G (d + 4) (m_X4_init z_pu0) (.inl none, h2) 35 [some (.ref x)] [] h' by
    obtain ⟨h2, g2, J2⟩ := hh _ gp
    exact ⟨h2, g2, b_X4_init_30 (z_pu0V rfl) ⟨g.2.2.2.1, Or.inl rfl, J2⟩⟩
  clear gp g h
  intro h g
  have gp := g_poi g 5 (nI 0)
  suffices hh : ∀ h' : z_H, gI h0 x 2 16 20 (fun j => if j = 0 then 2 else if j = 1 then 2 else if j = 2 then 1 else if j = 3 then 1 else if j = 4 then 1 else if j = 5 then 6 else if j = 6 then 1 else 0) (fun j => if j = 0 then 8 else if j = 1 then 8 else if j = 2 then 108 else if j = 3 then 12 else if j = 4 then 12 else if j = 5 then 8 else if j = 6 then 8 else 0) (z_u (z_u (z_u (z_u (z_or h0 x) 0 none) 1 none) 2 (some (x + 1 + 0))) 3 (some (x + 1 + 1))) (z_u (z_u (z_oi h0 x) 4 (nI 0)) 5 (nI 0)) h' → ∃ h2, gI h0 x 7 164 20 (fun j => if j = 0 then 2 else if j = 1 then 2 else if j = 2 then 1 else if j = 3 then 1 else if j = 4 then 1 else if j = 5 then 6 else if j = 6 then 1 else 0) (fun j => if j = 0 then 8 else if j = 1 then 8 else if j = 2 then 108 else if j = 3 then 12 else if j = 4 then 12 else if j = 5 then 8 else if j = 6 then 8 else 0) (z_u (z_u (z_u (z_u (z_u (z_u (z_u (z_u (z_u (z_or h0 x) 0 none) 1 none) 2 (some (x + 1 + 0))) 3 (some (x + 1 + 1))) 6 (some (x + 1 + 2))) 7 (some (x + 1 + 3))) 8 (some (x + 1 + 4))) 9 (some (x + 1 + 5))) 10 (some (x + 1 + 6))) (z_u (z_u (z_u (z_oi h0 x) 4 (nI 0)) 5 (nI 0)) 11 mI) h2 ∧ z_J G (d + 4) (m_X4_init z_pu0) (.inl none, h2) 40 [some (.ref x)] [] h' by
    obtain ⟨h2, g2, J2⟩ := hh _ gp
    exact ⟨h2, g2, b_X4_init_35 (z_pu0V rfl) ⟨g.2.2.2.1, Or.inl rfl, J2⟩⟩
  clear gp g h
  intro h g
  have ga := g_nwi g rfl (Or.inl rfl) (m := Int32.toNatClampNeg (nI 108)) (nI_clamp (by decide)).symm
  have gp := g_por ga 6 (some (z_n h))
  rw [nI_clamp (show 108 < 2 ^ 31 by decide), g.1.1] at gp
  have kk := ga.2.2.2.1
  suffices hh : ∀ h' : z_H, gI h0 x 3 124 20 (fun j => if j = 0 then 2 else if j = 1 then 2 else if j = 2 then 1 else if j = 3 then 1 else if j = 4 then 1 else if j = 5 then 6 else if j = 6 then 1 else 0) (fun j => if j = 0 then 8 else if j = 1 then 8 else if j = 2 then 108 else if j = 3 then 12 else if j = 4 then 12 else if j = 5 then 8 else if j = 6 then 8 else 0) (z_u (z_u (z_u (z_u (z_u (z_or h0 x) 0 none) 1 none) 2 (some (x + 1 + 0))) 3 (some (x + 1 + 1))) 6 (some (x + 1 + 2))) (z_u (z_u (z_oi h0 x) 4 (nI 0)) 5 (nI 0)) h' → ∃ h2, gI h0 x 7 164 20 (fun j => if j = 0 then 2 else if j = 1 then 2 else if j = 2 then 1 else if j = 3 then 1 else if j = 4 then 1 else if j = 5 then 6 else if j = 6 then 1 else 0) (fun j => if j = 0 then 8 else if j = 1 then 8 else if j = 2 then 108 else if j = 3 then 12 else if j = 4 then 12 else if j = 5 then 8 else if j = 6 then 8 else 0) (z_u (z_u (z_u (z_u (z_u (z_u (z_u (z_u (z_u (z_or h0 x) 0 none) 1 none) 2 (some (x + 1 + 0))) 3 (some (x + 1 + 1))) 6 (some (x + 1 + 2))) 7 (some (x + 1 + 3))) 8 (some (x + 1 + 4))) 9 (some (x + 1 + 5))) 10 (some (x + 1 + 6))) (z_u (z_u (z_u (z_oi h0 x) 4 (nI 0)) 5 (nI 0)) 11 mI) h2 ∧ z_J G (d + 4) (m_X4_init z_pu0) (.inl none, h2) 48 [some (.ref x)] [] h' by
    obtain ⟨h2, g2, J2⟩ := hh _ gp
    refine ⟨h2, g2, b_X4_init_40 (z_pu0V rfl) ⟨by decide, by decide, kk, ?_⟩⟩
    rw [nI_clamp (show 108 < 2 ^ 31 by decide), g.1.1]
    exact J2
  clear ga gp kk g h
  intro h g
  have ga := g_nwi g rfl (Or.inl rfl) (m := Int32.toNatClampNeg (nI 12)) (nI_clamp (by decide)).symm
  have gp := g_por ga 7 (some (z_n h))
  rw [nI_clamp (show 12 < 2 ^ 31 by decide), g.1.1] at gp
  have kk := ga.2.2.2.1
  suffices hh : ∀ h' : z_H, gI h0 x 4 136 20 (fun j => if j = 0 then 2 else if j = 1 then 2 else if j = 2 then 1 else if j = 3 then 1 else if j = 4 then 1 else if j = 5 then 6 else if j = 6 then 1 else 0) (fun j => if j = 0 then 8 else if j = 1 then 8 else if j = 2 then 108 else if j = 3 then 12 else if j = 4 then 12 else if j = 5 then 8 else if j = 6 then 8 else 0) (z_u (z_u (z_u (z_u (z_u (z_u (z_or h0 x) 0 none) 1 none) 2 (some (x + 1 + 0))) 3 (some (x + 1 + 1))) 6 (some (x + 1 + 2))) 7 (some (x + 1 + 3))) (z_u (z_u (z_oi h0 x) 4 (nI 0)) 5 (nI 0)) h' → ∃ h2, gI h0 x 7 164 20 (fun j => if j = 0 then 2 else if j = 1 then 2 else if j = 2 then 1 else if j = 3 then 1 else if j = 4 then 1 else if j = 5 then 6 else if j = 6 then 1 else 0) (fun j => if j = 0 then 8 else if j = 1 then 8 else if j = 2 then 108 else if j = 3 then 12 else if j = 4 then 12 else if j = 5 then 8 else if j = 6 then 8 else 0) (z_u (z_u (z_u (z_u (z_u (z_u (z_u (z_u (z_u (z_or h0 x) 0 none) 1 none) 2 (some (x + 1 + 0))) 3 (some (x + 1 + 1))) 6 (some (x + 1 + 2))) 7 (some (x + 1 + 3))) 8 (some (x + 1 + 4))) 9 (some (x + 1 + 5))) 10 (some (x + 1 + 6))) (z_u (z_u (z_u (z_oi h0 x) 4 (nI 0)) 5 (nI 0)) 11 mI) h2 ∧ z_J G (d + 4) (m_X4_init z_pu0) (.inl none, h2) 56 [some (.ref x)] [] h' by
    obtain ⟨h2, g2, J2⟩ := hh _ gp
    refine ⟨h2, g2, b_X4_init_48 (z_pu0V rfl) ⟨by decide, by decide, kk, ?_⟩⟩
    rw [nI_clamp (show 12 < 2 ^ 31 by decide), g.1.1]
    exact J2
  clear ga gp kk g h
  intro h g
  have ga := g_nwi g rfl (Or.inl rfl) (m := Int32.toNatClampNeg (nI 12)) (nI_clamp (by decide)).symm
  have gp := g_por ga 8 (some (z_n h))
  rw [nI_clamp (show 12 < 2 ^ 31 by decide), g.1.1] at gp
  have kk := ga.2.2.2.1
  suffices hh : ∀ h' : z_H, gI h0 x 5 148 20 (fun j => if j = 0 then 2 else if j = 1 then 2 else if j = 2 then 1 else if j = 3 then 1 else if j = 4 then 1 else if j = 5 then 6 else if j = 6 then 1 else 0) (fun j => if j = 0 then 8 else if j = 1 then 8 else if j = 2 then 108 else if j = 3 then 12 else if j = 4 then 12 else if j = 5 then 8 else if j = 6 then 8 else 0) (z_u (z_u (z_u (z_u (z_u (z_u (z_u (z_or h0 x) 0 none) 1 none) 2 (some (x + 1 + 0))) 3 (some (x + 1 + 1))) 6 (some (x + 1 + 2))) 7 (some (x + 1 + 3))) 8 (some (x + 1 + 4))) (z_u (z_u (z_oi h0 x) 4 (nI 0)) 5 (nI 0)) h' → ∃ h2, gI h0 x 7 164 20 (fun j => if j = 0 then 2 else if j = 1 then 2 else if j = 2 then 1 else if j = 3 then 1 else if j = 4 then 1 else if j = 5 then 6 else if j = 6 then 1 else 0) (fun j => if j = 0 then 8 else if j = 1 then 8 else if j = 2 then 108 else if j = 3 then 12 else if j = 4 then 12 else if j = 5 then 8 else if j = 6 then 8 else 0) (z_u (z_u (z_u (z_u (z_u (z_u (z_u (z_u (z_u (z_or h0 x) 0 none) 1 none) 2 (some (x + 1 + 0))) 3 (some (x + 1 + 1))) 6 (some (x + 1 + 2))) 7 (some (x + 1 + 3))) 8 (some (x + 1 + 4))) 9 (some (x + 1 + 5))) 10 (some (x + 1 + 6))) (z_u (z_u (z_u (z_oi h0 x) 4 (nI 0)) 5 (nI 0)) 11 mI) h2 ∧ z_J G (d + 4) (m_X4_init z_pu0) (.inl none, h2) 64 [some (.ref x)] [] h' by
    obtain ⟨h2, g2, J2⟩ := hh _ gp
    refine ⟨h2, g2, b_X4_init_56 (z_pu0V rfl) ⟨by decide, by decide, kk, ?_⟩⟩
    rw [nI_clamp (show 12 < 2 ^ 31 by decide), g.1.1]
    exact J2
  clear ga gp kk g h
  intro h g
  have ga := g_nwr g rfl (Or.inr rfl) (m := Int32.toNatClampNeg (nI 8)) (nI_clamp (by decide)).symm
  have gp := g_por ga 9 (some (z_n h))
  rw [nI_clamp (show 8 < 2 ^ 31 by decide), g.1.1] at gp
  have kk := ga.2.2.2.1
  suffices hh : ∀ h' : z_H, gI h0 x 6 156 20 (fun j => if j = 0 then 2 else if j = 1 then 2 else if j = 2 then 1 else if j = 3 then 1 else if j = 4 then 1 else if j = 5 then 6 else if j = 6 then 1 else 0) (fun j => if j = 0 then 8 else if j = 1 then 8 else if j = 2 then 108 else if j = 3 then 12 else if j = 4 then 12 else if j = 5 then 8 else if j = 6 then 8 else 0) (z_u (z_u (z_u (z_u (z_u (z_u (z_u (z_u (z_or h0 x) 0 none) 1 none) 2 (some (x + 1 + 0))) 3 (some (x + 1 + 1))) 6 (some (x + 1 + 2))) 7 (some (x + 1 + 3))) 8 (some (x + 1 + 4))) 9 (some (x + 1 + 5))) (z_u (z_u (z_oi h0 x) 4 (nI 0)) 5 (nI 0)) h' → ∃ h2, gI h0 x 7 164 20 (fun j => if j = 0 then 2 else if j = 1 then 2 else if j = 2 then 1 else if j = 3 then 1 else if j = 4 then 1 else if j = 5 then 6 else if j = 6 then 1 else 0) (fun j => if j = 0 then 8 else if j = 1 then 8 else if j = 2 then 108 else if j = 3 then 12 else if j = 4 then 12 else if j = 5 then 8 else if j = 6 then 8 else 0) (z_u (z_u (z_u (z_u (z_u (z_u (z_u (z_u (z_u (z_or h0 x) 0 none) 1 none) 2 (some (x + 1 + 0))) 3 (some (x + 1 + 1))) 6 (some (x + 1 + 2))) 7 (some (x + 1 + 3))) 8 (some (x + 1 + 4))) 9 (some (x + 1 + 5))) 10 (some (x + 1 + 6))) (z_u (z_u (z_u (z_oi h0 x) 4 (nI 0)) 5 (nI 0)) 11 mI) h2 ∧ z_J G (d + 4) (m_X4_init z_pu0) (.inl none, h2) 73 [some (.ref x)] [] h' by
    obtain ⟨h2, g2, J2⟩ := hh _ gp
    refine ⟨h2, g2, b_X4_init_64 (z_pu0V rfl) ⟨by decide, by decide, kk, ?_⟩⟩
    rw [nI_clamp (show 8 < 2 ^ 31 by decide), g.1.1]
    exact J2
  clear ga gp kk g h
  intro h g
  have ga := g_nwi g rfl (Or.inl rfl) (m := Int32.toNatClampNeg (nI 8)) (nI_clamp (by decide)).symm
  have gp := g_por ga 10 (some (z_n h))
  rw [nI_clamp (show 8 < 2 ^ 31 by decide), g.1.1] at gp
  have kk := ga.2.2.2.1
  suffices hh : ∀ h' : z_H, gI h0 x 7 164 20 (fun j => if j = 0 then 2 else if j = 1 then 2 else if j = 2 then 1 else if j = 3 then 1 else if j = 4 then 1 else if j = 5 then 6 else if j = 6 then 1 else 0) (fun j => if j = 0 then 8 else if j = 1 then 8 else if j = 2 then 108 else if j = 3 then 12 else if j = 4 then 12 else if j = 5 then 8 else if j = 6 then 8 else 0) (z_u (z_u (z_u (z_u (z_u (z_u (z_u (z_u (z_u (z_or h0 x) 0 none) 1 none) 2 (some (x + 1 + 0))) 3 (some (x + 1 + 1))) 6 (some (x + 1 + 2))) 7 (some (x + 1 + 3))) 8 (some (x + 1 + 4))) 9 (some (x + 1 + 5))) 10 (some (x + 1 + 6))) (z_u (z_u (z_oi h0 x) 4 (nI 0)) 5 (nI 0)) h' → ∃ h2, gI h0 x 7 164 20 (fun j => if j = 0 then 2 else if j = 1 then 2 else if j = 2 then 1 else if j = 3 then 1 else if j = 4 then 1 else if j = 5 then 6 else if j = 6 then 1 else 0) (fun j => if j = 0 then 8 else if j = 1 then 8 else if j = 2 then 108 else if j = 3 then 12 else if j = 4 then 12 else if j = 5 then 8 else if j = 6 then 8 else 0) (z_u (z_u (z_u (z_u (z_u (z_u (z_u (z_u (z_u (z_or h0 x) 0 none) 1 none) 2 (some (x + 1 + 0))) 3 (some (x + 1 + 1))) 6 (some (x + 1 + 2))) 7 (some (x + 1 + 3))) 8 (some (x + 1 + 4))) 9 (some (x + 1 + 5))) 10 (some (x + 1 + 6))) (z_u (z_u (z_u (z_oi h0 x) 4 (nI 0)) 5 (nI 0)) 11 mI) h2 ∧ z_J G (d + 4) (m_X4_init z_pu0) (.inl none, h2) 81 [some (.ref x)] [] h' by
    obtain ⟨h2, g2, J2⟩ := hh _ gp
    refine ⟨h2, g2, b_X4_init_73 (z_pu0V rfl) ⟨by decide, by decide, kk, ?_⟩⟩
    rw [nI_clamp (show 8 < 2 ^ 31 by decide), g.1.1]
    exact J2
  clear ga gp kk g h
  intro h g
  have gp := g_poi g 11 mI
  suffices hh : ∀ h' : z_H, gI h0 x 7 164 20 (fun j => if j = 0 then 2 else if j = 1 then 2 else if j = 2 then 1 else if j = 3 then 1 else if j = 4 then 1 else if j = 5 then 6 else if j = 6 then 1 else 0) (fun j => if j = 0 then 8 else if j = 1 then 8 else if j = 2 then 108 else if j = 3 then 12 else if j = 4 then 12 else if j = 5 then 8 else if j = 6 then 8 else 0) (z_u (z_u (z_u (z_u (z_u (z_u (z_u (z_u (z_u (z_or h0 x) 0 none) 1 none) 2 (some (x + 1 + 0))) 3 (some (x + 1 + 1))) 6 (some (x + 1 + 2))) 7 (some (x + 1 + 3))) 8 (some (x + 1 + 4))) 9 (some (x + 1 + 5))) 10 (some (x + 1 + 6))) (z_u (z_u (z_u (z_oi h0 x) 4 (nI 0)) 5 (nI 0)) 11 mI) h' → ∃ h2, gI h0 x 7 164 20 (fun j => if j = 0 then 2 else if j = 1 then 2 else if j = 2 then 1 else if j = 3 then 1 else if j = 4 then 1 else if j = 5 then 6 else if j = 6 then 1 else 0) (fun j => if j = 0 then 8 else if j = 1 then 8 else if j = 2 then 108 else if j = 3 then 12 else if j = 4 then 12 else if j = 5 then 8 else if j = 6 then 8 else 0) (z_u (z_u (z_u (z_u (z_u (z_u (z_u (z_u (z_u (z_or h0 x) 0 none) 1 none) 2 (some (x + 1 + 0))) 3 (some (x + 1 + 1))) 6 (some (x + 1 + 2))) 7 (some (x + 1 + 3))) 8 (some (x + 1 + 4))) 9 (some (x + 1 + 5))) 10 (some (x + 1 + 6))) (z_u (z_u (z_u (z_oi h0 x) 4 (nI 0)) 5 (nI 0)) 11 mI) h2 ∧ z_J G (d + 4) (m_X4_init z_pu0) (.inl none, h2) 86 [none] [] h' by
    obtain ⟨h2, g2, J2⟩ := hh _ gp
    exact ⟨h2, g2, b_X4_init_81 (z_pu0V rfl) ⟨g.2.2.2.1, J2⟩⟩
  clear gp g h
  intro h g
  exact ⟨h, g, b_X4_init_86 (z_pu0V rfl) rfl⟩
theorem e2_init (hn : z_n h0 = x + 1) (hk : z_kd h0 x = 18) : ∃ h2, gI h0 x 7 197 18 (fun j => if j = 0 then 6 else if j = 1 then 1 else if j = 2 then 1 else if j = 3 then 1 else if j = 4 then 1 else if j = 5 then 1 else if j = 6 then 1 else 0) (fun j => if j = 0 then 5 else if j = 1 then 16 else if j = 2 then 16 else if j = 3 then 16 else if j = 4 then 64 else if j = 5 then 8 else if j = 6 then 72 else 0) (z_u (z_u (z_u (z_u (z_u (z_u (z_u (z_u (z_u (z_u (z_or h0 x) 0 (some (x + 1 + 0))) 1 (some (x + 1 + 1))) 2 (some (x + 1 + 2))) 3 (some (x + 1 + 3))) 6 none) 7 none) 10 (some (x + 1 + 4))) 11 (some (x + 1 + 5))) 12 (some (x + 1 + 6))) 13 none) (z_u (z_u (z_u (z_u (z_oi h0 x) 4 (nI 0)) 5 (nI 0)) 8 (nI 0)) 9 (nI 0)) h2 ∧ z_Ev G (d + 4) k_X2_init [.ref x] h0 (.inl none, h2) := by
  suffices hh : ∀ h : z_H, gI h0 x 0 0 18 (fun j => if j = 0 then 6 else if j = 1 then 1 else if j = 2 then 1 else if j = 3 then 1 else if j = 4 then 1 else if j = 5 then 1 else if j = 6 then 1 else 0) (fun j => if j = 0 then 5 else if j = 1 then 16 else if j = 2 then 16 else if j = 3 then 16 else if j = 4 then 64 else if j = 5 then 8 else if j = 6 then 72 else 0) (z_or h0 x) (z_oi h0 x) h → ∃ h2, gI h0 x 7 197 18 (fun j => if j = 0 then 6 else if j = 1 then 1 else if j = 2 then 1 else if j = 3 then 1 else if j = 4 then 1 else if j = 5 then 1 else if j = 6 then 1 else 0) (fun j => if j = 0 then 5 else if j = 1 then 16 else if j = 2 then 16 else if j = 3 then 16 else if j = 4 then 64 else if j = 5 then 8 else if j = 6 then 72 else 0) (z_u (z_u (z_u (z_u (z_u (z_u (z_u (z_u (z_u (z_u (z_or h0 x) 0 (some (x + 1 + 0))) 1 (some (x + 1 + 1))) 2 (some (x + 1 + 2))) 3 (some (x + 1 + 3))) 6 none) 7 none) 10 (some (x + 1 + 4))) 11 (some (x + 1 + 5))) 12 (some (x + 1 + 6))) 13 none) (z_u (z_u (z_u (z_u (z_oi h0 x) 4 (nI 0)) 5 (nI 0)) 8 (nI 0)) 9 (nI 0)) h2 ∧ z_J G (d + 4) (m_X2_init z_pu0) (.inl none, h2) 4 [some (.ref x)] [] h by
    obtain ⟨h2, g2, J2⟩ := hh h0 (g_0 hn hk)
    exact ⟨h2, g2, en_X2_init (b_X2_init_0 (z_pu0V rfl) J2)⟩
  intro h g
  have ga := g_nwr g rfl (Or.inr rfl) (m := Int32.toNatClampNeg (nI 5)) (nI_clamp (by decide)).symm
  have gp := g_por ga 0 (some (z_n h))
  rw [nI_clamp (show 5 < 2 ^ 31 by decide), g.1.1] at gp
  have kk := ga.2.2.2.1
  suffices hh : ∀ h' : z_H, gI h0 x 1 5 18 (fun j => if j = 0 then 6 else if j = 1 then 1 else if j = 2 then 1 else if j = 3 then 1 else if j = 4 then 1 else if j = 5 then 1 else if j = 6 then 1 else 0) (fun j => if j = 0 then 5 else if j = 1 then 16 else if j = 2 then 16 else if j = 3 then 16 else if j = 4 then 64 else if j = 5 then 8 else if j = 6 then 72 else 0) (z_u (z_or h0 x) 0 (some (x + 1 + 0))) (z_oi h0 x) h' → ∃ h2, gI h0 x 7 197 18 (fun j => if j = 0 then 6 else if j = 1 then 1 else if j = 2 then 1 else if j = 3 then 1 else if j = 4 then 1 else if j = 5 then 1 else if j = 6 then 1 else 0) (fun j => if j = 0 then 5 else if j = 1 then 16 else if j = 2 then 16 else if j = 3 then 16 else if j = 4 then 64 else if j = 5 then 8 else if j = 6 then 72 else 0) (z_u (z_u (z_u (z_u (z_u (z_u (z_u (z_u (z_u (z_u (z_or h0 x) 0 (some (x + 1 + 0))) 1 (some (x + 1 + 1))) 2 (some (x + 1 + 2))) 3 (some (x + 1 + 3))) 6 none) 7 none) 10 (some (x + 1 + 4))) 11 (some (x + 1 + 5))) 12 (some (x + 1 + 6))) 13 none) (z_u (z_u (z_u (z_u (z_oi h0 x) 4 (nI 0)) 5 (nI 0)) 8 (nI 0)) 9 (nI 0)) h2 ∧ z_J G (d + 4) (m_X2_init z_pu0) (.inl none, h2) 12 [some (.ref x)] [] h' by
    obtain ⟨h2, g2, J2⟩ := hh _ gp
    refine ⟨h2, g2, b_X2_init_4 (z_pu0V rfl) ⟨by decide, by decide, kk, ?_⟩⟩
    rw [nI_clamp (show 5 < 2 ^ 31 by decide), g.1.1]
    exact J2
  clear ga gp kk g h
  intro h g
  have ga := g_nwi g rfl (Or.inl rfl) (m := Int32.toNatClampNeg (nI 16)) (nI_clamp (by decide)).symm
  have gp := g_por ga 1 (some (z_n h))
  rw [nI_clamp (show 16 < 2 ^ 31 by decide), g.1.1] at gp
  have kk := ga.2.2.2.1
  suffices hh : ∀ h' : z_H, gI h0 x 2 21 18 (fun j => if j = 0 then 6 else if j = 1 then 1 else if j = 2 then 1 else if j = 3 then 1 else if j = 4 then 1 else if j = 5 then 1 else if j = 6 then 1 else 0) (fun j => if j = 0 then 5 else if j = 1 then 16 else if j = 2 then 16 else if j = 3 then 16 else if j = 4 then 64 else if j = 5 then 8 else if j = 6 then 72 else 0) (z_u (z_u (z_or h0 x) 0 (some (x + 1 + 0))) 1 (some (x + 1 + 1))) (z_oi h0 x) h' → ∃ h2, gI h0 x 7 197 18 (fun j => if j = 0 then 6 else if j = 1 then 1 else if j = 2 then 1 else if j = 3 then 1 else if j = 4 then 1 else if j = 5 then 1 else if j = 6 then 1 else 0) (fun j => if j = 0 then 5 else if j = 1 then 16 else if j = 2 then 16 else if j = 3 then 16 else if j = 4 then 64 else if j = 5 then 8 else if j = 6 then 72 else 0) (z_u (z_u (z_u (z_u (z_u (z_u (z_u (z_u (z_u (z_u (z_or h0 x) 0 (some (x + 1 + 0))) 1 (some (x + 1 + 1))) 2 (some (x + 1 + 2))) 3 (some (x + 1 + 3))) 6 none) 7 none) 10 (some (x + 1 + 4))) 11 (some (x + 1 + 5))) 12 (some (x + 1 + 6))) 13 none) (z_u (z_u (z_u (z_u (z_oi h0 x) 4 (nI 0)) 5 (nI 0)) 8 (nI 0)) 9 (nI 0)) h2 ∧ z_J G (d + 4) (m_X2_init z_pu0) (.inl none, h2) 20 [some (.ref x)] [] h' by
    obtain ⟨h2, g2, J2⟩ := hh _ gp
    refine ⟨h2, g2, b_X2_init_12 (z_pu0V rfl) ⟨by decide, by decide, kk, ?_⟩⟩
    rw [nI_clamp (show 16 < 2 ^ 31 by decide), g.1.1]
    exact J2
  clear ga gp kk g h
  intro h g
  have ga := g_nwi g rfl (Or.inl rfl) (m := Int32.toNatClampNeg (nI 16)) (nI_clamp (by decide)).symm
  have gp := g_por ga 2 (some (z_n h))
  rw [nI_clamp (show 16 < 2 ^ 31 by decide), g.1.1] at gp
  have kk := ga.2.2.2.1
  suffices hh : ∀ h' : z_H, gI h0 x 3 37 18 (fun j => if j = 0 then 6 else if j = 1 then 1 else if j = 2 then 1 else if j = 3 then 1 else if j = 4 then 1 else if j = 5 then 1 else if j = 6 then 1 else 0) (fun j => if j = 0 then 5 else if j = 1 then 16 else if j = 2 then 16 else if j = 3 then 16 else if j = 4 then 64 else if j = 5 then 8 else if j = 6 then 72 else 0) (z_u (z_u (z_u (z_or h0 x) 0 (some (x + 1 + 0))) 1 (some (x + 1 + 1))) 2 (some (x + 1 + 2))) (z_oi h0 x) h' → ∃ h2, gI h0 x 7 197 18 (fun j => if j = 0 then 6 else if j = 1 then 1 else if j = 2 then 1 else if j = 3 then 1 else if j = 4 then 1 else if j = 5 then 1 else if j = 6 then 1 else 0) (fun j => if j = 0 then 5 else if j = 1 then 16 else if j = 2 then 16 else if j = 3 then 16 else if j = 4 then 64 else if j = 5 then 8 else if j = 6 then 72 else 0) (z_u (z_u (z_u (z_u (z_u (z_u (z_u (z_u (z_u (z_u (z_or h0 x) 0 (some (x + 1 + 0))) 1 (some (x + 1 + 1))) 2 (some (x + 1 + 2))) 3 (some (x + 1 + 3))) 6 none) 7 none) 10 (some (x + 1 + 4))) 11 (some (x + 1 + 5))) 12 (some (x + 1 + 6))) 13 none) (z_u (z_u (z_u (z_u (z_oi h0 x) 4 (nI 0)) 5 (nI 0)) 8 (nI 0)) 9 (nI 0)) h2 ∧ z_J G (d + 4) (m_X2_init z_pu0) (.inl none, h2) 28 [some (.ref x)] [] h' by
    obtain ⟨h2, g2, J2⟩ := hh _ gp
    refine ⟨h2, g2, b_X2_init_20 (z_pu0V rfl) ⟨by decide, by decide, kk, ?_⟩⟩
    rw [nI_clamp (show 16 < 2 ^ 31 by decide), g.1.1]
    exact J2
  clear ga gp kk g h
  intro h g
  have ga := g_nwi g rfl (Or.inl rfl) (m := Int32.toNatClampNeg (nI 16)) (nI_clamp (by decide)).symm
  have gp := g_por ga 3 (some (z_n h))
  rw [nI_clamp (show 16 < 2 ^ 31 by decide), g.1.1] at gp
  have kk := ga.2.2.2.1
  suffices hh : ∀ h' : z_H, gI h0 x 4 53 18 (fun j => if j = 0 then 6 else if j = 1 then 1 else if j = 2 then 1 else if j = 3 then 1 else if j = 4 then 1 else if j = 5 then 1 else if j = 6 then 1 else 0) (fun j => if j = 0 then 5 else if j = 1 then 16 else if j = 2 then 16 else if j = 3 then 16 else if j = 4 then 64 else if j = 5 then 8 else if j = 6 then 72 else 0) (z_u (z_u (z_u (z_u (z_or h0 x) 0 (some (x + 1 + 0))) 1 (some (x + 1 + 1))) 2 (some (x + 1 + 2))) 3 (some (x + 1 + 3))) (z_oi h0 x) h' → ∃ h2, gI h0 x 7 197 18 (fun j => if j = 0 then 6 else if j = 1 then 1 else if j = 2 then 1 else if j = 3 then 1 else if j = 4 then 1 else if j = 5 then 1 else if j = 6 then 1 else 0) (fun j => if j = 0 then 5 else if j = 1 then 16 else if j = 2 then 16 else if j = 3 then 16 else if j = 4 then 64 else if j = 5 then 8 else if j = 6 then 72 else 0) (z_u (z_u (z_u (z_u (z_u (z_u (z_u (z_u (z_u (z_u (z_or h0 x) 0 (some (x + 1 + 0))) 1 (some (x + 1 + 1))) 2 (some (x + 1 + 2))) 3 (some (x + 1 + 3))) 6 none) 7 none) 10 (some (x + 1 + 4))) 11 (some (x + 1 + 5))) 12 (some (x + 1 + 6))) 13 none) (z_u (z_u (z_u (z_u (z_oi h0 x) 4 (nI 0)) 5 (nI 0)) 8 (nI 0)) 9 (nI 0)) h2 ∧ z_J G (d + 4) (m_X2_init z_pu0) (.inl none, h2) 36 [some (.ref x)] [] h' by
    obtain ⟨h2, g2, J2⟩ := hh _ gp
    refine ⟨h2, g2, b_X2_init_28 (z_pu0V rfl) ⟨by decide, by decide, kk, ?_⟩⟩
    rw [nI_clamp (show 16 < 2 ^ 31 by decide), g.1.1]
    exact J2
  clear ga gp kk g h
  intro h g
  have gp := g_poi g 4 (nI 0)
  suffices hh : ∀ h' : z_H, gI h0 x 4 53 18 (fun j => if j = 0 then 6 else if j = 1 then 1 else if j = 2 then 1 else if j = 3 then 1 else if j = 4 then 1 else if j = 5 then 1 else if j = 6 then 1 else 0) (fun j => if j = 0 then 5 else if j = 1 then 16 else if j = 2 then 16 else if j = 3 then 16 else if j = 4 then 64 else if j = 5 then 8 else if j = 6 then 72 else 0) (z_u (z_u (z_u (z_u (z_or h0 x) 0 (some (x + 1 + 0))) 1 (some (x + 1 + 1))) 2 (some (x + 1 + 2))) 3 (some (x + 1 + 3))) (z_u (z_oi h0 x) 4 (nI 0)) h' → ∃ h2, gI h0 x 7 197 18 (fun j => if j = 0 then 6 else if j = 1 then 1 else if j = 2 then 1 else if j = 3 then 1 else if j = 4 then 1 else if j = 5 then 1 else if j = 6 then 1 else 0) (fun j => if j = 0 then 5 else if j = 1 then 16 else if j = 2 then 16 else if j = 3 then 16 else if j = 4 then 64 else if j = 5 then 8 else if j = 6 then 72 else 0) (z_u (z_u (z_u (z_u (z_u (z_u (z_u (z_u (z_u (z_u (z_or h0 x) 0 (some (x + 1 + 0))) 1 (some (x + 1 + 1))) 2 (some (x + 1 + 2))) 3 (some (x + 1 + 3))) 6 none) 7 none) 10 (some (x + 1 + 4))) 11 (some (x + 1 + 5))) 12 (some (x + 1 + 6))) 13 none) (z_u (z_u (z_u (z_u (z_oi h0 x) 4 (nI 0)) 5 (nI 0)) 8 (nI 0)) 9 (nI 0)) h2 ∧ z_J G (d + 4) (m_X2_init z_pu0) (.inl none, h2) 41 [some (.ref x)] [] h' by
    obtain ⟨h2, g2, J2⟩ := hh _ gp
    exact ⟨h2, g2, b_X2_init_36 (z_pu0V rfl) ⟨g.2.2.2.1, J2⟩⟩
  clear gp g h
  intro h g
  have gp := g_poi g 5 (nI 0)
  suffices hh : ∀ h' : z_H, gI h0 x 4 53 18 (fun j => if j = 0 then 6 else if j = 1 then 1 else if j = 2 then 1 else if j = 3 then 1 else if j = 4 then 1 else if j = 5 then 1 else if j = 6 then 1 else 0) (fun j => if j = 0 then 5 else if j = 1 then 16 else if j = 2 then 16 else if j = 3 then 16 else if j = 4 then 64 else if j = 5 then 8 else if j = 6 then 72 else 0) (z_u (z_u (z_u (z_u (z_or h0 x) 0 (some (x + 1 + 0))) 1 (some (x + 1 + 1))) 2 (some (x + 1 + 2))) 3 (some (x + 1 + 3))) (z_u (z_u (z_oi h0 x) 4 (nI 0)) 5 (nI 0)) h' → ∃ h2, gI h0 x 7 197 18 (fun j => if j = 0 then 6 else if j = 1 then 1 else if j = 2 then 1 else if j = 3 then 1 else if j = 4 then 1 else if j = 5 then 1 else if j = 6 then 1 else 0) (fun j => if j = 0 then 5 else if j = 1 then 16 else if j = 2 then 16 else if j = 3 then 16 else if j = 4 then 64 else if j = 5 then 8 else if j = 6 then 72 else 0) (z_u (z_u (z_u (z_u (z_u (z_u (z_u (z_u (z_u (z_u (z_or h0 x) 0 (some (x + 1 + 0))) 1 (some (x + 1 + 1))) 2 (some (x + 1 + 2))) 3 (some (x + 1 + 3))) 6 none) 7 none) 10 (some (x + 1 + 4))) 11 (some (x + 1 + 5))) 12 (some (x + 1 + 6))) 13 none) (z_u (z_u (z_u (z_u (z_oi h0 x) 4 (nI 0)) 5 (nI 0)) 8 (nI 0)) 9 (nI 0)) h2 ∧ z_J G (d + 4) (m_X2_init z_pu0) (.inl none, h2) 46 [some (.ref x)] [] h' by
    obtain ⟨h2, g2, J2⟩ := hh _ gp
    exact ⟨h2, g2, b_X2_init_41 (z_pu0V rfl) ⟨g.2.2.2.1, J2⟩⟩
  clear gp g h
  intro h g
  have gp := g_por g 6 none
  suffices hh : ∀ h' : z_H, gI h0 x 4 53 18 (fun j => if j = 0 then 6 else if j = 1 then 1 else if j = 2 then 1 else if j = 3 then 1 else if j = 4 then 1 else if j = 5 then 1 else if j = 6 then 1 else 0) (fun j => if j = 0 then 5 else if j = 1 then 16 else if j = 2 then 16 else if j = 3 then 16 else if j = 4 then 64 else if j = 5 then 8 else if j = 6 then 72 else 0) (z_u (z_u (z_u (z_u (z_u (z_or h0 x) 0 (some (x + 1 + 0))) 1 (some (x + 1 + 1))) 2 (some (x + 1 + 2))) 3 (some (x + 1 + 3))) 6 none) (z_u (z_u (z_oi h0 x) 4 (nI 0)) 5 (nI 0)) h' → ∃ h2, gI h0 x 7 197 18 (fun j => if j = 0 then 6 else if j = 1 then 1 else if j = 2 then 1 else if j = 3 then 1 else if j = 4 then 1 else if j = 5 then 1 else if j = 6 then 1 else 0) (fun j => if j = 0 then 5 else if j = 1 then 16 else if j = 2 then 16 else if j = 3 then 16 else if j = 4 then 64 else if j = 5 then 8 else if j = 6 then 72 else 0) (z_u (z_u (z_u (z_u (z_u (z_u (z_u (z_u (z_u (z_u (z_or h0 x) 0 (some (x + 1 + 0))) 1 (some (x + 1 + 1))) 2 (some (x + 1 + 2))) 3 (some (x + 1 + 3))) 6 none) 7 none) 10 (some (x + 1 + 4))) 11 (some (x + 1 + 5))) 12 (some (x + 1 + 6))) 13 none) (z_u (z_u (z_u (z_u (z_oi h0 x) 4 (nI 0)) 5 (nI 0)) 8 (nI 0)) 9 (nI 0)) h2 ∧ z_J G (d + 4) (m_X2_init z_pu0) (.inl none, h2) 51 [some (.ref x)] [] h' by
    obtain ⟨h2, g2, J2⟩ := hh _ gp
    exact ⟨h2, g2, b_X2_init_46 (z_pu0V rfl) ⟨g.2.2.2.1, J2⟩⟩
  clear gp g h
  intro h g
  have gp := g_por g 7 none
  suffices hh : ∀ h' : z_H, gI h0 x 4 53 18 (fun j => if j = 0 then 6 else if j = 1 then 1 else if j = 2 then 1 else if j = 3 then 1 else if j = 4 then 1 else if j = 5 then 1 else if j = 6 then 1 else 0) (fun j => if j = 0 then 5 else if j = 1 then 16 else if j = 2 then 16 else if j = 3 then 16 else if j = 4 then 64 else if j = 5 then 8 else if j = 6 then 72 else 0) (z_u (z_u (z_u (z_u (z_u (z_u (z_or h0 x) 0 (some (x + 1 + 0))) 1 (some (x + 1 + 1))) 2 (some (x + 1 + 2))) 3 (some (x + 1 + 3))) 6 none) 7 none) (z_u (z_u (z_oi h0 x) 4 (nI 0)) 5 (nI 0)) h' → ∃ h2, gI h0 x 7 197 18 (fun j => if j = 0 then 6 else if j = 1 then 1 else if j = 2 then 1 else if j = 3 then 1 else if j = 4 then 1 else if j = 5 then 1 else if j = 6 then 1 else 0) (fun j => if j = 0 then 5 else if j = 1 then 16 else if j = 2 then 16 else if j = 3 then 16 else if j = 4 then 64 else if j = 5 then 8 else if j = 6 then 72 else 0) (z_u (z_u (z_u (z_u (z_u (z_u (z_u (z_u (z_u (z_u (z_or h0 x) 0 (some (x + 1 + 0))) 1 (some (x + 1 + 1))) 2 (some (x + 1 + 2))) 3 (some (x + 1 + 3))) 6 none) 7 none) 10 (some (x + 1 + 4))) 11 (some (x + 1 + 5))) 12 (some (x + 1 + 6))) 13 none) (z_u (z_u (z_u (z_u (z_oi h0 x) 4 (nI 0)) 5 (nI 0)) 8 (nI 0)) 9 (nI 0)) h2 ∧ z_J G (d + 4) (m_X2_init z_pu0) (.inl none, h2) 56 [some (.ref x)] [] h' by
    obtain ⟨h2, g2, J2⟩ := hh _ gp
    exact ⟨h2, g2, b_X2_init_51 (z_pu0V rfl) ⟨g.2.2.2.1, J2⟩⟩
  clear gp g h
  intro h g
  have gp := g_poi g 8 (nI 0)
  suffices hh : ∀ h' : z_H, gI h0 x 4 53 18 (fun j => if j = 0 then 6 else if j = 1 then 1 else if j = 2 then 1 else if j = 3 then 1 else if j = 4 then 1 else if j = 5 then 1 else if j = 6 then 1 else 0) (fun j => if j = 0 then 5 else if j = 1 then 16 else if j = 2 then 16 else if j = 3 then 16 else if j = 4 then 64 else if j = 5 then 8 else if j = 6 then 72 else 0) (z_u (z_u (z_u (z_u (z_u (z_u (z_or h0 x) 0 (some (x + 1 + 0))) 1 (some (x + 1 + 1))) 2 (some (x + 1 + 2))) 3 (some (x + 1 + 3))) 6 none) 7 none) (z_u (z_u (z_u (z_oi h0 x) 4 (nI 0)) 5 (nI 0)) 8 (nI 0)) h' → ∃ h2, gI h0 x 7 197 18 (fun j => if j = 0 then 6 else if j = 1 then 1 else if j = 2 then 1 else if j = 3 then 1 else if j = 4 then 1 else if j = 5 then 1 else if j = 6 then 1 else 0) (fun j => if j = 0 then 5 else if j = 1 then 16 else if j = 2 then 16 else if j = 3 then 16 else if j = 4 then 64 else if j = 5 then 8 else if j = 6 then 72 else 0) (z_u (z_u (z_u (z_u (z_u (z_u (z_u (z_u (z_u (z_u (z_or h0 x) 0 (some (x + 1 + 0))) 1 (some (x + 1 + 1))) 2 (some (x + 1 + 2))) 3 (some (x + 1 + 3))) 6 none) 7 none) 10 (some (x + 1 + 4))) 11 (some (x + 1 + 5))) 12 (some (x + 1 + 6))) 13 none) (z_u (z_u (z_u (z_u (z_oi h0 x) 4 (nI 0)) 5 (nI 0)) 8 (nI 0)) 9 (nI 0)) h2 ∧ z_J G (d + 4) (m_X2_init z_pu0) (.inl none, h2) 61 [some (.ref x)] [] h' by
    obtain ⟨h2, g2, J2⟩ := hh _ gp
    exact ⟨h2, g2, b_X2_init_56 (z_pu0V rfl) ⟨g.2.2.2.1, J2⟩⟩
  clear gp g h
  intro h g
  have gp := g_poi g 9 (nI 0)
  suffices hh : ∀ h' : z_H, gI h0 x 4 53 18 (fun j => if j = 0 then 6 else if j = 1 then 1 else if j = 2 then 1 else if j = 3 then 1 else if j = 4 then 1 else if j = 5 then 1 else if j = 6 then 1 else 0) (fun j => if j = 0 then 5 else if j = 1 then 16 else if j = 2 then 16 else if j = 3 then 16 else if j = 4 then 64 else if j = 5 then 8 else if j = 6 then 72 else 0) (z_u (z_u (z_u (z_u (z_u (z_u (z_or h0 x) 0 (some (x + 1 + 0))) 1 (some (x + 1 + 1))) 2 (some (x + 1 + 2))) 3 (some (x + 1 + 3))) 6 none) 7 none) (z_u (z_u (z_u (z_u (z_oi h0 x) 4 (nI 0)) 5 (nI 0)) 8 (nI 0)) 9 (nI 0)) h' → ∃ h2, gI h0 x 7 197 18 (fun j => if j = 0 then 6 else if j = 1 then 1 else if j = 2 then 1 else if j = 3 then 1 else if j = 4 then 1 else if j = 5 then 1 else if j = 6 then 1 else 0) (fun j => if j = 0 then 5 else if j = 1 then 16 else if j = 2 then 16 else if j = 3 then 16 else if j = 4 then 64 else if j = 5 then 8 else if j = 6 then 72 else 0) (z_u (z_u (z_u (z_u (z_u (z_u (z_u (z_u (z_u (z_u (z_or h0 x) 0 (some (x + 1 + 0))) 1 (some (x + 1 + 1))) 2 (some (x + 1 + 2))) 3 (some (x + 1 + 3))) 6 none) 7 none) 10 (some (x + 1 + 4))) 11 (some (x + 1 + 5))) 12 (some (x + 1 + 6))) 13 none) (z_u (z_u (z_u (z_u (z_oi h0 x) 4 (nI 0)) 5 (nI 0)) 8 (nI 0)) 9 (nI 0)) h2 ∧ z_J G (d + 4) (m_X2_init z_pu0) (.inl none, h2) 66 [some (.ref x)] [] h' by
    obtain ⟨h2, g2, J2⟩ := hh _ gp
    exact ⟨h2, g2, b_X2_init_61 (z_pu0V rfl) ⟨g.2.2.2.1, Or.inl rfl, J2⟩⟩
  clear gp g h
  intro h g
  have ga := g_nwi g rfl (Or.inl rfl) (m := Int32.toNatClampNeg (nI 64)) (nI_clamp (by decide)).symm
  have gp := g_por ga 10 (some (z_n h))
  rw [nI_clamp (show 64 < 2 ^ 31 by decide), g.1.1] at gp
  have kk := ga.2.2.2.1
  suffices hh : ∀ h' : z_H, gI h0 x 5 117 18 (fun j => if j = 0 then 6 else if j = 1 then 1 else if j = 2 then 1 else if j = 3 then 1 else if j = 4 then 1 else if j = 5 then 1 else if j = 6 then 1 else 0) (fun j => if j = 0 then 5 else if j = 1 then 16 else if j = 2 then 16 else if j = 3 then 16 else if j = 4 then 64 else if j = 5 then 8 else if j = 6 then 72 else 0) (z_u (z_u (z_u (z_u (z_u (z_u (z_u (z_or h0 x) 0 (some (x + 1 + 0))) 1 (some (x + 1 + 1))) 2 (some (x + 1 + 2))) 3 (some (x + 1 + 3))) 6 none) 7 none) 10 (some (x + 1 + 4))) (z_u (z_u (z_u (z_u (z_oi h0 x) 4 (nI 0)) 5 (nI 0)) 8 (nI 0)) 9 (nI 0)) h' → ∃ h2, gI h0 x 7 197 18 (fun j => if j = 0 then 6 else if j = 1 then 1 else if j = 2 then 1 else if j = 3 then 1 else if j = 4 then 1 else if j = 5 then 1 else if j = 6 then 1 else 0) (fun j => if j = 0 then 5 else if j = 1 then 16 else if j = 2 then 16 else if j = 3 then 16 else if j = 4 then 64 else if j = 5 then 8 else if j = 6 then 72 else 0) (z_u (z_u (z_u (z_u (z_u (z_u (z_u (z_u (z_u (z_u (z_or h0 x) 0 (some (x + 1 + 0))) 1 (some (x + 1 + 1))) 2 (some (x + 1 + 2))) 3 (some (x + 1 + 3))) 6 none) 7 none) 10 (some (x + 1 + 4))) 11 (some (x + 1 + 5))) 12 (some (x + 1 + 6))) 13 none) (z_u (z_u (z_u (z_u (z_oi h0 x) 4 (nI 0)) 5 (nI 0)) 8 (nI 0)) 9 (nI 0)) h2 ∧ z_J G (d + 4) (m_X2_init z_pu0) (.inl none, h2) 74 [some (.ref x)] [] h' by
    obtain ⟨h2, g2, J2⟩ := hh _ gp
    refine ⟨h2, g2, b_X2_init_66 (z_pu0V rfl) ⟨by decide, by decide, kk, ?_⟩⟩
    rw [nI_clamp (show 64 < 2 ^ 31 by decide), g.1.1]
    exact J2
  clear ga gp kk g h
  intro h g
  have ga := g_nwi g rfl (Or.inl rfl) (m := Int32.toNatClampNeg (nI 8)) (nI_clamp (by decide)).symm
  have gp := g_por ga 11 (some (z_n h))
  rw [nI_clamp (show 8 < 2 ^ 31 by decide), g.1.1] at gp
  have kk := ga.2.2.2.1
  suffices hh : ∀ h' : z_H, gI h0 x 6 125 18 (fun j => if j = 0 then 6 else if j = 1 then 1 else if j = 2 then 1 else if j = 3 then 1 else if j = 4 then 1 else if j = 5 then 1 else if j = 6 then 1 else 0) (fun j => if j = 0 then 5 else if j = 1 then 16 else if j = 2 then 16 else if j = 3 then 16 else if j = 4 then 64 else if j = 5 then 8 else if j = 6 then 72 else 0) (z_u (z_u (z_u (z_u (z_u (z_u (z_u (z_u (z_or h0 x) 0 (some (x + 1 + 0))) 1 (some (x + 1 + 1))) 2 (some (x + 1 + 2))) 3 (some (x + 1 + 3))) 6 none) 7 none) 10 (some (x + 1 + 4))) 11 (some (x + 1 + 5))) (z_u (z_u (z_u (z_u (z_oi h0 x) 4 (nI 0)) 5 (nI 0)) 8 (nI 0)) 9 (nI 0)) h' → ∃ h2, gI h0 x 7 197 18 (fun j => if j = 0 then 6 else if j = 1 then 1 else if j = 2 then 1 else if j = 3 then 1 else if j = 4 then 1 else if j = 5 then 1 else if j = 6 then 1 else 0) (fun j => if j = 0 then 5 else if j = 1 then 16 else if j = 2 then 16 else if j = 3 then 16 else if j = 4 then 64 else if j = 5 then 8 else if j = 6 then 72 else 0) (z_u (z_u (z_u (z_u (z_u (z_u (z_u (z_u (z_u (z_u (z_or h0 x) 0 (some (x + 1 + 0))) 1 (some (x + 1 + 1))) 2 (some (x + 1 + 2))) 3 (some (x + 1 + 3))) 6 none) 7 none) 10 (some (x + 1 + 4))) 11 (some (x + 1 + 5))) 12 (some (x + 1 + 6))) 13 none) (z_u (z_u (z_u (z_u (z_oi h0 x) 4 (nI 0)) 5 (nI 0)) 8 (nI 0)) 9 (nI 0)) h2 ∧ z_J G (d + 4) (m_X2_init z_pu0) (.inl none, h2) 82 [some (.ref x)] [] h' by
    obtain ⟨h2, g2, J2⟩ := hh _ gp
    refine ⟨h2, g2, b_X2_init_74 (z_pu0V rfl) ⟨by decide, by decide, kk, ?_⟩⟩
    rw [nI_clamp (show 8 < 2 ^ 31 by decide), g.1.1]
    exact J2
  clear ga gp kk g h
  intro h g
  have ga := g_nwi g rfl (Or.inl rfl) (m := Int32.toNatClampNeg (nI 72)) (nI_clamp (by decide)).symm
  have gp := g_por ga 12 (some (z_n h))
  rw [nI_clamp (show 72 < 2 ^ 31 by decide), g.1.1] at gp
  have kk := ga.2.2.2.1
  suffices hh : ∀ h' : z_H, gI h0 x 7 197 18 (fun j => if j = 0 then 6 else if j = 1 then 1 else if j = 2 then 1 else if j = 3 then 1 else if j = 4 then 1 else if j = 5 then 1 else if j = 6 then 1 else 0) (fun j => if j = 0 then 5 else if j = 1 then 16 else if j = 2 then 16 else if j = 3 then 16 else if j = 4 then 64 else if j = 5 then 8 else if j = 6 then 72 else 0) (z_u (z_u (z_u (z_u (z_u (z_u (z_u (z_u (z_u (z_or h0 x) 0 (some (x + 1 + 0))) 1 (some (x + 1 + 1))) 2 (some (x + 1 + 2))) 3 (some (x + 1 + 3))) 6 none) 7 none) 10 (some (x + 1 + 4))) 11 (some (x + 1 + 5))) 12 (some (x + 1 + 6))) (z_u (z_u (z_u (z_u (z_oi h0 x) 4 (nI 0)) 5 (nI 0)) 8 (nI 0)) 9 (nI 0)) h' → ∃ h2, gI h0 x 7 197 18 (fun j => if j = 0 then 6 else if j = 1 then 1 else if j = 2 then 1 else if j = 3 then 1 else if j = 4 then 1 else if j = 5 then 1 else if j = 6 then 1 else 0) (fun j => if j = 0 then 5 else if j = 1 then 16 else if j = 2 then 16 else if j = 3 then 16 else if j = 4 then 64 else if j = 5 then 8 else if j = 6 then 72 else 0) (z_u (z_u (z_u (z_u (z_u (z_u (z_u (z_u (z_u (z_u (z_or h0 x) 0 (some (x + 1 + 0))) 1 (some (x + 1 + 1))) 2 (some (x + 1 + 2))) 3 (some (x + 1 + 3))) 6 none) 7 none) 10 (some (x + 1 + 4))) 11 (some (x + 1 + 5))) 12 (some (x + 1 + 6))) 13 none) (z_u (z_u (z_u (z_u (z_oi h0 x) 4 (nI 0)) 5 (nI 0)) 8 (nI 0)) 9 (nI 0)) h2 ∧ z_J G (d + 4) (m_X2_init z_pu0) (.inl none, h2) 90 [some (.ref x)] [] h' by
    obtain ⟨h2, g2, J2⟩ := hh _ gp
    refine ⟨h2, g2, b_X2_init_82 (z_pu0V rfl) ⟨by decide, by decide, kk, ?_⟩⟩
    rw [nI_clamp (show 72 < 2 ^ 31 by decide), g.1.1]
    exact J2
  clear ga gp kk g h
  intro h g
  have gp := g_por g 13 none
  suffices hh : ∀ h' : z_H, gI h0 x 7 197 18 (fun j => if j = 0 then 6 else if j = 1 then 1 else if j = 2 then 1 else if j = 3 then 1 else if j = 4 then 1 else if j = 5 then 1 else if j = 6 then 1 else 0) (fun j => if j = 0 then 5 else if j = 1 then 16 else if j = 2 then 16 else if j = 3 then 16 else if j = 4 then 64 else if j = 5 then 8 else if j = 6 then 72 else 0) (z_u (z_u (z_u (z_u (z_u (z_u (z_u (z_u (z_u (z_u (z_or h0 x) 0 (some (x + 1 + 0))) 1 (some (x + 1 + 1))) 2 (some (x + 1 + 2))) 3 (some (x + 1 + 3))) 6 none) 7 none) 10 (some (x + 1 + 4))) 11 (some (x + 1 + 5))) 12 (some (x + 1 + 6))) 13 none) (z_u (z_u (z_u (z_u (z_oi h0 x) 4 (nI 0)) 5 (nI 0)) 8 (nI 0)) 9 (nI 0)) h' → ∃ h2, gI h0 x 7 197 18 (fun j => if j = 0 then 6 else if j = 1 then 1 else if j = 2 then 1 else if j = 3 then 1 else if j = 4 then 1 else if j = 5 then 1 else if j = 6 then 1 else 0) (fun j => if j = 0 then 5 else if j = 1 then 16 else if j = 2 then 16 else if j = 3 then 16 else if j = 4 then 64 else if j = 5 then 8 else if j = 6 then 72 else 0) (z_u (z_u (z_u (z_u (z_u (z_u (z_u (z_u (z_u (z_u (z_or h0 x) 0 (some (x + 1 + 0))) 1 (some (x + 1 + 1))) 2 (some (x + 1 + 2))) 3 (some (x + 1 + 3))) 6 none) 7 none) 10 (some (x + 1 + 4))) 11 (some (x + 1 + 5))) 12 (some (x + 1 + 6))) 13 none) (z_u (z_u (z_u (z_u (z_oi h0 x) 4 (nI 0)) 5 (nI 0)) 8 (nI 0)) 9 (nI 0)) h2 ∧ z_J G (d + 4) (m_X2_init z_pu0) (.inl none, h2) 95 [none] [] h' by
    obtain ⟨h2, g2, J2⟩ := hh _ gp
    exact ⟨h2, g2, b_X2_init_90 (z_pu0V rfl) ⟨g.2.2.2.1, J2⟩⟩
  clear gp g h
  intro h g
  exact ⟨h, g, b_X2_init_95 (z_pu0V rfl) rfl⟩
theorem e6_init (hn : z_n h0 = x + 1) (hk : z_kd h0 x = 22) : ∃ h2, gI h0 x 3 7073 22 (fun j => if j = 0 then 4 else if j = 1 then 1 else if j = 2 then 3 else 0) (fun j => if j = 0 then 256 else if j = 1 then 256 else if j = 2 then 6561 else 0) (z_u (z_u (z_u (z_or h0 x) 0 (some (x + 1 + 0))) 1 (some (x + 1 + 1))) 2 (some (x + 1 + 2))) (z_u (z_oi h0 x) 3 (nI 0)) h2 ∧ z_Ev G (d + 4) k_X6_init [.ref x] h0 (.inl none, h2) := by
  suffices hh : ∀ h : z_H, gI h0 x 0 0 22 (fun j => if j = 0 then 4 else if j = 1 then 1 else if j = 2 then 3 else 0) (fun j => if j = 0 then 256 else if j = 1 then 256 else if j = 2 then 6561 else 0) (z_or h0 x) (z_oi h0 x) h → ∃ h2, gI h0 x 3 7073 22 (fun j => if j = 0 then 4 else if j = 1 then 1 else if j = 2 then 3 else 0) (fun j => if j = 0 then 256 else if j = 1 then 256 else if j = 2 then 6561 else 0) (z_u (z_u (z_u (z_or h0 x) 0 (some (x + 1 + 0))) 1 (some (x + 1 + 1))) 2 (some (x + 1 + 2))) (z_u (z_oi h0 x) 3 (nI 0)) h2 ∧ z_J G (d + 4) (m_X6_init z_pu0) (.inl none, h2) 4 [some (.ref x)] [] h by
    obtain ⟨h2, g2, J2⟩ := hh h0 (g_0 hn hk)
    exact ⟨h2, g2, en_X6_init (b_X6_init_0 (z_pu0V rfl) J2)⟩
  intro h g
  have ga := g_nwi g rfl (Or.inr (Or.inr rfl)) (m := Int32.toNatClampNeg (nI 256)) (nI_clamp (by decide)).symm
  have gp := g_por ga 0 (some (z_n h))
  rw [nI_clamp (show 256 < 2 ^ 31 by decide), g.1.1] at gp
  have kk := ga.2.2.2.1
  suffices hh : ∀ h' : z_H, gI h0 x 1 256 22 (fun j => if j = 0 then 4 else if j = 1 then 1 else if j = 2 then 3 else 0) (fun j => if j = 0 then 256 else if j = 1 then 256 else if j = 2 then 6561 else 0) (z_u (z_or h0 x) 0 (some (x + 1 + 0))) (z_oi h0 x) h' → ∃ h2, gI h0 x 3 7073 22 (fun j => if j = 0 then 4 else if j = 1 then 1 else if j = 2 then 3 else 0) (fun j => if j = 0 then 256 else if j = 1 then 256 else if j = 2 then 6561 else 0) (z_u (z_u (z_u (z_or h0 x) 0 (some (x + 1 + 0))) 1 (some (x + 1 + 1))) 2 (some (x + 1 + 2))) (z_u (z_oi h0 x) 3 (nI 0)) h2 ∧ z_J G (d + 4) (m_X6_init z_pu0) (.inl none, h2) 13 [some (.ref x)] [] h' by
    obtain ⟨h2, g2, J2⟩ := hh _ gp
    refine ⟨h2, g2, b_X6_init_4 (z_pu0V rfl) ⟨by decide, by decide, kk, ?_⟩⟩
    rw [nI_clamp (show 256 < 2 ^ 31 by decide), g.1.1]
    exact J2
  clear ga gp kk g h
  intro h g
  have ga := g_nwi g rfl (Or.inl rfl) (m := Int32.toNatClampNeg (nI 256)) (nI_clamp (by decide)).symm
  have gp := g_por ga 1 (some (z_n h))
  rw [nI_clamp (show 256 < 2 ^ 31 by decide), g.1.1] at gp
  have kk := ga.2.2.2.1
  suffices hh : ∀ h' : z_H, gI h0 x 2 512 22 (fun j => if j = 0 then 4 else if j = 1 then 1 else if j = 2 then 3 else 0) (fun j => if j = 0 then 256 else if j = 1 then 256 else if j = 2 then 6561 else 0) (z_u (z_u (z_or h0 x) 0 (some (x + 1 + 0))) 1 (some (x + 1 + 1))) (z_oi h0 x) h' → ∃ h2, gI h0 x 3 7073 22 (fun j => if j = 0 then 4 else if j = 1 then 1 else if j = 2 then 3 else 0) (fun j => if j = 0 then 256 else if j = 1 then 256 else if j = 2 then 6561 else 0) (z_u (z_u (z_u (z_or h0 x) 0 (some (x + 1 + 0))) 1 (some (x + 1 + 1))) 2 (some (x + 1 + 2))) (z_u (z_oi h0 x) 3 (nI 0)) h2 ∧ z_J G (d + 4) (m_X6_init z_pu0) (.inl none, h2) 22 [some (.ref x)] [] h' by
    obtain ⟨h2, g2, J2⟩ := hh _ gp
    refine ⟨h2, g2, b_X6_init_13 (z_pu0V rfl) ⟨by decide, by decide, kk, ?_⟩⟩
    rw [nI_clamp (show 256 < 2 ^ 31 by decide), g.1.1]
    exact J2
  clear ga gp kk g h
  intro h g
  have ga := g_nwi g rfl (Or.inr (Or.inl rfl)) (m := Int32.toNatClampNeg (nI 6561)) (nI_clamp (by decide)).symm
  have gp := g_por ga 2 (some (z_n h))
  rw [nI_clamp (show 6561 < 2 ^ 31 by decide), g.1.1] at gp
  have kk := ga.2.2.2.1
  suffices hh : ∀ h' : z_H, gI h0 x 3 7073 22 (fun j => if j = 0 then 4 else if j = 1 then 1 else if j = 2 then 3 else 0) (fun j => if j = 0 then 256 else if j = 1 then 256 else if j = 2 then 6561 else 0) (z_u (z_u (z_u (z_or h0 x) 0 (some (x + 1 + 0))) 1 (some (x + 1 + 1))) 2 (some (x + 1 + 2))) (z_oi h0 x) h' → ∃ h2, gI h0 x 3 7073 22 (fun j => if j = 0 then 4 else if j = 1 then 1 else if j = 2 then 3 else 0) (fun j => if j = 0 then 256 else if j = 1 then 256 else if j = 2 then 6561 else 0) (z_u (z_u (z_u (z_or h0 x) 0 (some (x + 1 + 0))) 1 (some (x + 1 + 1))) 2 (some (x + 1 + 2))) (z_u (z_oi h0 x) 3 (nI 0)) h2 ∧ z_J G (d + 4) (m_X6_init z_pu0) (.inl none, h2) 31 [some (.ref x)] [] h' by
    obtain ⟨h2, g2, J2⟩ := hh _ gp
    refine ⟨h2, g2, b_X6_init_22 (z_pu0V rfl) ⟨by decide, by decide, kk, ?_⟩⟩
    rw [nI_clamp (show 6561 < 2 ^ 31 by decide), g.1.1]
    exact J2
  clear ga gp kk g h
  intro h g
  have gp := g_poi g 3 (nI 0)
  suffices hh : ∀ h' : z_H, gI h0 x 3 7073 22 (fun j => if j = 0 then 4 else if j = 1 then 1 else if j = 2 then 3 else 0) (fun j => if j = 0 then 256 else if j = 1 then 256 else if j = 2 then 6561 else 0) (z_u (z_u (z_u (z_or h0 x) 0 (some (x + 1 + 0))) 1 (some (x + 1 + 1))) 2 (some (x + 1 + 2))) (z_u (z_oi h0 x) 3 (nI 0)) h' → ∃ h2, gI h0 x 3 7073 22 (fun j => if j = 0 then 4 else if j = 1 then 1 else if j = 2 then 3 else 0) (fun j => if j = 0 then 256 else if j = 1 then 256 else if j = 2 then 6561 else 0) (z_u (z_u (z_u (z_or h0 x) 0 (some (x + 1 + 0))) 1 (some (x + 1 + 1))) 2 (some (x + 1 + 2))) (z_u (z_oi h0 x) 3 (nI 0)) h2 ∧ z_J G (d + 4) (m_X6_init z_pu0) (.inl none, h2) 36 [none] [] h' by
    obtain ⟨h2, g2, J2⟩ := hh _ gp
    exact ⟨h2, g2, b_X6_init_31 (z_pu0V rfl) ⟨g.2.2.2.1, J2⟩⟩
  clear gp g h
  intro h g
  exact ⟨h, g, b_X6_init_36 (z_pu0V rfl) rfl⟩
theorem e9_init (hn : z_n h0 = x + 1) (hk : z_kd h0 x = 25) : ∃ h2, gI h0 x 0 0 25 (fun j => 0) (fun j => 0) (z_or h0 x) (z_u (z_u (z_oi h0 x) 0 (nI 0)) 1 mI) h2 ∧ z_Ev G (d + 4) k_X9_init [.ref x] h0 (.inl none, h2) := by
  suffices hh : ∀ h : z_H, gI h0 x 0 0 25 (fun j => 0) (fun j => 0) (z_or h0 x) (z_oi h0 x) h → ∃ h2, gI h0 x 0 0 25 (fun j => 0) (fun j => 0) (z_or h0 x) (z_u (z_u (z_oi h0 x) 0 (nI 0)) 1 mI) h2 ∧ z_J G (d + 4) (m_X9_init z_pu0) (.inl none, h2) 4 [some (.ref x)] [] h by
    obtain ⟨h2, g2, J2⟩ := hh h0 (g_0 hn hk)
    exact ⟨h2, g2, en_X9_init (b_X9_init_0 (z_pu0V rfl) J2)⟩
  intro h g
  have gp := g_poi g 0 (nI 0)
  suffices hh : ∀ h' : z_H, gI h0 x 0 0 25 (fun j => 0) (fun j => 0) (z_or h0 x) (z_u (z_oi h0 x) 0 (nI 0)) h' → ∃ h2, gI h0 x 0 0 25 (fun j => 0) (fun j => 0) (z_or h0 x) (z_u (z_u (z_oi h0 x) 0 (nI 0)) 1 mI) h2 ∧ z_J G (d + 4) (m_X9_init z_pu0) (.inl none, h2) 9 [some (.ref x)] [] h' by
    obtain ⟨h2, g2, J2⟩ := hh _ gp
    exact ⟨h2, g2, b_X9_init_4 (z_pu0V rfl) ⟨g.2.2.2.1, J2⟩⟩
  clear gp g h
  intro h g
  have gp := g_poi g 1 mI
  suffices hh : ∀ h' : z_H, gI h0 x 0 0 25 (fun j => 0) (fun j => 0) (z_or h0 x) (z_u (z_u (z_oi h0 x) 0 (nI 0)) 1 mI) h' → ∃ h2, gI h0 x 0 0 25 (fun j => 0) (fun j => 0) (z_or h0 x) (z_u (z_u (z_oi h0 x) 0 (nI 0)) 1 mI) h2 ∧ z_J G (d + 4) (m_X9_init z_pu0) (.inl none, h2) 14 [none] [] h' by
    obtain ⟨h2, g2, J2⟩ := hh _ gp
    exact ⟨h2, g2, b_X9_init_9 (z_pu0V rfl) ⟨g.2.2.2.1, J2⟩⟩
  clear gp g h
  intro h g
  exact ⟨h, g, b_X9_init_14 (z_pu0V rfl) rfl⟩
theorem e10_init (hn : z_n h0 = x + 1) (hk : z_kd h0 x = 26) : ∃ h2, gI h0 x 1 12 26 (fun j => if j = 0 then 1 else 0) (fun j => if j = 0 then 12 else 0) (z_u (z_or h0 x) 1 (some (x + 1 + 0))) (z_u (z_u (z_u (z_oi h0 x) 0 (nI 0)) 2 (nI 0)) 3 (nI 0)) h2 ∧ z_Ev G (d + 4) k_X10_init [.ref x] h0 (.inl none, h2) := by
  suffices hh : ∀ h : z_H, gI h0 x 0 0 26 (fun j => if j = 0 then 1 else 0) (fun j => if j = 0 then 12 else 0) (z_or h0 x) (z_oi h0 x) h → ∃ h2, gI h0 x 1 12 26 (fun j => if j = 0 then 1 else 0) (fun j => if j = 0 then 12 else 0) (z_u (z_or h0 x) 1 (some (x + 1 + 0))) (z_u (z_u (z_u (z_oi h0 x) 0 (nI 0)) 2 (nI 0)) 3 (nI 0)) h2 ∧ z_J G (d + 4) (m_X10_init z_pu0) (.inl none, h2) 4 [some (.ref x)] [] h by
    obtain ⟨h2, g2, J2⟩ := hh h0 (g_0 hn hk)
    exact ⟨h2, g2, en_X10_init (b_X10_init_0 (z_pu0V rfl) J2)⟩
  intro h g
  have gp := g_poi g 0 (nI 0)
  suffices hh : ∀ h' : z_H, gI h0 x 0 0 26 (fun j => if j = 0 then 1 else 0) (fun j => if j = 0 then 12 else 0) (z_or h0 x) (z_u (z_oi h0 x) 0 (nI 0)) h' → ∃ h2, gI h0 x 1 12 26 (fun j => if j = 0 then 1 else 0) (fun j => if j = 0 then 12 else 0) (z_u (z_or h0 x) 1 (some (x + 1 + 0))) (z_u (z_u (z_u (z_oi h0 x) 0 (nI 0)) 2 (nI 0)) 3 (nI 0)) h2 ∧ z_J G (d + 4) (m_X10_init z_pu0) (.inl none, h2) 9 [some (.ref x)] [] h' by
    obtain ⟨h2, g2, J2⟩ := hh _ gp
    exact ⟨h2, g2, b_X10_init_4 (z_pu0V rfl) ⟨g.2.2.2.1, J2⟩⟩
  clear gp g h
  intro h g
  have ga := g_nwi g rfl (Or.inl rfl) (m := Int32.toNatClampNeg (nI 12)) (nI_clamp (by decide)).symm
  have gp := g_por ga 1 (some (z_n h))
  rw [nI_clamp (show 12 < 2 ^ 31 by decide), g.1.1] at gp
  have kk := ga.2.2.2.1
  suffices hh : ∀ h' : z_H, gI h0 x 1 12 26 (fun j => if j = 0 then 1 else 0) (fun j => if j = 0 then 12 else 0) (z_u (z_or h0 x) 1 (some (x + 1 + 0))) (z_u (z_oi h0 x) 0 (nI 0)) h' → ∃ h2, gI h0 x 1 12 26 (fun j => if j = 0 then 1 else 0) (fun j => if j = 0 then 12 else 0) (z_u (z_or h0 x) 1 (some (x + 1 + 0))) (z_u (z_u (z_u (z_oi h0 x) 0 (nI 0)) 2 (nI 0)) 3 (nI 0)) h2 ∧ z_J G (d + 4) (m_X10_init z_pu0) (.inl none, h2) 17 [some (.ref x)] [] h' by
    obtain ⟨h2, g2, J2⟩ := hh _ gp
    refine ⟨h2, g2, b_X10_init_9 (z_pu0V rfl) ⟨by decide, by decide, kk, ?_⟩⟩
    rw [nI_clamp (show 12 < 2 ^ 31 by decide), g.1.1]
    exact J2
  clear ga gp kk g h
  intro h g
  have gp := g_poi g 2 (nI 0)
  suffices hh : ∀ h' : z_H, gI h0 x 1 12 26 (fun j => if j = 0 then 1 else 0) (fun j => if j = 0 then 12 else 0) (z_u (z_or h0 x) 1 (some (x + 1 + 0))) (z_u (z_u (z_oi h0 x) 0 (nI 0)) 2 (nI 0)) h' → ∃ h2, gI h0 x 1 12 26 (fun j => if j = 0 then 1 else 0) (fun j => if j = 0 then 12 else 0) (z_u (z_or h0 x) 1 (some (x + 1 + 0))) (z_u (z_u (z_u (z_oi h0 x) 0 (nI 0)) 2 (nI 0)) 3 (nI 0)) h2 ∧ z_J G (d + 4) (m_X10_init z_pu0) (.inl none, h2) 22 [some (.ref x)] [] h' by
    obtain ⟨h2, g2, J2⟩ := hh _ gp
    exact ⟨h2, g2, b_X10_init_17 (z_pu0V rfl) ⟨g.2.2.2.1, J2⟩⟩
  clear gp g h
  intro h g
  have gp := g_poi g 3 (nI 0)
  suffices hh : ∀ h' : z_H, gI h0 x 1 12 26 (fun j => if j = 0 then 1 else 0) (fun j => if j = 0 then 12 else 0) (z_u (z_or h0 x) 1 (some (x + 1 + 0))) (z_u (z_u (z_u (z_oi h0 x) 0 (nI 0)) 2 (nI 0)) 3 (nI 0)) h' → ∃ h2, gI h0 x 1 12 26 (fun j => if j = 0 then 1 else 0) (fun j => if j = 0 then 12 else 0) (z_u (z_or h0 x) 1 (some (x + 1 + 0))) (z_u (z_u (z_u (z_oi h0 x) 0 (nI 0)) 2 (nI 0)) 3 (nI 0)) h2 ∧ z_J G (d + 4) (m_X10_init z_pu0) (.inl none, h2) 27 [none] [] h' by
    obtain ⟨h2, g2, J2⟩ := hh _ gp
    exact ⟨h2, g2, b_X10_init_22 (z_pu0V rfl) ⟨g.2.2.2.1, J2⟩⟩
  clear gp g h
  intro h g
  exact ⟨h, g, b_X10_init_27 (z_pu0V rfl) rfl⟩
end C15
