theorem en_X12_init {pu : Nat → Option ((List Value → z_H → Prop) × (List Value → z_H → Int32))} {G : z_G} {d : Nat} {r : z_Res} {h : z_H} {x0 : Nat} (hJ : z_J G d (m_X12_init pu) r 0 [some (.ref x0)] [] h) : z_Ev G d k_X12_init [.ref x0] h r := z_enter (μ := m_X12_init pu) rfl (by decide) rfl rfl (fun _ => rfl) (Nat.le_of_ble_eq_true rfl) hJ
def hd_X12_init : Nat → Option (List Bool) := (fun k => (cond (Nat.blt k 229) (cond (Nat.blt k 116) (cond (Nat.blt k 59) (cond (Nat.blt k 28) (cond (Nat.blt k 13) (cond (Nat.beq k 4) (some [true]) none) (cond (Nat.blt k 21) (cond (Nat.beq k 13) (some [true]) none) (cond (Nat.beq k 21) (some [true]) none))) (cond (Nat.blt k 42) (cond (Nat.blt k 37) (cond (Nat.beq k 28) (some [true]) none) (cond (Nat.beq k 37) (some [true]) none)) (cond (Nat.blt k 50) (cond (Nat.beq k 42) (some [true]) none) (cond (Nat.beq k 50) (some [true]) none)))) (cond (Nat.blt k 83) (cond (Nat.blt k 67) (cond (Nat.beq k 59) (some [true]) none) (cond (Nat.blt k 75) (cond (Nat.beq k 67) (some [true]) none) (cond (Nat.beq k 75) (some [true]) none))) (cond (Nat.blt k 99) (cond (Nat.blt k 91) (cond (Nat.beq k 83) (some [true]) none) (cond (Nat.beq k 91) (some [true]) none)) (cond (Nat.blt k 107) (cond (Nat.beq k 99) (some [true]) none) (cond (Nat.beq k 107) (some [true]) none))))) (cond (Nat.blt k 170) (cond (Nat.blt k 138) (cond (Nat.blt k 121) (cond (Nat.beq k 116) (some [true]) none) (cond (Nat.blt k 130) (cond (Nat.beq k 121) (some [true]) none) (cond (Nat.beq k 130) (some [true]) none))) (cond (Nat.blt k 154) (cond (Nat.blt k 146) (cond (Nat.beq k 138) (some [true]) none) (cond (Nat.beq k 146) (some [true]) none)) (cond (Nat.blt k 162) (cond (Nat.beq k 154) (some [true]) none) (cond (Nat.beq k 162) (some [true]) none)))) (cond (Nat.blt k 195) (cond (Nat.blt k 178) (cond (Nat.beq k 170) (some [true]) none) (cond (Nat.blt k 186) (cond (Nat.beq k 178) (some [true]) none) (cond (Nat.beq k 186) (some [true]) none))) (cond (Nat.blt k 213) (cond (Nat.blt k 204) (cond (Nat.beq k 195) (some [true]) none) (cond (Nat.beq k 204) (some [true]) none)) (cond (Nat.blt k 220) (cond (Nat.beq k 213) (some [true]) none) (cond (Nat.beq k 220) (some [true]) none)))))) none))
set_option maxRecDepth 20000 in
theorem b_X12_init_0 {G : z_G} {d : Nat} {r : z_Res} (hPu : z_PuV G d (t_X12 z_puC)) {h : z_H} {x0 : Nat} (hT : (z_J G (d + 1) (m_X12_init z_puC) r) 4 [some (.ref x0)] [] h) : (z_J G (d + 1) (m_X12_init z_puC) r) 0 [some (.ref x0)] [] h := z_bq (v_X12 z_puC (vP_X12_init z_puC) hPu) hd_X12_init 5 hT
set_option maxRecDepth 20000 in
theorem b_X12_init_4 {G : z_G} {d : Nat} {r : z_Res} (hPu : z_PuV G d (t_X12 z_puC)) {h : z_H} {x0 : Nat} (hT : (¬ (nI 154) < 0 ∧ Int32.toNatClampNeg (nI 154) ≤ 1000000 ∧ (z_kd (z_nwi h 1 (Int32.toNatClampNeg (nI 154)) (fun _ => 0)) x0 = 28 ∧ (z_J G (d + 1) (m_X12_init z_puC) r) 13 [some (.ref x0)] [] (z_por (z_nwi h 1 (Int32.toNatClampNeg (nI 154)) (fun _ => 0)) x0 1 (some (z_n h)))))) : (z_J G (d + 1) (m_X12_init z_puC) r) 4 [some (.ref x0)] [] h := z_bq (v_X12 z_puC (vP_X12_init z_puC) hPu) hd_X12_init 7 hT
set_option maxRecDepth 20000 in
theorem b_X12_init_13 {G : z_G} {d : Nat} {r : z_Res} (hPu : z_PuV G d (t_X12 z_puC)) {h : z_H} {x0 : Nat} (hT : (¬ (nI 30) < 0 ∧ Int32.toNatClampNeg (nI 30) ≤ 1000000 ∧ (z_kd (z_nwi h 1 (Int32.toNatClampNeg (nI 30)) (fun _ => 0)) x0 = 28 ∧ (z_J G (d + 1) (m_X12_init z_puC) r) 21 [some (.ref x0)] [] (z_por (z_nwi h 1 (Int32.toNatClampNeg (nI 30)) (fun _ => 0)) x0 2 (some (z_n h)))))) : (z_J G (d + 1) (m_X12_init z_puC) r) 13 [some (.ref x0)] [] h := z_bq (v_X12 z_puC (vP_X12_init z_puC) hPu) hd_X12_init 7 hT
set_option maxRecDepth 20000 in
theorem b_X12_init_21 {G : z_G} {d : Nat} {r : z_Res} (hPu : z_PuV G d (t_X12 z_puC)) {h : z_H} {x0 : Nat} (hT : (¬ (nI 2) < 0 ∧ Int32.toNatClampNeg (nI 2) ≤ 1000000 ∧ (z_kd (z_nwi h 1 (Int32.toNatClampNeg (nI 2)) (fun _ => 0)) x0 = 28 ∧ (z_J G (d + 1) (m_X12_init z_puC) r) 28 [some (.ref x0)] [] (z_por (z_nwi h 1 (Int32.toNatClampNeg (nI 2)) (fun _ => 0)) x0 3 (some (z_n h)))))) : (z_J G (d + 1) (m_X12_init z_puC) r) 21 [some (.ref x0)] [] h := z_bq (v_X12 z_puC (vP_X12_init z_puC) hPu) hd_X12_init 7 hT
set_option maxRecDepth 20000 in
theorem b_X12_init_28 {G : z_G} {d : Nat} {r : z_Res} (hPu : z_PuV G d (t_X12 z_puC)) {h : z_H} {x0 : Nat} (hT : (¬ (nI 400) < 0 ∧ Int32.toNatClampNeg (nI 400) ≤ 1000000 ∧ (z_kd (z_nwi h 1 (Int32.toNatClampNeg (nI 400)) (fun _ => 0)) x0 = 28 ∧ (z_J G (d + 1) (m_X12_init z_puC) r) 37 [some (.ref x0)] [] (z_por (z_nwi h 1 (Int32.toNatClampNeg (nI 400)) (fun _ => 0)) x0 4 (some (z_n h)))))) : (z_J G (d + 1) (m_X12_init z_puC) r) 28 [some (.ref x0)] [] h := z_bq (v_X12 z_puC (vP_X12_init z_puC) hPu) hd_X12_init 7 hT
set_option maxRecDepth 20000 in
theorem b_X12_init_37 {G : z_G} {d : Nat} {r : z_Res} (hPu : z_PuV G d (t_X12 z_puC)) {h : z_H} {x0 : Nat} (hT : (z_kd h x0 = 28 ∧ (z_J G (d + 1) (m_X12_init z_puC) r) 42 [some (.ref x0)] [] (z_poi h x0 14 mI))) : (z_J G (d + 1) (m_X12_init z_puC) r) 37 [some (.ref x0)] [] h := z_bq (v_X12 z_puC (vP_X12_init z_puC) hPu) hd_X12_init 6 hT
set_option maxRecDepth 20000 in
theorem b_X12_init_42 {G : z_G} {d : Nat} {r : z_Res} (hPu : z_PuV G d (t_X12 z_puC)) {h : z_H} {x0 : Nat} (hT : (¬ (nI 8) < 0 ∧ Int32.toNatClampNeg (nI 8) ≤ 1000000 ∧ (z_kd (z_nwi h 1 (Int32.toNatClampNeg (nI 8)) (fun _ => 0)) x0 = 28 ∧ (z_J G (d + 1) (m_X12_init z_puC) r) 50 [some (.ref x0)] [] (z_por (z_nwi h 1 (Int32.toNatClampNeg (nI 8)) (fun _ => 0)) x0 16 (some (z_n h)))))) : (z_J G (d + 1) (m_X12_init z_puC) r) 42 [some (.ref x0)] [] h := z_bq (v_X12 z_puC (vP_X12_init z_puC) hPu) hd_X12_init 7 hT
set_option maxRecDepth 20000 in
theorem b_X12_init_50 {G : z_G} {d : Nat} {r : z_Res} (hPu : z_PuV G d (t_X12 z_puC)) {h : z_H} {x0 : Nat} (hT : (¬ (nI 256) < 0 ∧ Int32.toNatClampNeg (nI 256) ≤ 1000000 ∧ (z_kd (z_nwi h 1 (Int32.toNatClampNeg (nI 256)) (fun _ => 0)) x0 = 28 ∧ (z_J G (d + 1) (m_X12_init z_puC) r) 59 [some (.ref x0)] [] (z_por (z_nwi h 1 (Int32.toNatClampNeg (nI 256)) (fun _ => 0)) x0 17 (some (z_n h)))))) : (z_J G (d + 1) (m_X12_init z_puC) r) 50 [some (.ref x0)] [] h := z_bq (v_X12 z_puC (vP_X12_init z_puC) hPu) hd_X12_init 7 hT
set_option maxRecDepth 20000 in
theorem b_X12_init_59 {G : z_G} {d : Nat} {r : z_Res} (hPu : z_PuV G d (t_X12 z_puC)) {h : z_H} {x0 : Nat} (hT : (¬ (nI 8) < 0 ∧ Int32.toNatClampNeg (nI 8) ≤ 1000000 ∧ (z_kd (z_nwi h 1 (Int32.toNatClampNeg (nI 8)) (fun _ => 0)) x0 = 28 ∧ (z_J G (d + 1) (m_X12_init z_puC) r) 67 [some (.ref x0)] [] (z_por (z_nwi h 1 (Int32.toNatClampNeg (nI 8)) (fun _ => 0)) x0 18 (some (z_n h)))))) : (z_J G (d + 1) (m_X12_init z_puC) r) 59 [some (.ref x0)] [] h := z_bq (v_X12 z_puC (vP_X12_init z_puC) hPu) hd_X12_init 7 hT
set_option maxRecDepth 20000 in
theorem b_X12_init_67 {G : z_G} {d : Nat} {r : z_Res} (hPu : z_PuV G d (t_X12 z_puC)) {h : z_H} {x0 : Nat} (hT : (¬ (nI 8) < 0 ∧ Int32.toNatClampNeg (nI 8) ≤ 1000000 ∧ (z_kd (z_nwi h 1 (Int32.toNatClampNeg (nI 8)) (fun _ => 0)) x0 = 28 ∧ (z_J G (d + 1) (m_X12_init z_puC) r) 75 [some (.ref x0)] [] (z_por (z_nwi h 1 (Int32.toNatClampNeg (nI 8)) (fun _ => 0)) x0 19 (some (z_n h)))))) : (z_J G (d + 1) (m_X12_init z_puC) r) 67 [some (.ref x0)] [] h := z_bq (v_X12 z_puC (vP_X12_init z_puC) hPu) hd_X12_init 7 hT
set_option maxRecDepth 20000 in
theorem b_X12_init_75 {G : z_G} {d : Nat} {r : z_Res} (hPu : z_PuV G d (t_X12 z_puC)) {h : z_H} {x0 : Nat} (hT : (¬ (nI 8) < 0 ∧ Int32.toNatClampNeg (nI 8) ≤ 1000000 ∧ (z_kd (z_nwi h 1 (Int32.toNatClampNeg (nI 8)) (fun _ => 0)) x0 = 28 ∧ (z_J G (d + 1) (m_X12_init z_puC) r) 83 [some (.ref x0)] [] (z_por (z_nwi h 1 (Int32.toNatClampNeg (nI 8)) (fun _ => 0)) x0 20 (some (z_n h)))))) : (z_J G (d + 1) (m_X12_init z_puC) r) 75 [some (.ref x0)] [] h := z_bq (v_X12 z_puC (vP_X12_init z_puC) hPu) hd_X12_init 7 hT
set_option maxRecDepth 20000 in
theorem b_X12_init_83 {G : z_G} {d : Nat} {r : z_Res} (hPu : z_PuV G d (t_X12 z_puC)) {h : z_H} {x0 : Nat} (hT : (¬ (nI 12) < 0 ∧ Int32.toNatClampNeg (nI 12) ≤ 1000000 ∧ (z_kd (z_nwi h 1 (Int32.toNatClampNeg (nI 12)) (fun _ => 0)) x0 = 28 ∧ (z_J G (d + 1) (m_X12_init z_puC) r) 91 [some (.ref x0)] [] (z_por (z_nwi h 1 (Int32.toNatClampNeg (nI 12)) (fun _ => 0)) x0 21 (some (z_n h)))))) : (z_J G (d + 1) (m_X12_init z_puC) r) 83 [some (.ref x0)] [] h := z_bq (v_X12 z_puC (vP_X12_init z_puC) hPu) hd_X12_init 7 hT
set_option maxRecDepth 20000 in
theorem b_X12_init_91 {G : z_G} {d : Nat} {r : z_Res} (hPu : z_PuV G d (t_X12 z_puC)) {h : z_H} {x0 : Nat} (hT : (¬ (nI 12) < 0 ∧ Int32.toNatClampNeg (nI 12) ≤ 1000000 ∧ (z_kd (z_nwi h 1 (Int32.toNatClampNeg (nI 12)) (fun _ => 0)) x0 = 28 ∧ (z_J G (d + 1) (m_X12_init z_puC) r) 99 [some (.ref x0)] [] (z_por (z_nwi h 1 (Int32.toNatClampNeg (nI 12)) (fun _ => 0)) x0 22 (some (z_n h)))))) : (z_J G (d + 1) (m_X12_init z_puC) r) 91 [some (.ref x0)] [] h := z_bq (v_X12 z_puC (vP_X12_init z_puC) hPu) hd_X12_init 7 hT
set_option maxRecDepth 20000 in
theorem b_X12_init_99 {G : z_G} {d : Nat} {r : z_Res} (hPu : z_PuV G d (t_X12 z_puC)) {h : z_H} {x0 : Nat} (hT : (¬ (nI 8) < 0 ∧ Int32.toNatClampNeg (nI 8) ≤ 1000000 ∧ (z_kd (z_nwi h 1 (Int32.toNatClampNeg (nI 8)) (fun _ => 0)) x0 = 28 ∧ (z_J G (d + 1) (m_X12_init z_puC) r) 107 [some (.ref x0)] [] (z_por (z_nwi h 1 (Int32.toNatClampNeg (nI 8)) (fun _ => 0)) x0 23 (some (z_n h)))))) : (z_J G (d + 1) (m_X12_init z_puC) r) 99 [some (.ref x0)] [] h := z_bq (v_X12 z_puC (vP_X12_init z_puC) hPu) hd_X12_init 7 hT
set_option maxRecDepth 20000 in
theorem b_X12_init_107 {G : z_G} {d : Nat} {r : z_Res} (hPu : z_PuV G d (t_X12 z_puC)) {h : z_H} {x0 : Nat} (hT : (¬ (nI 6160) < 0 ∧ Int32.toNatClampNeg (nI 6160) ≤ 1000000 ∧ (z_kd (z_nwi h 1 (Int32.toNatClampNeg (nI 6160)) (fun _ => 0)) x0 = 28 ∧ (z_J G (d + 1) (m_X12_init z_puC) r) 116 [some (.ref x0)] [] (z_por (z_nwi h 1 (Int32.toNatClampNeg (nI 6160)) (fun _ => 0)) x0 26 (some (z_n h)))))) : (z_J G (d + 1) (m_X12_init z_puC) r) 107 [some (.ref x0)] [] h := z_bq (v_X12 z_puC (vP_X12_init z_puC) hPu) hd_X12_init 7 hT
set_option maxRecDepth 20000 in
theorem b_X12_init_116 {G : z_G} {d : Nat} {r : z_Res} (hPu : z_PuV G d (t_X12 z_puC)) {h : z_H} {x0 : Nat} (hT : (z_kd h x0 = 28 ∧ (z_J G (d + 1) (m_X12_init z_puC) r) 121 [some (.ref x0)] [] (z_poi h x0 28 mI))) : (z_J G (d + 1) (m_X12_init z_puC) r) 116 [some (.ref x0)] [] h := z_bq (v_X12 z_puC (vP_X12_init z_puC) hPu) hd_X12_init 6 hT
set_option maxRecDepth 20000 in
theorem b_X12_init_121 {G : z_G} {d : Nat} {r : z_Res} (hPu : z_PuV G d (t_X12 z_puC)) {h : z_H} {x0 : Nat} (hT : (¬ (nI 14000) < 0 ∧ Int32.toNatClampNeg (nI 14000) ≤ 1000000 ∧ (z_kd (z_nwi h 1 (Int32.toNatClampNeg (nI 14000)) (fun _ => 0)) x0 = 28 ∧ (z_J G (d + 1) (m_X12_init z_puC) r) 130 [some (.ref x0)] [] (z_por (z_nwi h 1 (Int32.toNatClampNeg (nI 14000)) (fun _ => 0)) x0 30 (some (z_n h)))))) : (z_J G (d + 1) (m_X12_init z_puC) r) 121 [some (.ref x0)] [] h := z_bq (v_X12 z_puC (vP_X12_init z_puC) hPu) hd_X12_init 7 hT
set_option maxRecDepth 20000 in
theorem b_X12_init_130 {G : z_G} {d : Nat} {r : z_Res} (hPu : z_PuV G d (t_X12 z_puC)) {h : z_H} {x0 : Nat} (hT : (¬ (nI 7) < 0 ∧ Int32.toNatClampNeg (nI 7) ≤ 1000000 ∧ (z_kd (z_nwi h 1 (Int32.toNatClampNeg (nI 7)) (fun _ => 0)) x0 = 28 ∧ (z_J G (d + 1) (m_X12_init z_puC) r) 138 [some (.ref x0)] [] (z_por (z_nwi h 1 (Int32.toNatClampNeg (nI 7)) (fun _ => 0)) x0 31 (some (z_n h)))))) : (z_J G (d + 1) (m_X12_init z_puC) r) 130 [some (.ref x0)] [] h := z_bq (v_X12 z_puC (vP_X12_init z_puC) hPu) hd_X12_init 7 hT
set_option maxRecDepth 20000 in
theorem b_X12_init_138 {G : z_G} {d : Nat} {r : z_Res} (hPu : z_PuV G d (t_X12 z_puC)) {h : z_H} {x0 : Nat} (hT : (¬ (nI 8) < 0 ∧ Int32.toNatClampNeg (nI 8) ≤ 1000000 ∧ (z_kd (z_nwi h 1 (Int32.toNatClampNeg (nI 8)) (fun _ => 0)) x0 = 28 ∧ (z_J G (d + 1) (m_X12_init z_puC) r) 146 [some (.ref x0)] [] (z_por (z_nwi h 1 (Int32.toNatClampNeg (nI 8)) (fun _ => 0)) x0 32 (some (z_n h)))))) : (z_J G (d + 1) (m_X12_init z_puC) r) 138 [some (.ref x0)] [] h := z_bq (v_X12 z_puC (vP_X12_init z_puC) hPu) hd_X12_init 7 hT
set_option maxRecDepth 20000 in
theorem b_X12_init_146 {G : z_G} {d : Nat} {r : z_Res} (hPu : z_PuV G d (t_X12 z_puC)) {h : z_H} {x0 : Nat} (hT : (¬ (nI 8) < 0 ∧ Int32.toNatClampNeg (nI 8) ≤ 1000000 ∧ (z_kd (z_nwi h 1 (Int32.toNatClampNeg (nI 8)) (fun _ => 0)) x0 = 28 ∧ (z_J G (d + 1) (m_X12_init z_puC) r) 154 [some (.ref x0)] [] (z_por (z_nwi h 1 (Int32.toNatClampNeg (nI 8)) (fun _ => 0)) x0 33 (some (z_n h)))))) : (z_J G (d + 1) (m_X12_init z_puC) r) 146 [some (.ref x0)] [] h := z_bq (v_X12 z_puC (vP_X12_init z_puC) hPu) hd_X12_init 7 hT
set_option maxRecDepth 20000 in
theorem b_X12_init_154 {G : z_G} {d : Nat} {r : z_Res} (hPu : z_PuV G d (t_X12 z_puC)) {h : z_H} {x0 : Nat} (hT : (¬ (nI 16) < 0 ∧ Int32.toNatClampNeg (nI 16) ≤ 1000000 ∧ (z_kd (z_nwi h 1 (Int32.toNatClampNeg (nI 16)) (fun _ => 0)) x0 = 28 ∧ (z_J G (d + 1) (m_X12_init z_puC) r) 162 [some (.ref x0)] [] (z_por (z_nwi h 1 (Int32.toNatClampNeg (nI 16)) (fun _ => 0)) x0 34 (some (z_n h)))))) : (z_J G (d + 1) (m_X12_init z_puC) r) 154 [some (.ref x0)] [] h := z_bq (v_X12 z_puC (vP_X12_init z_puC) hPu) hd_X12_init 7 hT
set_option maxRecDepth 20000 in
theorem b_X12_init_162 {G : z_G} {d : Nat} {r : z_Res} (hPu : z_PuV G d (t_X12 z_puC)) {h : z_H} {x0 : Nat} (hT : (¬ (nI 16) < 0 ∧ Int32.toNatClampNeg (nI 16) ≤ 1000000 ∧ (z_kd (z_nwi h 1 (Int32.toNatClampNeg (nI 16)) (fun _ => 0)) x0 = 28 ∧ (z_J G (d + 1) (m_X12_init z_puC) r) 170 [some (.ref x0)] [] (z_por (z_nwi h 1 (Int32.toNatClampNeg (nI 16)) (fun _ => 0)) x0 35 (some (z_n h)))))) : (z_J G (d + 1) (m_X12_init z_puC) r) 162 [some (.ref x0)] [] h := z_bq (v_X12 z_puC (vP_X12_init z_puC) hPu) hd_X12_init 7 hT
set_option maxRecDepth 20000 in
theorem b_X12_init_170 {G : z_G} {d : Nat} {r : z_Res} (hPu : z_PuV G d (t_X12 z_puC)) {h : z_H} {x0 : Nat} (hT : (¬ (nI 16) < 0 ∧ Int32.toNatClampNeg (nI 16) ≤ 1000000 ∧ (z_kd (z_nwi h 1 (Int32.toNatClampNeg (nI 16)) (fun _ => 0)) x0 = 28 ∧ (z_J G (d + 1) (m_X12_init z_puC) r) 178 [some (.ref x0)] [] (z_por (z_nwi h 1 (Int32.toNatClampNeg (nI 16)) (fun _ => 0)) x0 36 (some (z_n h)))))) : (z_J G (d + 1) (m_X12_init z_puC) r) 170 [some (.ref x0)] [] h := z_bq (v_X12 z_puC (vP_X12_init z_puC) hPu) hd_X12_init 7 hT
set_option maxRecDepth 20000 in
theorem b_X12_init_178 {G : z_G} {d : Nat} {r : z_Res} (hPu : z_PuV G d (t_X12 z_puC)) {h : z_H} {x0 : Nat} (hT : (¬ (nI 65536) < 0 ∧ Int32.toNatClampNeg (nI 65536) ≤ 1000000 ∧ (z_kd (z_nwi h 1 (Int32.toNatClampNeg (nI 65536)) (fun _ => 0)) x0 = 28 ∧ (z_J G (d + 1) (m_X12_init z_puC) r) 186 [some (.ref x0)] [] (z_por (z_nwi h 1 (Int32.toNatClampNeg (nI 65536)) (fun _ => 0)) x0 44 (some (z_n h)))))) : (z_J G (d + 1) (m_X12_init z_puC) r) 178 [some (.ref x0)] [] h := z_bq (v_X12 z_puC (vP_X12_init z_puC) hPu) hd_X12_init 7 hT
set_option maxRecDepth 20000 in
theorem b_X12_init_186 {G : z_G} {d : Nat} {r : z_Res} (hPu : z_PuV G d (t_X12 z_puC)) {h : z_H} {x0 : Nat} (hT : (¬ (nI 154) < 0 ∧ Int32.toNatClampNeg (nI 154) ≤ 1000000 ∧ (z_kd (z_nwi h 1 (Int32.toNatClampNeg (nI 154)) (fun _ => 0)) x0 = 28 ∧ (z_J G (d + 1) (m_X12_init z_puC) r) 195 [some (.ref x0)] [] (z_por (z_nwi h 1 (Int32.toNatClampNeg (nI 154)) (fun _ => 0)) x0 46 (some (z_n h)))))) : (z_J G (d + 1) (m_X12_init z_puC) r) 186 [some (.ref x0)] [] h := z_bq (v_X12 z_puC (vP_X12_init z_puC) hPu) hd_X12_init 7 hT
set_option maxRecDepth 20000 in
theorem b_X12_init_195 {G : z_G} {d : Nat} {r : z_Res} (hPu : z_PuV G d (t_X12 z_puC)) {h : z_H} {x0 : Nat} (hT : (¬ (nI 154) < 0 ∧ Int32.toNatClampNeg (nI 154) ≤ 1000000 ∧ (z_kd (z_nwi h 1 (Int32.toNatClampNeg (nI 154)) (fun _ => 0)) x0 = 28 ∧ (z_J G (d + 1) (m_X12_init z_puC) r) 204 [some (.ref x0)] [] (z_por (z_nwi h 1 (Int32.toNatClampNeg (nI 154)) (fun _ => 0)) x0 49 (some (z_n h)))))) : (z_J G (d + 1) (m_X12_init z_puC) r) 195 [some (.ref x0)] [] h := z_bq (v_X12 z_puC (vP_X12_init z_puC) hPu) hd_X12_init 7 hT
set_option maxRecDepth 20000 in
theorem b_X12_init_204 {G : z_G} {d : Nat} {r : z_Res} (hPu : z_PuV G d (t_X12 z_puC)) {h : z_H} {x0 : Nat} (hT : (¬ (nI 6160) < 0 ∧ Int32.toNatClampNeg (nI 6160) ≤ 1000000 ∧ (z_kd (z_nwi h 1 (Int32.toNatClampNeg (nI 6160)) (fun _ => 0)) x0 = 28 ∧ (z_J G (d + 1) (m_X12_init z_puC) r) 213 [some (.ref x0)] [] (z_por (z_nwi h 1 (Int32.toNatClampNeg (nI 6160)) (fun _ => 0)) x0 50 (some (z_n h)))))) : (z_J G (d + 1) (m_X12_init z_puC) r) 204 [some (.ref x0)] [] h := z_bq (v_X12 z_puC (vP_X12_init z_puC) hPu) hd_X12_init 7 hT
set_option maxRecDepth 20000 in
theorem b_X12_init_213 {G : z_G} {d : Nat} {r : z_Res} (hPu : z_PuV G d (t_X12 z_puC)) {h : z_H} {x0 : Nat} (hT : (¬ (nI 2) < 0 ∧ Int32.toNatClampNeg (nI 2) ≤ 1000000 ∧ (z_kd (z_nwi h 1 (Int32.toNatClampNeg (nI 2)) (fun _ => 0)) x0 = 28 ∧ (z_J G (d + 1) (m_X12_init z_puC) r) 220 [some (.ref x0)] [] (z_por (z_nwi h 1 (Int32.toNatClampNeg (nI 2)) (fun _ => 0)) x0 51 (some (z_n h)))))) : (z_J G (d + 1) (m_X12_init z_puC) r) 213 [some (.ref x0)] [] h := z_bq (v_X12 z_puC (vP_X12_init z_puC) hPu) hd_X12_init 7 hT
set_option maxRecDepth 20000 in
theorem b_X12_init_220 {G : z_G} {d : Nat} {r : z_Res} (hPu : z_PuV G d (t_X12 z_puC)) {h : z_H} {x0 : Nat} (hT : (z_kd h x0 = 28 ∧ (z_rc (z_or h x0 1) False (fun x_1 => (z_kd h x_1 = 1 ∧ vp_in (nI 0) (z_ln h x_1) ∧ r = (.inl none, z_pai h x_1 (Int32.toNatClampNeg (nI 0)) (nI 7))))))) : (z_J G (d + 1) (m_X12_init z_puC) r) 220 [some (.ref x0)] [] h := z_bq (v_X12 z_puC (vP_X12_init z_puC) hPu) hd_X12_init 8 hT
/-! the reference made -/
def xsl (j : Nat) : Nat := ([0, 1, 2, 3, 4, 16, 17, 18, 19, 20, 21, 22, 23, 26, 30, 31, 32, 33, 34, 35, 36, 44, 46, 49, 50, 51][j]?).getD 0
def xle (j : Nat) : Nat := ([0, 154, 30, 2, 400, 8, 256, 8, 8, 8, 12, 12, 8, 6160, 14000, 7, 8, 8, 16, 16, 16, 65536, 154, 154, 6160, 2][j]?).getD 0
def xs : Nat → Nat
  | 0 => 0
  | k + 1 => xs k + xle (k + 1)
theorem xsl_ne : ∀ i, i < 26 → ∀ j, j < 26 → i ≠ j → xsl i ≠ xsl j := by decide
def frm (M : Nat) (h0 h : z_H) : Prop := ∀ q, q < M → z_kd h q = z_kd h0 q ∧ z_ln h q = z_ln h0 q ∧ z_oi h q = z_oi h0 q ∧ z_or h q = z_or h0 q ∧ z_ai h q = z_ai h0 q ∧ z_al h q = z_al h0 q ∧ z_ar h q = z_ar h0 q
def xInv (h0 : z_H) (M k : Nat) (F : Nat → Int32) (h : z_H) : Prop := z_n h = M + 1 + k ∧ z_c h = z_c h0 + k ∧ z_s h = z_s h0 + xs k ∧ z_kd h M = 28 ∧ z_oi h M = F ∧ (∀ j, 0 < j → j ≤ k → z_or h M (xsl j) = some (M + j) ∧ z_kd h (M + j) = 1 ∧ z_ln h (M + j) = xle j ∧ z_ai h (M + j) = fun _ => 0) ∧ frm M h0 h
section DM
variable {G : z_G} {d : Nat} {h0 h : z_H} {M k : Nat} {F : Nat → Int32}
theorem x_new' (hI : xInv h0 M k F h) (hk : k < 25) : z_kd (z_nwi h 1 (xle (k + 1)) (fun _ => 0)) M = 28 ∧ z_n h = M + 1 + k ∧ ∃ h', h' = z_por (z_nwi h 1 (xle (k + 1)) (fun _ => 0)) M (xsl (k + 1)) (some (z_n h)) ∧ xInv h0 M (k + 1) F h' := by
  obtain ⟨i1, i2, i3, i4, i5, i6, i7⟩ := hI
  have kM : z_kd (z_nwi h 1 (xle (k + 1)) (fun _ => 0)) M = 28 := by
    show z_u (z_kd h) (z_n h) 1 M = 28
    rw [u_ne _ _ (by omega)]; exact i4
  refine ⟨kM, i1, _, rfl, ?_, ?_, ?_, kM, i5, fun j hj0 hj => ?_, fun q hq => ?_⟩
  · show z_n h + 1 = _
    omega
  · show z_c h + 1 = _
    omega
  · show z_s h + xle (k + 1) = z_s h0 + (xs k + xle (k + 1))
    omega
  · by_cases e : j = k + 1
    · subst e
      refine ⟨?_, ?_, ?_, ?_⟩
      · show z_u (z_or h) M (z_u (z_or h M) (xsl (k + 1)) (some (z_n h))) M (xsl (k + 1)) = _
        rw [u_eq, u_eq, i1]
        exact congrArg some (by omega)
      · show z_u (z_kd h) (z_n h) 1 (M + (k + 1)) = 1
        rw [i1, show M + 1 + k = M + (k + 1) by omega, u_eq]
      · show z_u (z_ln h) (z_n h) (xle (k + 1)) (M + (k + 1)) = _
        rw [i1, show M + 1 + k = M + (k + 1) by omega, u_eq]
      · show z_u (z_ai h) (z_n h) (fun _ => 0) (M + (k + 1)) = _
        rw [i1, show M + 1 + k = M + (k + 1) by omega, u_eq]
    · obtain ⟨j1, j2, j3, j4⟩ := i6 j hj0 (by omega)
      refine ⟨?_, ?_, ?_, ?_⟩
      · show z_u (z_or h) M (z_u (z_or h M) (xsl (k + 1)) (some (z_n h))) M (xsl j) = _
        rw [u_eq, u_ne _ _ (xsl_ne j (by omega) (k + 1) (by omega) e)]; exact j1
      · show z_u (z_kd h) (z_n h) 1 (M + j) = 1
        rw [u_ne _ _ (by omega)]; exact j2
      · show z_u (z_ln h) (z_n h) (xle (k + 1)) (M + j) = _
        rw [u_ne _ _ (by omega)]; exact j3
      · show z_u (z_ai h) (z_n h) (fun _ => 0) (M + j) = _
        rw [u_ne _ _ (by omega)]; exact j4
  · obtain ⟨q1, q2, q3, q4, q5, q6, q7⟩ := i7 q hq
    refine ⟨?_, ?_, q3, ?_, ?_, q6, q7⟩
    · show z_u (z_kd h) (z_n h) 1 q = _
      rw [u_ne _ _ (by omega)]; exact q1
    · show z_u (z_ln h) (z_n h) (xle (k + 1)) q = _
      rw [u_ne _ _ (by omega)]; exact q2
    · show z_u (z_or h) M (z_u (z_or h M) (xsl (k + 1)) (some (z_n h))) q = _
      rw [u_ne _ _ (by omega)]; exact q4
    · show z_u (z_ai h) (z_n h) (fun _ => 0) q = _
      rw [u_ne _ _ (by omega)]; exact q5
theorem x_poi (hI : xInv h0 M k F h) (s : Nat) (v : Int32) : xInv h0 M k (z_u F s v) (z_poi h M s v) := by
  obtain ⟨i1, i2, i3, i4, i5, i6, i7⟩ := hI
  refine ⟨i1, i2, i3, i4, ?_, i6, fun q hq => ?_⟩
  · show z_u (z_oi h) M (z_u (z_oi h M) s v) M = _
    rw [u_eq, i5]
  · obtain ⟨q1, q2, q3, q4, q5, q6, q7⟩ := i7 q hq
    refine ⟨q1, q2, ?_, q4, q5, q6, q7⟩
    show z_u (z_oi h) M (z_u (z_oi h M) s v) q = _
    rw [u_ne _ _ (by omega)]; exact q3
theorem x_init (hn : z_n h0 = M + 1) (hk : z_kd h0 M = 28) (hf : z_oi h0 M = fun _ => 0) : ∃ h1, xInv h0 M 25 (z_u (z_u (fun _ => 0) 14 mI) 28 mI) h1 ∧ z_Ev G (d + 4) k_X12_init [.ref M] h0 (.inl none, z_pai h1 (M + 1) 0 (nI 7)) := by
  have I0 : xInv h0 M 0 (fun _ => 0) h0 := ⟨hn, rfl, rfl, hk, hf, fun j h1 h2 => by omega, fun q _ => ⟨rfl, rfl, rfl, rfl, rfl, rfl, rfl⟩⟩
  obtain ⟨kd1, -, h1, eh1, I1⟩ := x_new' I0 (show 0 < 25 by decide)
  obtain ⟨kd2, -, h2, eh2, I2⟩ := x_new' I1 (show 1 < 25 by decide)
  obtain ⟨kd3, -, h3, eh3, I3⟩ := x_new' I2 (show 2 < 25 by decide)
  obtain ⟨kd4, -, h4, eh4, I4⟩ := x_new' I3 (show 3 < 25 by decide)
  obtain ⟨h4x, eh4x, I4x⟩ : ∃ g, g = z_poi h4 M 14 mI ∧ xInv h0 M 4 _ g := ⟨_, rfl, x_poi I4 14 mI⟩
  obtain ⟨kd5, -, h5, eh5, I5⟩ := x_new' I4x (show 4 < 25 by decide)
  obtain ⟨kd6, -, h6, eh6, I6⟩ := x_new' I5 (show 5 < 25 by decide)
  obtain ⟨kd7, -, h7, eh7, I7⟩ := x_new' I6 (show 6 < 25 by decide)
  obtain ⟨kd8, -, h8, eh8, I8⟩ := x_new' I7 (show 7 < 25 by decide)
  obtain ⟨kd9, -, h9, eh9, I9⟩ := x_new' I8 (show 8 < 25 by decide)
  obtain ⟨kd10, -, h10, eh10, I10⟩ := x_new' I9 (show 9 < 25 by decide)
  obtain ⟨kd11, -, h11, eh11, I11⟩ := x_new' I10 (show 10 < 25 by decide)
  obtain ⟨kd12, -, h12, eh12, I12⟩ := x_new' I11 (show 11 < 25 by decide)
  obtain ⟨kd13, -, h13, eh13, I13⟩ := x_new' I12 (show 12 < 25 by decide)
  obtain ⟨h13x, eh13x, I13x⟩ : ∃ g, g = z_poi h13 M 28 mI ∧ xInv h0 M 13 _ g := ⟨_, rfl, x_poi I13 28 mI⟩
  obtain ⟨kd14, -, h14, eh14, I14⟩ := x_new' I13x (show 13 < 25 by decide)
  obtain ⟨kd15, -, h15, eh15, I15⟩ := x_new' I14 (show 14 < 25 by decide)
  obtain ⟨kd16, -, h16, eh16, I16⟩ := x_new' I15 (show 15 < 25 by decide)
  obtain ⟨kd17, -, h17, eh17, I17⟩ := x_new' I16 (show 16 < 25 by decide)
  obtain ⟨kd18, -, h18, eh18, I18⟩ := x_new' I17 (show 17 < 25 by decide)
  obtain ⟨kd19, -, h19, eh19, I19⟩ := x_new' I18 (show 18 < 25 by decide)
  obtain ⟨kd20, -, h20, eh20, I20⟩ := x_new' I19 (show 19 < 25 by decide)
  obtain ⟨kd21, -, h21, eh21, I21⟩ := x_new' I20 (show 20 < 25 by decide)
  obtain ⟨kd22, -, h22, eh22, I22⟩ := x_new' I21 (show 21 < 25 by decide)
  obtain ⟨kd23, -, h23, eh23, I23⟩ := x_new' I22 (show 22 < 25 by decide)
  obtain ⟨kd24, -, h24, eh24, I24⟩ := x_new' I23 (show 23 < 25 by decide)
  obtain ⟨kd25, -, h25, eh25, I25⟩ := x_new' I24 (show 24 < 25 by decide)
  refine ⟨h25, I25, en_X12_init (b_X12_init_0 z_puCV ?_)⟩
  refine b_X12_init_4 z_puCV ⟨nI_nlt (Nat.zero_le _) (by decide), ?_⟩
  rw [show Int32.toNatClampNeg (nI 154) = xle 1 from nI_clamp (by decide)]
  refine ⟨by decide, kd1, ?_⟩
  rw [show z_por (z_nwi h0 1 (xle 1) (fun _ => 0)) M 1 (some (z_n h0)) = h1 from eh1.symm]
  refine b_X12_init_13 z_puCV ⟨nI_nlt (Nat.zero_le _) (by decide), ?_⟩
  rw [show Int32.toNatClampNeg (nI 30) = xle 2 from nI_clamp (by decide)]
  refine ⟨by decide, kd2, ?_⟩
  rw [show z_por (z_nwi h1 1 (xle 2) (fun _ => 0)) M 2 (some (z_n h1)) = h2 from eh2.symm]
  refine b_X12_init_21 z_puCV ⟨nI_nlt (Nat.zero_le _) (by decide), ?_⟩
  rw [show Int32.toNatClampNeg (nI 2) = xle 3 from nI_clamp (by decide)]
  refine ⟨by decide, kd3, ?_⟩
  rw [show z_por (z_nwi h2 1 (xle 3) (fun _ => 0)) M 3 (some (z_n h2)) = h3 from eh3.symm]
  refine b_X12_init_28 z_puCV ⟨nI_nlt (Nat.zero_le _) (by decide), ?_⟩
  rw [show Int32.toNatClampNeg (nI 400) = xle 4 from nI_clamp (by decide)]
  refine ⟨by decide, kd4, ?_⟩
  rw [show z_por (z_nwi h3 1 (xle 4) (fun _ => 0)) M 4 (some (z_n h3)) = h4 from eh4.symm]
  refine b_X12_init_37 z_puCV ⟨I4.2.2.2.1, ?_⟩
  rw [← eh4x]
  refine b_X12_init_42 z_puCV ⟨nI_nlt (Nat.zero_le _) (by decide), ?_⟩
  rw [show Int32.toNatClampNeg (nI 8) = xle 5 from nI_clamp (by decide)]
  refine ⟨by decide, kd5, ?_⟩
  rw [show z_por (z_nwi h4x 1 (xle 5) (fun _ => 0)) M 16 (some (z_n h4x)) = h5 from eh5.symm]
  refine b_X12_init_50 z_puCV ⟨nI_nlt (Nat.zero_le _) (by decide), ?_⟩
  rw [show Int32.toNatClampNeg (nI 256) = xle 6 from nI_clamp (by decide)]
  refine ⟨by decide, kd6, ?_⟩
  rw [show z_por (z_nwi h5 1 (xle 6) (fun _ => 0)) M 17 (some (z_n h5)) = h6 from eh6.symm]
  refine b_X12_init_59 z_puCV ⟨nI_nlt (Nat.zero_le _) (by decide), ?_⟩
  rw [show Int32.toNatClampNeg (nI 8) = xle 7 from nI_clamp (by decide)]
  refine ⟨by decide, kd7, ?_⟩
  rw [show z_por (z_nwi h6 1 (xle 7) (fun _ => 0)) M 18 (some (z_n h6)) = h7 from eh7.symm]
  refine b_X12_init_67 z_puCV ⟨nI_nlt (Nat.zero_le _) (by decide), ?_⟩
  rw [show Int32.toNatClampNeg (nI 8) = xle 8 from nI_clamp (by decide)]
  refine ⟨by decide, kd8, ?_⟩
  rw [show z_por (z_nwi h7 1 (xle 8) (fun _ => 0)) M 19 (some (z_n h7)) = h8 from eh8.symm]
  refine b_X12_init_75 z_puCV ⟨nI_nlt (Nat.zero_le _) (by decide), ?_⟩
  rw [show Int32.toNatClampNeg (nI 8) = xle 9 from nI_clamp (by decide)]
  refine ⟨by decide, kd9, ?_⟩
  rw [show z_por (z_nwi h8 1 (xle 9) (fun _ => 0)) M 20 (some (z_n h8)) = h9 from eh9.symm]
  refine b_X12_init_83 z_puCV ⟨nI_nlt (Nat.zero_le _) (by decide), ?_⟩
  rw [show Int32.toNatClampNeg (nI 12) = xle 10 from nI_clamp (by decide)]
  refine ⟨by decide, kd10, ?_⟩
  rw [show z_por (z_nwi h9 1 (xle 10) (fun _ => 0)) M 21 (some (z_n h9)) = h10 from eh10.symm]
  refine b_X12_init_91 z_puCV ⟨nI_nlt (Nat.zero_le _) (by decide), ?_⟩
  rw [show Int32.toNatClampNeg (nI 12) = xle 11 from nI_clamp (by decide)]
  refine ⟨by decide, kd11, ?_⟩
  rw [show z_por (z_nwi h10 1 (xle 11) (fun _ => 0)) M 22 (some (z_n h10)) = h11 from eh11.symm]
  refine b_X12_init_99 z_puCV ⟨nI_nlt (Nat.zero_le _) (by decide), ?_⟩
  rw [show Int32.toNatClampNeg (nI 8) = xle 12 from nI_clamp (by decide)]
  refine ⟨by decide, kd12, ?_⟩
  rw [show z_por (z_nwi h11 1 (xle 12) (fun _ => 0)) M 23 (some (z_n h11)) = h12 from eh12.symm]
  refine b_X12_init_107 z_puCV ⟨nI_nlt (Nat.zero_le _) (by decide), ?_⟩
  rw [show Int32.toNatClampNeg (nI 6160) = xle 13 from nI_clamp (by decide)]
  refine ⟨by decide, kd13, ?_⟩
  rw [show z_por (z_nwi h12 1 (xle 13) (fun _ => 0)) M 26 (some (z_n h12)) = h13 from eh13.symm]
  refine b_X12_init_116 z_puCV ⟨I13.2.2.2.1, ?_⟩
  rw [← eh13x]
  refine b_X12_init_121 z_puCV ⟨nI_nlt (Nat.zero_le _) (by decide), ?_⟩
  rw [show Int32.toNatClampNeg (nI 14000) = xle 14 from nI_clamp (by decide)]
  refine ⟨by decide, kd14, ?_⟩
  rw [show z_por (z_nwi h13x 1 (xle 14) (fun _ => 0)) M 30 (some (z_n h13x)) = h14 from eh14.symm]
  refine b_X12_init_130 z_puCV ⟨nI_nlt (Nat.zero_le _) (by decide), ?_⟩
  rw [show Int32.toNatClampNeg (nI 7) = xle 15 from nI_clamp (by decide)]
  refine ⟨by decide, kd15, ?_⟩
  rw [show z_por (z_nwi h14 1 (xle 15) (fun _ => 0)) M 31 (some (z_n h14)) = h15 from eh15.symm]
  refine b_X12_init_138 z_puCV ⟨nI_nlt (Nat.zero_le _) (by decide), ?_⟩
  rw [show Int32.toNatClampNeg (nI 8) = xle 16 from nI_clamp (by decide)]
  refine ⟨by decide, kd16, ?_⟩
  rw [show z_por (z_nwi h15 1 (xle 16) (fun _ => 0)) M 32 (some (z_n h15)) = h16 from eh16.symm]
  refine b_X12_init_146 z_puCV ⟨nI_nlt (Nat.zero_le _) (by decide), ?_⟩
  rw [show Int32.toNatClampNeg (nI 8) = xle 17 from nI_clamp (by decide)]
  refine ⟨by decide, kd17, ?_⟩
  rw [show z_por (z_nwi h16 1 (xle 17) (fun _ => 0)) M 33 (some (z_n h16)) = h17 from eh17.symm]
  refine b_X12_init_154 z_puCV ⟨nI_nlt (Nat.zero_le _) (by decide), ?_⟩
  rw [show Int32.toNatClampNeg (nI 16) = xle 18 from nI_clamp (by decide)]
  refine ⟨by decide, kd18, ?_⟩
  rw [show z_por (z_nwi h17 1 (xle 18) (fun _ => 0)) M 34 (some (z_n h17)) = h18 from eh18.symm]
  refine b_X12_init_162 z_puCV ⟨nI_nlt (Nat.zero_le _) (by decide), ?_⟩
  rw [show Int32.toNatClampNeg (nI 16) = xle 19 from nI_clamp (by decide)]
  refine ⟨by decide, kd19, ?_⟩
  rw [show z_por (z_nwi h18 1 (xle 19) (fun _ => 0)) M 35 (some (z_n h18)) = h19 from eh19.symm]
  refine b_X12_init_170 z_puCV ⟨nI_nlt (Nat.zero_le _) (by decide), ?_⟩
  rw [show Int32.toNatClampNeg (nI 16) = xle 20 from nI_clamp (by decide)]
  refine ⟨by decide, kd20, ?_⟩
  rw [show z_por (z_nwi h19 1 (xle 20) (fun _ => 0)) M 36 (some (z_n h19)) = h20 from eh20.symm]
  refine b_X12_init_178 z_puCV ⟨nI_nlt (Nat.zero_le _) (by decide), ?_⟩
  rw [show Int32.toNatClampNeg (nI 65536) = xle 21 from nI_clamp (by decide)]
  refine ⟨by decide, kd21, ?_⟩
  rw [show z_por (z_nwi h20 1 (xle 21) (fun _ => 0)) M 44 (some (z_n h20)) = h21 from eh21.symm]
  refine b_X12_init_186 z_puCV ⟨nI_nlt (Nat.zero_le _) (by decide), ?_⟩
  rw [show Int32.toNatClampNeg (nI 154) = xle 22 from nI_clamp (by decide)]
  refine ⟨by decide, kd22, ?_⟩
  rw [show z_por (z_nwi h21 1 (xle 22) (fun _ => 0)) M 46 (some (z_n h21)) = h22 from eh22.symm]
  refine b_X12_init_195 z_puCV ⟨nI_nlt (Nat.zero_le _) (by decide), ?_⟩
  rw [show Int32.toNatClampNeg (nI 154) = xle 23 from nI_clamp (by decide)]
  refine ⟨by decide, kd23, ?_⟩
  rw [show z_por (z_nwi h22 1 (xle 23) (fun _ => 0)) M 49 (some (z_n h22)) = h23 from eh23.symm]
  refine b_X12_init_204 z_puCV ⟨nI_nlt (Nat.zero_le _) (by decide), ?_⟩
  rw [show Int32.toNatClampNeg (nI 6160) = xle 24 from nI_clamp (by decide)]
  refine ⟨by decide, kd24, ?_⟩
  rw [show z_por (z_nwi h23 1 (xle 24) (fun _ => 0)) M 50 (some (z_n h23)) = h24 from eh24.symm]
  refine b_X12_init_213 z_puCV ⟨nI_nlt (Nat.zero_le _) (by decide), ?_⟩
  rw [show Int32.toNatClampNeg (nI 2) = xle 25 from nI_clamp (by decide)]
  refine ⟨by decide, kd25, ?_⟩
  rw [show z_por (z_nwi h24 1 (xle 25) (fun _ => 0)) M 51 (some (z_n h24)) = h25 from eh25.symm]
  obtain ⟨j1, j2, j3, j4⟩ := I25.2.2.2.2.2.1 1 (by decide) (by decide)
  refine b_X12_init_220 z_puCV ⟨I25.2.2.2.1, ?_⟩
  rw [show z_or h25 M 1 = some (M + 1) from j1, z_rcs, nI_clamp (by decide)]
  exact ⟨j2, by rw [j3]; exact vp_in_nI (by decide) (by decide), rfl⟩

end DM
