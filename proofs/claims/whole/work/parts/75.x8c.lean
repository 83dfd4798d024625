theorem en_X8_foursOf {pu : Nat → Option ((List Value → z_H → Prop) × (List Value → z_H → Int32))} {G : z_G} {d : Nat} {r : z_Res} {h : z_H} {x0 : Nat} {x1 : Int32} {x2 : Int32} {x3 : Int32} (hJ : z_J G d (m_X8_foursOf pu) r 0 [some (.ref x0), some (.int x1), some (.int x2), some (.int x3), none, none] [] h) : z_Ev G d k_X8_foursOf [.ref x0, .int x1, .int x2, .int x3] h r := z_enter (μ := m_X8_foursOf pu) rfl (by decide) rfl rfl (fun q => by cases q) (Nat.le_of_ble_eq_true rfl) hJ
def hd_X8_foursOf : Nat → Option (List Bool) := (fun k => (cond (Nat.blt k 104) (cond (Nat.beq k 8) (some [true, true, true, true, true, true]) none) none))
set_option maxRecDepth 20000 in
theorem b_X8_foursOf_0 {G : z_G} {d : Nat} {r : z_Res} (hPu : z_PuV G d (t_X8 z_pu0)) {h : z_H} {x0 : Nat} {x1 : Int32} {x2 : Int32} {x3 : Int32} (hT : (z_J G (d + 1) (m_X8_foursOf z_pu0) r) 8 [some (.ref x0), some (.int x1), some (.int x2), some (.int x3), some (.int (nI 0)), some (.int (x3 + (nI 1)))] [] h) : (z_J G (d + 1) (m_X8_foursOf z_pu0) r) 0 [some (.ref x0), some (.int x1), some (.int x2), some (.int x3), none, none] [] h := z_bq (v_X8 z_pu0 (vP_X8_foursOf z_pu0) hPu) hd_X8_foursOf 9 hT
set_option maxRecDepth 20000 in
theorem b_X8_foursOf_8 {G : z_G} {d : Nat} {r : z_Res} (hPu : z_PuV G d (t_X8 z_pu0)) {h : z_H} {x0 : Nat} {x1 : Int32} {x2 : Int32} {x3 : Int32} {x4 : Int32} {x5 : Int32} (hT : (z_kd h x0 = 24 ∧ (if x5 < (z_oi h x0 1) then (z_kd h x0 = 24 ∧ (z_rc (z_or h x0 2) False (fun x_1 => (z_kd h x_1 = 1 ∧ vp_in x1 (z_ln h x_1) ∧ (z_kd h x0 = 24 ∧ (z_rc (z_or h x0 2) False (fun x_2 => (z_kd h x_2 = 1 ∧ vp_in x2 (z_ln h x_2) ∧ (z_kd h x0 = 24 ∧ (z_rc (z_or h x0 2) False (fun x_3 => (z_kd h x_3 = 1 ∧ vp_in x5 (z_ln h x_3) ∧ (∃ x_5 h_4, z_Ev G d k_X8_isTriangle [.int (z_ai h x_1 (Int32.toNatClampNeg x1)), .int (z_ai h x_2 (Int32.toNatClampNeg x2)), .int (z_ai h x_3 (Int32.toNatClampNeg x5))] h (.inl (some (.int x_5)), h_4) ∧ (if x_5 = (nI 0) then (z_J G (d + 1) (m_X8_foursOf z_pu0) r) 8 [some (.ref x0), some (.int x1), some (.int x2), some (.int x3), some (.int x4), some (.int (x5 + (nI 1)))] [] h_4 else (z_kd h_4 x0 = 24 ∧ (z_rc (z_or h_4 x0 2) False (fun x_6 => (z_kd h_4 x_6 = 1 ∧ vp_in x1 (z_ln h_4 x_6) ∧ (z_kd h_4 x0 = 24 ∧ (z_rc (z_or h_4 x0 2) False (fun x_7 => (z_kd h_4 x_7 = 1 ∧ vp_in x3 (z_ln h_4 x_7) ∧ (z_kd h_4 x0 = 24 ∧ (z_rc (z_or h_4 x0 2) False (fun x_8 => (z_kd h_4 x_8 = 1 ∧ vp_in x5 (z_ln h_4 x_8) ∧ (∃ x_10 h_9, z_Ev G d k_X8_isTriangle [.int (z_ai h_4 x_6 (Int32.toNatClampNeg x1)), .int (z_ai h_4 x_7 (Int32.toNatClampNeg x3)), .int (z_ai h_4 x_8 (Int32.toNatClampNeg x5))] h_4 (.inl (some (.int x_10)), h_9) ∧ (if x_10 = (nI 0) then (z_J G (d + 1) (m_X8_foursOf z_pu0) r) 8 [some (.ref x0), some (.int x1), some (.int x2), some (.int x3), some (.int x4), some (.int (x5 + (nI 1)))] [] h_9 else (z_kd h_9 x0 = 24 ∧ (z_rc (z_or h_9 x0 2) False (fun x_11 => (z_kd h_9 x_11 = 1 ∧ vp_in x2 (z_ln h_9 x_11) ∧ (z_kd h_9 x0 = 24 ∧ (z_rc (z_or h_9 x0 2) False (fun x_12 => (z_kd h_9 x_12 = 1 ∧ vp_in x3 (z_ln h_9 x_12) ∧ (z_kd h_9 x0 = 24 ∧ (z_rc (z_or h_9 x0 2) False (fun x_13 => (z_kd h_9 x_13 = 1 ∧ vp_in x5 (z_ln h_9 x_13) ∧ (∃ x_15 h_14, z_Ev G d k_X8_isTriangle [.int (z_ai h_9 x_11 (Int32.toNatClampNeg x2)), .int (z_ai h_9 x_12 (Int32.toNatClampNeg x3)), .int (z_ai h_9 x_13 (Int32.toNatClampNeg x5))] h_9 (.inl (some (.int x_15)), h_14) ∧ (if x_15 = (nI 0) then (z_J G (d + 1) (m_X8_foursOf z_pu0) r) 8 [some (.ref x0), some (.int x1), some (.int x2), some (.int x3), some (.int x4), some (.int (x5 + (nI 1)))] [] h_14 else (z_J G (d + 1) (m_X8_foursOf z_pu0) r) 8 [some (.ref x0), some (.int x1), some (.int x2), some (.int x3), some (.int (x4 + (nI 1))), some (.int (x5 + (nI 1)))] [] h_14)))))))))))))))))))))))))))))))))))))))))) else r = (.inl (some (.int x4)), h)))) : (z_J G (d + 1) (m_X8_foursOf z_pu0) r) 8 [some (.ref x0), some (.int x1), some (.int x2), some (.int x3), some (.int x4), some (.int x5)] [] h := z_bq (v_X8 z_pu0 (vP_X8_foursOf z_pu0) hPu) hd_X8_foursOf 52 hT
theorem en_X8_fours {pu : Nat → Option ((List Value → z_H → Prop) × (List Value → z_H → Int32))} {G : z_G} {d : Nat} {r : z_Res} {h : z_H} {x0 : Nat} (hJ : z_J G d (m_X8_fours pu) r 0 [some (.ref x0), none, none, none, none] [] h) : z_Ev G d k_X8_fours [.ref x0] h r := z_enter (μ := m_X8_fours pu) rfl (by decide) rfl rfl (fun q => by cases q) (Nat.le_of_ble_eq_true rfl) hJ
def hd_X8_fours : Nat → Option (List Bool) := (fun k => (cond (Nat.blt k 94) (cond (Nat.blt k 16) (cond (Nat.beq k 4) (some [true, true, true, false, false]) none) (cond (Nat.blt k 29) (cond (Nat.beq k 16) (some [true, true, true, true, false]) none) (cond (Nat.beq k 29) (some [true, true, true, true, true]) none))) none))
set_option maxRecDepth 20000 in
theorem b_X8_fours_0 {G : z_G} {d : Nat} {r : z_Res} (hPu : z_PuV G d (t_X8 z_pu0)) {h : z_H} {x0 : Nat} (hT : (z_J G (d + 1) (m_X8_fours z_pu0) r) 4 [some (.ref x0), some (.int (nI 0)), some (.int (nI 0)), none, none] [] h) : (z_J G (d + 1) (m_X8_fours z_pu0) r) 0 [some (.ref x0), none, none, none, none] [] h := z_bq (v_X8 z_pu0 (vP_X8_fours z_pu0) hPu) hd_X8_fours 7 hT
set_option maxRecDepth 20000 in
theorem b_X8_fours_4 {G : z_G} {d : Nat} {r : z_Res} (hPu : z_PuV G d (t_X8 z_pu0)) {h : z_H} {x0 : Nat} {x1 : Int32} {x2 : Int32} (hT : (z_kd h x0 = 24 ∧ (if x2 < (z_oi h x0 1) then (z_J G (d + 1) (m_X8_fours z_pu0) r) 16 [some (.ref x0), some (.int x1), some (.int x2), some (.int (x2 + (nI 1))), none] [] h else r = (.inl (some (.int x1)), h)))) : (z_J G (d + 1) (m_X8_fours z_pu0) r) 4 [some (.ref x0), some (.int x1), some (.int x2), none, none] [] h := z_bq (v_X8 z_pu0 (vP_X8_fours z_pu0) hPu) hd_X8_fours 11 hT
set_option maxRecDepth 20000 in
theorem b_X8_fours_16 {G : z_G} {d : Nat} {r : z_Res} (hPu : z_PuV G d (t_X8 z_pu0)) {h : z_H} {x0 : Nat} {x1 : Int32} {x2 : Int32} {x3 : Int32} (hT : (z_kd h x0 = 24 ∧ (if x3 < (z_oi h x0 1) then (z_J G (d + 1) (m_X8_fours z_pu0) r) 29 [some (.ref x0), some (.int x1), some (.int x2), some (.int x3), some (.int (x3 + (nI 1)))] [] h else (z_J G (d + 1) (m_X8_fours z_pu0) r) 4 [some (.ref x0), some (.int x1), some (.int (x2 + (nI 1))), none, none] [] h))) : (z_J G (d + 1) (m_X8_fours z_pu0) r) 16 [some (.ref x0), some (.int x1), some (.int x2), some (.int x3), none] [] h := z_bq (v_X8 z_pu0 (vP_X8_fours z_pu0) hPu) hd_X8_fours 11 hT
set_option maxRecDepth 20000 in
theorem b_X8_fours_29 {G : z_G} {d : Nat} {r : z_Res} (hPu : z_PuV G d (t_X8 z_pu0)) {h : z_H} {x0 : Nat} {x1 : Int32} {x2 : Int32} {x3 : Int32} {x4 : Int32} (hT : (z_kd h x0 = 24 ∧ (if x4 < (z_oi h x0 1) then (z_kd h x0 = 24 ∧ (z_rc (z_or h x0 2) False (fun x_1 => (z_kd h x_1 = 1 ∧ vp_in x2 (z_ln h x_1) ∧ (z_kd h x0 = 24 ∧ (z_rc (z_or h x0 2) False (fun x_2 => (z_kd h x_2 = 1 ∧ vp_in x3 (z_ln h x_2) ∧ (z_kd h x0 = 24 ∧ (z_rc (z_or h x0 2) False (fun x_3 => (z_kd h x_3 = 1 ∧ vp_in x4 (z_ln h x_3) ∧ (∃ x_5 h_4, z_Ev G d k_X8_isTriangle [.int (z_ai h x_1 (Int32.toNatClampNeg x2)), .int (z_ai h x_2 (Int32.toNatClampNeg x3)), .int (z_ai h x_3 (Int32.toNatClampNeg x4))] h (.inl (some (.int x_5)), h_4) ∧ (if x_5 = (nI 0) then (z_J G (d + 1) (m_X8_fours z_pu0) r) 29 [some (.ref x0), some (.int x1), some (.int x2), some (.int x3), some (.int (x4 + (nI 1)))] [] h_4 else (z_kd h_4 x0 = 24 ∧ ∃ x_7 h_6, z_Ev G d k_X8_foursOf [.ref x0, .int x2, .int x3, .int x4] h_4 (.inl (some (.int x_7)), h_6) ∧ (z_J G (d + 1) (m_X8_fours z_pu0) r) 29 [some (.ref x0), some (.int (x1 + x_7)), some (.int x2), some (.int x3), some (.int (x4 + (nI 1)))] [] h_6))))))))))))))) else (z_J G (d + 1) (m_X8_fours z_pu0) r) 16 [some (.ref x0), some (.int x1), some (.int x2), some (.int (x3 + (nI 1))), none] [] h))) : (z_J G (d + 1) (m_X8_fours z_pu0) r) 29 [some (.ref x0), some (.int x1), some (.int x2), some (.int x3), some (.int x4)] [] h := z_bq (v_X8 z_pu0 (vP_X8_fours z_pu0) hPu) hd_X8_fours 31 hT
theorem en_X8_areTwins {pu : Nat → Option ((List Value → z_H → Prop) × (List Value → z_H → Int32))} {G : z_G} {d : Nat} {r : z_Res} {h : z_H} {x0 : Nat} {x1 : Int32} {x2 : Int32} (hJ : z_J G d (m_X8_areTwins pu) r 0 [some (.ref x0), some (.int x1), some (.int x2), none, none] [] h) : z_Ev G d k_X8_areTwins [.ref x0, .int x1, .int x2] h r := z_enter (μ := m_X8_areTwins pu) rfl (by decide) rfl rfl (fun q => by cases q) (Nat.le_of_ble_eq_true rfl) hJ
def hd_X8_areTwins : Nat → Option (List Bool) := (fun k => (cond (Nat.blt k 78) (cond (Nat.beq k 28) (some [true, true, false, true, true]) none) none))
set_option maxRecDepth 20000 in
theorem b_X8_areTwins_0 {G : z_G} {d : Nat} {r : z_Res} (hPu : z_PuV G d (t_X8 z_pu0)) {h : z_H} {x0 : Nat} {x1 : Int32} {x2 : Int32} (hT : (z_kd h x0 = 24 ∧ (z_rc (z_or h x0 5) False (fun x_1 => (z_kd h x_1 = 1 ∧ vp_in x1 (z_ln h x_1) ∧ (z_kd h x0 = 24 ∧ (z_rc (z_or h x0 5) False (fun x_2 => (z_kd h x_2 = 1 ∧ vp_in x2 (z_ln h x_2) ∧ (if (z_ai h x_1 (Int32.toNatClampNeg x1)) = (z_ai h x_2 (Int32.toNatClampNeg x2)) then (z_J G (d + 1) (m_X8_areTwins z_pu0) r) 28 [some (.ref x0), some (.int x1), none, some (.int (((nI 1) <<< (x1 &&& (nI 31))) ||| ((nI 1) <<< (x2 &&& (nI 31))))), some (.int (nI 0))] [] h else (z_bz (nI 0) ∧ r = (.inl (some (.int (nI 0))), h)))))))))))) : (z_J G (d + 1) (m_X8_areTwins z_pu0) r) 0 [some (.ref x0), some (.int x1), some (.int x2), none, none] [] h := z_bq (v_X8 z_pu0 (vP_X8_areTwins z_pu0) hPu) hd_X8_areTwins 22 hT
set_option maxRecDepth 20000 in
theorem b_X8_areTwins_28 {G : z_G} {d : Nat} {r : z_Res} (hPu : z_PuV G d (t_X8 z_pu0)) {h : z_H} {x0 : Nat} {x1 : Int32} {x3 : Int32} {x4 : Int32} (hT : (z_kd h x0 = 24 ∧ (if x4 < (z_oi h x0 1) then (z_kd h x0 = 24 ∧ (z_rc (z_or h x0 2) False (fun x_1 => (z_kd h x_1 = 1 ∧ vp_in x4 (z_ln h x_1) ∧ (if ((z_ai h x_1 (Int32.toNatClampNeg x4)) &&& x3) = ((nI 1) <<< (x1 &&& (nI 31))) then (z_kd h x0 = 24 ∧ (z_rc (z_or h x0 2) False (fun x_2 => (z_kd h x_2 = 1 ∧ vp_in x4 (z_ln h x_2) ∧ (z_kd h x0 = 24 ∧ ∃ x_4 h_3, z_Ev G d k_X8_isLine [.ref x0, .int ((z_ai h x_2 (Int32.toNatClampNeg x4)) ^^^ x3)] h (.inl (some (.int x_4)), h_3) ∧ (if x_4 = (nI 0) then (z_bz (nI 0) ∧ r = (.inl (some (.int (nI 0))), h_3)) else (z_J G (d + 1) (m_X8_areTwins z_pu0) r) 28 [some (.ref x0), some (.int x1), none, some (.int x3), some (.int (x4 + (nI 1)))] [] h_3)))))) else (z_J G (d + 1) (m_X8_areTwins z_pu0) r) 28 [some (.ref x0), some (.int x1), none, some (.int x3), some (.int (x4 + (nI 1)))] [] h))))) else (z_bz (nI 1) ∧ r = (.inl (some (.int (nI 1))), h))))) : (z_J G (d + 1) (m_X8_areTwins z_pu0) r) 28 [some (.ref x0), some (.int x1), none, some (.int x3), some (.int x4)] [] h := z_bq (v_X8 z_pu0 (vP_X8_areTwins z_pu0) hPu) hd_X8_areTwins 28 hT
/-! the class: fours, girth, twins -/
def g_foursOf (S : Sc) (x y z : Nat) : Nat := itr (fun w n => n + (g_tri (S.2.2 x) (S.2.2 y) (S.2.2 w) && g_tri (S.2.2 x) (S.2.2 z) (S.2.2 w) && g_tri (S.2.2 y) (S.2.2 z) (S.2.2 w)).toNat) 0 (z + 1) S.2.1
def g_fours (S : Sc) : Nat := it (fun x n => itr (fun y n => itr (fun z n => if g_tri (S.2.2 x) (S.2.2 y) (S.2.2 z) then n + g_foursOf S x y z else n) n (y + 1) S.2.1) n (x + 1) S.2.1) 0 S.2.1
section EC
variable {G : z_G} {d q b : Nat} {h : z_H} {S : Sc}
theorem e8_foursOf (hA : sc_at q b h S) {x y z : Nat} (hx : x < y) (hy : y < z) (hz : z < S.2.1) : z_Ev G (d + 5) k_X8_foursOf [.ref q, .int (nI x), .int (nI y), .int (nI z)] h (.inl (some (.int (nI (g_foursOf S x y z)))), h) := by
  have hm := y_m12 hA
  have vi : ∀ l, l < S.2.1 → vp_in (nI l) (z_ln h (b + 5)) := fun l hl => by rw [(y_row hA).2.2]; exact vp_in_nI hl (by omega)
  refine en_X8_foursOf (b_X8_foursOf_0 (z_pu0V rfl) ?_)
  rw [nI_add]
  refine z_for (fun k v => [some (.ref q), some (.int (nI x)), some (.int (nI y)), some (.int (nI z)), some (.int (nI v)), some (.int (nI (z + 1 + k)))]) (fun k n => n + (g_tri (S.2.2 x) (S.2.2 y) (S.2.2 (z + 1 + k)) && g_tri (S.2.2 x) (S.2.2 z) (S.2.2 (z + 1 + k)) && g_tri (S.2.2 y) (S.2.2 z) (S.2.2 (z + 1 + k))).toNat) 0 (S.2.1 - (z + 1)) ?_ ?_
  · intro k hk hJ
    refine b_X8_foursOf_8 (z_pu0V rfl) ⟨y_kd hA, ?_⟩
    rw [y_m hA, if_pos (nI_lt (show z + 1 + k < S.2.1 by omega) (by omega)), (y_row hA).1, z_rcs, z_rcs, z_rcs, nI_clamp (show x < 2 ^ 31 by omega), nI_clamp (show y < 2 ^ 31 by omega), nI_clamp (show z + 1 + k < 2 ^ 31 by omega), y_Ln hA (show x < S.2.1 by omega), y_Ln hA (show y < S.2.1 by omega), y_Ln hA (show z + 1 + k < S.2.1 by omega)]
    refine ⟨y_kd hA, (y_row hA).2.1, vi x (by omega), y_kd hA, (y_row hA).2.1, vi y (by omega), y_kd hA, (y_row hA).2.1, vi (z + 1 + k) (by omega), _, _, e8_isTriangle (y_256 hA _) (y_256 hA _), ?_⟩
    cases c1 : g_tri (S.2.2 x) (S.2.2 y) (S.2.2 (z + 1 + k))
    · rw [c1] at hJ
      rw [if_pos (by rfl), nI_add]; exact hJ
    rw [if_neg (by decide), (y_row hA).1, z_rcs, z_rcs, z_rcs, nI_clamp (show z < 2 ^ 31 by omega), y_Ln hA (show x < S.2.1 by omega), y_Ln hA hz, y_Ln hA (show z + 1 + k < S.2.1 by omega)]
    refine ⟨y_kd hA, (y_row hA).2.1, vi x (by omega), y_kd hA, (y_row hA).2.1, vi z (by omega), y_kd hA, (y_row hA).2.1, vi (z + 1 + k) (by omega), _, _, e8_isTriangle (y_256 hA _) (y_256 hA _), ?_⟩
    cases c2 : g_tri (S.2.2 x) (S.2.2 z) (S.2.2 (z + 1 + k))
    · rw [c1, c2] at hJ
      rw [if_pos (by rfl), nI_add]; exact hJ
    rw [if_neg (by decide), (y_row hA).1, z_rcs, z_rcs, z_rcs, y_Ln hA (show y < S.2.1 by omega), y_Ln hA hz, y_Ln hA (show z + 1 + k < S.2.1 by omega)]
    refine ⟨y_kd hA, (y_row hA).2.1, vi y (by omega), y_kd hA, (y_row hA).2.1, vi z (by omega), y_kd hA, (y_row hA).2.1, vi (z + 1 + k) (by omega), _, _, e8_isTriangle (y_256 hA _) (y_256 hA _), ?_⟩
    cases c3 : g_tri (S.2.2 y) (S.2.2 z) (S.2.2 (z + 1 + k))
    · rw [c1, c2, c3] at hJ
      rw [if_pos (by rfl), nI_add]; exact hJ
    · rw [c1, c2, c3] at hJ
      rw [if_neg (by decide), nI_add, nI_add]; exact hJ
  · refine b_X8_foursOf_8 (z_pu0V rfl) ⟨y_kd hA, ?_⟩
    rw [y_m hA, if_neg (nI_nlt (by omega) (by omega))]; rfl
theorem e8_fours (hA : sc_at q b h S) : z_Ev G (d + 6) k_X8_fours [.ref q] h (.inl (some (.int (nI (g_fours S)))), h) := by
  have hm := y_m12 hA
  have vi : ∀ l, l < S.2.1 → vp_in (nI l) (z_ln h (b + 5)) := fun l hl => by rw [(y_row hA).2.2]; exact vp_in_nI hl (by omega)
  refine en_X8_fours (b_X8_fours_0 (z_pu0V rfl) ?_)
  refine z_for (fun l x => [some (.ref q), some (.int (nI x)), some (.int (nI l)), none, none]) (fun x n => itr (fun y n => itr (fun z n => if g_tri (S.2.2 x) (S.2.2 y) (S.2.2 z) then n + g_foursOf S x y z else n) n (y + 1) S.2.1) n (x + 1) S.2.1) 0 S.2.1 ?_ ?_
  · intro a ha hJ
    refine b_X8_fours_4 (z_pu0V rfl) ⟨y_kd hA, ?_⟩
    rw [y_m hA, if_pos (nI_lt ha (by omega)), nI_add]
    refine z_for (fun k x => [some (.ref q), some (.int (nI x)), some (.int (nI a)), some (.int (nI (a + 1 + k))), none]) (fun k n => itr (fun z n => if g_tri (S.2.2 a) (S.2.2 (a + 1 + k)) (S.2.2 z) then n + g_foursOf S a (a + 1 + k) z else n) n (a + 1 + k + 1) S.2.1) _ (S.2.1 - (a + 1)) ?_ ?_
    · intro k hk hJ2
      refine b_X8_fours_16 (z_pu0V rfl) ⟨y_kd hA, ?_⟩
      rw [y_m hA, if_pos (nI_lt (by omega) (by omega)), nI_add]
      refine z_for (fun j x => [some (.ref q), some (.int (nI x)), some (.int (nI a)), some (.int (nI (a + 1 + k))), some (.int (nI (a + 1 + k + 1 + j)))]) (fun j n => if g_tri (S.2.2 a) (S.2.2 (a + 1 + k)) (S.2.2 (a + 1 + k + 1 + j)) then n + g_foursOf S a (a + 1 + k) (a + 1 + k + 1 + j) else n) _ (S.2.1 - (a + 1 + k + 1)) ?_ ?_
      · intro j hj hJ3
        refine b_X8_fours_29 (z_pu0V rfl) ⟨y_kd hA, ?_⟩
        rw [y_m hA, if_pos (nI_lt (by omega) (by omega)), (y_row hA).1, z_rcs, z_rcs, z_rcs, nI_clamp (show a < 2 ^ 31 by omega), nI_clamp (show a + 1 + k < 2 ^ 31 by omega), nI_clamp (show a + 1 + k + 1 + j < 2 ^ 31 by omega), y_Ln hA ha, y_Ln hA (show a + 1 + k < S.2.1 by omega), y_Ln hA (show a + 1 + k + 1 + j < S.2.1 by omega)]
        refine ⟨y_kd hA, (y_row hA).2.1, vi a (by omega), y_kd hA, (y_row hA).2.1, vi (a + 1 + k) (by omega), y_kd hA, (y_row hA).2.1, vi (a + 1 + k + 1 + j) (by omega), _, _, e8_isTriangle (y_256 hA _) (y_256 hA _), ?_⟩
        cases c : g_tri (S.2.2 a) (S.2.2 (a + 1 + k)) (S.2.2 (a + 1 + k + 1 + j))
        · rw [c, if_neg (by decide)] at hJ3
          rw [if_pos (by rfl), nI_add]; exact hJ3
        · rw [c, if_pos rfl] at hJ3
          rw [if_neg (by decide)]
          refine ⟨y_kd hA, _, _, e8_foursOf hA (by omega) (by omega) (by omega), ?_⟩
          rw [nI_add, nI_add]; exact hJ3
      · refine b_X8_fours_29 (z_pu0V rfl) ⟨y_kd hA, ?_⟩
        rw [y_m hA, if_neg (nI_nlt (by omega) (by omega)), nI_add]
        exact hJ2
    · refine b_X8_fours_16 (z_pu0V rfl) ⟨y_kd hA, ?_⟩
      rw [y_m hA, if_neg (nI_nlt (by omega) (by omega)), nI_add]
      exact hJ
  · refine b_X8_fours_4 (z_pu0V rfl) ⟨y_kd hA, ?_⟩
    rw [y_m hA, if_neg (nI_nlt (Nat.le_refl _) (by omega))]; rfl
/-- the least ring found so far -/
def g_gF (S : Sc) (i p : Nat) (v : Option Nat) : Option Nat := if (S.2.2 i).testBit p = false then v else if g_stp S (2 ^ p) (anot (S.2.2 i) (2 ^ p)) (some i) < 9 then (match v with
    | none => some (g_stp S (2 ^ p) (anot (S.2.2 i) (2 ^ p)) (some i) + 1)
    | some w => if g_stp S (2 ^ p) (anot (S.2.2 i) (2 ^ p)) (some i) + 1 < w then some (g_stp S (2 ^ p) (anot (S.2.2 i) (2 ^ p)) (some i) + 1) else some w) else v
def g_girth (S : Sc) : Option Nat := it (fun i v => it (fun p v => g_gF S i p v) v S.1) none S.2.1
def g_b (v : Option Nat) : Prop := ∀ w, v = some w → w < 11
theorem g_gF_b {i p : Nat} {v : Option Nat} (hv : g_b v) : g_b (g_gF S i p v) := by
  unfold g_gF
  split
  · exact hv
  · split
    · cases v with
      | none => intro w e; cases e; omega
      | some w0 =>
        dsimp only
        split
        · intro w e; cases e; omega
        · exact hv
    · exact hv
theorem e8_girth (hA : sc_at q b h S) : z_Ev G (d + 6) k_X8_girth [.ref q] h (.inl (some (.int (oI (g_girth S)))), h) := by
  have hm := y_m12 hA
  have hn := y_n8 hA
  have vi : ∀ l, l < S.2.1 → vp_in (nI l) (z_ln h (b + 5)) := fun l hl => by rw [(y_row hA).2.2]; exact vp_in_nI hl (by omega)
  refine en_X8_girth (b_X8_girth_0 (z_pu0V rfl) ?_)
  refine z_forI (fun l (v : Option Nat) => [some (.ref q), some (.int (oI v)), some (.int (nI l)), none, none]) (fun _ _ => h) (fun _ v => g_b v) (fun i v => it (fun p v => g_gF S i p v) v S.1) none S.2.1 (fun w e => by cases e) ?_ ?_
  · intro i v0 hi hv0
    refine ⟨it_bd (P := g_b) hv0 (fun p v hv => g_gF_b hv) _, fun hJ => b_X8_girth_4 (z_pu0V rfl) ⟨y_kd hA, ?_⟩⟩
    rw [y_m hA, if_pos (nI_lt hi (by omega))]
    refine z_forI (fun l (v : Option Nat) => [some (.ref q), some (.int (oI v)), some (.int (nI i)), some (.int (nI l)), none]) (fun _ _ => h) (fun _ v => g_b v) (fun p v => g_gF S i p v) v0 S.1 hv0 ?_ ?_
    · intro p v hp hv
      refine ⟨g_gF_b hv, fun hJ2 => b_X8_girth_14 (z_pu0V rfl) ⟨y_kd hA, ?_⟩⟩
      have hi256 := y_256 hA i
      rw [y_n hA, if_pos (nI_lt hp (by omega)), (y_row hA).1, z_rcs, z_rcs, nI_clamp (show i < 2 ^ 31 by omega), y_Ln hA hi, show nI 1 <<< (nI p &&& nI 31) = nI (2 ^ p) from n_one (by omega), q_anot, nI_add]
      refine ⟨y_kd hA, (y_row hA).2.1, vi i hi, ?_⟩
      unfold g_gF at hJ2
      cases c : (S.2.2 i).testBit p
      · rw [c, if_pos rfl] at hJ2
        rw [if_pos (show (nI (S.2.2 i) >>> (nI p &&& nI 31)) &&& nI 1 = nI 0 by simp (disch := omega) only [l0, l1, l2, l3, l4, l5, l6, l7, l8, l9, l10, l11, l12, l13, l14, l15, l16, l18, l20, l22, l24, l30, l31, l39, l40, l48, l60, l154, l255, l256, l400, l2000, l6160, l14000, lm1, q_lt, q_le, q_eq, q_mI, q_mI', q_ltmI, q_in, q_bz0, q_bz1, q_bzn0, q_bzn1, q_bzb, q_bn0, q_bn1, q_shr, q_shl, q_1s, b_one, b_two, fa_and, fa_or, nI_add, n_mul, nI_clamp, z_rcs, true_and, and_true, if_true, if_false, c])]
        exact hJ2
      · rw [c, if_neg (by decide)] at hJ2
        rw [if_neg (show ¬ (nI (S.2.2 i) >>> (nI p &&& nI 31)) &&& nI 1 = nI 0 by simp (disch := omega) only [l0, l1, l2, l3, l4, l5, l6, l7, l8, l9, l10, l11, l12, l13, l14, l15, l16, l18, l20, l22, l24, l30, l31, l39, l40, l48, l60, l154, l255, l256, l400, l2000, l6160, l14000, lm1, q_lt, q_le, q_eq, q_mI, q_mI', q_ltmI, q_in, q_bz0, q_bz1, q_bzn0, q_bzn1, q_bzb, q_bn0, q_bn1, q_shr, q_shl, q_1s, b_one, b_two, fa_and, fa_or, nI_add, n_mul, nI_clamp, z_rcs, true_and, and_true, if_true, if_false, c]; decide)]
        refine ⟨y_kd hA, (y_row hA).2.1, vi i hi, y_kd hA, _, _, e8_steps (bar := some i) hA (fun l e => by cases e; omega) (t_pow (by omega)), ?_⟩
        unfold g_steps
        generalize g_stp S (2 ^ p) (anot (S.2.2 i) (2 ^ p)) (some i) = s at hJ2 ⊢
        by_cases c2 : s < 9
        · rw [if_pos c2] at hJ2
          rw [if_pos c2, if_neg (fun e => by rw [q_mI (by omega)] at e; exact e)]
          cases v with
          | none =>
            rw [if_pos (show oI none = mI from rfl), nI_add]
            exact hJ2
          | some w =>
            have hw := hv w rfl
            rw [if_neg (show ¬ oI (some w) = mI from fun e => by have e2 : nI w = mI := e; rw [q_mI (by omega)] at e2; exact e2), nI_add]
            dsimp only at hJ2
            by_cases c3 : s + 1 < w
            · rw [if_pos c3] at hJ2
              rw [if_pos (show nI (s + 1) < oI (some w) from nI_lt c3 (by omega))]
              exact hJ2
            · rw [if_neg c3] at hJ2
              rw [if_neg (show ¬ nI (s + 1) < oI (some w) from fun e => c3 ((nI_ltI (by omega) (by omega)).mp e))]
              exact hJ2
        · rw [if_neg c2] at hJ2
          rw [if_neg c2, if_pos rfl]
          exact hJ2
    · intro _
      refine b_X8_girth_14 (z_pu0V rfl) ⟨y_kd hA, ?_⟩
      rw [y_n hA, if_neg (nI_nlt (Nat.le_refl _) (by omega)), nI_add]
      exact hJ
  · intro _
    refine b_X8_girth_4 (z_pu0V rfl) ⟨y_kd hA, ?_⟩
    rw [y_m hA, if_neg (nI_nlt (Nat.le_refl _) (by omega))]; rfl
end EC
