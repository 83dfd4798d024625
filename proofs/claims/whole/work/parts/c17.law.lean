/-! the law: its bytes are its table -/
theorem vP_L_scheme (pu : Nat → Option ((List Value → z_H → Prop) × (List Value → z_H → Int32))) : z_PV (m_L_scheme pu) := z_PVof 17 (show (List.range 17).all (z_pck cL_scheme p_L_scheme) = true by decide +kernel) (fun k hk => by show p_L_scheme k = none; unfold p_L_scheme; rw [z_bltF hk]; rfl)
theorem vP_L_count (pu : Nat → Option ((List Value → z_H → Prop) × (List Value → z_H → Int32))) : z_PV (m_L_count pu) := z_PVof 17 (show (List.range 17).all (z_pck cL_count p_L_count) = true by decide +kernel) (fun k hk => by show p_L_count k = none; unfold p_L_count; rw [z_bltF hk]; rfl)
theorem vP_L_line (pu : Nat → Option ((List Value → z_H → Prop) × (List Value → z_H → Int32))) : z_PV (m_L_line pu) := z_PVof 17 (show (List.range 17).all (z_pck cL_line p_L_line) = true by decide +kernel) (fun k hk => by show p_L_line k = none; unfold p_L_line; rw [z_bltF hk]; rfl)
theorem vP_L_point (pu : Nat → Option ((List Value → z_H → Prop) × (List Value → z_H → Int32))) : z_PV (m_L_point pu) := z_PVof 19 (show (List.range 19).all (z_pck cL_point p_L_point) = true by decide +kernel) (fun k hk => by show p_L_point k = none; unfold p_L_point; rw [z_bltF hk]; rfl)
theorem vP_L_joined (pu : Nat → Option ((List Value → z_H → Prop) × (List Value → z_H → Int32))) : z_PV (m_L_joined pu) := z_PVof 23 (show (List.range 23).all (z_pck cL_joined p_L_joined) = true by decide +kernel) (fun k hk => by show p_L_joined k = none; unfold p_L_joined; rw [z_bltF hk]; rfl)
theorem vP_L_meet (pu : Nat → Option ((List Value → z_H → Prop) × (List Value → z_H → Int32))) : z_PV (m_L_meet pu) := z_PVof 23 (show (List.range 23).all (z_pck cL_meet p_L_meet) = true by decide +kernel) (fun k hk => by show p_L_meet k = none; unfold p_L_meet; rw [z_bltF hk]; rfl)
theorem vP_L_symmetry (pu : Nat → Option ((List Value → z_H → Prop) × (List Value → z_H → Int32))) : z_PV (m_L_symmetry pu) := z_PVof 19 (show (List.range 19).all (z_pck cL_symmetry p_L_symmetry) = true by decide +kernel) (fun k hk => by show p_L_symmetry k = none; unfold p_L_symmetry; rw [z_bltF hk]; rfl)
theorem vP_L_normal (pu : Nat → Option ((List Value → z_H → Prop) × (List Value → z_H → Int32))) : z_PV (m_L_normal pu) := z_PVof 17 (show (List.range 17).all (z_pck cL_normal p_L_normal) = true by decide +kernel) (fun k hk => by show p_L_normal k = none; unfold p_L_normal; rw [z_bltF hk]; rfl)
theorem vP_L_dual (pu : Nat → Option ((List Value → z_H → Prop) × (List Value → z_H → Int32))) : z_PV (m_L_dual pu) := z_PVof 17 (show (List.range 17).all (z_pck cL_dual p_L_dual) = true by decide +kernel) (fun k hk => by show p_L_dual k = none; unfold p_L_dual; rw [z_bltF hk]; rfl)
theorem vP_L_shelf (pu : Nat → Option ((List Value → z_H → Prop) × (List Value → z_H → Int32))) : z_PV (m_L_shelf pu) := z_PVof 19 (show (List.range 19).all (z_pck cL_shelf p_L_shelf) = true by decide +kernel) (fun k hk => by show p_L_shelf k = none; unfold p_L_shelf; rw [z_bltF hk]; rfl)
theorem vP_L_way (pu : Nat → Option ((List Value → z_H → Prop) × (List Value → z_H → Int32))) : z_PV (m_L_way pu) := z_PVof 19 (show (List.range 19).all (z_pck cL_way p_L_way) = true by decide +kernel) (fun k hk => by show p_L_way k = none; unfold p_L_way; rw [z_bltF hk]; rfl)
theorem vP_L_list (pu : Nat → Option ((List Value → z_H → Prop) × (List Value → z_H → Int32))) : z_PV (m_L_list pu) := z_PVof 27 (show (List.range 27).all (z_pck cL_list p_L_list) = true by decide +kernel) (fun k hk => by show p_L_list k = none; unfold p_L_list; rw [z_bltF hk]; rfl)
theorem vP_L_square (pu : Nat → Option ((List Value → z_H → Prop) × (List Value → z_H → Int32))) : z_PV (m_L_square pu) := z_PVof 23 (show (List.range 23).all (z_pck cL_square p_L_square) = true by decide +kernel) (fun k hk => by show p_L_square k = none; unfold p_L_square; rw [z_bltF hk]; rfl)
theorem vP_L_plane (pu : Nat → Option ((List Value → z_H → Prop) × (List Value → z_H → Int32))) : z_PV (m_L_plane pu) := z_PVof 23 (show (List.range 23).all (z_pck cL_plane p_L_plane) = true by decide +kernel) (fun k hk => by show p_L_plane k = none; unfold p_L_plane; rw [z_bltF hk]; rfl)
theorem vP_L_set (pu : Nat → Option ((List Value → z_H → Prop) × (List Value → z_H → Int32))) : z_PV (m_L_set pu) := z_PVof 17 (show (List.range 17).all (z_pck cL_set p_L_set) = true by decide +kernel) (fun k hk => by show p_L_set k = none; unfold p_L_set; rw [z_bltF hk]; rfl)
theorem vP_L_far (pu : Nat → Option ((List Value → z_H → Prop) × (List Value → z_H → Int32))) : z_PV (m_L_far pu) := z_PVof 19 (show (List.range 19).all (z_pck cL_far p_L_far) = true by decide +kernel) (fun k hk => by show p_L_far k = none; unfold p_L_far; rw [z_bltF hk]; rfl)
theorem vP_L_game (pu : Nat → Option ((List Value → z_H → Prop) × (List Value → z_H → Int32))) : z_PV (m_L_game pu) := z_PVof 17 (show (List.range 17).all (z_pck cL_game p_L_game) = true by decide +kernel) (fun k hk => by show p_L_game k = none; unfold p_L_game; rw [z_bltF hk]; rfl)
theorem vP_L_years (pu : Nat → Option ((List Value → z_H → Prop) × (List Value → z_H → Int32))) : z_PV (m_L_years pu) := z_PVof 25 (show (List.range 25).all (z_pck cL_years p_L_years) = true by decide +kernel) (fun k hk => by show p_L_years k = none; unfold p_L_years; rw [z_bltF hk]; rfl)
theorem vPc_L_law_0 : (List.range 40).all (fun j => z_pck cL_law p_L_law (40 * 0 + j)) = true := by decide +kernel
theorem vPc_L_law_1 : (List.range 40).all (fun j => z_pck cL_law p_L_law (40 * 1 + j)) = true := by decide +kernel
theorem vPc_L_law_2 : (List.range 40).all (fun j => z_pck cL_law p_L_law (40 * 2 + j)) = true := by decide +kernel
theorem vPc_L_law_3 : (List.range 40).all (fun j => z_pck cL_law p_L_law (40 * 3 + j)) = true := by decide +kernel
theorem vPc_L_law_4 : (List.range 40).all (fun j => z_pck cL_law p_L_law (40 * 4 + j)) = true := by decide +kernel
theorem vPc_L_law_5 : (List.range 40).all (fun j => z_pck cL_law p_L_law (40 * 5 + j)) = true := by decide +kernel
theorem vPc_L_law_6 : (List.range 40).all (fun j => z_pck cL_law p_L_law (40 * 6 + j)) = true := by decide +kernel
theorem vPc_L_law_7 : (List.range 40).all (fun j => z_pck cL_law p_L_law (40 * 7 + j)) = true := by decide +kernel
theorem vPc_L_law_8 : (List.range 40).all (fun j => z_pck cL_law p_L_law (40 * 8 + j)) = true := by decide +kernel
theorem vPc_L_law_9 : (List.range 40).all (fun j => z_pck cL_law p_L_law (40 * 9 + j)) = true := by decide +kernel
theorem vPc_L_law_10 : (List.range 40).all (fun j => z_pck cL_law p_L_law (40 * 10 + j)) = true := by decide +kernel
theorem vPc_L_law_11 : (List.range 40).all (fun j => z_pck cL_law p_L_law (40 * 11 + j)) = true := by decide +kernel
theorem vPc_L_law_12 : (List.range 40).all (fun j => z_pck cL_law p_L_law (40 * 12 + j)) = true := by decide +kernel
theorem vPc_L_law_13 : (List.range 40).all (fun j => z_pck cL_law p_L_law (40 * 13 + j)) = true := by decide +kernel
theorem vPc_L_law_14 : (List.range 40).all (fun j => z_pck cL_law p_L_law (40 * 14 + j)) = true := by decide +kernel
theorem vPc_L_law_15 : (List.range 40).all (fun j => z_pck cL_law p_L_law (40 * 15 + j)) = true := by decide +kernel
theorem vPc_L_law_16 : (List.range 40).all (fun j => z_pck cL_law p_L_law (40 * 16 + j)) = true := by decide +kernel
theorem vPc_L_law_17 : (List.range 40).all (fun j => z_pck cL_law p_L_law (40 * 17 + j)) = true := by decide +kernel
theorem vPc_L_law_18 : (List.range 40).all (fun j => z_pck cL_law p_L_law (40 * 18 + j)) = true := by decide +kernel
theorem vPc_L_law_19 : (List.range 40).all (fun j => z_pck cL_law p_L_law (40 * 19 + j)) = true := by decide +kernel
theorem vPc_L_law_20 : (List.range 40).all (fun j => z_pck cL_law p_L_law (40 * 20 + j)) = true := by decide +kernel
theorem vPc_L_law_21 : (List.range 40).all (fun j => z_pck cL_law p_L_law (40 * 21 + j)) = true := by decide +kernel
theorem vPc_L_law_22 : (List.range 40).all (fun j => z_pck cL_law p_L_law (40 * 22 + j)) = true := by decide +kernel
theorem vPc_L_law_23 : (List.range 40).all (fun j => z_pck cL_law p_L_law (40 * 23 + j)) = true := by decide +kernel
theorem vPc_L_law_24 : (List.range 40).all (fun j => z_pck cL_law p_L_law (40 * 24 + j)) = true := by decide +kernel
theorem vPc_L_law_25 : (List.range 40).all (fun j => z_pck cL_law p_L_law (40 * 25 + j)) = true := by decide +kernel
theorem vPc_L_law_26 : (List.range 40).all (fun j => z_pck cL_law p_L_law (40 * 26 + j)) = true := by decide +kernel
theorem vPc_L_law_27 : (List.range 40).all (fun j => z_pck cL_law p_L_law (40 * 27 + j)) = true := by decide +kernel
theorem vPc_L_law_28 : (List.range 40).all (fun j => z_pck cL_law p_L_law (40 * 28 + j)) = true := by decide +kernel
theorem vPc_L_law_29 : (List.range 40).all (fun j => z_pck cL_law p_L_law (40 * 29 + j)) = true := by decide +kernel
theorem vPc_L_law_30 : (List.range 40).all (fun j => z_pck cL_law p_L_law (40 * 30 + j)) = true := by decide +kernel
theorem vPc_L_law_31 : (List.range 40).all (fun j => z_pck cL_law p_L_law (40 * 31 + j)) = true := by decide +kernel
theorem vPc_L_law_32 : (List.range 40).all (fun j => z_pck cL_law p_L_law (40 * 32 + j)) = true := by decide +kernel
theorem vPc_L_law_33 : (List.range 40).all (fun j => z_pck cL_law p_L_law (40 * 33 + j)) = true := by decide +kernel
theorem vPc_L_law_34 : (List.range 40).all (fun j => z_pck cL_law p_L_law (40 * 34 + j)) = true := by decide +kernel
theorem vPc_L_law_35 : (List.range 40).all (fun j => z_pck cL_law p_L_law (40 * 35 + j)) = true := by decide +kernel
theorem vPc_L_law_36 : (List.range 40).all (fun j => z_pck cL_law p_L_law (40 * 36 + j)) = true := by decide +kernel
theorem vPc_L_law_37 : (List.range 40).all (fun j => z_pck cL_law p_L_law (40 * 37 + j)) = true := by decide +kernel
theorem vPc_L_law_38 : (List.range 40).all (fun j => z_pck cL_law p_L_law (40 * 38 + j)) = true := by decide +kernel
theorem vPc_L_law_39 : (List.range 40).all (fun j => z_pck cL_law p_L_law (40 * 39 + j)) = true := by decide +kernel
theorem vPc_L_law_40 : (List.range 40).all (fun j => z_pck cL_law p_L_law (40 * 40 + j)) = true := by decide +kernel
theorem vPc_L_law_41 : (List.range 40).all (fun j => z_pck cL_law p_L_law (40 * 41 + j)) = true := by decide +kernel
theorem vPc_L_law_42 : (List.range 40).all (fun j => z_pck cL_law p_L_law (40 * 42 + j)) = true := by decide +kernel
theorem vPc_L_law_43 : (List.range 40).all (fun j => z_pck cL_law p_L_law (40 * 43 + j)) = true := by decide +kernel
theorem vPc_L_law : ∀ c, c < 44 → (List.range 40).all (fun j => z_pck cL_law p_L_law (40 * c + j)) = true := by
  intro c hc
  match c, hc with
  | 0, _ => exact vPc_L_law_0
  | 1, _ => exact vPc_L_law_1
  | 2, _ => exact vPc_L_law_2
  | 3, _ => exact vPc_L_law_3
  | 4, _ => exact vPc_L_law_4
  | 5, _ => exact vPc_L_law_5
  | 6, _ => exact vPc_L_law_6
  | 7, _ => exact vPc_L_law_7
  | 8, _ => exact vPc_L_law_8
  | 9, _ => exact vPc_L_law_9
  | 10, _ => exact vPc_L_law_10
  | 11, _ => exact vPc_L_law_11
  | 12, _ => exact vPc_L_law_12
  | 13, _ => exact vPc_L_law_13
  | 14, _ => exact vPc_L_law_14
  | 15, _ => exact vPc_L_law_15
  | 16, _ => exact vPc_L_law_16
  | 17, _ => exact vPc_L_law_17
  | 18, _ => exact vPc_L_law_18
  | 19, _ => exact vPc_L_law_19
  | 20, _ => exact vPc_L_law_20
  | 21, _ => exact vPc_L_law_21
  | 22, _ => exact vPc_L_law_22
  | 23, _ => exact vPc_L_law_23
  | 24, _ => exact vPc_L_law_24
  | 25, _ => exact vPc_L_law_25
  | 26, _ => exact vPc_L_law_26
  | 27, _ => exact vPc_L_law_27
  | 28, _ => exact vPc_L_law_28
  | 29, _ => exact vPc_L_law_29
  | 30, _ => exact vPc_L_law_30
  | 31, _ => exact vPc_L_law_31
  | 32, _ => exact vPc_L_law_32
  | 33, _ => exact vPc_L_law_33
  | 34, _ => exact vPc_L_law_34
  | 35, _ => exact vPc_L_law_35
  | 36, _ => exact vPc_L_law_36
  | 37, _ => exact vPc_L_law_37
  | 38, _ => exact vPc_L_law_38
  | 39, _ => exact vPc_L_law_39
  | 40, _ => exact vPc_L_law_40
  | 41, _ => exact vPc_L_law_41
  | 42, _ => exact vPc_L_law_42
  | 43, _ => exact vPc_L_law_43
  | n + 44, hc => exact absurd hc (by omega)
theorem vP_L_law (pu : Nat → Option ((List Value → z_H → Prop) × (List Value → z_H → Int32))) : z_PV (m_L_law pu) := z_PVof 1760 (z_chunk 44 vPc_L_law) (fun k hk => by show p_L_law k = none; unfold p_L_law; rw [z_bltF (Nat.le_trans (by decide) hk)]; rfl)
