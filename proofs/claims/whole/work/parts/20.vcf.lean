theorem vU_X0 : ∀ w ∈ u_ws RX0 TX0 3, w ∈ z_gt := z_mzT (is := [684, 686, 688]) (by decide +kernel)
theorem vI_X0 : Cond.instantiable RX0 3 ∈ z_gt ∧ Cond.initialized RX0 ∈ z_gt := ⟨z_m1T (i := 673) (by decide +kernel), z_m1T (i := 180) (by decide +kernel)⟩
theorem vT_X0 : (∀ k, z_fnl 0 k = (TX0 k).2.2.2) ∧ (∀ k, k < 3 → (TX0 k).1 = RX0) ∧ (∀ k, k < 3 → (z_tyA 0 k = .int ∨ z_tyA 0 k = .boolean ∨ (∃ n, z_tyA 0 k = .object n) ∨ ∃ t, z_tyA 0 k = .array t)) := ⟨fun _ => rfl, by decide +kernel, fun k hk => by
  have h : (match z_tyA 0 k with | .int => true | .boolean => true | .object _ => true | .array _ => true | _ => false) = true := (show ∀ k, k < 3 → (match z_tyA 0 k with | .int => true | .boolean => true | .object _ => true | .array _ => true | _ => false) = true by decide +kernel) k hk
  split at h
  · rename_i e; exact Or.inl e
  · rename_i e; exact Or.inr (Or.inl e)
  · rename_i n e; exact Or.inr (Or.inr (Or.inl ⟨n, e⟩))
  · rename_i n e; exact Or.inr (Or.inr (Or.inr ⟨n, e⟩))
  · cases h⟩
theorem vU_X1 : ∀ w ∈ u_ws RX1 TX1 3, w ∈ z_gt := z_mzT (is := [317, 319, 321]) (by decide +kernel)
theorem vI_X1 : Cond.instantiable RX1 3 ∈ z_gt ∧ Cond.initialized RX1 ∈ z_gt := ⟨z_m1T (i := 191) (by decide +kernel), z_m1T (i := 157) (by decide +kernel)⟩
theorem vT_X1 : (∀ k, z_fnl 1 k = (TX1 k).2.2.2) ∧ (∀ k, k < 3 → (TX1 k).1 = RX1) ∧ (∀ k, k < 3 → (z_tyA 1 k = .int ∨ z_tyA 1 k = .boolean ∨ (∃ n, z_tyA 1 k = .object n) ∨ ∃ t, z_tyA 1 k = .array t)) := ⟨fun _ => rfl, by decide +kernel, fun k hk => by
  have h : (match z_tyA 1 k with | .int => true | .boolean => true | .object _ => true | .array _ => true | _ => false) = true := (show ∀ k, k < 3 → (match z_tyA 1 k with | .int => true | .boolean => true | .object _ => true | .array _ => true | _ => false) = true by decide +kernel) k hk
  split at h
  · rename_i e; exact Or.inl e
  · rename_i e; exact Or.inr (Or.inl e)
  · rename_i n e; exact Or.inr (Or.inr (Or.inl ⟨n, e⟩))
  · rename_i n e; exact Or.inr (Or.inr (Or.inr ⟨n, e⟩))
  · cases h⟩
theorem vU_X2 : ∀ w ∈ u_ws RX2 TX2 14, w ∈ z_gt := z_mzT (is := [487, 489, 491, 493, 495, 497, 499, 501, 503, 505, 507, 509, 511, 513]) (by decide +kernel)
theorem vI_X2 : Cond.instantiable RX2 14 ∈ z_gt ∧ Cond.initialized RX2 ∈ z_gt := ⟨z_m1T (i := 467) (by decide +kernel), z_m1T (i := 165) (by decide +kernel)⟩
theorem vT_X2 : (∀ k, z_fnl 2 k = (TX2 k).2.2.2) ∧ (∀ k, k < 14 → (TX2 k).1 = RX2) ∧ (∀ k, k < 14 → (z_tyA 2 k = .int ∨ z_tyA 2 k = .boolean ∨ (∃ n, z_tyA 2 k = .object n) ∨ ∃ t, z_tyA 2 k = .array t)) := ⟨fun _ => rfl, by decide +kernel, fun k hk => by
  have h : (match z_tyA 2 k with | .int => true | .boolean => true | .object _ => true | .array _ => true | _ => false) = true := (show ∀ k, k < 14 → (match z_tyA 2 k with | .int => true | .boolean => true | .object _ => true | .array _ => true | _ => false) = true by decide +kernel) k hk
  split at h
  · rename_i e; exact Or.inl e
  · rename_i e; exact Or.inr (Or.inl e)
  · rename_i n e; exact Or.inr (Or.inr (Or.inl ⟨n, e⟩))
  · rename_i n e; exact Or.inr (Or.inr (Or.inr ⟨n, e⟩))
  · cases h⟩
theorem vU_X3 : ∀ w ∈ u_ws RX3 TX3 6, w ∈ z_gt := z_mzT (is := [788, 790, 792, 794, 796, 798]) (by decide +kernel)
theorem vI_X3 : Cond.instantiable RX3 6 ∈ z_gt ∧ Cond.initialized RX3 ∈ z_gt := ⟨z_m1T (i := 770) (by decide +kernel), z_m1T (i := 181) (by decide +kernel)⟩
theorem vT_X3 : (∀ k, z_fnl 3 k = (TX3 k).2.2.2) ∧ (∀ k, k < 6 → (TX3 k).1 = RX3) ∧ (∀ k, k < 6 → (z_tyA 3 k = .int ∨ z_tyA 3 k = .boolean ∨ (∃ n, z_tyA 3 k = .object n) ∨ ∃ t, z_tyA 3 k = .array t)) := ⟨fun _ => rfl, by decide +kernel, fun k hk => by
  have h : (match z_tyA 3 k with | .int => true | .boolean => true | .object _ => true | .array _ => true | _ => false) = true := (show ∀ k, k < 6 → (match z_tyA 3 k with | .int => true | .boolean => true | .object _ => true | .array _ => true | _ => false) = true by decide +kernel) k hk
  split at h
  · rename_i e; exact Or.inl e
  · rename_i e; exact Or.inr (Or.inl e)
  · rename_i n e; exact Or.inr (Or.inr (Or.inl ⟨n, e⟩))
  · rename_i n e; exact Or.inr (Or.inr (Or.inr ⟨n, e⟩))
  · cases h⟩
theorem vU_X4 : ∀ w ∈ u_ws RX4 TX4 12, w ∈ z_gt := z_mzT (is := [440, 442, 444, 446, 448, 450, 452, 454, 456, 458, 460, 462]) (by decide +kernel)
theorem vI_X4 : Cond.instantiable RX4 12 ∈ z_gt ∧ Cond.initialized RX4 ∈ z_gt := ⟨z_m1T (i := 422) (by decide +kernel), z_m1T (i := 164) (by decide +kernel)⟩
theorem vT_X4 : (∀ k, z_fnl 4 k = (TX4 k).2.2.2) ∧ (∀ k, k < 12 → (TX4 k).1 = RX4) ∧ (∀ k, k < 12 → (z_tyA 4 k = .int ∨ z_tyA 4 k = .boolean ∨ (∃ n, z_tyA 4 k = .object n) ∨ ∃ t, z_tyA 4 k = .array t)) := ⟨fun _ => rfl, by decide +kernel, fun k hk => by
  have h : (match z_tyA 4 k with | .int => true | .boolean => true | .object _ => true | .array _ => true | _ => false) = true := (show ∀ k, k < 12 → (match z_tyA 4 k with | .int => true | .boolean => true | .object _ => true | .array _ => true | _ => false) = true by decide +kernel) k hk
  split at h
  · rename_i e; exact Or.inl e
  · rename_i e; exact Or.inr (Or.inl e)
  · rename_i n e; exact Or.inr (Or.inr (Or.inl ⟨n, e⟩))
  · rename_i n e; exact Or.inr (Or.inr (Or.inr ⟨n, e⟩))
  · cases h⟩
theorem vU_X5 : ∀ w ∈ u_ws RX5 TX5 13, w ∈ z_gt := z_mzT (is := [394, 396, 398, 400, 402, 404, 406, 408, 410, 412, 414, 416, 418]) (by decide +kernel)
theorem vI_X5 : Cond.instantiable RX5 13 ∈ z_gt ∧ Cond.initialized RX5 ∈ z_gt := ⟨z_m1T (i := 376) (by decide +kernel), z_m1T (i := 163) (by decide +kernel)⟩
theorem vT_X5 : (∀ k, z_fnl 5 k = (TX5 k).2.2.2) ∧ (∀ k, k < 13 → (TX5 k).1 = RX5) ∧ (∀ k, k < 13 → (z_tyA 5 k = .int ∨ z_tyA 5 k = .boolean ∨ (∃ n, z_tyA 5 k = .object n) ∨ ∃ t, z_tyA 5 k = .array t)) := ⟨fun _ => rfl, by decide +kernel, fun k hk => by
  have h : (match z_tyA 5 k with | .int => true | .boolean => true | .object _ => true | .array _ => true | _ => false) = true := (show ∀ k, k < 13 → (match z_tyA 5 k with | .int => true | .boolean => true | .object _ => true | .array _ => true | _ => false) = true by decide +kernel) k hk
  split at h
  · rename_i e; exact Or.inl e
  · rename_i e; exact Or.inr (Or.inl e)
  · rename_i n e; exact Or.inr (Or.inr (Or.inl ⟨n, e⟩))
  · rename_i n e; exact Or.inr (Or.inr (Or.inr ⟨n, e⟩))
  · cases h⟩
theorem vU_X6 : ∀ w ∈ u_ws RX6 TX6 4, w ∈ z_gt := z_mzT (is := [526, 528, 530, 532]) (by decide +kernel)
theorem vI_X6 : Cond.instantiable RX6 4 ∈ z_gt ∧ Cond.initialized RX6 ∈ z_gt := ⟨z_m1T (i := 517) (by decide +kernel), z_m1T (i := 166) (by decide +kernel)⟩
theorem vT_X6 : (∀ k, z_fnl 6 k = (TX6 k).2.2.2) ∧ (∀ k, k < 4 → (TX6 k).1 = RX6) ∧ (∀ k, k < 4 → (z_tyA 6 k = .int ∨ z_tyA 6 k = .boolean ∨ (∃ n, z_tyA 6 k = .object n) ∨ ∃ t, z_tyA 6 k = .array t)) := ⟨fun _ => rfl, by decide +kernel, fun k hk => by
  have h : (match z_tyA 6 k with | .int => true | .boolean => true | .object _ => true | .array _ => true | _ => false) = true := (show ∀ k, k < 4 → (match z_tyA 6 k with | .int => true | .boolean => true | .object _ => true | .array _ => true | _ => false) = true by decide +kernel) k hk
  split at h
  · rename_i e; exact Or.inl e
  · rename_i e; exact Or.inr (Or.inl e)
  · rename_i n e; exact Or.inr (Or.inr (Or.inl ⟨n, e⟩))
  · rename_i n e; exact Or.inr (Or.inr (Or.inr ⟨n, e⟩))
  · cases h⟩
theorem vU_X7 : ∀ w ∈ u_ws RX7 TX7 14, w ∈ z_gt := z_mzT (is := [346, 348, 350, 352, 354, 356, 358, 360, 362, 364, 366, 368, 370, 372]) (by decide +kernel)
theorem vI_X7 : Cond.instantiable RX7 14 ∈ z_gt ∧ Cond.initialized RX7 ∈ z_gt := ⟨z_m1T (i := 326) (by decide +kernel), z_m1T (i := 162) (by decide +kernel)⟩
theorem vT_X7 : (∀ k, z_fnl 7 k = (TX7 k).2.2.2) ∧ (∀ k, k < 14 → (TX7 k).1 = RX7) ∧ (∀ k, k < 14 → (z_tyA 7 k = .int ∨ z_tyA 7 k = .boolean ∨ (∃ n, z_tyA 7 k = .object n) ∨ ∃ t, z_tyA 7 k = .array t)) := ⟨fun _ => rfl, by decide +kernel, fun k hk => by
  have h : (match z_tyA 7 k with | .int => true | .boolean => true | .object _ => true | .array _ => true | _ => false) = true := (show ∀ k, k < 14 → (match z_tyA 7 k with | .int => true | .boolean => true | .object _ => true | .array _ => true | _ => false) = true by decide +kernel) k hk
  split at h
  · rename_i e; exact Or.inl e
  · rename_i e; exact Or.inr (Or.inl e)
  · rename_i n e; exact Or.inr (Or.inr (Or.inl ⟨n, e⟩))
  · rename_i n e; exact Or.inr (Or.inr (Or.inr ⟨n, e⟩))
  · cases h⟩
theorem vU_X8 : ∀ w ∈ u_ws RX8 TX8 15, w ∈ z_gt := z_mzT (is := [275, 277, 279, 281, 283, 285, 287, 289, 291, 293, 295, 297, 299, 301, 303]) (by decide +kernel)
theorem vI_X8 : Cond.instantiable RX8 15 ∈ z_gt ∧ Cond.initialized RX8 ∈ z_gt := ⟨z_m1T (i := 193) (by decide +kernel), z_m1T (i := 158) (by decide +kernel)⟩
theorem vT_X8 : (∀ k, z_fnl 8 k = (TX8 k).2.2.2) ∧ (∀ k, k < 15 → (TX8 k).1 = RX8) ∧ (∀ k, k < 15 → (z_tyA 8 k = .int ∨ z_tyA 8 k = .boolean ∨ (∃ n, z_tyA 8 k = .object n) ∨ ∃ t, z_tyA 8 k = .array t)) := ⟨fun _ => rfl, by decide +kernel, fun k hk => by
  have h : (match z_tyA 8 k with | .int => true | .boolean => true | .object _ => true | .array _ => true | _ => false) = true := (show ∀ k, k < 15 → (match z_tyA 8 k with | .int => true | .boolean => true | .object _ => true | .array _ => true | _ => false) = true by decide +kernel) k hk
  split at h
  · rename_i e; exact Or.inl e
  · rename_i e; exact Or.inr (Or.inl e)
  · rename_i n e; exact Or.inr (Or.inr (Or.inl ⟨n, e⟩))
  · rename_i n e; exact Or.inr (Or.inr (Or.inr ⟨n, e⟩))
  · cases h⟩
theorem vU_X9 : ∀ w ∈ u_ws RX9 TX9 2, w ∈ z_gt := z_mzT (is := [545, 547]) (by decide +kernel)
theorem vI_X9 : Cond.instantiable RX9 2 ∈ z_gt ∧ Cond.initialized RX9 ∈ z_gt := ⟨z_m1T (i := 538) (by decide +kernel), z_m1T (i := 167) (by decide +kernel)⟩
theorem vT_X9 : (∀ k, z_fnl 9 k = (TX9 k).2.2.2) ∧ (∀ k, k < 2 → (TX9 k).1 = RX9) ∧ (∀ k, k < 2 → (z_tyA 9 k = .int ∨ z_tyA 9 k = .boolean ∨ (∃ n, z_tyA 9 k = .object n) ∨ ∃ t, z_tyA 9 k = .array t)) := ⟨fun _ => rfl, by decide +kernel, fun k hk => by
  have h : (match z_tyA 9 k with | .int => true | .boolean => true | .object _ => true | .array _ => true | _ => false) = true := (show ∀ k, k < 2 → (match z_tyA 9 k with | .int => true | .boolean => true | .object _ => true | .array _ => true | _ => false) = true by decide +kernel) k hk
  split at h
  · rename_i e; exact Or.inl e
  · rename_i e; exact Or.inr (Or.inl e)
  · rename_i n e; exact Or.inr (Or.inr (Or.inl ⟨n, e⟩))
  · rename_i n e; exact Or.inr (Or.inr (Or.inr ⟨n, e⟩))
  · cases h⟩
theorem vU_X10 : ∀ w ∈ u_ws RX10 TX10 4, w ∈ z_gt := z_mzT (is := [563, 565, 567, 569]) (by decide +kernel)
theorem vI_X10 : Cond.instantiable RX10 4 ∈ z_gt ∧ Cond.initialized RX10 ∈ z_gt := ⟨z_m1T (i := 551) (by decide +kernel), z_m1T (i := 168) (by decide +kernel)⟩
theorem vT_X10 : (∀ k, z_fnl 10 k = (TX10 k).2.2.2) ∧ (∀ k, k < 4 → (TX10 k).1 = RX10) ∧ (∀ k, k < 4 → (z_tyA 10 k = .int ∨ z_tyA 10 k = .boolean ∨ (∃ n, z_tyA 10 k = .object n) ∨ ∃ t, z_tyA 10 k = .array t)) := ⟨fun _ => rfl, by decide +kernel, fun k hk => by
  have h : (match z_tyA 10 k with | .int => true | .boolean => true | .object _ => true | .array _ => true | _ => false) = true := (show ∀ k, k < 4 → (match z_tyA 10 k with | .int => true | .boolean => true | .object _ => true | .array _ => true | _ => false) = true by decide +kernel) k hk
  split at h
  · rename_i e; exact Or.inl e
  · rename_i e; exact Or.inr (Or.inl e)
  · rename_i n e; exact Or.inr (Or.inr (Or.inl ⟨n, e⟩))
  · rename_i n e; exact Or.inr (Or.inr (Or.inr ⟨n, e⟩))
  · cases h⟩
theorem vU_X11 : ∀ w ∈ u_ws RX11 TX11 17, w ∈ z_gt := z_mzT (is := [589, 591, 593, 595, 597, 599, 601, 603, 605, 607, 609, 611, 613, 615, 617, 619, 621]) (by decide +kernel)
theorem vI_X11 : Cond.instantiable RX11 17 ∈ z_gt ∧ Cond.initialized RX11 ∈ z_gt := ⟨z_m1T (i := 183) (by decide +kernel), z_m1T (i := 156) (by decide +kernel)⟩
theorem vT_X11 : (∀ k, z_fnl 11 k = (TX11 k).2.2.2) ∧ (∀ k, k < 17 → (TX11 k).1 = RX11) ∧ (∀ k, k < 17 → (z_tyA 11 k = .int ∨ z_tyA 11 k = .boolean ∨ (∃ n, z_tyA 11 k = .object n) ∨ ∃ t, z_tyA 11 k = .array t)) := ⟨fun _ => rfl, by decide +kernel, fun k hk => by
  have h : (match z_tyA 11 k with | .int => true | .boolean => true | .object _ => true | .array _ => true | _ => false) = true := (show ∀ k, k < 17 → (match z_tyA 11 k with | .int => true | .boolean => true | .object _ => true | .array _ => true | _ => false) = true by decide +kernel) k hk
  split at h
  · rename_i e; exact Or.inl e
  · rename_i e; exact Or.inr (Or.inl e)
  · rename_i n e; exact Or.inr (Or.inr (Or.inl ⟨n, e⟩))
  · rename_i n e; exact Or.inr (Or.inr (Or.inr ⟨n, e⟩))
  · cases h⟩
theorem vU_X12 : ∀ w ∈ u_ws RX12 TX12 52, w ∈ z_gt := z_mzT (is := [1641, 1643, 1645, 1647, 1649, 1651, 1653, 1655, 1657, 1659, 1661, 1663, 1665, 1667, 1669, 1671, 1673, 1675, 1677, 1679, 1681, 1683, 1685, 1687, 1689, 1691, 1693, 1695, 1697, 1699, 1701, 1703, 1705, 1707, 1709, 1711, 1713, 1715, 1717, 1719, 1721, 1723, 1725, 1727, 1729, 1731, 1733, 1735, 1737, 1739, 1741, 1743]) (by decide +kernel)
theorem vI_X12 : Cond.instantiable RX12 52 ∈ z_gt ∧ Cond.initialized RX12 ∈ z_gt := ⟨z_m1T (i := 1583) (by decide +kernel), z_m1T (i := 169) (by decide +kernel)⟩
theorem vT_X12 : (∀ k, z_fnl 12 k = (TX12 k).2.2.2) ∧ (∀ k, k < 52 → (TX12 k).1 = RX12) ∧ (∀ k, k < 52 → (z_tyA 12 k = .int ∨ z_tyA 12 k = .boolean ∨ (∃ n, z_tyA 12 k = .object n) ∨ ∃ t, z_tyA 12 k = .array t)) := ⟨fun _ => rfl, by decide +kernel, fun k hk => by
  have h : (match z_tyA 12 k with | .int => true | .boolean => true | .object _ => true | .array _ => true | _ => false) = true := (show ∀ k, k < 52 → (match z_tyA 12 k with | .int => true | .boolean => true | .object _ => true | .array _ => true | _ => false) = true by decide +kernel) k hk
  split at h
  · rename_i e; exact Or.inl e
  · rename_i e; exact Or.inr (Or.inl e)
  · rename_i n e; exact Or.inr (Or.inr (Or.inl ⟨n, e⟩))
  · rename_i n e; exact Or.inr (Or.inr (Or.inr ⟨n, e⟩))
  · cases h⟩
theorem z_CFv : z_CF := by
  intro ci r hr
  match ci, hr with
  | 0, hr => cases hr; exact ⟨vU_X0, tyX0_ok, nmX0, rfl, vT_X0.1, vT_X0.2.1, vI_X0.1, vI_X0.2, vT_X0.2.2⟩
  | 1, hr => cases hr; exact ⟨vU_X1, tyX1_ok, nmX1, rfl, vT_X1.1, vT_X1.2.1, vI_X1.1, vI_X1.2, vT_X1.2.2⟩
  | 2, hr => cases hr; exact ⟨vU_X2, tyX2_ok, nmX2, rfl, vT_X2.1, vT_X2.2.1, vI_X2.1, vI_X2.2, vT_X2.2.2⟩
  | 3, hr => cases hr; exact ⟨vU_X3, tyX3_ok, nmX3, rfl, vT_X3.1, vT_X3.2.1, vI_X3.1, vI_X3.2, vT_X3.2.2⟩
  | 4, hr => cases hr; exact ⟨vU_X4, tyX4_ok, nmX4, rfl, vT_X4.1, vT_X4.2.1, vI_X4.1, vI_X4.2, vT_X4.2.2⟩
  | 5, hr => cases hr; exact ⟨vU_X5, tyX5_ok, nmX5, rfl, vT_X5.1, vT_X5.2.1, vI_X5.1, vI_X5.2, vT_X5.2.2⟩
  | 6, hr => cases hr; exact ⟨vU_X6, tyX6_ok, nmX6, rfl, vT_X6.1, vT_X6.2.1, vI_X6.1, vI_X6.2, vT_X6.2.2⟩
  | 7, hr => cases hr; exact ⟨vU_X7, tyX7_ok, nmX7, rfl, vT_X7.1, vT_X7.2.1, vI_X7.1, vI_X7.2, vT_X7.2.2⟩
  | 8, hr => cases hr; exact ⟨vU_X8, tyX8_ok, nmX8, rfl, vT_X8.1, vT_X8.2.1, vI_X8.1, vI_X8.2, vT_X8.2.2⟩
  | 9, hr => cases hr; exact ⟨vU_X9, tyX9_ok, nmX9, rfl, vT_X9.1, vT_X9.2.1, vI_X9.1, vI_X9.2, vT_X9.2.2⟩
  | 10, hr => cases hr; exact ⟨vU_X10, tyX10_ok, nmX10, rfl, vT_X10.1, vT_X10.2.1, vI_X10.1, vI_X10.2, vT_X10.2.2⟩
  | 11, hr => cases hr; exact ⟨vU_X11, tyX11_ok, nmX11, rfl, vT_X11.1, vT_X11.2.1, vI_X11.1, vI_X11.2, vT_X11.2.2⟩
  | 12, hr => cases hr; exact ⟨vU_X12, tyX12_ok, nmX12, rfl, vT_X12.1, vT_X12.2.1, vI_X12.1, vI_X12.2, vT_X12.2.2⟩
  | n + 13, hr => cases hr
theorem z_AVv : z_AV := ⟨z_m1T (i := 306) (by decide +kernel), z_m1T (i := 465) (by decide +kernel), z_m1T (i := 536) (by decide +kernel), z_m1T (i := 535) (by decide +kernel)⟩
