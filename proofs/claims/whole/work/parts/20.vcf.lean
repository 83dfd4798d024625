theorem vU_X0 : ∀ w ∈ u_ws RX0 TX0 3, w ∈ z_gt := z_mzT (is := [3049, 3051, 3053]) (by decide +kernel)
theorem vI_X0 : Cond.instantiable RX0 3 ∈ z_gt ∧ Cond.initialized RX0 ∈ z_gt := ⟨z_m1T (i := 3038) (by decide +kernel), z_m1T (i := 1025) (by decide +kernel)⟩
theorem vT_X0 : (∀ k, z_fnl 0 k = (TX0 k).2.2.2) ∧ (∀ k, k < 3 → (TX0 k).1 = RX0) ∧ (∀ k, k < 3 → (z_tyA 0 k = .int ∨ z_tyA 0 k = .boolean ∨ (∃ n, z_tyA 0 k = .object n) ∨ ∃ t, z_tyA 0 k = .array t)) := ⟨fun _ => rfl, by decide +kernel, fun k hk => by
  have h : (match z_tyA 0 k with | .int => true | .boolean => true | .object _ => true | .array _ => true | _ => false) = true := (show ∀ k, k < 3 → (match z_tyA 0 k with | .int => true | .boolean => true | .object _ => true | .array _ => true | _ => false) = true by decide +kernel) k hk
  split at h
  · rename_i e; exact Or.inl e
  · rename_i e; exact Or.inr (Or.inl e)
  · rename_i n e; exact Or.inr (Or.inr (Or.inl ⟨n, e⟩))
  · rename_i n e; exact Or.inr (Or.inr (Or.inr ⟨n, e⟩))
  · cases h⟩
theorem vU_X1 : ∀ w ∈ u_ws RX1 TX1 3, w ∈ z_gt := z_mzT (is := [1162, 1164, 1166]) (by decide +kernel)
theorem vI_X1 : Cond.instantiable RX1 3 ∈ z_gt ∧ Cond.initialized RX1 ∈ z_gt := ⟨z_m1T (i := 1036) (by decide +kernel), z_m1T (i := 1002) (by decide +kernel)⟩
theorem vT_X1 : (∀ k, z_fnl 1 k = (TX1 k).2.2.2) ∧ (∀ k, k < 3 → (TX1 k).1 = RX1) ∧ (∀ k, k < 3 → (z_tyA 1 k = .int ∨ z_tyA 1 k = .boolean ∨ (∃ n, z_tyA 1 k = .object n) ∨ ∃ t, z_tyA 1 k = .array t)) := ⟨fun _ => rfl, by decide +kernel, fun k hk => by
  have h : (match z_tyA 1 k with | .int => true | .boolean => true | .object _ => true | .array _ => true | _ => false) = true := (show ∀ k, k < 3 → (match z_tyA 1 k with | .int => true | .boolean => true | .object _ => true | .array _ => true | _ => false) = true by decide +kernel) k hk
  split at h
  · rename_i e; exact Or.inl e
  · rename_i e; exact Or.inr (Or.inl e)
  · rename_i n e; exact Or.inr (Or.inr (Or.inl ⟨n, e⟩))
  · rename_i n e; exact Or.inr (Or.inr (Or.inr ⟨n, e⟩))
  · cases h⟩
theorem vU_X2 : ∀ w ∈ u_ws RX2 TX2 14, w ∈ z_gt := z_mzT (is := [2092, 2094, 2096, 2098, 2100, 2102, 2104, 2106, 2108, 2110, 2112, 2114, 2116, 2118]) (by decide +kernel)
theorem vI_X2 : Cond.instantiable RX2 14 ∈ z_gt ∧ Cond.initialized RX2 ∈ z_gt := ⟨z_m1T (i := 2072) (by decide +kernel), z_m1T (i := 1010) (by decide +kernel)⟩
theorem vT_X2 : (∀ k, z_fnl 2 k = (TX2 k).2.2.2) ∧ (∀ k, k < 14 → (TX2 k).1 = RX2) ∧ (∀ k, k < 14 → (z_tyA 2 k = .int ∨ z_tyA 2 k = .boolean ∨ (∃ n, z_tyA 2 k = .object n) ∨ ∃ t, z_tyA 2 k = .array t)) := ⟨fun _ => rfl, by decide +kernel, fun k hk => by
  have h : (match z_tyA 2 k with | .int => true | .boolean => true | .object _ => true | .array _ => true | _ => false) = true := (show ∀ k, k < 14 → (match z_tyA 2 k with | .int => true | .boolean => true | .object _ => true | .array _ => true | _ => false) = true by decide +kernel) k hk
  split at h
  · rename_i e; exact Or.inl e
  · rename_i e; exact Or.inr (Or.inl e)
  · rename_i n e; exact Or.inr (Or.inr (Or.inl ⟨n, e⟩))
  · rename_i n e; exact Or.inr (Or.inr (Or.inr ⟨n, e⟩))
  · cases h⟩
theorem vU_X3 : ∀ w ∈ u_ws RX3 TX3 6, w ∈ z_gt := z_mzT (is := [3153, 3155, 3157, 3159, 3161, 3163]) (by decide +kernel)
theorem vI_X3 : Cond.instantiable RX3 6 ∈ z_gt ∧ Cond.initialized RX3 ∈ z_gt := ⟨z_m1T (i := 3135) (by decide +kernel), z_m1T (i := 1026) (by decide +kernel)⟩
theorem vT_X3 : (∀ k, z_fnl 3 k = (TX3 k).2.2.2) ∧ (∀ k, k < 6 → (TX3 k).1 = RX3) ∧ (∀ k, k < 6 → (z_tyA 3 k = .int ∨ z_tyA 3 k = .boolean ∨ (∃ n, z_tyA 3 k = .object n) ∨ ∃ t, z_tyA 3 k = .array t)) := ⟨fun _ => rfl, by decide +kernel, fun k hk => by
  have h : (match z_tyA 3 k with | .int => true | .boolean => true | .object _ => true | .array _ => true | _ => false) = true := (show ∀ k, k < 6 → (match z_tyA 3 k with | .int => true | .boolean => true | .object _ => true | .array _ => true | _ => false) = true by decide +kernel) k hk
  split at h
  · rename_i e; exact Or.inl e
  · rename_i e; exact Or.inr (Or.inl e)
  · rename_i n e; exact Or.inr (Or.inr (Or.inl ⟨n, e⟩))
  · rename_i n e; exact Or.inr (Or.inr (Or.inr ⟨n, e⟩))
  · cases h⟩
theorem vU_X4 : ∀ w ∈ u_ws RX4 TX4 12, w ∈ z_gt := z_mzT (is := [2045, 2047, 2049, 2051, 2053, 2055, 2057, 2059, 2061, 2063, 2065, 2067]) (by decide +kernel)
theorem vI_X4 : Cond.instantiable RX4 12 ∈ z_gt ∧ Cond.initialized RX4 ∈ z_gt := ⟨z_m1T (i := 2027) (by decide +kernel), z_m1T (i := 1009) (by decide +kernel)⟩
theorem vT_X4 : (∀ k, z_fnl 4 k = (TX4 k).2.2.2) ∧ (∀ k, k < 12 → (TX4 k).1 = RX4) ∧ (∀ k, k < 12 → (z_tyA 4 k = .int ∨ z_tyA 4 k = .boolean ∨ (∃ n, z_tyA 4 k = .object n) ∨ ∃ t, z_tyA 4 k = .array t)) := ⟨fun _ => rfl, by decide +kernel, fun k hk => by
  have h : (match z_tyA 4 k with | .int => true | .boolean => true | .object _ => true | .array _ => true | _ => false) = true := (show ∀ k, k < 12 → (match z_tyA 4 k with | .int => true | .boolean => true | .object _ => true | .array _ => true | _ => false) = true by decide +kernel) k hk
  split at h
  · rename_i e; exact Or.inl e
  · rename_i e; exact Or.inr (Or.inl e)
  · rename_i n e; exact Or.inr (Or.inr (Or.inl ⟨n, e⟩))
  · rename_i n e; exact Or.inr (Or.inr (Or.inr ⟨n, e⟩))
  · cases h⟩
theorem vU_X5 : ∀ w ∈ u_ws RX5 TX5 13, w ∈ z_gt := z_mzT (is := [1239, 2001, 2003, 2005, 2007, 2009, 2011, 2013, 2015, 2017, 2019, 2021, 2023]) (by decide +kernel)
theorem vI_X5 : Cond.instantiable RX5 13 ∈ z_gt ∧ Cond.initialized RX5 ∈ z_gt := ⟨z_m1T (i := 1221) (by decide +kernel), z_m1T (i := 1008) (by decide +kernel)⟩
theorem vT_X5 : (∀ k, z_fnl 5 k = (TX5 k).2.2.2) ∧ (∀ k, k < 13 → (TX5 k).1 = RX5) ∧ (∀ k, k < 13 → (z_tyA 5 k = .int ∨ z_tyA 5 k = .boolean ∨ (∃ n, z_tyA 5 k = .object n) ∨ ∃ t, z_tyA 5 k = .array t)) := ⟨fun _ => rfl, by decide +kernel, fun k hk => by
  have h : (match z_tyA 5 k with | .int => true | .boolean => true | .object _ => true | .array _ => true | _ => false) = true := (show ∀ k, k < 13 → (match z_tyA 5 k with | .int => true | .boolean => true | .object _ => true | .array _ => true | _ => false) = true by decide +kernel) k hk
  split at h
  · rename_i e; exact Or.inl e
  · rename_i e; exact Or.inr (Or.inl e)
  · rename_i n e; exact Or.inr (Or.inr (Or.inl ⟨n, e⟩))
  · rename_i n e; exact Or.inr (Or.inr (Or.inr ⟨n, e⟩))
  · cases h⟩
theorem vU_X6 : ∀ w ∈ u_ws RX6 TX6 4, w ∈ z_gt := z_mzT (is := [2131, 2133, 2135, 2137]) (by decide +kernel)
theorem vI_X6 : Cond.instantiable RX6 4 ∈ z_gt ∧ Cond.initialized RX6 ∈ z_gt := ⟨z_m1T (i := 2122) (by decide +kernel), z_m1T (i := 1011) (by decide +kernel)⟩
theorem vT_X6 : (∀ k, z_fnl 6 k = (TX6 k).2.2.2) ∧ (∀ k, k < 4 → (TX6 k).1 = RX6) ∧ (∀ k, k < 4 → (z_tyA 6 k = .int ∨ z_tyA 6 k = .boolean ∨ (∃ n, z_tyA 6 k = .object n) ∨ ∃ t, z_tyA 6 k = .array t)) := ⟨fun _ => rfl, by decide +kernel, fun k hk => by
  have h : (match z_tyA 6 k with | .int => true | .boolean => true | .object _ => true | .array _ => true | _ => false) = true := (show ∀ k, k < 4 → (match z_tyA 6 k with | .int => true | .boolean => true | .object _ => true | .array _ => true | _ => false) = true by decide +kernel) k hk
  split at h
  · rename_i e; exact Or.inl e
  · rename_i e; exact Or.inr (Or.inl e)
  · rename_i n e; exact Or.inr (Or.inr (Or.inl ⟨n, e⟩))
  · rename_i n e; exact Or.inr (Or.inr (Or.inr ⟨n, e⟩))
  · cases h⟩
theorem vU_X7 : ∀ w ∈ u_ws RX7 TX7 14, w ∈ z_gt := z_mzT (is := [1191, 1193, 1195, 1197, 1199, 1201, 1203, 1205, 1207, 1209, 1211, 1213, 1215, 1217]) (by decide +kernel)
theorem vI_X7 : Cond.instantiable RX7 14 ∈ z_gt ∧ Cond.initialized RX7 ∈ z_gt := ⟨z_m1T (i := 1171) (by decide +kernel), z_m1T (i := 1007) (by decide +kernel)⟩
theorem vT_X7 : (∀ k, z_fnl 7 k = (TX7 k).2.2.2) ∧ (∀ k, k < 14 → (TX7 k).1 = RX7) ∧ (∀ k, k < 14 → (z_tyA 7 k = .int ∨ z_tyA 7 k = .boolean ∨ (∃ n, z_tyA 7 k = .object n) ∨ ∃ t, z_tyA 7 k = .array t)) := ⟨fun _ => rfl, by decide +kernel, fun k hk => by
  have h : (match z_tyA 7 k with | .int => true | .boolean => true | .object _ => true | .array _ => true | _ => false) = true := (show ∀ k, k < 14 → (match z_tyA 7 k with | .int => true | .boolean => true | .object _ => true | .array _ => true | _ => false) = true by decide +kernel) k hk
  split at h
  · rename_i e; exact Or.inl e
  · rename_i e; exact Or.inr (Or.inl e)
  · rename_i n e; exact Or.inr (Or.inr (Or.inl ⟨n, e⟩))
  · rename_i n e; exact Or.inr (Or.inr (Or.inr ⟨n, e⟩))
  · cases h⟩
theorem vU_X8 : ∀ w ∈ u_ws RX8 TX8 15, w ∈ z_gt := z_mzT (is := [1120, 1122, 1124, 1126, 1128, 1130, 1132, 1134, 1136, 1138, 1140, 1142, 1144, 1146, 1148]) (by decide +kernel)
theorem vI_X8 : Cond.instantiable RX8 15 ∈ z_gt ∧ Cond.initialized RX8 ∈ z_gt := ⟨z_m1T (i := 1038) (by decide +kernel), z_m1T (i := 1003) (by decide +kernel)⟩
theorem vT_X8 : (∀ k, z_fnl 8 k = (TX8 k).2.2.2) ∧ (∀ k, k < 15 → (TX8 k).1 = RX8) ∧ (∀ k, k < 15 → (z_tyA 8 k = .int ∨ z_tyA 8 k = .boolean ∨ (∃ n, z_tyA 8 k = .object n) ∨ ∃ t, z_tyA 8 k = .array t)) := ⟨fun _ => rfl, by decide +kernel, fun k hk => by
  have h : (match z_tyA 8 k with | .int => true | .boolean => true | .object _ => true | .array _ => true | _ => false) = true := (show ∀ k, k < 15 → (match z_tyA 8 k with | .int => true | .boolean => true | .object _ => true | .array _ => true | _ => false) = true by decide +kernel) k hk
  split at h
  · rename_i e; exact Or.inl e
  · rename_i e; exact Or.inr (Or.inl e)
  · rename_i n e; exact Or.inr (Or.inr (Or.inl ⟨n, e⟩))
  · rename_i n e; exact Or.inr (Or.inr (Or.inr ⟨n, e⟩))
  · cases h⟩
theorem vU_X9 : ∀ w ∈ u_ws RX9 TX9 2, w ∈ z_gt := z_mzT (is := [2150, 2152]) (by decide +kernel)
theorem vI_X9 : Cond.instantiable RX9 2 ∈ z_gt ∧ Cond.initialized RX9 ∈ z_gt := ⟨z_m1T (i := 2143) (by decide +kernel), z_m1T (i := 1012) (by decide +kernel)⟩
theorem vT_X9 : (∀ k, z_fnl 9 k = (TX9 k).2.2.2) ∧ (∀ k, k < 2 → (TX9 k).1 = RX9) ∧ (∀ k, k < 2 → (z_tyA 9 k = .int ∨ z_tyA 9 k = .boolean ∨ (∃ n, z_tyA 9 k = .object n) ∨ ∃ t, z_tyA 9 k = .array t)) := ⟨fun _ => rfl, by decide +kernel, fun k hk => by
  have h : (match z_tyA 9 k with | .int => true | .boolean => true | .object _ => true | .array _ => true | _ => false) = true := (show ∀ k, k < 2 → (match z_tyA 9 k with | .int => true | .boolean => true | .object _ => true | .array _ => true | _ => false) = true by decide +kernel) k hk
  split at h
  · rename_i e; exact Or.inl e
  · rename_i e; exact Or.inr (Or.inl e)
  · rename_i n e; exact Or.inr (Or.inr (Or.inl ⟨n, e⟩))
  · rename_i n e; exact Or.inr (Or.inr (Or.inr ⟨n, e⟩))
  · cases h⟩
theorem vU_X10 : ∀ w ∈ u_ws RX10 TX10 4, w ∈ z_gt := z_mzT (is := [2168, 2170, 2172, 2174]) (by decide +kernel)
theorem vI_X10 : Cond.instantiable RX10 4 ∈ z_gt ∧ Cond.initialized RX10 ∈ z_gt := ⟨z_m1T (i := 2156) (by decide +kernel), z_m1T (i := 1013) (by decide +kernel)⟩
theorem vT_X10 : (∀ k, z_fnl 10 k = (TX10 k).2.2.2) ∧ (∀ k, k < 4 → (TX10 k).1 = RX10) ∧ (∀ k, k < 4 → (z_tyA 10 k = .int ∨ z_tyA 10 k = .boolean ∨ (∃ n, z_tyA 10 k = .object n) ∨ ∃ t, z_tyA 10 k = .array t)) := ⟨fun _ => rfl, by decide +kernel, fun k hk => by
  have h : (match z_tyA 10 k with | .int => true | .boolean => true | .object _ => true | .array _ => true | _ => false) = true := (show ∀ k, k < 4 → (match z_tyA 10 k with | .int => true | .boolean => true | .object _ => true | .array _ => true | _ => false) = true by decide +kernel) k hk
  split at h
  · rename_i e; exact Or.inl e
  · rename_i e; exact Or.inr (Or.inl e)
  · rename_i n e; exact Or.inr (Or.inr (Or.inl ⟨n, e⟩))
  · rename_i n e; exact Or.inr (Or.inr (Or.inr ⟨n, e⟩))
  · cases h⟩
theorem vU_X11 : ∀ w ∈ u_ws RX11 TX11 17, w ∈ z_gt := z_mzT (is := [2194, 2196, 2198, 2200, 2202, 2204, 2206, 2208, 2210, 2212, 2214, 2216, 2218, 2220, 2222, 2224, 2226]) (by decide +kernel)
theorem vI_X11 : Cond.instantiable RX11 17 ∈ z_gt ∧ Cond.initialized RX11 ∈ z_gt := ⟨z_m1T (i := 1028) (by decide +kernel), z_m1T (i := 1001) (by decide +kernel)⟩
theorem vT_X11 : (∀ k, z_fnl 11 k = (TX11 k).2.2.2) ∧ (∀ k, k < 17 → (TX11 k).1 = RX11) ∧ (∀ k, k < 17 → (z_tyA 11 k = .int ∨ z_tyA 11 k = .boolean ∨ (∃ n, z_tyA 11 k = .object n) ∨ ∃ t, z_tyA 11 k = .array t)) := ⟨fun _ => rfl, by decide +kernel, fun k hk => by
  have h : (match z_tyA 11 k with | .int => true | .boolean => true | .object _ => true | .array _ => true | _ => false) = true := (show ∀ k, k < 17 → (match z_tyA 11 k with | .int => true | .boolean => true | .object _ => true | .array _ => true | _ => false) = true by decide +kernel) k hk
  split at h
  · rename_i e; exact Or.inl e
  · rename_i e; exact Or.inr (Or.inl e)
  · rename_i n e; exact Or.inr (Or.inr (Or.inl ⟨n, e⟩))
  · rename_i n e; exact Or.inr (Or.inr (Or.inr ⟨n, e⟩))
  · cases h⟩
theorem vU_X12 : ∀ w ∈ u_ws RX12 TX12 52, w ∈ z_gt := z_mzT (is := [7046, 7048, 7050, 7052, 7054, 7056, 7058, 7060, 7062, 7064, 7066, 7068, 7070, 7072, 7074, 7076, 7078, 7080, 7082, 7084, 7086, 7088, 7090, 7092, 7094, 7096, 7098, 7100, 7102, 7104, 7106, 7108, 7110, 7112, 7114, 7116, 7118, 7120, 7122, 7124, 7126, 7128, 7130, 7132, 7134, 7136, 7138, 7140, 7142, 7144, 7146, 7148]) (by decide +kernel)
theorem vI_X12 : Cond.instantiable RX12 52 ∈ z_gt ∧ Cond.initialized RX12 ∈ z_gt := ⟨z_m1T (i := 6228) (by decide +kernel), z_m1T (i := 1014) (by decide +kernel)⟩
theorem vT_X12 : (∀ k, z_fnl 12 k = (TX12 k).2.2.2) ∧ (∀ k, k < 52 → (TX12 k).1 = RX12) ∧ (∀ k, k < 52 → (z_tyA 12 k = .int ∨ z_tyA 12 k = .boolean ∨ (∃ n, z_tyA 12 k = .object n) ∨ ∃ t, z_tyA 12 k = .array t)) := ⟨fun _ => rfl, by decide +kernel, fun k hk => by
  have h : (match z_tyA 12 k with | .int => true | .boolean => true | .object _ => true | .array _ => true | _ => false) = true := (show ∀ k, k < 52 → (match z_tyA 12 k with | .int => true | .boolean => true | .object _ => true | .array _ => true | _ => false) = true by decide +kernel) k hk
  split at h
  · rename_i e; exact Or.inl e
  · rename_i e; exact Or.inr (Or.inl e)
  · rename_i n e; exact Or.inr (Or.inr (Or.inl ⟨n, e⟩))
  · rename_i n e; exact Or.inr (Or.inr (Or.inr ⟨n, e⟩))
  · cases h⟩
theorem z_CFv : z_CF := by
  intro ci r hr
  match ci, hr with
  | 0, hr => cases hr; exact ⟨vU_X0, tyX0_ok, nmX0, rfl, vT_X0.1, vT_X0.2.1, vI_X0.1, vI_X0.2, vT_X0.2.2⟩
  | 1, hr => cases hr; exact ⟨vU_X1, tyX1_ok, nmX1, rfl, vT_X1.1, vT_X1.2.1, vI_X1.1, vI_X1.2, vT_X1.2.2⟩
  | 2, hr => cases hr; exact ⟨vU_X2, tyX2_ok, nmX2, rfl, vT_X2.1, vT_X2.2.1, vI_X2.1, vI_X2.2, vT_X2.2.2⟩
  | 3, hr => cases hr; exact ⟨vU_X3, tyX3_ok, nmX3, rfl, vT_X3.1, vT_X3.2.1, vI_X3.1, vI_X3.2, vT_X3.2.2⟩
  | 4, hr => cases hr; exact ⟨vU_X4, tyX4_ok, nmX4, rfl, vT_X4.1, vT_X4.2.1, vI_X4.1, vI_X4.2, vT_X4.2.2⟩
  | 5, hr => cases hr; exact ⟨vU_X5, tyX5_ok, nmX5, rfl, vT_X5.1, vT_X5.2.1, vI_X5.1, vI_X5.2, vT_X5.2.2⟩
  | 6, hr => cases hr; exact ⟨vU_X6, tyX6_ok, nmX6, rfl, vT_X6.1, vT_X6.2.1, vI_X6.1, vI_X6.2, vT_X6.2.2⟩
  | 7, hr => cases hr; exact ⟨vU_X7, tyX7_ok, nmX7, rfl, vT_X7.1, vT_X7.2.1, vI_X7.1, vI_X7.2, vT_X7.2.2⟩
  | 8, hr => cases hr; exact ⟨vU_X8, tyX8_ok, nmX8, rfl, vT_X8.1, vT_X8.2.1, vI_X8.1, vI_X8.2, vT_X8.2.2⟩
  | 9, hr => cases hr; exact ⟨vU_X9, tyX9_ok, nmX9, rfl, vT_X9.1, vT_X9.2.1, vI_X9.1, vI_X9.2, vT_X9.2.2⟩
  | 10, hr => cases hr; exact ⟨vU_X10, tyX10_ok, nmX10, rfl, vT_X10.1, vT_X10.2.1, vI_X10.1, vI_X10.2, vT_X10.2.2⟩
  | 11, hr => cases hr; exact ⟨vU_X11, tyX11_ok, nmX11, rfl, vT_X11.1, vT_X11.2.1, vI_X11.1, vI_X11.2, vT_X11.2.2⟩
  | 12, hr => cases hr; exact ⟨vU_X12, tyX12_ok, nmX12, rfl, vT_X12.1, vT_X12.2.1, vI_X12.1, vI_X12.2, vT_X12.2.2⟩
  | n + 13, hr => cases hr
theorem z_AVv : z_AV := ⟨z_m1T (i := 1151) (by decide +kernel), z_m1T (i := 2070) (by decide +kernel), z_m1T (i := 2141) (by decide +kernel), z_m1T (i := 2140) (by decide +kernel)⟩
