theorem tt1 : (List.range 54).all (z_pck cX8_flags p_X8_flags) = true := by decide +kernel
theorem tt2 : (List.range 1000).all (z_fck (t_X8 (fun _ => none))) = true := by decide +kernel
theorem tt3 : (List.range 1000).all (z_mck (t_X8 (fun _ => none))) = true := by decide +kernel
theorem i_vc : Claimed_1_1 ∧ Claimed_1_2 := sorry
