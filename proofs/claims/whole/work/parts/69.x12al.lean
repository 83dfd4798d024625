theorem en_X12_count {pu : Nat → Option ((List Value → z_H → Prop) × (List Value → z_H → Int32))} {G : z_G} {d : Nat} {r : z_Res} {h : z_H} {x0 : Nat} {x1 : Int32} (hJ : z_J G d (m_X12_count pu) r 0 [some (.ref x0), some (.int x1)] [] h) : z_Ev G d k_X12_count [.ref x0, .int x1] h r := z_enter (μ := m_X12_count pu) rfl (by decide) rfl rfl (fun q => by cases q) (Nat.le_of_ble_eq_true rfl) hJ
def hd_X12_count : Nat → Option (List Bool) := (fun k => none)
set_option maxRecDepth 20000 in
theorem b_X12_count_0 {G : z_G} {d : Nat} {r : z_Res} (hPu : z_PuV G d (t_X12 z_puC)) {h : z_H} {x0 : Nat} {x1 : Int32} (hT : (z_kd h x0 = 28 ∧ (if x1 = (nI 0) then (z_kd (z_poi h x0 0 (nI 0)) x0 = 28 ∧ s_X12_points x0 (z_poi h x0 0 (nI 0)) ∧ r = (.inl (some (.int (f_X12_points x0 (z_poi h x0 0 (nI 0))))), z_poi h x0 0 (nI 0))) else (if x1 = (nI 1) then (z_kd (z_poi h x0 0 (nI 0)) x0 = 28 ∧ s_X12_lines x0 (z_poi h x0 0 (nI 0)) ∧ r = (.inl (some (.int (f_X12_lines x0 (z_poi h x0 0 (nI 0))))), z_poi h x0 0 (nI 0))) else (if x1 = (nI 2) then (z_kd (z_poi h x0 0 (nI 0)) x0 = 28 ∧ ∃ x_2 h_1, z_Ev G d k_X12_flags [.ref x0] (z_poi h x0 0 (nI 0)) (.inl (some (.int x_2)), h_1) ∧ r = (.inl (some (.int x_2)), h_1)) else (if x1 = (nI 3) then (z_kd (z_poi h x0 0 (nI 0)) x0 = 28 ∧ ∃ x_4 h_3, z_Ev G d k_X12_isRegular [.ref x0] (z_poi h x0 0 (nI 0)) (.inl (some (.int x_4)), h_3) ∧ (if x_4 = (nI 0) then r = (.inl (some (.int (nI 0))), h_3) else r = (.inl (some (.int (nI 1))), h_3))) else (if x1 = (nI 4) then (z_kd (z_poi h x0 0 (nI 0)) x0 = 28 ∧ ∃ x_6 h_5, z_Ev G d k_X12_isRegular [.ref x0] (z_poi h x0 0 (nI 0)) (.inl (some (.int x_6)), h_5) ∧ (if x_6 = (nI 0) then r = (.inl (some (.int mI)), h_5) else (z_kd h_5 x0 = 28 ∧ ∃ x_8 h_7, z_Ev G d k_X12_regularR [.ref x0] h_5 (.inl (some (.int x_8)), h_7) ∧ r = (.inl (some (.int x_8)), h_7)))) else (if x1 = (nI 5) then (z_kd (z_poi h x0 0 (nI 0)) x0 = 28 ∧ ∃ x_10 h_9, z_Ev G d k_X12_isRegular [.ref x0] (z_poi h x0 0 (nI 0)) (.inl (some (.int x_10)), h_9) ∧ (if x_10 = (nI 0) then r = (.inl (some (.int mI)), h_9) else (z_kd h_9 x0 = 28 ∧ ∃ x_12 h_11, z_Ev G d k_X12_regularK [.ref x0] h_9 (.inl (some (.int x_12)), h_11) ∧ r = (.inl (some (.int x_12)), h_11)))) else (if x1 = (nI 6) then (z_kd (z_poi h x0 0 (nI 0)) x0 = 28 ∧ ∃ x_14 h_13, z_Ev G d k_X12_pairs [.ref x0] (z_poi h x0 0 (nI 0)) (.inl (some (.int x_14)), h_13) ∧ r = (.inl (some (.int x_14)), h_13)) else (if x1 = (nI 7) then (z_kd (z_poi h x0 0 (nI 0)) x0 = 28 ∧ ∃ x_16 h_15, z_Ev G d k_X12_triangles [.ref x0] (z_poi h x0 0 (nI 0)) (.inl (some (.int x_16)), h_15) ∧ r = (.inl (some (.int x_16)), h_15)) else (if x1 = (nI 8) then (z_kd (z_poi h x0 0 (nI 0)) x0 = 28 ∧ ∃ x_18 h_17, z_Ev G d k_X12_pieces [.ref x0] (z_poi h x0 0 (nI 0)) (.inl (some (.int x_18)), h_17) ∧ r = (.inl (some (.int x_18)), h_17)) else (if x1 = (nI 9) then (z_kd (z_poi h x0 0 (nI 0)) x0 = 28 ∧ ∃ x_20 h_19, z_Ev G d k_X12_symmetries [.ref x0] (z_poi h x0 0 (nI 0)) (.inl (some (.int x_20)), h_19) ∧ r = (.inl (some (.int x_20)), h_19)) else (if x1 = (nI 10) then (z_kd (z_poi h x0 0 (nI 0)) x0 = 28 ∧ ∃ x_22 h_21, z_Ev G d k_X12_orbits [.ref x0] (z_poi h x0 0 (nI 0)) (.inl (some (.int x_22)), h_21) ∧ r = (.inl (some (.int x_22)), h_21)) else (if x1 = (nI 11) then (z_kd (z_poi h x0 0 (nI 0)) x0 = 28 ∧ ∃ x_24 h_23, z_Ev G d k_X12_dualities [.ref x0, .int (nI 0)] (z_poi h x0 0 (nI 0)) (.inl (some (.int x_24)), h_23) ∧ r = (.inl (some (.int x_24)), h_23)) else (if x1 = (nI 12) then (z_kd (z_poi h x0 0 (nI 0)) x0 = 28 ∧ ∃ x_26 h_25, z_Ev G d k_X12_dualities [.ref x0, .int (nI 1)] (z_poi h x0 0 (nI 0)) (.inl (some (.int x_26)), h_25) ∧ r = (.inl (some (.int x_26)), h_25)) else (if x1 = (nI 13) then (z_kd (z_poi h x0 0 (nI 0)) x0 = 28 ∧ ∃ x_28 h_27, z_Ev G d k_X12_slips [.ref x0] (z_poi h x0 0 (nI 0)) (.inl (some (.int x_28)), h_27) ∧ r = (.inl (some (.int x_28)), h_27)) else (if x1 = (nI 14) then (z_kd (z_poi h x0 0 (nI 0)) x0 = 28 ∧ ∃ x_30 h_29, z_Ev G d k_X12_strays [.ref x0] (z_poi h x0 0 (nI 0)) (.inl (some (.int x_30)), h_29) ∧ r = (.inl (some (.int x_30)), h_29)) else (if x1 = (nI 15) then (z_kd (z_poi h x0 0 (nI 0)) x0 = 28 ∧ ∃ x_32 h_31, z_Ev G d k_X12_girth [.ref x0] (z_poi h x0 0 (nI 0)) (.inl (some (.int x_32)), h_31) ∧ r = (.inl (some (.int x_32)), h_31)) else (if x1 = (nI 16) then (z_kd (z_poi h x0 0 (nI 0)) x0 = 28 ∧ r = (.inl (some (.int (z_oi (z_poi h x0 0 (nI 0)) x0 25))), z_poi h x0 0 (nI 0))) else (if x1 = (nI 17) then (z_kd (z_poi h x0 0 (nI 0)) x0 = 28 ∧ r = (.inl (some (.int (z_oi (z_poi h x0 0 (nI 0)) x0 5))), z_poi h x0 0 (nI 0))) else (if x1 = (nI 18) then (z_kd (z_poi h x0 0 (nI 0)) x0 = 28 ∧ (z_rc (z_or (z_poi h x0 0 (nI 0)) x0 3) False (fun x_33 => (z_kd (z_poi h x0 0 (nI 0)) x_33 = 1 ∧ vp_in (x1 - (nI 18)) (z_ln (z_poi h x0 0 (nI 0)) x_33) ∧ r = (.inl (some (.int (z_ai (z_poi h x0 0 (nI 0)) x_33 (Int32.toNatClampNeg (x1 - (nI 18)))))), z_poi h x0 0 (nI 0)))))) else (if x1 = (nI 19) then (z_kd (z_poi h x0 0 (nI 0)) x0 = 28 ∧ (z_rc (z_or (z_poi h x0 0 (nI 0)) x0 3) False (fun x_34 => (z_kd (z_poi h x0 0 (nI 0)) x_34 = 1 ∧ vp_in (x1 - (nI 18)) (z_ln (z_poi h x0 0 (nI 0)) x_34) ∧ r = (.inl (some (.int (z_ai (z_poi h x0 0 (nI 0)) x_34 (Int32.toNatClampNeg (x1 - (nI 18)))))), z_poi h x0 0 (nI 0)))))) else (if x1 = (nI 20) then (z_kd (z_poi h x0 0 (nI 0)) x0 = 28 ∧ ∃ x_36 h_35, z_Ev G d k_X12_fours [.ref x0] (z_poi h x0 0 (nI 0)) (.inl (some (.int x_36)), h_35) ∧ r = (.inl (some (.int x_36)), h_35)) else (if x1 = (nI 21) then (z_kd (z_poi h x0 0 (nI 0)) x0 = 28 ∧ ∃ x_38 h_37, z_Ev G d k_X12_apart [.ref x0] (z_poi h x0 0 (nI 0)) (.inl (some (.int x_38)), h_37) ∧ r = (.inl (some (.int x_38)), h_37)) else (z_kd (z_poi h x0 0 (nI 0)) x0 = 28 ∧ ∃ x_40 h_39, z_Ev G d k_X12_fail [.ref x0, .int (nI 1)] (z_poi h x0 0 (nI 0)) (.inl (some (.int x_40)), h_39) ∧ r = (.inl (some (.int x_40)), h_39)))))))))))))))))))))))))) : (z_J G (d + 1) (m_X12_count z_puC) r) 0 [some (.ref x0), some (.int x1)] [] h := z_bq (v_X12 z_puC (vP_X12_count z_puC) hPu) hd_X12_count 14 hT
theorem en_X12_point {pu : Nat → Option ((List Value → z_H → Prop) × (List Value → z_H → Int32))} {G : z_G} {d : Nat} {r : z_Res} {h : z_H} {x0 : Nat} {x1 : Int32} {x2 : Int32} (hJ : z_J G d (m_X12_point pu) r 0 [some (.ref x0), some (.int x1), some (.int x2)] [] h) : z_Ev G d k_X12_point [.ref x0, .int x1, .int x2] h r := z_enter (μ := m_X12_point pu) rfl (by decide) rfl rfl (fun q => by cases q) (Nat.le_of_ble_eq_true rfl) hJ
def hd_X12_point : Nat → Option (List Bool) := (fun k => none)
set_option maxRecDepth 20000 in
theorem b_X12_point_0 {G : z_G} {d : Nat} {r : z_Res} (hPu : z_PuV G d (t_X12 z_puC)) {h : z_H} {x0 : Nat} {x1 : Int32} {x2 : Int32} (hT : (z_kd h x0 = 28 ∧ (z_kd (z_poi h x0 0 (nI 0)) x0 = 28 ∧ s_X12_isPoint x0 x1 (z_poi h x0 0 (nI 0)) ∧ (if (f_X12_isPoint x0 x1 (z_poi h x0 0 (nI 0))) = (nI 0) then (z_kd (z_poi h x0 0 (nI 0)) x0 = 28 ∧ ∃ x_2 h_1, z_Ev G d k_X12_fail [.ref x0, .int (nI 1)] (z_poi h x0 0 (nI 0)) (.inl (some (.int x_2)), h_1) ∧ r = (.inl (some (.int x_2)), h_1)) else (if x2 = (nI 0) then (z_kd (z_poi h x0 0 (nI 0)) x0 = 28 ∧ s_X12_linesOn x0 x1 (z_poi h x0 0 (nI 0)) ∧ r = (.inl (some (.int (f_X12_linesOn x0 x1 (z_poi h x0 0 (nI 0))))), z_poi h x0 0 (nI 0))) else (if x2 = (nI 1) then (z_kd (z_poi h x0 0 (nI 0)) x0 = 28 ∧ (z_rc (z_or (z_poi h x0 0 (nI 0)) x0 1) False (fun x_3 => (z_kd (z_poi h x0 0 (nI 0)) x_3 = 1 ∧ vp_in ((nI 14) + x1) (z_ln (z_poi h x0 0 (nI 0)) x_3) ∧ r = (.inl (some (.int (z_ai (z_poi h x0 0 (nI 0)) x_3 (Int32.toNatClampNeg ((nI 14) + x1))))), z_poi h x0 0 (nI 0)))))) else (if x2 = (nI 2) then (z_kd (z_poi h x0 0 (nI 0)) x0 = 28 ∧ (z_rc (z_or (z_poi h x0 0 (nI 0)) x0 1) False (fun x_4 => (z_kd (z_poi h x0 0 (nI 0)) x_4 = 1 ∧ vp_in ((nI 22) + x1) (z_ln (z_poi h x0 0 (nI 0)) x_4) ∧ r = (.inl (some (.int (z_ai (z_poi h x0 0 (nI 0)) x_4 (Int32.toNatClampNeg ((nI 22) + x1))))), z_poi h x0 0 (nI 0)))))) else (if x2 = (nI 3) then (z_kd (z_poi h x0 0 (nI 0)) x0 = 28 ∧ ∃ x_6 h_5, z_Ev G d k_X12_symmetries [.ref x0] (z_poi h x0 0 (nI 0)) (.inl (some (.int x_6)), h_5) ∧ (if (nI 0) < x_6 then (z_kd h_5 x0 = 28 ∧ (z_rc (z_or h_5 x0 18) False (fun x_7 => (z_kd h_5 x_7 = 1 ∧ vp_in x1 (z_ln h_5 x_7) ∧ (s_J6_numberOfTrailingZeros_0f7a4 (z_ai h_5 x_7 (Int32.toNatClampNeg x1)) h_5 ∧ r = (.inl (some (.int (f_J6_numberOfTrailingZeros_0f7a4 (z_ai h_5 x_7 (Int32.toNatClampNeg x1)) h_5))), h_5)))))) else r = (.inl (some (.int x1)), h_5))) else (if x2 = (nI 4) then (z_kd (z_poi h x0 0 (nI 0)) x0 = 28 ∧ ∃ x_9 h_8, z_Ev G d k_X12_pieceOf [.ref x0, .int x1] (z_poi h x0 0 (nI 0)) (.inl (some (.int x_9)), h_8) ∧ (s_J6_numberOfTrailingZeros_0f7a4 x_9 h_8 ∧ r = (.inl (some (.int (f_J6_numberOfTrailingZeros_0f7a4 x_9 h_8))), h_8))) else (z_kd (z_poi h x0 0 (nI 0)) x0 = 28 ∧ ∃ x_11 h_10, z_Ev G d k_X12_fail [.ref x0, .int (nI 1)] (z_poi h x0 0 (nI 0)) (.inl (some (.int x_11)), h_10) ∧ r = (.inl (some (.int x_11)), h_10))))))))))) : (z_J G (d + 1) (m_X12_point z_puC) r) 0 [some (.ref x0), some (.int x1), some (.int x2)] [] h := z_bq (v_X12 z_puC (vP_X12_point z_puC) hPu) hd_X12_point 21 hT
/-! count and point; questions leave the state -/
def qR (G : z_G) (d : Nat) (κ : z_Key) (M : Nat) (h : z_H) (As : List Value) (F : Nat → Int32) (A : Nat → Nat → Int32) (v code : Int32) : Prop := ∃ F' A', agr sJ A A' ∧ agrF sK F F' ∧ F' 0 = code ∧ z_Ev G d κ (.ref M :: As) (z_rs h M F A) (.inl (some (.int v)), z_rs h M F' A')
theorem qR_p {G : z_G} {d : Nat} {κ : z_Key} {M : Nat} {h : z_H} {As : List Value} {F : Nat → Int32} {A : Nat → Nat → Int32} {v code : Int32} {σ : RSt} (hI : rI F A σ) (hq : qR G d κ M h As F A v code) : pubR G d κ M h As F A v code σ := by
  obtain ⟨F', A', q1, q2, q3, q4⟩ := hq
  exact ⟨F', A', rI_agr hI q1 q2, rLk_agr q1 q2, q3, q4⟩
def c_count (S : Sc) (R : Nat → Int32) (hl fed s0 s1 : Nat) (w : Int32) : Int32 × Int32 := if w = nI 0 then (nI S.1, nI 0) else if w = nI 1 then (nI S.2.1, nI 0) else if w = nI 2 then (nI (c_flags S), nI 0) else if w = nI 3 then (nI (c_isReg S).toNat, nI 0) else if w = nI 4 then ((if c_isReg S then c_regR S else mI), nI 0) else if w = nI 5 then ((if c_isReg S then c_regK S else mI), nI 0) else if w = nI 6 then (nI (c_pairs S), nI 0) else if w = nI 7 then (nI (c_tris S), nI 0) else if w = nI 8 then (nI (c_pieces S), nI 0) else if w = nI 9 then (nI (c_syA S).1, nI 0) else if w = nI 10 then (nI (c_orb S), nI 0) else if w = nI 11 then (nI (c_dual S false), nI 0) else if w = nI 12 then (nI (c_dual S true), nI 0) else if w = nI 13 then (nI (c_slips S R), nI 0) else if w = nI 14 then (nI (c_strays S R), nI 0) else if w = nI 15 then (c_girth S, nI 0) else if w = nI 16 then (nI hl, nI 0) else if w = nI 17 then (nI fed, nI 0) else if w = nI 18 then (nI s0, nI 0) else if w = nI 19 then (nI s1, nI 0) else if w = nI 20 then (nI (c_fours S), nI 0) else if w = nI 21 then (nI (c_apart S), nI 0) else (nI 0, nI 1)
def c_point (S : Sc) (R : Nat → Int32) (p w : Int32) : Int32 × Int32 := if c_in p S.1 then (if w = nI 0 then (nI (c_on S p.toNatClampNeg), nI 0) else if w = nI 1 then (R (14 + p.toNatClampNeg), nI 0) else if w = nI 2 then (R (22 + p.toNatClampNeg), nI 0) else if w = nI 3 then (if 0 < (c_syA S).1 then nI (n_tz ((c_syA S).2 p.toNatClampNeg)) else p, nI 0) else if w = nI 4 then (nI (n_tz (c_piece S p.toNatClampNeg)), nI 0) else (nI 0, nI 1)) else (nI 0, nI 1)
section DK
variable {G : z_G} {d : Nat} {h : z_H} {M : Nat} {F : Nat → Int32} {A : Nat → Nat → Int32} {σ : RSt}
theorem e_countP (hM : z_sh M h) (hI : rI F A σ) (w : Int32) : qR G (d + 18) k_X12_count M h [.int w] F A (c_count σ.2.1.1.1 (A 1) σ.2.2.1.length σ.1.2.1 σ.2.2.2.1.1 σ.2.2.2.1.2 w).1 (c_count σ.2.1.1.1 (A 1) σ.2.2.1.length σ.1.2.1 σ.2.2.2.1.1 σ.2.2.2.1.2 w).2 := by
  obtain ⟨h5, i2, i3, i4, i5, i6, i7, i8⟩ := hI
  obtain ⟨hR, hS⟩ := rho_ok i4
  have hW := sok_w i4.1.1
  obtain ⟨S, eS⟩ : ∃ S, S = σ.2.1.1.1 := ⟨_, rfl⟩
  rw [← eS] at hS hW ⊢
  have hA := at_rs (F := z_u F 0 (nI 0)) hM hR hS
  by_cases w0 : w = nI 0
  · rw [show c_count S (A 1) σ.2.2.1.length σ.1.2.1 σ.2.2.2.1.1 σ.2.2.2.1.2 w = (nI S.1, nI 0) by unfold c_count; rw [if_pos w0]]
    refine ⟨z_u F 0 (nI 0), A, agr_rf h5, agrF_u agrF_rf (by decide) _, u_eq _ _ _, en_X12_count (b_X12_count_0 z_puCV ⟨sh_kd hM, ?_⟩)⟩
    rw [rs_poi, if_pos w0]
    exact ⟨sh_kd hM, hM, by rw [t_n hA]⟩
  by_cases w1 : w = nI 1
  · rw [show c_count S (A 1) σ.2.2.1.length σ.1.2.1 σ.2.2.2.1.1 σ.2.2.2.1.2 w = (nI S.2.1, nI 0) by unfold c_count; rw [if_neg w0, if_pos w1]]
    refine ⟨z_u F 0 (nI 0), A, agr_rf h5, agrF_u agrF_rf (by decide) _, u_eq _ _ _, en_X12_count (b_X12_count_0 z_puCV ⟨sh_kd hM, ?_⟩)⟩
    rw [rs_poi, if_neg w0, if_pos w1]
    exact ⟨sh_kd hM, hM, by rw [t_m hA]⟩
  by_cases w2 : w = nI 2
  · rw [show c_count S (A 1) σ.2.2.1.length σ.1.2.1 σ.2.2.2.1.1 σ.2.2.2.1.2 w = (nI (c_flags S), nI 0) by unfold c_count; rw [if_neg w0, if_neg w1, if_pos w2]]
    refine ⟨z_u F 0 (nI 0), A, agr_rf h5, agrF_u agrF_rf (by decide) _, u_eq _ _ _, en_X12_count (b_X12_count_0 z_puCV ⟨sh_kd hM, ?_⟩)⟩
    rw [rs_poi, if_neg w0, if_neg w1, if_pos w2]
    have e := e_flags (G := G) (d := d + 13) hA
    exact ⟨sh_kd hM, _, _, e, rfl⟩
  by_cases w3 : w = nI 3
  · rw [show c_count S (A 1) σ.2.2.1.length σ.1.2.1 σ.2.2.2.1.1 σ.2.2.2.1.2 w = (nI (c_isReg S).toNat, nI 0) by unfold c_count; rw [if_neg w0, if_neg w1, if_neg w2, if_pos w3]]
    refine ⟨z_u F 0 (nI 0), A, agr_rf h5, agrF_u agrF_rf (by decide) _, u_eq _ _ _, en_X12_count (b_X12_count_0 z_puCV ⟨sh_kd hM, ?_⟩)⟩
    rw [rs_poi, if_neg w0, if_neg w1, if_neg w2, if_pos w3]
    have e := e_isRegular (G := G) (d := d + 12) hA
    refine ⟨sh_kd hM, _, _, e, ?_⟩
    cases q : c_isReg S
    · rw [if_pos (by rfl)]; rfl
    · rw [if_neg (by decide)]; rfl
  by_cases w4 : w = nI 4
  · rw [show c_count S (A 1) σ.2.2.1.length σ.1.2.1 σ.2.2.2.1.1 σ.2.2.2.1.2 w = ((if c_isReg S then c_regR S else mI), nI 0) by unfold c_count; rw [if_neg w0, if_neg w1, if_neg w2, if_neg w3, if_pos w4]]
    refine ⟨z_u F 0 (nI 0), A, agr_rf h5, agrF_u agrF_rf (by decide) _, u_eq _ _ _, en_X12_count (b_X12_count_0 z_puCV ⟨sh_kd hM, ?_⟩)⟩
    rw [rs_poi, if_neg w0, if_neg w1, if_neg w2, if_neg w3, if_pos w4]
    have e := e_isRegular (G := G) (d := d + 12) hA
    refine ⟨sh_kd hM, _, _, e, ?_⟩
    cases q : c_isReg S
    · rw [if_pos (by rfl)]; rfl
    · rw [if_neg (by decide)]; exact ⟨sh_kd hM, _, _, e_regularR (G := G) (d := d + 13) hA, rfl⟩
  by_cases w5 : w = nI 5
  · rw [show c_count S (A 1) σ.2.2.1.length σ.1.2.1 σ.2.2.2.1.1 σ.2.2.2.1.2 w = ((if c_isReg S then c_regK S else mI), nI 0) by unfold c_count; rw [if_neg w0, if_neg w1, if_neg w2, if_neg w3, if_neg w4, if_pos w5]]
    refine ⟨z_u F 0 (nI 0), A, agr_rf h5, agrF_u agrF_rf (by decide) _, u_eq _ _ _, en_X12_count (b_X12_count_0 z_puCV ⟨sh_kd hM, ?_⟩)⟩
    rw [rs_poi, if_neg w0, if_neg w1, if_neg w2, if_neg w3, if_neg w4, if_pos w5]
    have e := e_isRegular (G := G) (d := d + 12) hA
    refine ⟨sh_kd hM, _, _, e, ?_⟩
    cases q : c_isReg S
    · rw [if_pos (by rfl)]; rfl
    · rw [if_neg (by decide)]; exact ⟨sh_kd hM, _, _, e_regularK (G := G) (d := d + 13) hA, rfl⟩
  by_cases w6 : w = nI 6
  · rw [show c_count S (A 1) σ.2.2.1.length σ.1.2.1 σ.2.2.2.1.1 σ.2.2.2.1.2 w = (nI (c_pairs S), nI 0) by unfold c_count; rw [if_neg w0, if_neg w1, if_neg w2, if_neg w3, if_neg w4, if_neg w5, if_pos w6]]
    refine ⟨z_u F 0 (nI 0), A, agr_rf h5, agrF_u agrF_rf (by decide) _, u_eq _ _ _, en_X12_count (b_X12_count_0 z_puCV ⟨sh_kd hM, ?_⟩)⟩
    rw [rs_poi, if_neg w0, if_neg w1, if_neg w2, if_neg w3, if_neg w4, if_neg w5, if_pos w6]
    have e := e_pairs (G := G) (d := d + 12) hA
    exact ⟨sh_kd hM, _, _, e, rfl⟩
  by_cases w7 : w = nI 7
  · rw [show c_count S (A 1) σ.2.2.1.length σ.1.2.1 σ.2.2.2.1.1 σ.2.2.2.1.2 w = (nI (c_tris S), nI 0) by unfold c_count; rw [if_neg w0, if_neg w1, if_neg w2, if_neg w3, if_neg w4, if_neg w5, if_neg w6, if_pos w7]]
    refine ⟨z_u F 0 (nI 0), A, agr_rf h5, agrF_u agrF_rf (by decide) _, u_eq _ _ _, en_X12_count (b_X12_count_0 z_puCV ⟨sh_kd hM, ?_⟩)⟩
    rw [rs_poi, if_neg w0, if_neg w1, if_neg w2, if_neg w3, if_neg w4, if_neg w5, if_neg w6, if_pos w7]
    have e := e_triangles (G := G) (d := d + 13) hA
    exact ⟨sh_kd hM, _, _, e, rfl⟩
  by_cases w8 : w = nI 8
  · rw [show c_count S (A 1) σ.2.2.1.length σ.1.2.1 σ.2.2.2.1.1 σ.2.2.2.1.2 w = (nI (c_pieces S), nI 0) by unfold c_count; rw [if_neg w0, if_neg w1, if_neg w2, if_neg w3, if_neg w4, if_neg w5, if_neg w6, if_neg w7, if_pos w8]]
    refine ⟨z_u F 0 (nI 0), A, agr_rf h5, agrF_u agrF_rf (by decide) _, u_eq _ _ _, en_X12_count (b_X12_count_0 z_puCV ⟨sh_kd hM, ?_⟩)⟩
    rw [rs_poi, if_neg w0, if_neg w1, if_neg w2, if_neg w3, if_neg w4, if_neg w5, if_neg w6, if_neg w7, if_pos w8]
    have e := e_pieces (G := G) (d := d + 12) hA
    exact ⟨sh_kd hM, _, _, e, rfl⟩
  by_cases w9 : w = nI 9
  · rw [show c_count S (A 1) σ.2.2.1.length σ.1.2.1 σ.2.2.2.1.1 σ.2.2.2.1.2 w = (nI (c_syA S).1, nI 0) by unfold c_count; rw [if_neg w0, if_neg w1, if_neg w2, if_neg w3, if_neg w4, if_neg w5, if_neg w6, if_neg w7, if_neg w8, if_pos w9]]
    obtain ⟨A1, a1, -, e1⟩ := e_symmetries (G := G) (d := d + 11) (F := z_u F 0 (nI 0)) hM hR hS hW h5
    refine ⟨z_u F 0 (nI 0), A1, agr_mono a1 (by decide), agrF_u agrF_rf (by decide) _, u_eq _ _ _, en_X12_count (b_X12_count_0 z_puCV ⟨sh_kd hM, ?_⟩)⟩
    rw [rs_poi, if_neg w0, if_neg w1, if_neg w2, if_neg w3, if_neg w4, if_neg w5, if_neg w6, if_neg w7, if_neg w8, if_pos w9]
    exact ⟨sh_kd hM, _, _, e1, rfl⟩
  by_cases w10 : w = nI 10
  · rw [show c_count S (A 1) σ.2.2.1.length σ.1.2.1 σ.2.2.2.1.1 σ.2.2.2.1.2 w = (nI (c_orb S), nI 0) by unfold c_count; rw [if_neg w0, if_neg w1, if_neg w2, if_neg w3, if_neg w4, if_neg w5, if_neg w6, if_neg w7, if_neg w8, if_neg w9, if_pos w10]]
    obtain ⟨A1, a1, e1⟩ := e_orbits (G := G) (d := d + 10) (F := z_u F 0 (nI 0)) hM hR hS hW h5
    refine ⟨z_u F 0 (nI 0), A1, agr_mono a1 (by decide), agrF_u agrF_rf (by decide) _, u_eq _ _ _, en_X12_count (b_X12_count_0 z_puCV ⟨sh_kd hM, ?_⟩)⟩
    rw [rs_poi, if_neg w0, if_neg w1, if_neg w2, if_neg w3, if_neg w4, if_neg w5, if_neg w6, if_neg w7, if_neg w8, if_neg w9, if_pos w10]
    exact ⟨sh_kd hM, _, _, e1, rfl⟩
  by_cases w11 : w = nI 11
  · rw [show c_count S (A 1) σ.2.2.1.length σ.1.2.1 σ.2.2.2.1.1 σ.2.2.2.1.2 w = (nI (c_dual S false), nI 0) by unfold c_count; rw [if_neg w0, if_neg w1, if_neg w2, if_neg w3, if_neg w4, if_neg w5, if_neg w6, if_neg w7, if_neg w8, if_neg w9, if_neg w10, if_pos w11]]
    obtain ⟨A1, a1, e1⟩ := e_dualities (G := G) (d := d + 11) (F := z_u F 0 (nI 0)) hM hR hS hW h5 false
    refine ⟨z_u F 0 (nI 0), A1, agr_mono a1 (by decide), agrF_u agrF_rf (by decide) _, u_eq _ _ _, en_X12_count (b_X12_count_0 z_puCV ⟨sh_kd hM, ?_⟩)⟩
    rw [rs_poi, if_neg w0, if_neg w1, if_neg w2, if_neg w3, if_neg w4, if_neg w5, if_neg w6, if_neg w7, if_neg w8, if_neg w9, if_neg w10, if_pos w11]
    exact ⟨sh_kd hM, _, _, e1, rfl⟩
  by_cases w12 : w = nI 12
  · rw [show c_count S (A 1) σ.2.2.1.length σ.1.2.1 σ.2.2.2.1.1 σ.2.2.2.1.2 w = (nI (c_dual S true), nI 0) by unfold c_count; rw [if_neg w0, if_neg w1, if_neg w2, if_neg w3, if_neg w4, if_neg w5, if_neg w6, if_neg w7, if_neg w8, if_neg w9, if_neg w10, if_neg w11, if_pos w12]]
    obtain ⟨A1, a1, e1⟩ := e_dualities (G := G) (d := d + 11) (F := z_u F 0 (nI 0)) hM hR hS hW h5 true
    refine ⟨z_u F 0 (nI 0), A1, agr_mono a1 (by decide), agrF_u agrF_rf (by decide) _, u_eq _ _ _, en_X12_count (b_X12_count_0 z_puCV ⟨sh_kd hM, ?_⟩)⟩
    rw [rs_poi, if_neg w0, if_neg w1, if_neg w2, if_neg w3, if_neg w4, if_neg w5, if_neg w6, if_neg w7, if_neg w8, if_neg w9, if_neg w10, if_neg w11, if_pos w12]
    exact ⟨sh_kd hM, _, _, e1, rfl⟩
  by_cases w13 : w = nI 13
  · rw [show c_count S (A 1) σ.2.2.1.length σ.1.2.1 σ.2.2.2.1.1 σ.2.2.2.1.2 w = (nI (c_slips S (A 1)), nI 0) by unfold c_count; rw [if_neg w0, if_neg w1, if_neg w2, if_neg w3, if_neg w4, if_neg w5, if_neg w6, if_neg w7, if_neg w8, if_neg w9, if_neg w10, if_neg w11, if_neg w12, if_pos w13]]
    refine ⟨z_u F 0 (nI 0), A, agr_rf h5, agrF_u agrF_rf (by decide) _, u_eq _ _ _, en_X12_count (b_X12_count_0 z_puCV ⟨sh_kd hM, ?_⟩)⟩
    rw [rs_poi, if_neg w0, if_neg w1, if_neg w2, if_neg w3, if_neg w4, if_neg w5, if_neg w6, if_neg w7, if_neg w8, if_neg w9, if_neg w10, if_neg w11, if_neg w12, if_pos w13]
    have e := e_slips (G := G) (d := d + 12) hA
    rw [rs_ai _ _ _ _ (by omega) (by omega)] at e
    exact ⟨sh_kd hM, _, _, e, rfl⟩
  by_cases w14 : w = nI 14
  · rw [show c_count S (A 1) σ.2.2.1.length σ.1.2.1 σ.2.2.2.1.1 σ.2.2.2.1.2 w = (nI (c_strays S (A 1)), nI 0) by unfold c_count; rw [if_neg w0, if_neg w1, if_neg w2, if_neg w3, if_neg w4, if_neg w5, if_neg w6, if_neg w7, if_neg w8, if_neg w9, if_neg w10, if_neg w11, if_neg w12, if_neg w13, if_pos w14]]
    refine ⟨z_u F 0 (nI 0), A, agr_rf h5, agrF_u agrF_rf (by decide) _, u_eq _ _ _, en_X12_count (b_X12_count_0 z_puCV ⟨sh_kd hM, ?_⟩)⟩
    rw [rs_poi, if_neg w0, if_neg w1, if_neg w2, if_neg w3, if_neg w4, if_neg w5, if_neg w6, if_neg w7, if_neg w8, if_neg w9, if_neg w10, if_neg w11, if_neg w12, if_neg w13, if_pos w14]
    have e := e_strays (G := G) (d := d + 13) hA
    rw [rs_ai _ _ _ _ (by omega) (by omega)] at e
    exact ⟨sh_kd hM, _, _, e, rfl⟩
  by_cases w15 : w = nI 15
  · rw [show c_count S (A 1) σ.2.2.1.length σ.1.2.1 σ.2.2.2.1.1 σ.2.2.2.1.2 w = (c_girth S, nI 0) by unfold c_count; rw [if_neg w0, if_neg w1, if_neg w2, if_neg w3, if_neg w4, if_neg w5, if_neg w6, if_neg w7, if_neg w8, if_neg w9, if_neg w10, if_neg w11, if_neg w12, if_neg w13, if_neg w14, if_pos w15]]
    refine ⟨z_u F 0 (nI 0), A, agr_rf h5, agrF_u agrF_rf (by decide) _, u_eq _ _ _, en_X12_count (b_X12_count_0 z_puCV ⟨sh_kd hM, ?_⟩)⟩
    rw [rs_poi, if_neg w0, if_neg w1, if_neg w2, if_neg w3, if_neg w4, if_neg w5, if_neg w6, if_neg w7, if_neg w8, if_neg w9, if_neg w10, if_neg w11, if_neg w12, if_neg w13, if_neg w14, if_pos w15]
    have e := e_girth (G := G) (d := d) hA
    exact ⟨sh_kd hM, _, _, e, rfl⟩
  by_cases w16 : w = nI 16
  · rw [show c_count S (A 1) σ.2.2.1.length σ.1.2.1 σ.2.2.2.1.1 σ.2.2.2.1.2 w = (nI σ.2.2.1.length, nI 0) by unfold c_count; rw [if_neg w0, if_neg w1, if_neg w2, if_neg w3, if_neg w4, if_neg w5, if_neg w6, if_neg w7, if_neg w8, if_neg w9, if_neg w10, if_neg w11, if_neg w12, if_neg w13, if_neg w14, if_neg w15, if_pos w16]]
    refine ⟨z_u F 0 (nI 0), A, agr_rf h5, agrF_u agrF_rf (by decide) _, u_eq _ _ _, en_X12_count (b_X12_count_0 z_puCV ⟨sh_kd hM, ?_⟩)⟩
    rw [rs_poi, if_neg w0, if_neg w1, if_neg w2, if_neg w3, if_neg w4, if_neg w5, if_neg w6, if_neg w7, if_neg w8, if_neg w9, if_neg w10, if_neg w11, if_neg w12, if_neg w13, if_neg w14, if_neg w15, if_pos w16]
    exact ⟨sh_kd hM, by rw [rs_oi, u_ne _ _ (by decide), i5]⟩
  by_cases w17 : w = nI 17
  · rw [show c_count S (A 1) σ.2.2.1.length σ.1.2.1 σ.2.2.2.1.1 σ.2.2.2.1.2 w = (nI σ.1.2.1, nI 0) by unfold c_count; rw [if_neg w0, if_neg w1, if_neg w2, if_neg w3, if_neg w4, if_neg w5, if_neg w6, if_neg w7, if_neg w8, if_neg w9, if_neg w10, if_neg w11, if_neg w12, if_neg w13, if_neg w14, if_neg w15, if_neg w16, if_pos w17]]
    refine ⟨z_u F 0 (nI 0), A, agr_rf h5, agrF_u agrF_rf (by decide) _, u_eq _ _ _, en_X12_count (b_X12_count_0 z_puCV ⟨sh_kd hM, ?_⟩)⟩
    rw [rs_poi, if_neg w0, if_neg w1, if_neg w2, if_neg w3, if_neg w4, if_neg w5, if_neg w6, if_neg w7, if_neg w8, if_neg w9, if_neg w10, if_neg w11, if_neg w12, if_neg w13, if_neg w14, if_neg w15, if_neg w16, if_pos w17]
    exact ⟨sh_kd hM, by rw [rs_oi, u_ne _ _ (by decide), i2.1]⟩
  by_cases w18 : w = nI 18
  · rw [show c_count S (A 1) σ.2.2.1.length σ.1.2.1 σ.2.2.2.1.1 σ.2.2.2.1.2 w = (nI σ.2.2.2.1.1, nI 0) by unfold c_count; rw [if_neg w0, if_neg w1, if_neg w2, if_neg w3, if_neg w4, if_neg w5, if_neg w6, if_neg w7, if_neg w8, if_neg w9, if_neg w10, if_neg w11, if_neg w12, if_neg w13, if_neg w14, if_neg w15, if_neg w16, if_neg w17, if_pos w18]]
    refine ⟨z_u F 0 (nI 0), A, agr_rf h5, agrF_u agrF_rf (by decide) _, u_eq _ _ _, en_X12_count (b_X12_count_0 z_puCV ⟨sh_kd hM, ?_⟩)⟩
    rw [rs_poi, if_neg w0, if_neg w1, if_neg w2, if_neg w3, if_neg w4, if_neg w5, if_neg w6, if_neg w7, if_neg w8, if_neg w9, if_neg w10, if_neg w11, if_neg w12, if_neg w13, if_neg w14, if_neg w15, if_neg w16, if_neg w17, if_pos w18]
    rw [show z_or (z_rs h M (z_u F 0 (nI 0)) A) M 3 = some (M + 3) from (sh_status hM).1, z_rcs, w18, show nI 18 - nI 18 = nI 0 by decide, nI_clamp (by omega), rs_ai _ _ _ _ (by omega) (by omega), i7.1]
    exact ⟨sh_kd hM, (sh_status hM).2.1, by show vp_in (nI 0) (z_ln h (M + 3)); rw [(sh_status hM).2.2]; exact vp_in_nI (by omega) (by omega), rfl⟩
  by_cases w19 : w = nI 19
  · rw [show c_count S (A 1) σ.2.2.1.length σ.1.2.1 σ.2.2.2.1.1 σ.2.2.2.1.2 w = (nI σ.2.2.2.1.2, nI 0) by unfold c_count; rw [if_neg w0, if_neg w1, if_neg w2, if_neg w3, if_neg w4, if_neg w5, if_neg w6, if_neg w7, if_neg w8, if_neg w9, if_neg w10, if_neg w11, if_neg w12, if_neg w13, if_neg w14, if_neg w15, if_neg w16, if_neg w17, if_neg w18, if_pos w19]]
    refine ⟨z_u F 0 (nI 0), A, agr_rf h5, agrF_u agrF_rf (by decide) _, u_eq _ _ _, en_X12_count (b_X12_count_0 z_puCV ⟨sh_kd hM, ?_⟩)⟩
    rw [rs_poi, if_neg w0, if_neg w1, if_neg w2, if_neg w3, if_neg w4, if_neg w5, if_neg w6, if_neg w7, if_neg w8, if_neg w9, if_neg w10, if_neg w11, if_neg w12, if_neg w13, if_neg w14, if_neg w15, if_neg w16, if_neg w17, if_neg w18, if_pos w19]
    rw [show z_or (z_rs h M (z_u F 0 (nI 0)) A) M 3 = some (M + 3) from (sh_status hM).1, z_rcs, w19, show nI 19 - nI 18 = nI 1 by decide, nI_clamp (by omega), rs_ai _ _ _ _ (by omega) (by omega), i7.2]
    exact ⟨sh_kd hM, (sh_status hM).2.1, by show vp_in (nI 1) (z_ln h (M + 3)); rw [(sh_status hM).2.2]; exact vp_in_nI (by omega) (by omega), rfl⟩
  by_cases w20 : w = nI 20
  · rw [show c_count S (A 1) σ.2.2.1.length σ.1.2.1 σ.2.2.2.1.1 σ.2.2.2.1.2 w = (nI (c_fours S), nI 0) by unfold c_count; rw [if_neg w0, if_neg w1, if_neg w2, if_neg w3, if_neg w4, if_neg w5, if_neg w6, if_neg w7, if_neg w8, if_neg w9, if_neg w10, if_neg w11, if_neg w12, if_neg w13, if_neg w14, if_neg w15, if_neg w16, if_neg w17, if_neg w18, if_neg w19, if_pos w20]]
    refine ⟨z_u F 0 (nI 0), A, agr_rf h5, agrF_u agrF_rf (by decide) _, u_eq _ _ _, en_X12_count (b_X12_count_0 z_puCV ⟨sh_kd hM, ?_⟩)⟩
    rw [rs_poi, if_neg w0, if_neg w1, if_neg w2, if_neg w3, if_neg w4, if_neg w5, if_neg w6, if_neg w7, if_neg w8, if_neg w9, if_neg w10, if_neg w11, if_neg w12, if_neg w13, if_neg w14, if_neg w15, if_neg w16, if_neg w17, if_neg w18, if_neg w19, if_pos w20]
    have e := e_fours (G := G) (d := d + 13) hA
    exact ⟨sh_kd hM, _, _, e, rfl⟩
  by_cases w21 : w = nI 21
  · rw [show c_count S (A 1) σ.2.2.1.length σ.1.2.1 σ.2.2.2.1.1 σ.2.2.2.1.2 w = (nI (c_apart S), nI 0) by unfold c_count; rw [if_neg w0, if_neg w1, if_neg w2, if_neg w3, if_neg w4, if_neg w5, if_neg w6, if_neg w7, if_neg w8, if_neg w9, if_neg w10, if_neg w11, if_neg w12, if_neg w13, if_neg w14, if_neg w15, if_neg w16, if_neg w17, if_neg w18, if_neg w19, if_neg w20, if_pos w21]]
    refine ⟨z_u F 0 (nI 0), A, agr_rf h5, agrF_u agrF_rf (by decide) _, u_eq _ _ _, en_X12_count (b_X12_count_0 z_puCV ⟨sh_kd hM, ?_⟩)⟩
    rw [rs_poi, if_neg w0, if_neg w1, if_neg w2, if_neg w3, if_neg w4, if_neg w5, if_neg w6, if_neg w7, if_neg w8, if_neg w9, if_neg w10, if_neg w11, if_neg w12, if_neg w13, if_neg w14, if_neg w15, if_neg w16, if_neg w17, if_neg w18, if_neg w19, if_neg w20, if_pos w21]
    have e := e_apart (G := G) (d := d + 13) hA
    exact ⟨sh_kd hM, _, _, e, rfl⟩
  rw [show c_count S (A 1) σ.2.2.1.length σ.1.2.1 σ.2.2.2.1.1 σ.2.2.2.1.2 w = (nI 0, nI 1) by unfold c_count; rw [if_neg w0, if_neg w1, if_neg w2, if_neg w3, if_neg w4, if_neg w5, if_neg w6, if_neg w7, if_neg w8, if_neg w9, if_neg w10, if_neg w11, if_neg w12, if_neg w13, if_neg w14, if_neg w15, if_neg w16, if_neg w17, if_neg w18, if_neg w19, if_neg w20, if_neg w21]]
  refine ⟨z_u F 0 (nI 1), A, agr_rf h5, agrF_u agrF_rf (by decide) _, u_eq _ _ _, en_X12_count (b_X12_count_0 z_puCV ⟨sh_kd hM, ?_⟩)⟩
  rw [rs_poi, if_neg w0, if_neg w1, if_neg w2, if_neg w3, if_neg w4, if_neg w5, if_neg w6, if_neg w7, if_neg w8, if_neg w9, if_neg w10, if_neg w11, if_neg w12, if_neg w13, if_neg w14, if_neg w15, if_neg w16, if_neg w17, if_neg w18, if_neg w19, if_neg w20, if_neg w21]
  have e := e_fail' (G := G) (d := d + 13) (F := z_u F 0 (nI 0)) (A := A) (k := nI 1) hM
  rw [u_u] at e
  exact ⟨sh_kd hM, _, _, e, rfl⟩
end DK
