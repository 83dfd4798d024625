/-- a class without tables -/
def z_tE (nm : String) : z_CT := (nm, 99, fun _ => none, fun _ => none, fun _ => none, fun _ => none, fun _ => none)
def p_J0_length_8abf5 : Nat → Option (Instr × Nat) := fun k => (cond (Nat.blt k 11) (cond (Nat.blt k 5) (cond (Nat.blt k 1) (cond (Nat.beq k 0) (some (.aload_n 0, 1)) none) (cond (Nat.blt k 4) (cond (Nat.beq k 1) (some (.getfield 9, 3)) none) (cond (Nat.beq k 4) (some (.arraylength, 1)) none))) (cond (Nat.blt k 9) (cond (Nat.blt k 6) (cond (Nat.beq k 5) (some (.aload_n 0, 1)) none) (cond (Nat.beq k 6) (some (.invokevirtual 335, 3)) none)) (cond (Nat.blt k 10) (cond (Nat.beq k 9) (some (.ishr, 1)) none) (cond (Nat.beq k 10) (some (.ireturn, 1)) none)))) none)
def m_J0_length_8abf5 : z_M := (k_J0_length_8abf5, false, z_tE RJ0, p_J0_length_8abf5)
theorem vP_J0_length_8abf5 : z_PV m_J0_length_8abf5 := z_PVof 11 (show (List.range 11).all (z_pck cJ0_length_8abf5 p_J0_length_8abf5) = true by decide +kernel) (fun k hk => by show p_J0_length_8abf5 k = none; unfold p_J0_length_8abf5; rw [z_bltF hk]; rfl)
def p_J0_charAt_5068e : Nat → Option (Instr × Nat) := fun k => (cond (Nat.blt k 25) (cond (Nat.blt k 12) (cond (Nat.blt k 7) (cond (Nat.blt k 1) (cond (Nat.beq k 0) (some (.aload_n 0, 1)) none) (cond (Nat.blt k 4) (cond (Nat.beq k 1) (some (.invokevirtual 492, 3)) none) (cond (Nat.beq k 4) (some (.ifCond .eq 12, 3)) none))) (cond (Nat.blt k 8) (cond (Nat.beq k 7) (some (.aload_n 0, 1)) none) (cond (Nat.blt k 11) (cond (Nat.beq k 8) (some (.getfield 9, 3)) none) (cond (Nat.beq k 11) (some (.iload_n 1, 1)) none)))) (cond (Nat.blt k 17) (cond (Nat.blt k 15) (cond (Nat.beq k 12) (some (.invokestatic 495, 3)) none) (cond (Nat.blt k 16) (cond (Nat.beq k 15) (some (.ireturn, 1)) none) (cond (Nat.beq k 16) (some (.aload_n 0, 1)) none))) (cond (Nat.blt k 21) (cond (Nat.blt k 20) (cond (Nat.beq k 17) (some (.getfield 9, 3)) none) (cond (Nat.beq k 20) (some (.iload_n 1, 1)) none)) (cond (Nat.blt k 24) (cond (Nat.beq k 21) (some (.invokestatic 498, 3)) none) (cond (Nat.beq k 24) (some (.ireturn, 1)) none))))) none)
def m_J0_charAt_5068e : z_M := (k_J0_charAt_5068e, false, z_tE RJ0, p_J0_charAt_5068e)
theorem vP_J0_charAt_5068e : z_PV m_J0_charAt_5068e := z_PVof 25 (show (List.range 25).all (z_pck cJ0_charAt_5068e p_J0_charAt_5068e) = true by decide +kernel) (fun k hk => by show p_J0_charAt_5068e k = none; unfold p_J0_charAt_5068e; rw [z_bltF hk]; rfl)
def p_J0_coder_7d493 : Nat → Option (Instr × Nat) := fun k => (cond (Nat.blt k 15) (cond (Nat.blt k 7) (cond (Nat.blt k 3) (cond (Nat.beq k 0) (some (.getstatic 38, 3)) none) (cond (Nat.blt k 6) (cond (Nat.beq k 3) (some (.ifCond .eq 10, 3)) none) (cond (Nat.beq k 6) (some (.aload_n 0, 1)) none))) (cond (Nat.blt k 13) (cond (Nat.blt k 10) (cond (Nat.beq k 7) (some (.getfield 15, 3)) none) (cond (Nat.beq k 10) (some (.goto 4, 3)) none)) (cond (Nat.blt k 14) (cond (Nat.beq k 13) (some (.iconst 1, 1)) none) (cond (Nat.beq k 14) (some (.ireturn, 1)) none)))) none)
def m_J0_coder_7d493 : z_M := (k_J0_coder_7d493, false, z_tE RJ0, p_J0_coder_7d493)
theorem vP_J0_coder_7d493 : z_PV m_J0_coder_7d493 := z_PVof 15 (show (List.range 15).all (z_pck cJ0_coder_7d493 p_J0_coder_7d493) = true by decide +kernel) (fun k hk => by show p_J0_coder_7d493 k = none; unfold p_J0_coder_7d493; rw [z_bltF hk]; rfl)
def p_J0_isLatin1_aae02 : Nat → Option (Instr × Nat) := fun k => (cond (Nat.blt k 19) (cond (Nat.blt k 10) (cond (Nat.blt k 6) (cond (Nat.blt k 3) (cond (Nat.beq k 0) (some (.getstatic 38, 3)) none) (cond (Nat.beq k 3) (some (.ifCond .eq 14, 3)) none)) (cond (Nat.blt k 7) (cond (Nat.beq k 6) (some (.aload_n 0, 1)) none) (cond (Nat.beq k 7) (some (.getfield 15, 3)) none))) (cond (Nat.blt k 14) (cond (Nat.blt k 13) (cond (Nat.beq k 10) (some (.ifCond .ne 7, 3)) none) (cond (Nat.beq k 13) (some (.iconst 1, 1)) none)) (cond (Nat.blt k 17) (cond (Nat.beq k 14) (some (.goto 4, 3)) none) (cond (Nat.blt k 18) (cond (Nat.beq k 17) (some (.iconst 0, 1)) none) (cond (Nat.beq k 18) (some (.ireturn, 1)) none))))) none)
def m_J0_isLatin1_aae02 : z_M := (k_J0_isLatin1_aae02, false, z_tE RJ0, p_J0_isLatin1_aae02)
theorem vP_J0_isLatin1_aae02 : z_PV m_J0_isLatin1_aae02 := z_PVof 19 (show (List.range 19).all (z_pck cJ0_isLatin1_aae02 p_J0_isLatin1_aae02) = true by decide +kernel) (fun k hk => by show p_J0_isLatin1_aae02 k = none; unfold p_J0_isLatin1_aae02; rw [z_bltF hk]; rfl)
def p_J0_checkIndex_df160 : Nat → Option (Instr × Nat) := fun k => (cond (Nat.blt k 10) (cond (Nat.blt k 5) (cond (Nat.blt k 1) (cond (Nat.beq k 0) (some (.iload_n 0, 1)) none) (cond (Nat.blt k 2) (cond (Nat.beq k 1) (some (.iload_n 1, 1)) none) (cond (Nat.beq k 2) (some (.getstatic 1053, 3)) none))) (cond (Nat.blt k 8) (cond (Nat.beq k 5) (some (.invokestatic 1059, 3)) none) (cond (Nat.blt k 9) (cond (Nat.beq k 8) (some (.pop, 1)) none) (cond (Nat.beq k 9) (some (.return_, 1)) none)))) none)
def m_J0_checkIndex_df160 : z_M := (k_J0_checkIndex_df160, false, z_tE RJ0, p_J0_checkIndex_df160)
theorem vP_J0_checkIndex_df160 : z_PV m_J0_checkIndex_df160 := z_PVof 10 (show (List.range 10).all (z_pck cJ0_checkIndex_df160 p_J0_checkIndex_df160) = true by decide +kernel) (fun k hk => by show p_J0_checkIndex_df160 k = none; unfold p_J0_checkIndex_df160; rw [z_bltF hk]; rfl)
def p_J1_charAt_3b067 : Nat → Option (Instr × Nat) := fun k => (cond (Nat.blt k 15) (cond (Nat.blt k 7) (cond (Nat.blt k 2) (cond (Nat.blt k 1) (cond (Nat.beq k 0) (some (.iload_n 1, 1)) none) (cond (Nat.beq k 1) (some (.aload_n 0, 1)) none)) (cond (Nat.blt k 3) (cond (Nat.beq k 2) (some (.arraylength, 1)) none) (cond (Nat.blt k 6) (cond (Nat.beq k 3) (some (.invokestatic 9, 3)) none) (cond (Nat.beq k 6) (some (.aload_n 0, 1)) none)))) (cond (Nat.blt k 12) (cond (Nat.blt k 8) (cond (Nat.beq k 7) (some (.iload_n 1, 1)) none) (cond (Nat.blt k 9) (cond (Nat.beq k 8) (some (.baload, 1)) none) (cond (Nat.beq k 9) (some (.sipush 255, 3)) none))) (cond (Nat.blt k 13) (cond (Nat.beq k 12) (some (.iand, 1)) none) (cond (Nat.blt k 14) (cond (Nat.beq k 13) (some (.i2c, 1)) none) (cond (Nat.beq k 14) (some (.ireturn, 1)) none))))) none)
def m_J1_charAt_3b067 : z_M := (k_J1_charAt_3b067, false, z_tE RJ1, p_J1_charAt_3b067)
theorem vP_J1_charAt_3b067 : z_PV m_J1_charAt_3b067 := z_PVof 15 (show (List.range 15).all (z_pck cJ1_charAt_3b067 p_J1_charAt_3b067) = true by decide +kernel) (fun k hk => by show p_J1_charAt_3b067 k = none; unfold p_J1_charAt_3b067; rw [z_bltF hk]; rfl)
def p_J3_checkIndex_8e157 : Nat → Option (Instr × Nat) := fun k => (cond (Nat.blt k 18) (cond (Nat.blt k 10) (cond (Nat.blt k 5) (cond (Nat.blt k 1) (cond (Nat.beq k 0) (some (.iload_n 0, 1)) none) (cond (Nat.blt k 4) (cond (Nat.beq k 1) (some (.ifCond .lt 8, 3)) none) (cond (Nat.beq k 4) (some (.iload_n 0, 1)) none))) (cond (Nat.blt k 6) (cond (Nat.beq k 5) (some (.iload_n 1, 1)) none) (cond (Nat.blt k 9) (cond (Nat.beq k 6) (some (.if_icmp .lt 10, 3)) none) (cond (Nat.beq k 9) (some (.aload_n 2, 1)) none)))) (cond (Nat.blt k 15) (cond (Nat.blt k 11) (cond (Nat.beq k 10) (some (.iload_n 0, 1)) none) (cond (Nat.blt k 12) (cond (Nat.beq k 11) (some (.iload_n 1, 1)) none) (cond (Nat.beq k 12) (some (.invokestatic 95, 3)) none))) (cond (Nat.blt k 16) (cond (Nat.beq k 15) (some (.athrow, 1)) none) (cond (Nat.blt k 17) (cond (Nat.beq k 16) (some (.iload_n 0, 1)) none) (cond (Nat.beq k 17) (some (.ireturn, 1)) none))))) none)
def m_J3_checkIndex_8e157 : z_M := (k_J3_checkIndex_8e157, false, z_tE RJ3, p_J3_checkIndex_8e157)
theorem vP_J3_checkIndex_8e157 : z_PV m_J3_checkIndex_8e157 := z_PVof 18 (show (List.range 18).all (z_pck cJ3_checkIndex_8e157 p_J3_checkIndex_8e157) = true by decide +kernel) (fun k hk => by show p_J3_checkIndex_8e157 k = none; unfold p_J3_checkIndex_8e157; rw [z_bltF hk]; rfl)
theorem vE_V {G : z_G} {d : Nat} {μ : z_M} {nm : String} (hm : μ.2.2.1 = z_tE nm) (hP : z_PV μ) : z_V G d μ := by
  obtain ⟨κ, b, C, P⟩ := μ
  cases hm
  exact ⟨z_CFv, z_AVv, hP, fun k ci s q => (by cases q), fun k q e => (by cases e), fun k ic E q => (by cases q), fun k e q => (by cases q), fun k v q => (by cases q), fun k v q => (by cases q), fun k s q => (by cases q), fun k S f e q => (by cases q)⟩
theorem w_sC : Cond.fieldLink RJ0 38 "java/lang/String" "COMPACT_STRINGS" "Z" ∈ z_gt := z_m1T (i := 4033) (by decide +kernel)
theorem w_sF : Cond.fieldLink RJ0 1053 "jdk/internal/util/Preconditions" "SIOOBE_FORMATTER" "Ljava/util/function/BiFunction;" ∈ z_gt := z_m1T (i := 4049) (by decide +kernel)
theorem w_sV : Cond.fieldLink RJ0 9 "java/lang/String" "value" "[B" ∈ z_gt := z_m1T (i := 9171) (by decide +kernel)
theorem w_sK : Cond.fieldLink RJ0 15 "java/lang/String" "coder" "B" ∈ z_gt := z_m1T (i := 9172) (by decide +kernel)
theorem w_mCoder : ∀ w ∈ ([.methodLink RJ0 335 k_J0_coder_7d493.1, .instanceMethod k_J0_coder_7d493.1, .selects "java/lang/String" k_J0_coder_7d493.1 k_J0_coder_7d493.1, .initialized "java/lang/String", .code k_J0_coder_7d493.1 k_J0_coder_7d493.2.1 k_J0_coder_7d493.2.2.1 k_J0_coder_7d493.2.2.2.1] : List Cond), w ∈ z_gt := z_mzT (is := [4029, 4030, 4031, 1019, 4032]) (by decide +kernel)
theorem w_mLat : ∀ w ∈ ([.methodLink RJ0 492 k_J0_isLatin1_aae02.1, .instanceMethod k_J0_isLatin1_aae02.1, .selects "java/lang/String" k_J0_isLatin1_aae02.1 k_J0_isLatin1_aae02.1, .initialized "java/lang/String", .code k_J0_isLatin1_aae02.1 k_J0_isLatin1_aae02.2.1 k_J0_isLatin1_aae02.2.2.1 k_J0_isLatin1_aae02.2.2.2.1] : List Cond), w ∈ z_gt := z_mzT (is := [4039, 4040, 4041, 1019, 4042]) (by decide +kernel)
theorem w_mL1 : ∀ w ∈ ([.methodLink RJ0 495 k_J1_charAt_3b067.1, .static k_J1_charAt_3b067.1, .initialized k_J1_charAt_3b067.1.cls, .code k_J1_charAt_3b067.1 k_J1_charAt_3b067.2.1 k_J1_charAt_3b067.2.2.1 k_J1_charAt_3b067.2.2.2.1] : List Cond), w ∈ z_gt := z_mzT (is := [4043, 4044, 1020, 4045]) (by decide +kernel)
theorem w_mPre : ∀ w ∈ ([.methodLink RJ0 1059 k_J3_checkIndex_8e157.1, .static k_J3_checkIndex_8e157.1, .initialized k_J3_checkIndex_8e157.1.cls, .code k_J3_checkIndex_8e157.1 k_J3_checkIndex_8e157.2.1 k_J3_checkIndex_8e157.2.2.1 k_J3_checkIndex_8e157.2.2.2.1] : List Cond), w ∈ z_gt := z_mzT (is := [4051, 4052, 1021, 4053]) (by decide +kernel)
theorem w_mChk : ∀ w ∈ ([.methodLink RJ1 9 k_J0_checkIndex_df160.1, .static k_J0_checkIndex_df160.1, .initialized k_J0_checkIndex_df160.1.cls, .code k_J0_checkIndex_df160.1 k_J0_checkIndex_df160.2.1 k_J0_checkIndex_df160.2.2.1 k_J0_checkIndex_df160.2.2.2.1] : List Cond), w ∈ z_gt := z_mzT (is := [4046, 4047, 1019, 4048]) (by decide +kernel)
theorem w_X7_length : ∀ w ∈ ([.methodLink RX7 144 k_J0_length_8abf5.1, .instanceMethod k_J0_length_8abf5.1, .selects "java/lang/String" k_J0_length_8abf5.1 k_J0_length_8abf5.1, .initialized "java/lang/String", .code k_J0_length_8abf5.1 k_J0_length_8abf5.2.1 k_J0_length_8abf5.2.2.1 k_J0_length_8abf5.2.2.2.1] : List Cond), w ∈ z_gt := z_mzT (is := [4025, 4026, 4027, 1019, 4028]) (by decide +kernel)
theorem w_X7_charAt : ∀ w ∈ ([.methodLink RX7 149 k_J0_charAt_5068e.1, .instanceMethod k_J0_charAt_5068e.1, .selects "java/lang/String" k_J0_charAt_5068e.1 k_J0_charAt_5068e.1, .initialized "java/lang/String", .code k_J0_charAt_5068e.1 k_J0_charAt_5068e.2.1 k_J0_charAt_5068e.2.2.1 k_J0_charAt_5068e.2.2.2.1] : List Cond), w ∈ z_gt := z_mzT (is := [4035, 4036, 4037, 1019, 4038]) (by decide +kernel)
theorem w_X12_length : ∀ w ∈ ([.methodLink RX12 141 k_J0_length_8abf5.1, .instanceMethod k_J0_length_8abf5.1, .selects "java/lang/String" k_J0_length_8abf5.1 k_J0_length_8abf5.1, .initialized "java/lang/String", .code k_J0_length_8abf5.1 k_J0_length_8abf5.2.1 k_J0_length_8abf5.2.2.1 k_J0_length_8abf5.2.2.2.1] : List Cond), w ∈ z_gt := z_mzT (is := [7192, 4026, 4027, 1019, 4028]) (by decide +kernel)
theorem w_X12_charAt : ∀ w ∈ ([.methodLink RX12 147 k_J0_charAt_5068e.1, .instanceMethod k_J0_charAt_5068e.1, .selects "java/lang/String" k_J0_charAt_5068e.1 k_J0_charAt_5068e.1, .initialized "java/lang/String", .code k_J0_charAt_5068e.1 k_J0_charAt_5068e.2.1 k_J0_charAt_5068e.2.2.1 k_J0_charAt_5068e.2.2.2.1] : List Cond), w ∈ z_gt := z_mzT (is := [7193, 4036, 4037, 1019, 4038]) (by decide +kernel)
section STR
variable {G : z_G} {d : Nat} {μ : z_M} {r ρ : z_Res} {pc : Nat} {lc : List (Option Value)} {st rest : List Value} {h : z_H}
theorem s_gets (hn : z_cNm μ.2.2.1 = RJ0) (hd : decode μ.1.2.1 pc = .ok (.getstatic 38, 3)) (k : z_J G d μ r (pc + 3) lc (.int 1 :: st) h) : z_J G d μ r pc lc st h :=
  z_rd (fun p e R s m args below meth c H locs cells slots ls Q X hR hS k => va_gets X.1 X.2.1 (z_Xs X).2.2.1 hS X.2.2.2.2.1 (X.2.2.2.2.2.2.2.1 _ (by rw [hn]; exact w_sC)) (fun _ q => q) hd k) k
theorem s_getq (hn : z_cNm μ.2.2.1 = RJ0) (hd : decode μ.1.2.1 pc = .ok (.getstatic 1053, 3)) (k : ∀ o, z_J G d μ r (pc + 3) lc (va_rf o :: st) h) : z_J G d μ r pc lc st h := by
  refine ⟨(k none).1, fun p e R s m args below meth c X H locs cells slots mc ms ls hl hn' hR hS h1 h2 h3 h4 => ?_⟩
  rcases (z_Xs X).2.2.2 with hZ | ⟨t, hZ⟩
  · exact va_gets X.1 X.2.1 hZ hS X.2.2.2.2.1 (X.2.2.2.2.2.2.2.1 _ (by rw [hn]; exact w_sF)) (fun _ q => q) hd ((k none).2 p e R s m args below meth c X H locs cells slots mc ms ls hl hn' hR hS h1 h2 h3 h4)
  · exact va_gets X.1 X.2.1 hZ hS X.2.2.2.2.1 (X.2.2.2.2.2.2.2.1 _ (by rw [hn]; exact w_sF)) (fun _ q => q) hd ((k (some t)).2 p e R s m args below meth c X H locs cells slots mc ms ls hl hn' hR hS h1 h2 h3 h4)
theorem s_coder {i : Nat} (hi : i < 6) (hn : z_cNm μ.2.2.1 = RJ0) (hd : decode μ.1.2.1 pc = .ok (.getfield 15, 3)) (k : z_J G d μ r (pc + 3) lc (.int 0 :: st) h) : z_J G d μ r pc lc (.ref (z_sad G i) :: st) h :=
  z_rd (fun p e R s m args below meth c H locs cells slots ls Q X hR hS k => vk_getf X.1 X.2.1 (z_S1 X hi).2.1 hS X.2.2.2.2.1 (X.2.2.2.2.2.2.2.1 _ (by rw [hn]; exact w_sK)) (fun _ q => q) hd k) k
theorem s_value {i : Nat} (hi : i < 6) (hn : z_cNm μ.2.2.1 = RJ0) (hd : decode μ.1.2.1 pc = .ok (.getfield 9, 3)) (k : z_J G d μ r (pc + 3) lc (.ref (z_sav G i) :: st) h) : z_J G d μ r pc lc (.ref (z_sad G i) :: st) h :=
  z_rd (fun p e R s m args below meth c H locs cells slots ls Q X hR hS k => vk_getf X.1 X.2.1 (z_S1 X hi).2.2.1 hS X.2.2.2.2.1 (X.2.2.2.2.2.2.2.1 _ (by rw [hn]; exact w_sV)) (fun _ q => q) hd k) k
theorem s_alen {i : Nat} (hi : i < 6) (hd : decode μ.1.2.1 pc = .ok (.arraylength, 1)) (k : z_J G d μ r (pc + 1) lc (.int (Int32.ofNat (z_slen.getD i 0)) :: st) h) : z_J G d μ r pc lc (.ref (z_sav G i) :: st) h :=
  z_rd (fun p e R s m args below meth c H locs cells slots ls Q X hR hS k => va_tlen X.1 X.2.1 (z_S1 X hi).2.2.2 hS rfl hd k) k
theorem s_bald {i : Nat} (hi : i < 6) {j : Int32} (hj : vp_in j (z_slen.getD i 0)) (hd : decode μ.1.2.1 pc = .ok (.baload, 1)) (k : z_J G d μ r (pc + 1) lc (.int ((z_sbyt.getD i []).getD j.toNatClampNeg 0) :: st) h) : z_J G d μ r pc lc (.int j :: .ref (z_sav G i) :: st) h := by
  refine z_rd (fun p e R s m args below meth c H locs cells slots ls Q X hR hS k => ?_) k
  obtain ⟨cell, h1, h2, h3, h4, h5, h6, h7⟩ := ((z_S1 X hi).2.2.2).kept hS.2.1
  have hlt : j.toNatClampNeg < z_slen.getD i 0 := Nat.not_le.mp fun q => hj (Or.inr q)
  exact W.bald X.1 X.2.1 h1 h2 h3 (fun q => q.elim (fun q => hj (Or.inl q)) (fun q => by omega)) (h6 _ hlt) rfl rfl hd k
theorem mh_J0 {y : MethodName} (h : y.cls = "java/lang/String") : z_mh y := by
  unfold z_mh; rw [h]; decide
/-- String.coder() -/
theorem e_coder {i : Nat} (hi : i < 6) : z_Ev G (d + 1) k_J0_coder_7d493 [.ref (z_sad G i)] h (.inl (some (.int 0)), h) := by
  have hV : z_V G d m_J0_coder_7d493 := vE_V rfl vP_J0_coder_7d493
  refine z_enter (μ := m_J0_coder_7d493) rfl (by decide) rfl rfl (fun q => by cases q) (by simp [lg_sl, Value.category, k_J0_coder_7d493]) ?_
  refine s_gets rfl (vP_J0_coder_7d493 0 _ rfl) ?_
  refine z_blk hV (fun k => Nat.beq k 7) 10 ?_
  show z_J G (d + 1) m_J0_coder_7d493 _ 7 [some (.ref (z_sad G i))] [.ref (z_sad G i)] h
  refine s_coder hi rfl (vP_J0_coder_7d493 7 _ rfl) ?_
  exact z_blk hV (fun _ => false) 10 ⟨rfl, rfl⟩
/-- String.isLatin1() -/
theorem e_latin {i : Nat} (hi : i < 6) : z_Ev G (d + 1) k_J0_isLatin1_aae02 [.ref (z_sad G i)] h (.inl (some (.int 1)), h) := by
  have hV : z_V G d m_J0_isLatin1_aae02 := vE_V rfl vP_J0_isLatin1_aae02
  refine z_enter (μ := m_J0_isLatin1_aae02) rfl (by decide) rfl rfl (fun q => by cases q) (by simp [lg_sl, Value.category, k_J0_isLatin1_aae02]) ?_
  refine s_gets rfl (vP_J0_isLatin1_aae02 0 _ rfl) ?_
  refine z_blk hV (fun k => Nat.beq k 7) 10 ?_
  show z_J G (d + 1) m_J0_isLatin1_aae02 _ 7 [some (.ref (z_sad G i))] [.ref (z_sad G i)] h
  refine s_coder hi rfl (vP_J0_isLatin1_aae02 7 _ rfl) ?_
  refine z_blk hV (fun _ => false) 10 ?_
  exact ⟨Or.inr rfl, rfl⟩
/-- String.length() -/
theorem e_length {i : Nat} (hi : i < 6) : z_Ev G (d + 2) k_J0_length_8abf5 [.ref (z_sad G i)] h (.inl (some (.int (Int32.ofNat (z_slen.getD i 0)))), h) := by
  have hV : z_V G (d + 1) m_J0_length_8abf5 := vE_V rfl vP_J0_length_8abf5
  refine z_enter (μ := m_J0_length_8abf5) rfl (by decide) rfl rfl (fun q => by cases q) (by simp [lg_sl, Value.category, k_J0_length_8abf5]) ?_
  refine z_blk hV (fun k => Nat.beq k 1) 3 ?_
  show z_J G (d + 2) m_J0_length_8abf5 _ 1 [some (.ref (z_sad G i))] [.ref (z_sad G i)] h
  refine s_value hi rfl (vP_J0_length_8abf5 1 _ rfl) ?_
  refine s_alen hi (vP_J0_length_8abf5 4 _ rfl) ?_
  refine z_blk hV (fun k => Nat.beq k 6) 3 ?_
  show z_J G (d + 2) m_J0_length_8abf5 _ 6 [some (.ref (z_sad G i))] [.ref (z_sad G i), .int (Int32.ofNat (z_slen.getD i 0))] h
  have hE := e_coder (G := G) (d := d) (h := h) hi
  refine z_inv (a := [Value.ref (z_sad G i)].toArray) hE.1 (s_runV (As := []) hi (vP_J0_length_8abf5 6 _ rfl) rfl rfl w_mCoder (mh_J0 rfl) (by decide +kernel) (by decide) rfl rfl hE) (Or.inl ⟨_, rfl, ?_⟩)
  refine z_blk hV (fun _ => false) 10 ?_
  show _ = _
  have hsh : ∀ i, i < 6 → Int32.ofNat (z_slen.getD i 0) >>> ((0 : Int32) &&& 31) = Int32.ofNat (z_slen.getD i 0) := by decide
  rw [hsh i hi]
/-- Preconditions.checkIndex, within -/
theorem e_pre {a b : Int32} {o : Option Nat} (h0 : ¬ a < 0) (h1 : a < b) : z_Ev G (d + 1) k_J3_checkIndex_8e157 [.int a, .int b, va_rf o] h (.inl (some (.int a)), h) := by
  have hV : z_V G d m_J3_checkIndex_8e157 := vE_V rfl vP_J3_checkIndex_8e157
  have hc : (va_rf o).category = 1 := by cases o <;> rfl
  refine z_enter (μ := m_J3_checkIndex_8e157) rfl (by decide) rfl rfl (fun q => by cases q) (by cases o <;> simp [lg_sl, Value.category, k_J3_checkIndex_8e157, va_rf]) ?_
  have key : ∀ v : Value, z_J G (d + 1) m_J3_checkIndex_8e157 (.inl (some (.int a)), h) 0 [some (.int a), some (.int b), some v] [] h := by
    intro v
    refine z_blk hV (fun k => Nat.beq k 9) 10 ?_
    show (if a < 0 then _ else if a < b then _ = _ else _)
    rw [if_neg h0, if_pos h1]
  cases o with
  | none => exact key .null
  | some x => exact key (.ref x)
/-- String.checkIndex, within -/
theorem e_chk {a b : Int32} (h0 : ¬ a < 0) (h1 : a < b) : z_Ev G (d + 2) k_J0_checkIndex_df160 [.int a, .int b] h (.inl none, h) := by
  have hV : z_V G (d + 1) m_J0_checkIndex_df160 := vE_V rfl vP_J0_checkIndex_df160
  refine z_enter (μ := m_J0_checkIndex_df160) rfl (by decide) rfl rfl (fun q => by cases q) (by simp [lg_sl, Value.category, k_J0_checkIndex_df160]) ?_
  refine z_blk hV (fun k => Nat.beq k 2) 4 ?_
  show z_J G (d + 2) m_J0_checkIndex_df160 _ 2 [some (.int a), some (.int b)] [.int b, .int a] h
  refine s_getq rfl (vP_J0_checkIndex_df160 2 _ rfl) (fun o => ?_)
  have hE := e_pre (G := G) (d := d) (h := h) (o := o) h0 h1
  refine z_inv (rest := []) (a := [Value.int a, Value.int b, va_rf o].toArray) hE.1 (z_runS (As := [.int a, .int b, va_rf o]) (rest := []) (vP_J0_checkIndex_df160 5 _ rfl) rfl w_mPre (by unfold z_mh; decide) (show _ = some 3 by decide +kernel) (by decide) rfl rfl hE) (Or.inl ⟨_, rfl, ?_⟩)
  exact z_blk hV (fun _ => false) 10 rfl
def z_sch (i : Nat) (j : Int32) : Int32 := (((((z_sbyt.getD i []).getD j.toNatClampNeg 0) &&& 255).toUInt32 % 65536).toInt32)
theorem e_narC {i : Nat} (hi : i < 6) {j : Int32} (hj : vp_in j (z_slen.getD i 0)) : narrow .char (.int (z_sch i j)) = .int (z_sch i j) := by
  have hlt : j.toNatClampNeg < z_slen.getD i 0 := Nat.not_le.mp fun q => hj (Or.inr q)
  have hc : ∀ b : Int32, (b = 112 ∨ b = 111 ∨ b = 105 ∨ b = 110 ∨ b = 116 ∨ b = 115 ∨ b = 108 ∨ b = 101 ∨ b = 97) → narrow .char (.int (((b &&& 255).toUInt32 % 65536).toInt32)) = .int (((b &&& 255).toUInt32 % 65536).toInt32) := by
    intro b hb
    rcases hb with rfl | rfl | rfl | rfl | rfl | rfl | rfl | rfl | rfl <;> decide
  refine hc _ ?_
  have hb : ∀ i, i < 6 → ∀ k, k < z_slen.getD i 0 → ((z_sbyt.getD i []).getD k 0 = 112 ∨ (z_sbyt.getD i []).getD k 0 = 111 ∨ (z_sbyt.getD i []).getD k 0 = 105 ∨ (z_sbyt.getD i []).getD k 0 = 110 ∨ (z_sbyt.getD i []).getD k 0 = 116 ∨ (z_sbyt.getD i []).getD k 0 = 115 ∨ (z_sbyt.getD i []).getD k 0 = 108 ∨ (z_sbyt.getD i []).getD k 0 = 101 ∨ (z_sbyt.getD i []).getD k 0 = 97) := by decide
  exact hb i hi _ hlt
/-- StringLatin1.charAt, within -/
theorem e_ch1 {i : Nat} (hi : i < 6) {j : Int32} (hj : vp_in j (z_slen.getD i 0)) : z_Ev G (d + 3) k_J1_charAt_3b067 [.ref (z_sav G i), .int j] h (.inl (some (.int (z_sch i j))), h) := by
  have hV : z_V G (d + 2) m_J1_charAt_3b067 := vE_V rfl vP_J1_charAt_3b067
  have h0 : ¬ j < 0 := fun q => hj (Or.inl q)
  have hlt : j.toNatClampNeg < z_slen.getD i 0 := Nat.not_le.mp fun q => hj (Or.inr q)
  have hl9 : ∀ i, i < 6 → z_slen.getD i 0 < 9 := by decide
  have h1 : j < Int32.ofNat (z_slen.getD i 0) := by
    have := hl9 i hi
    rw [Int32.lt_iff_toInt_lt, z_nn h0, show (Int32.ofNat (z_slen.getD i 0)).toInt = ((z_slen.getD i 0 : Nat) : Int) from Int32.toInt_ofNat_of_lt (by omega)]
    omega
  refine z_enter (μ := m_J1_charAt_3b067) rfl (by decide) rfl rfl (fun q => by cases q) (by simp [lg_sl, Value.category, k_J1_charAt_3b067]) ?_
  refine z_blk hV (fun k => Nat.beq k 2) 4 ?_
  show z_J G (d + 3) m_J1_charAt_3b067 _ 2 [some (.ref (z_sav G i)), some (.int j)] [.ref (z_sav G i), .int j] h
  refine s_alen hi (vP_J1_charAt_3b067 2 _ rfl) ?_
  have hE := e_chk (G := G) (d := d) (h := h) h0 h1
  refine z_inv (rest := []) (a := [Value.int j, Value.int (Int32.ofNat (z_slen.getD i 0))].toArray) hE.1 (z_runS (As := [.int j, .int (Int32.ofNat (z_slen.getD i 0))]) (rest := []) (vP_J1_charAt_3b067 3 _ rfl) rfl w_mChk (by unfold z_mh; decide) (show _ = some 2 by decide +kernel) (by decide) rfl rfl hE) (Or.inl ⟨_, rfl, ?_⟩)
  refine z_blk hV (fun k => Nat.beq k 8) 4 ?_
  show z_J G (d + 3) m_J1_charAt_3b067 _ 8 [some (.ref (z_sav G i)), some (.int j)] [.int j, .ref (z_sav G i)] h
  refine s_bald hi hj (vP_J1_charAt_3b067 8 _ rfl) ?_
  refine z_blk hV (fun _ => false) 10 ?_
  exact ⟨e_narC hi hj, rfl⟩
/-- String.charAt, within -/
theorem e_charAt {i : Nat} (hi : i < 6) {j : Int32} (hj : vp_in j (z_slen.getD i 0)) : z_Ev G (d + 4) k_J0_charAt_5068e [.ref (z_sad G i), .int j] h (.inl (some (.int (z_sch i j))), h) := by
  have hV : z_V G (d + 3) m_J0_charAt_5068e := vE_V rfl vP_J0_charAt_5068e
  refine z_enter (μ := m_J0_charAt_5068e) rfl (by decide) rfl rfl (fun q => by cases q) (by simp [lg_sl, Value.category, k_J0_charAt_5068e]) ?_
  refine z_blk hV (fun k => Nat.beq k 1) 3 ?_
  show z_J G (d + 4) m_J0_charAt_5068e _ 1 [some (.ref (z_sad G i)), some (.int j)] [.ref (z_sad G i)] h
  have hE := e_latin (G := G) (d := d + 2) (h := h) hi
  refine z_inv (rest := []) (a := [Value.ref (z_sad G i)].toArray) hE.1 (s_runV (As := []) (rest := []) hi (vP_J0_charAt_5068e 1 _ rfl) rfl rfl w_mLat (mh_J0 rfl) (by decide +kernel) (by decide) rfl rfl hE) (Or.inl ⟨_, rfl, ?_⟩)
  refine z_blk hV (fun k => Nat.beq k 8) 4 ?_
  show z_J G (d + 4) m_J0_charAt_5068e _ 8 [some (.ref (z_sad G i)), some (.int j)] [.ref (z_sad G i)] h
  refine s_value hi rfl (vP_J0_charAt_5068e 8 _ rfl) ?_
  refine z_blk hV (fun k => Nat.beq k 12) 4 ?_
  show z_J G (d + 4) m_J0_charAt_5068e _ 12 [some (.ref (z_sad G i)), some (.int j)] [.int j, .ref (z_sav G i)] h
  have hE := e_ch1 (G := G) (d := d) (h := h) hi hj
  refine z_inv (rest := []) (a := [Value.ref (z_sav G i), Value.int j].toArray) hE.1 (z_runS (As := [.ref (z_sav G i), .int j]) (rest := []) (vP_J0_charAt_5068e 12 _ rfl) rfl w_mL1 (by unfold z_mh; decide) (show _ = some 2 by decide +kernel) (by decide) rfl rfl hE) (Or.inl ⟨_, rfl, ?_⟩)
  exact z_blk hV (fun _ => false) 10 ⟨e_narC hi hj, rfl⟩
end STR

