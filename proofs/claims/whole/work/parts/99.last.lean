def z_hd4 : Nat → Bool := fun k => Nat.beq k 4
theorem blk_flags_4 (G : z_G) (E : z_E) (r : z_Res) (J : z_K) (pu) (h : z_H) (this : Nat) (x1 x2 : Int32) (hT : (z_kd h this = 24 ∧ (if x2 < (z_oi h this 1) then (z_kd h this = 24 ∧ (z_rc (z_or h this 3) False (fun y1 => (z_kd h y1 = 1 ∧ vp_in x2 (z_ln h y1) ∧ J 4 [some (.ref this), some (.int (x1 + (z_ai h y1 (x2).toNatClampNeg))), some (.int (x2 + 1))] [] h)))) else r = (.inl (some (.int x1)), h)))) :
  z_ex G (m_X8_flags pu) E r (z_wp G (m_X8_flags pu) E r z_hd4 J 20) 4 [some (.ref this), some (.int x1), some (.int x2)] [] h := hT
theorem i_vc : Claimed_1_1 ∧ Claimed_1_2 := sorry
