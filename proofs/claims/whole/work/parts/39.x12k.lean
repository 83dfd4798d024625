/-! a symmetry by the naming -/
def c_sym (S : Sc) (N : Nat → Nat) (B : Nat → Int32) : Bool := !c_any (fun l => decide (B (c_nm N (S.2.2 l)) = -1)) S.2.1
section CK
variable {G : z_G} {d : Nat} {h : z_H} {M : Nat} {S : Sc}
theorem c_nm_lt {N : Nat → Nat} (hN : ∀ i, i < 8 → N i < 8) (a : Nat) : c_nm N a < 256 := by
  refine it_bdm (P := fun v => v < 256) (m := 8) (by decide) (fun i v hi hv => ?_) 8 (Nat.le_refl _)
  split
  · exact or_lt256 hv (t_pow (hN i hi))
  · exact hv
theorem t_snm (hA : z_at M h S) (hN : r_nm (z_ai h (M + 5))) {a : Nat} (ha : a < 256) : s_X12_named M (nI a) h := ⟨hA.1, hN, a, ha, rfl⟩
theorem t_nm {a : Nat} (ha : a < 256) : f_X12_named M (nI a) h = nI (c_nm (r_N (z_ai h (M + 5))) a) := by
  unfold f_X12_named; rw [nI_clamp (by omega)]
theorem e_isSymmetry (hA : z_at M h S) (hN : r_nm (z_ai h (M + 5))) : z_Ev G (d + 4) k_X12_isSymmetry [.ref M] h (.inl (some (.int (nI (c_sym S (r_N (z_ai h (M + 5))) (z_ai h (M + 6))).toNat))), h) := by
  have hm := t_m12 hA
  refine en_X12_isSymmetry (b_X12_isSymmetry_0 z_puCV ?_)
  refine z_fnd (fun l => [some (.ref M), some (.int (nI l))]) (fun l => decide (z_ai h (M + 6) (c_nm (r_N (z_ai h (M + 5))) (S.2.2 l)) = -1)) S.2.1 ?_ ?_
  · intro l hl hno hJ
    have hL := t_L256 hA l
    have hc := c_nm_lt (fun i hi => (hN i hi).2) (S.2.2 l)
    refine b_X12_isSymmetry_2 z_puCV ⟨t_kd hA, hA.1, ?_⟩
    rw [t_m hA, if_pos (nI_lt hl (by omega))]
    refine ⟨t_kd hA, ?_⟩
    rw [(sh_lineBy hA.1).1, z_rcs, t_Ln hA hl, t_nm hL, nI_1, nI_clamp (by omega)]
    refine ⟨t_kd hA, t_sL hA (by omega), t_kd hA, t_snm hA hN hL, (sh_lineBy hA.1).2.1, by rw [(sh_lineBy hA.1).2.2]; exact vp_in_nI (by omega) (by omega), ?_⟩
    by_cases e : z_ai h (M + 6) (c_nm (r_N (z_ai h (M + 5))) (S.2.2 l)) = -1
    · rw [if_pos e]
      unfold c_sym
      rw [any_t hl (decide_eq_true e)]
      exact ⟨Or.inl rfl, rfl⟩
    · rw [if_neg e]
      exact hJ (decide_eq_false e)
  · intro hno
    refine b_X12_isSymmetry_2 z_puCV ⟨t_kd hA, hA.1, ?_⟩
    rw [t_m hA, if_neg (nI_nlt (Nat.le_refl _) (by omega))]
    unfold c_sym
    rw [any_f hno]
    exact ⟨Or.inr rfl, rfl⟩
end CK
