theorem en_X2_sameWays {pu : Nat → Option ((List Value → z_H → Prop) × (List Value → z_H → Int32))} {G : z_G} {d : Nat} {r : z_Res} {h : z_H} {x0 : Nat} (hJ : z_J G d (m_X2_sameWays pu) r 0 [some (.ref x0), none, none] [] h) : z_Ev G d k_X2_sameWays [.ref x0] h r := z_enter (μ := m_X2_sameWays pu) rfl (by decide) rfl rfl (fun q => by cases q) (Nat.le_of_ble_eq_true rfl) hJ
def hd_X2_sameWays : Nat → Option (List Bool) := (fun k => (cond (Nat.blt k 73) (cond (Nat.beq k 32) (some [true, true, true]) none) none))
set_option maxRecDepth 20000 in
theorem b_X2_sameWays_0 {G : z_G} {d : Nat} {r : z_Res} (hPu : z_PuV G d (t_X2 z_pu0)) {h : z_H} {x0 : Nat} (hT : (z_kd h x0 = 18 ∧ (if (nI 1) < (z_oi h x0 5) then (z_kd h x0 = 18 ∧ (z_kd h x0 = 18 ∧ (z_kd h x0 = 18 ∧ (z_J G (d + 1) (m_X2_sameWays z_pu0) r) 32 [some (.ref x0), some (.int ((z_oi h x0 4) * ((z_oi h x0 4) - (nI 1)))), some (.int (z_oi h x0 8))] [] h))) else (z_kd h x0 = 18 ∧ (z_kd h x0 = 18 ∧ (z_J G (d + 1) (m_X2_sameWays z_pu0) r) 32 [some (.ref x0), some (.int (z_oi h x0 4)), some (.int (z_oi h x0 8))] [] h))))) : (z_J G (d + 1) (m_X2_sameWays z_pu0) r) 0 [some (.ref x0), none, none] [] h := z_bq (v_X2 z_pu0 (vP_X2_sameWays z_pu0) hPu) hd_X2_sameWays 19 hT
set_option maxRecDepth 20000 in
theorem b_X2_sameWays_32 {G : z_G} {d : Nat} {r : z_Res} (hPu : z_PuV G d (t_X2 z_pu0)) {h : z_H} {x0 : Nat} {x1 : Int32} {x2 : Int32} (hT : (z_kd h x0 = 18 ∧ (if x2 < (z_oi h x0 5) then (z_kd h x0 = 18 ∧ (z_rc (z_or h x0 7) False (fun x_1 => (z_kd h x_1 = 1 ∧ vp_in x2 (z_ln h x_1) ∧ (z_kd h x0 = 18 ∧ (∃ x_3 h_2, z_Ev G d k_J6_bitCount_0f7a4 [.int ((z_ai h x_1 (Int32.toNatClampNeg x2)) &&& (((nI 1) <<< (x2 &&& (nI 31))) - ((nI 1) <<< ((z_oi h x0 8) &&& (nI 31)))))] h (.inl (some (.int x_3)), h_2) ∧ (z_J G (d + 1) (m_X2_sameWays z_pu0) r) 32 [some (.ref x0), some (.int (x1 * ((nI 1) + x_3))), some (.int (x2 + (nI 1)))] [] h_2)))))) else r = (.inl (some (.int x1)), h)))) : (z_J G (d + 1) (m_X2_sameWays z_pu0) r) 32 [some (.ref x0), some (.int x1), some (.int x2)] [] h := z_bq (v_X2 z_pu0 (vP_X2_sameWays z_pu0) hPu) hd_X2_sameWays 28 hT
/-! THE DRAWER: ways that are the same -/
def g_same (T : Nat → Nat) (pl n : Nat) : Nat := it (fun i s => s * (1 + n_pc (T (2 + i) &&& (2 ^ (2 + i) - 2 ^ 2)))) (if 1 < n then pl * (pl - 1) else pl) (n - 2)
section HF1
variable {G : z_G} {d x tw pl n : Nat} {h : z_H} {T : Nat → Nat}
theorem e2_sameWays (ds : z_kd h x = 18) (o4 : z_oi h x 4 = nI pl) (o5 : z_oi h x 5 = nI n) (o8 : z_oi h x 8 = nI 2) (hp : 1 ≤ pl) (hn : n ≤ 8) (o7 : z_or h x 7 = some tw) (k1 : z_kd h tw = 1) (k2 : z_ln h tw = 8) (hT : ∀ p, p < 8 → z_ai h tw p = nI (T p) ∧ T p < 256) : z_Ev G (d + 2) k_X2_sameWays [.ref x] h (.inl (some (.int (nI (g_same T pl n)))), h) := by
  have body : ∀ a, z_J G (d + 2) (m_X2_sameWays z_pu0) (.inl (some (.int (nI (it (fun i s => s * (1 + n_pc (T (2 + i) &&& (2 ^ (2 + i) - 2 ^ 2)))) a (n - 2))))), h) 32 [some (.ref x), some (.int (nI a)), some (.int (nI 2))] [] h := by
    intro a
    have key := z_for (G := G) (d := d + 2) (μ := m_X2_sameWays z_pu0) (h := h) (r := (.inl (some (.int (nI (it (fun i s => s * (1 + n_pc (T (2 + i) &&& (2 ^ (2 + i) - 2 ^ 2)))) a (n - 2))))), h)) (pc := 32) (fun i (s : Nat) => [some (.ref x), some (.int (nI s)), some (.int (nI (2 + i)))]) (fun i s => s * (1 + n_pc (T (2 + i) &&& (2 ^ (2 + i) - 2 ^ 2)))) a (n - 2) ?_ ?_
    · exact key
    · intro i hi hJ
      have h8 : 2 + i < 8 := by omega
      obtain ⟨t1, t2⟩ := hT (2 + i) h8
      have pw : 2 ^ 2 ≤ 2 ^ (2 + i) := Nat.pow_le_pow_right (by decide) (by omega)
      have al := and_lt256 (b := 2 ^ (2 + i) - 2 ^ 2) t2
      refine b_X2_sameWays_32 (z_pu0V rfl) ⟨ds, ?_⟩
      rw [o5, if_pos (nI_lt (by omega) (by omega)), o7, z_rcs, nI_clamp (show 2 + i < 2 ^ 31 by omega), t1, o8, show nI 1 <<< (nI (2 + i) &&& nI 31) = nI (2 ^ (2 + i)) from n_one (by omega), show nI 1 <<< (nI 2 &&& nI 31) = nI (2 ^ 2) from n_one (by omega), q_sub pw, fa_and]
      refine ⟨ds, k1, by rw [k2]; exact vp_in_nI h8 (by decide), ds, _, _, e_bits (by omega), ?_⟩
      rw [nI_add, n_mul, nI_add]
      exact hJ
    · refine b_X2_sameWays_32 (z_pu0V rfl) ⟨ds, ?_⟩
      rw [o5, if_neg (nI_nlt (by omega) (by omega))]
  refine en_X2_sameWays (b_X2_sameWays_0 (z_pu0V rfl) ⟨ds, ?_⟩)
  rw [o5, o4, o8]
  unfold g_same
  by_cases c : 1 < n
  · rw [if_pos (nI_lt c (by omega)), if_pos c, q_sub hp, n_mul]
    exact ⟨ds, ds, ds, body _⟩
  · rw [if_neg (nI_nlt (by omega) (by omega)), if_neg c]
    exact ⟨ds, ds, body _⟩
end HF1
