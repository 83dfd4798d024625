/-! the matcher: counting searches -/
def lnR (F : Sc) (N : Nat → Nat) (p : Nat) : Nat → Nat
  | 0 => 0
  | q + 1 => if (g_twT F p).testBit q then N q + 1 else lnR F N p q
def g_ln (F : Sc) (N : Nat → Nat) (p : Nat) : Nat := lnR F N p p
def g_twO (F : Sc) : Nat := it (fun p x => x * (1 + n_pc (g_twT F p &&& (2 ^ p - 1)))) 1 F.1
def g_mut (F : Sc) (N : Nat → Nat) (p v : Nat) : Bool := !c_any (fun q => decide (((F.2.2 (N q)).testBit p).toNat ≠ ((F.2.2 v).testBit q).toNat)) p
def talV (go : Nat → Nat → (Nat → Nat) → Nat × (Nat → Nat)) (F T : Sc) (ex : Bool) (p us t : Nat) : Nat → Nat → Nat → (Nat → Nat) → Nat × (Nat → Nat)
  | 0, _, s, N => (s, N)
  | r + 1, v, s, N => if us.testBit v = false then
      match g_fit F T ex N p v t with
      | none => talV go F T ex p us t r (v + 1) s N
      | some t' => talV go F T ex p us t r (v + 1) (s + (go (us ||| 2 ^ v) t' (z_u N p v)).1) (go (us ||| 2 ^ v) t' (z_u N p v)).2
    else talV go F T ex p us t r (v + 1) s N
def g_tal (F T : Sc) (ex : Bool) : Nat → Nat → Nat → Nat → (Nat → Nat) → Nat × (Nat → Nat)
  | 0, _, _, _, N => (1, N)
  | k + 1, p, us, t, N => talV (fun u t N => g_tal F T ex k (p + 1) u t N) F T ex p us t (T.1 - g_ln F N p) (g_ln F N p) 0 N
def polV (go : Nat → (Nat → Nat) → Nat × (Nat → Nat)) (F T : Sc) (ex : Bool) (p us : Nat) : Nat → Nat → Nat → (Nat → Nat) → Nat × (Nat → Nat)
  | 0, _, s, N => (s, N)
  | r + 1, v, s, N => if us.testBit v = false ∧ g_mut F N p v = true ∧ g_fit F T ex N p v 0 ≠ none then
      polV go F T ex p us r (v + 1) (s + (go (us ||| 2 ^ v) (z_u N p v)).1) (go (us ||| 2 ^ v) (z_u N p v)).2
    else polV go F T ex p us r (v + 1) s N
def g_pol (F T : Sc) (ex : Bool) : Nat → Nat → Nat → (Nat → Nat) → Nat × (Nat → Nat)
  | 0, _, _, N => (1, N)
  | k + 1, p, us, N => polV (fun u N => g_pol F T ex k (p + 1) u N) F T ex p us T.1 0 0 N
section FY
variable {G : z_G} {d mt mn qf bf qt bt af at' : Nat} {ex : Bool} {h : z_H} {F T : Sc} {N : Nat → Nat}
theorem lnR_le {p : Nat} (hb : ∀ i, i < p → N i < 8) : ∀ q, q ≤ p → lnR F N p q ≤ 8 := by
  intro q
  induction q with
  | zero => intro _; exact Nat.zero_le _
  | succ q ih =>
    intro hq
    unfold lnR
    split
    · have := hb q (by omega); omega
    · exact ih (by omega)
theorem e5_leastName (hM : mt_at mt mn qf qt af at' ex h F T) (hF : sc_at qf bf h F) (hT : sc_at qt bt h T) (hN : ∀ i, i < 8 → z_ai h mn i = nI (N i)) {p : Nat} (hp : p < 8) : z_Ev G (d + 4) k_X5_leastName [.ref mt, .int (nI p)] h (.inl (some (.int (nI (g_ln F N p)))), h) := by
  have tl := tw_lt (S := F) (y_n8 hF).2 p
  have hM7 := hM.2.2.2.1.2.2.2 p hp
  refine en_X5_leastName (b_X5_leastName_0 (z_pu0V rfl) ?_)
  have key : ∀ q, q ≤ p → z_J G (d + 4) (m_X5_leastName z_pu0) (.inl (some (.int (nI (lnR F N p q)))), h) 4 [some (.ref mt), some (.int (nI p)), some (.int (nI q - nI 1))] [] h := by
    intro q
    induction q with
    | zero =>
      intro _
      refine b_X5_leastName_4 (z_pu0V rfl) ?_
      rw [if_pos (show nI 0 - nI 1 < nI 0 by decide)]
      rfl
    | succ q ih =>
      intro hq
      refine b_X5_leastName_4 (z_pu0V rfl) ?_
      rw [q_sub (show 1 ≤ q + 1 by omega), show q + 1 - 1 = q from rfl, if_neg (nI_nlt (Nat.zero_le _) (by omega))]
      simp (disch := omega) only [l0, l1, l2, l3, l4, l5, l6, l7, l8, l9, l10, l11, l12, l13, l14, l15, l16, l18, l20, l22, l24, l30, l31, l39, l40, l48, l60, l154, l255, l256, l400, l2000, l6160, l14000, lm1, q_lt, q_le, q_eq, q_mI, q_mI', q_ltmI, q_in, q_bz0, q_bz1, q_bzn0, q_bzn1, q_bzb, q_bn0, q_bn1, q_shr, q_shl, q_1s, b_one, b_two, fa_and, fa_or, nI_add, n_mul, nI_clamp, z_rcs, true_and, and_true, if_true, if_false, y_kd hF, y_n hF, y_m hF, (y_row hF).1, (y_row hF).2.1, (y_row hF).2.2, (y_size hF).1, (y_size hF).2.1, (y_size hF).2.2, (y_first hF).1, (y_first hF).2.1, (y_first hF).2.2, (y_deg hF).1, (y_deg hF).2.1, (y_deg hF).2.2, (y_on hF).1, (y_on hF).2.1, (y_on hF).2.2, (y_join hF).1, (y_join hF).2.1, (y_join hF).2.2, y_Ln hF, y_Sz hF, y_Ft hF, y_Dg hF, y_On hF, y_kd hT, y_n hT, y_m hT, (y_row hT).1, (y_row hT).2.1, (y_row hT).2.2, (y_size hT).1, (y_size hT).2.1, (y_size hT).2.2, (y_first hT).1, (y_first hT).2.1, (y_first hT).2.2, (y_deg hT).1, (y_deg hT).2.1, (y_deg hT).2.2, (y_on hT).1, (y_on hT).2.1, (y_on hT).2.2, (y_join hT).1, (y_join hT).2.1, (y_join hT).2.2, y_Ln hT, y_Sz hT, y_Ft hT, y_Dg hT, y_On hT, hM.1, hM.2.1, hM.2.2.1, hM.2.2.2.1.1, hM.2.2.2.1.2.1, hM.2.2.2.1.2.2.1, hM.2.2.2.2.1.1, hM.2.2.2.2.1.2.1, hM.2.2.2.2.1.2.2.1, hM.2.2.2.2.2.1, hM.2.2.2.2.2.2.1, hM.2.2.2.2.2.2.2.1, hM.2.2.2.2.2.2.2.2, y_Jm hF, y_Jm hT, hN, hM7]
      unfold lnR
      cases c : (g_twT F p).testBit q
      · rw [if_pos rfl, if_neg (by decide)]
        have := ih (by omega)
        rw [show nI q - nI 1 = nI q + mI from by rw [← lm1]; exact Int32.sub_eq_add_neg _ _] at this
        exact this
      · rw [if_neg (by decide), if_pos rfl]
  exact key p (Nat.le_refl _)
theorem e5_twinOrders (hM : mt_at mt mn qf qt af at' ex h F T) (hF : sc_at qf bf h F) (hT : sc_at qt bt h T) (hN : ∀ i, i < 8 → z_ai h mn i = nI (N i)) : z_Ev G (d + 4) k_X5_twinOrders [.ref mt] h (.inl (some (.int (nI (g_twO F)))), h) := by
  have n1 := y_n8 hF
  refine en_X5_twinOrders (b_X5_twinOrders_0 (z_pu0V rfl) ?_)
  refine z_for (fun p x => [some (.ref mt), some (.int (nI x)), some (.int (nI p))]) (fun p x => x * (1 + n_pc (g_twT F p &&& (2 ^ p - 1)))) 1 F.1 ?_ ?_
  · intro p hp hJ
    have tl := tw_lt (S := F) n1.2 p
    have tl2 := and_lt256 (b := 2 ^ p - 1) tl
    have hM7 := hM.2.2.2.1.2.2.2 p (by omega)
    have pw0 := Nat.two_pow_pos p
    refine b_X5_twinOrders_4 (z_pu0V rfl) ?_
    rw [show nI 1 <<< (nI p &&& nI 31) = nI (2 ^ p) from n_one (by omega), q_sub (show 1 ≤ 2 ^ p by omega)]
    simp (disch := omega) only [l0, l1, l2, l3, l4, l5, l6, l7, l8, l9, l10, l11, l12, l13, l14, l15, l16, l18, l20, l22, l24, l30, l31, l39, l40, l48, l60, l154, l255, l256, l400, l2000, l6160, l14000, lm1, q_lt, q_le, q_eq, q_mI, q_mI', q_ltmI, q_in, q_bz0, q_bz1, q_bzn0, q_bzn1, q_bzb, q_bn0, q_bn1, q_shr, q_shl, q_1s, b_one, b_two, fa_and, fa_or, nI_add, n_mul, nI_clamp, z_rcs, true_and, and_true, if_true, if_false, y_kd hF, y_n hF, y_m hF, (y_row hF).1, (y_row hF).2.1, (y_row hF).2.2, (y_size hF).1, (y_size hF).2.1, (y_size hF).2.2, (y_first hF).1, (y_first hF).2.1, (y_first hF).2.2, (y_deg hF).1, (y_deg hF).2.1, (y_deg hF).2.2, (y_on hF).1, (y_on hF).2.1, (y_on hF).2.2, (y_join hF).1, (y_join hF).2.1, (y_join hF).2.2, y_Ln hF, y_Sz hF, y_Ft hF, y_Dg hF, y_On hF, y_kd hT, y_n hT, y_m hT, (y_row hT).1, (y_row hT).2.1, (y_row hT).2.2, (y_size hT).1, (y_size hT).2.1, (y_size hT).2.2, (y_first hT).1, (y_first hT).2.1, (y_first hT).2.2, (y_deg hT).1, (y_deg hT).2.1, (y_deg hT).2.2, (y_on hT).1, (y_on hT).2.1, (y_on hT).2.2, (y_join hT).1, (y_join hT).2.1, (y_join hT).2.2, y_Ln hT, y_Sz hT, y_Ft hT, y_Dg hT, y_On hT, hM.1, hM.2.1, hM.2.2.1, hM.2.2.2.1.1, hM.2.2.2.1.2.1, hM.2.2.2.1.2.2.1, hM.2.2.2.2.1.1, hM.2.2.2.2.1.2.1, hM.2.2.2.2.1.2.2.1, hM.2.2.2.2.2.1, hM.2.2.2.2.2.2.1, hM.2.2.2.2.2.2.2.1, hM.2.2.2.2.2.2.2.2, y_Jm hF, y_Jm hT, hN, hM7, hp]
    refine ⟨_, _, e_bits (by omega), ?_⟩
    rw [nI_add, n_mul]
    exact hJ
  · refine b_X5_twinOrders_4 (z_pu0V rfl) ?_
    simp (disch := omega) only [l0, l1, l2, l3, l4, l5, l6, l7, l8, l9, l10, l11, l12, l13, l14, l15, l16, l18, l20, l22, l24, l30, l31, l39, l40, l48, l60, l154, l255, l256, l400, l2000, l6160, l14000, lm1, q_lt, q_le, q_eq, q_mI, q_mI', q_ltmI, q_in, q_bz0, q_bz1, q_bzn0, q_bzn1, q_bzb, q_bn0, q_bn1, q_shr, q_shl, q_1s, b_one, b_two, fa_and, fa_or, nI_add, n_mul, nI_clamp, z_rcs, true_and, and_true, if_true, if_false, y_kd hF, y_n hF, y_m hF, (y_row hF).1, (y_row hF).2.1, (y_row hF).2.2, (y_size hF).1, (y_size hF).2.1, (y_size hF).2.2, (y_first hF).1, (y_first hF).2.1, (y_first hF).2.2, (y_deg hF).1, (y_deg hF).2.1, (y_deg hF).2.2, (y_on hF).1, (y_on hF).2.1, (y_on hF).2.2, (y_join hF).1, (y_join hF).2.1, (y_join hF).2.2, y_Ln hF, y_Sz hF, y_Ft hF, y_Dg hF, y_On hF, y_kd hT, y_n hT, y_m hT, (y_row hT).1, (y_row hT).2.1, (y_row hT).2.2, (y_size hT).1, (y_size hT).2.1, (y_size hT).2.2, (y_first hT).1, (y_first hT).2.1, (y_first hT).2.2, (y_deg hT).1, (y_deg hT).2.1, (y_deg hT).2.2, (y_on hT).1, (y_on hT).2.1, (y_on hT).2.2, (y_join hT).1, (y_join hT).2.1, (y_join hT).2.2, y_Ln hT, y_Sz hT, y_Ft hT, y_Dg hT, y_On hT, hM.1, hM.2.1, hM.2.2.1, hM.2.2.2.1.1, hM.2.2.2.1.2.1, hM.2.2.2.1.2.2.1, hM.2.2.2.2.1.1, hM.2.2.2.2.1.2.1, hM.2.2.2.2.1.2.2.1, hM.2.2.2.2.2.1, hM.2.2.2.2.2.2.1, hM.2.2.2.2.2.2.2.1, hM.2.2.2.2.2.2.2.2, y_Jm hF, y_Jm hT, hN, Nat.lt_irrefl]
    rfl
theorem e5_isMutual (hM : mt_at mt mn qf qt af at' ex h F T) (hF : sc_at qf bf h F) (hT : sc_at qt bt h T) (hN : ∀ i, i < 8 → z_ai h mn i = nI (N i)) {p v : Nat} (hp : p < 8) (hv : v < F.2.1) (hb : ∀ i, i < p → N i < F.2.1) : z_Ev G (d + 4) k_X5_isMutual [.ref mt, .int (nI p), .int (nI v)] h (.inl (some (.int (nI (g_mut F N p v).toNat))), h) := by
  have m1 := y_m12 hF
  refine en_X5_isMutual (b_X5_isMutual_0 (z_pu0V rfl) ?_)
  refine z_fnd (fun q => [some (.ref mt), some (.int (nI p)), some (.int (nI v)), some (.int (nI q))]) (fun q => decide (((F.2.2 (N q)).testBit p).toNat ≠ ((F.2.2 v).testBit q).toNat)) p ?_ ?_
  · intro q hq hno hJ
    have hNq := hb q hq
    have l1 := y_256 hF (N q)
    have l2 := y_256 hF v
    have t1 : ((F.2.2 (N q)).testBit p).toNat ≤ 1 := Bool.toNat_le _
    have t2 : ((F.2.2 v).testBit q).toNat ≤ 1 := Bool.toNat_le _
    refine b_X5_isMutual_2 (z_pu0V rfl) ?_
    simp (disch := omega) only [l0, l1, l2, l3, l4, l5, l6, l7, l8, l9, l10, l11, l12, l13, l14, l15, l16, l18, l20, l22, l24, l30, l31, l39, l40, l48, l60, l154, l255, l256, l400, l2000, l6160, l14000, lm1, q_lt, q_le, q_eq, q_mI, q_mI', q_ltmI, q_in, q_bz0, q_bz1, q_bzn0, q_bzn1, q_bzb, q_bn0, q_bn1, q_shr, q_shl, q_1s, b_one, b_two, fa_and, fa_or, nI_add, n_mul, nI_clamp, z_rcs, true_and, and_true, if_true, if_false, y_kd hF, y_n hF, y_m hF, (y_row hF).1, (y_row hF).2.1, (y_row hF).2.2, (y_size hF).1, (y_size hF).2.1, (y_size hF).2.2, (y_first hF).1, (y_first hF).2.1, (y_first hF).2.2, (y_deg hF).1, (y_deg hF).2.1, (y_deg hF).2.2, (y_on hF).1, (y_on hF).2.1, (y_on hF).2.2, (y_join hF).1, (y_join hF).2.1, (y_join hF).2.2, y_Ln hF, y_Sz hF, y_Ft hF, y_Dg hF, y_On hF, y_kd hT, y_n hT, y_m hT, (y_row hT).1, (y_row hT).2.1, (y_row hT).2.2, (y_size hT).1, (y_size hT).2.1, (y_size hT).2.2, (y_first hT).1, (y_first hT).2.1, (y_first hT).2.2, (y_deg hT).1, (y_deg hT).2.1, (y_deg hT).2.2, (y_on hT).1, (y_on hT).2.1, (y_on hT).2.2, (y_join hT).1, (y_join hT).2.1, (y_join hT).2.2, y_Ln hT, y_Sz hT, y_Ft hT, y_Dg hT, y_On hT, hM.1, hM.2.1, hM.2.2.1, hM.2.2.2.1.1, hM.2.2.2.1.2.1, hM.2.2.2.1.2.2.1, hM.2.2.2.2.1.1, hM.2.2.2.2.1.2.1, hM.2.2.2.2.1.2.2.1, hM.2.2.2.2.2.1, hM.2.2.2.2.2.2.1, hM.2.2.2.2.2.2.2.1, hM.2.2.2.2.2.2.2.2, y_Jm hF, y_Jm hT, hN, hq, hNq, hv]
    unfold g_mut
    by_cases c : ((F.2.2 (N q)).testBit p).toNat = ((F.2.2 v).testBit q).toNat
    · rw [if_pos c]
      exact hJ (decide_eq_false (fun e => e c))
    · rw [if_neg c, any_t hq (decide_eq_true c)]
      rfl
  · intro hno
    refine b_X5_isMutual_2 (z_pu0V rfl) ?_
    unfold g_mut
    rw [if_neg (nI_nlt (Nat.le_refl _) (by omega)), any_f hno]
    exact ⟨Or.inr rfl, rfl⟩
theorem talV_pre {go : Nat → Nat → (Nat → Nat) → Nat × (Nat → Nat)} {p us t : Nat} (hgo : ∀ u t N i, i < p → (go u t N).2 i = N i) : ∀ r v s N i, i < p → (talV go F T ex p us t r v s N).2 i = N i := by
  intro r
  induction r with
  | zero => intro v s N i hi; rfl
  | succ r ih =>
    intro v s N i hi
    unfold talV
    have hg : ∀ t', (go (us ||| 2 ^ v) t' (z_u N p v)).2 i = N i := fun t' => by rw [hgo _ _ _ i hi, u_ne _ _ (by omega)]
    split
    · split
      · exact ih _ _ _ i hi
      · rw [ih _ _ _ i hi]; exact hg _
    · exact ih _ _ _ i hi
theorem tal_pre : ∀ k p us t N i, i < p → (g_tal F T ex k p us t N).2 i = N i := by
  intro k
  induction k with
  | zero => intro p us t N i _; rfl
  | succ k ih =>
    intro p us t N i hi
    unfold g_tal
    exact talV_pre (fun u t N i hi => ih (p + 1) u t N i (by omega)) _ _ _ _ i hi
theorem polV_pre {go : Nat → (Nat → Nat) → Nat × (Nat → Nat)} {p us : Nat} (hgo : ∀ u N i, i < p → (go u N).2 i = N i) : ∀ r v s N i, i < p → (polV go F T ex p us r v s N).2 i = N i := by
  intro r
  induction r with
  | zero => intro v s N i hi; rfl
  | succ r ih =>
    intro v s N i hi
    unfold polV
    split
    · rw [ih _ _ _ i hi, hgo _ _ i hi, u_ne _ _ (by omega)]
    · exact ih _ _ _ i hi
theorem pol_pre : ∀ k p us N i, i < p → (g_pol F T ex k p us N).2 i = N i := by
  intro k
  induction k with
  | zero => intro p us N i _; rfl
  | succ k ih =>
    intro p us N i hi
    unfold g_pol
    exact polV_pre (fun u N i hi => ih (p + 1) u N i (by omega)) _ _ _ _ i hi
theorem e5_tally (hW : mw mt mn qf bf qt bt af at' ex h F T) : ∀ k p us t N, p + k = F.1 → us < 256 → t < 4096 → (∀ i, i < p → N i < 8) → z_Ev G (d + k + 6) k_X5_tally [.ref mt, .int (nI p), .int (nI us), .int (nI t)] (z_pax h mn (fun i => nI (N i))) (.inl (some (.int (nI (g_tal F T ex k p us t N).1))), z_pax h mn (fun i => nI ((g_tal F T ex k p us t N).2 i))) := by
  have n1 := y_n8 hW.2.1
  have n2 := y_n8 hW.2.2.1
  have m2 := y_m12 hW.2.2.1
  intro k
  induction k with
  | zero =>
    intro p us t N hk hu ht hb
    have hW' := mw_n (f := fun i => nI (N i)) hW
    have hM := hW'.1
    have hF := hW'.2.1
    have hT := hW'.2.2.1
    have hN : ∀ i, i < 8 → z_ai (z_pax h mn (fun i => nI (N i))) mn i = nI (N i) := fun i _ => by rw [pax_ai]
    refine en_X5_tally (b_X5_tally_0 (z_pu0V rfl) ?_)
    simp (disch := omega) only [l0, l1, l2, l3, l4, l5, l6, l7, l8, l9, l10, l11, l12, l13, l14, l15, l16, l18, l20, l22, l24, l30, l31, l39, l40, l48, l60, l154, l255, l256, l400, l2000, l6160, l14000, lm1, q_lt, q_le, q_eq, q_mI, q_mI', q_ltmI, q_in, q_bz0, q_bz1, q_bzn0, q_bzn1, q_bzb, q_bn0, q_bn1, q_shr, q_shl, q_1s, b_one, b_two, fa_and, fa_or, nI_add, n_mul, nI_clamp, z_rcs, true_and, and_true, if_true, if_false, y_kd hF, y_n hF, y_m hF, (y_row hF).1, (y_row hF).2.1, (y_row hF).2.2, (y_size hF).1, (y_size hF).2.1, (y_size hF).2.2, (y_first hF).1, (y_first hF).2.1, (y_first hF).2.2, (y_deg hF).1, (y_deg hF).2.1, (y_deg hF).2.2, (y_on hF).1, (y_on hF).2.1, (y_on hF).2.2, (y_join hF).1, (y_join hF).2.1, (y_join hF).2.2, y_Ln hF, y_Sz hF, y_Ft hF, y_Dg hF, y_On hF, y_kd hT, y_n hT, y_m hT, (y_row hT).1, (y_row hT).2.1, (y_row hT).2.2, (y_size hT).1, (y_size hT).2.1, (y_size hT).2.2, (y_first hT).1, (y_first hT).2.1, (y_first hT).2.2, (y_deg hT).1, (y_deg hT).2.1, (y_deg hT).2.2, (y_on hT).1, (y_on hT).2.1, (y_on hT).2.2, (y_join hT).1, (y_join hT).2.1, (y_join hT).2.2, y_Ln hT, y_Sz hT, y_Ft hT, y_Dg hT, y_On hT, hM.1, hM.2.1, hM.2.2.1, hM.2.2.2.1.1, hM.2.2.2.1.2.1, hM.2.2.2.1.2.2.1, hM.2.2.2.2.1.1, hM.2.2.2.2.1.2.1, hM.2.2.2.2.1.2.2.1, hM.2.2.2.2.2.1, hM.2.2.2.2.2.2.1, hM.2.2.2.2.2.2.2.1, hM.2.2.2.2.2.2.2.2, y_Jm hF, y_Jm hT, hN]
    rw [if_neg (by omega)]
    rfl
  | succ k ih =>
    intro p us t N hk hu ht hb
    have main : ∀ r v s N, T.1 ≤ v + r → v + r ≤ 8 → (0 < r → v + r = T.1) → (∀ i, i < p → N i < 8) → z_J G (d + (k + 1) + 6) (m_X5_tally z_pu0) (.inl (some (.int (nI (talV (fun u t N => g_tal F T ex k (p + 1) u t N) F T ex p us t r v s N).1))), z_pax h mn (fun i => nI ((talV (fun u t N => g_tal F T ex k (p + 1) u t N) F T ex p us t r v s N).2 i))) 23 [some (.ref mt), some (.int (nI p)), some (.int (nI us)), some (.int (nI t)), some (.int (nI s)), some (.int (nI v)), none] [] (z_pax h mn (fun i => nI (N i))) := by
      intro r
      induction r with
      | zero =>
        intro v s N hv hv8 hv2 hb
        have hW' := mw_n (f := fun i => nI (N i)) hW
        have hM := hW'.1
        have hF := hW'.2.1
        have hT := hW'.2.2.1
        have hN : ∀ i, i < 8 → z_ai (z_pax h mn (fun i => nI (N i))) mn i = nI (N i) := fun i _ => by rw [pax_ai]
        refine b_X5_tally_23 (z_pu0V rfl) ?_
        simp (disch := omega) only [l0, l1, l2, l3, l4, l5, l6, l7, l8, l9, l10, l11, l12, l13, l14, l15, l16, l18, l20, l22, l24, l30, l31, l39, l40, l48, l60, l154, l255, l256, l400, l2000, l6160, l14000, lm1, q_lt, q_le, q_eq, q_mI, q_mI', q_ltmI, q_in, q_bz0, q_bz1, q_bzn0, q_bzn1, q_bzb, q_bn0, q_bn1, q_shr, q_shl, q_1s, b_one, b_two, fa_and, fa_or, nI_add, n_mul, nI_clamp, z_rcs, true_and, and_true, if_true, if_false, y_kd hF, y_n hF, y_m hF, (y_row hF).1, (y_row hF).2.1, (y_row hF).2.2, (y_size hF).1, (y_size hF).2.1, (y_size hF).2.2, (y_first hF).1, (y_first hF).2.1, (y_first hF).2.2, (y_deg hF).1, (y_deg hF).2.1, (y_deg hF).2.2, (y_on hF).1, (y_on hF).2.1, (y_on hF).2.2, (y_join hF).1, (y_join hF).2.1, (y_join hF).2.2, y_Ln hF, y_Sz hF, y_Ft hF, y_Dg hF, y_On hF, y_kd hT, y_n hT, y_m hT, (y_row hT).1, (y_row hT).2.1, (y_row hT).2.2, (y_size hT).1, (y_size hT).2.1, (y_size hT).2.2, (y_first hT).1, (y_first hT).2.1, (y_first hT).2.2, (y_deg hT).1, (y_deg hT).2.1, (y_deg hT).2.2, (y_on hT).1, (y_on hT).2.1, (y_on hT).2.2, (y_join hT).1, (y_join hT).2.1, (y_join hT).2.2, y_Ln hT, y_Sz hT, y_Ft hT, y_Dg hT, y_On hT, hM.1, hM.2.1, hM.2.2.1, hM.2.2.2.1.1, hM.2.2.2.1.2.1, hM.2.2.2.1.2.2.1, hM.2.2.2.2.1.1, hM.2.2.2.2.1.2.1, hM.2.2.2.2.1.2.2.1, hM.2.2.2.2.2.1, hM.2.2.2.2.2.2.1, hM.2.2.2.2.2.2.2.1, hM.2.2.2.2.2.2.2.2, y_Jm hF, y_Jm hT, hN]
        rw [if_neg (by omega)]
        rfl
      | succ r ihr =>
        intro v s N hv hv9 hv2 hb
        have hW' := mw_n (f := fun i => nI (N i)) hW
        have hM := hW'.1
        have hF := hW'.2.1
        have hT := hW'.2.2.1
        have hN : ∀ i, i < 8 → z_ai (z_pax h mn (fun i => nI (N i))) mn i = nI (N i) := fun i _ => by rw [pax_ai]
        have hv3 := hv2 (by omega)
        have hv8 : v < 8 := by omega
        have pv := t_pow hv8
        have us2 := or_lt256 hu pv
        refine b_X5_tally_23 (z_pu0V rfl) ?_
        simp (disch := omega) only [l0, l1, l2, l3, l4, l5, l6, l7, l8, l9, l10, l11, l12, l13, l14, l15, l16, l18, l20, l22, l24, l30, l31, l39, l40, l48, l60, l154, l255, l256, l400, l2000, l6160, l14000, lm1, q_lt, q_le, q_eq, q_mI, q_mI', q_ltmI, q_in, q_bz0, q_bz1, q_bzn0, q_bzn1, q_bzb, q_bn0, q_bn1, q_shr, q_shl, q_1s, b_one, b_two, fa_and, fa_or, nI_add, n_mul, nI_clamp, z_rcs, true_and, and_true, if_true, if_false, y_kd hF, y_n hF, y_m hF, (y_row hF).1, (y_row hF).2.1, (y_row hF).2.2, (y_size hF).1, (y_size hF).2.1, (y_size hF).2.2, (y_first hF).1, (y_first hF).2.1, (y_first hF).2.2, (y_deg hF).1, (y_deg hF).2.1, (y_deg hF).2.2, (y_on hF).1, (y_on hF).2.1, (y_on hF).2.2, (y_join hF).1, (y_join hF).2.1, (y_join hF).2.2, y_Ln hF, y_Sz hF, y_Ft hF, y_Dg hF, y_On hF, y_kd hT, y_n hT, y_m hT, (y_row hT).1, (y_row hT).2.1, (y_row hT).2.2, (y_size hT).1, (y_size hT).2.1, (y_size hT).2.2, (y_first hT).1, (y_first hT).2.1, (y_first hT).2.2, (y_deg hT).1, (y_deg hT).2.1, (y_deg hT).2.2, (y_on hT).1, (y_on hT).2.1, (y_on hT).2.2, (y_join hT).1, (y_join hT).2.1, (y_join hT).2.2, y_Ln hT, y_Sz hT, y_Ft hT, y_Dg hT, y_On hT, hM.1, hM.2.1, hM.2.2.1, hM.2.2.2.1.1, hM.2.2.2.1.2.1, hM.2.2.2.1.2.2.1, hM.2.2.2.2.1.1, hM.2.2.2.2.1.2.1, hM.2.2.2.2.1.2.2.1, hM.2.2.2.2.2.1, hM.2.2.2.2.2.2.1, hM.2.2.2.2.2.2.2.1, hM.2.2.2.2.2.2.2.2, y_Jm hF, y_Jm hT, hN]
        rw [if_pos (by omega)]
        unfold talV
        by_cases c1 : us.testBit v = false
        · rw [if_pos c1, if_pos c1]
          refine ⟨_, _, e5_fit hM hF hT hN (by omega) hv8 ht hb, ?_⟩
          cases c3 : g_fit F T ex N p v t with
          | none =>
            rw [if_pos (by rfl)]
            exact ihr (v + 1) _ N (by omega) (by omega) (by omega) hb
          | some t' =>
            have ht' := fit_lt m2 ht c3
            rw [if_neg (show ¬ oI (some t') = mI from t_ne1 (by omega)), show oI (some t') = nI t' from rfl]
            simp (disch := omega) only [l0, l1, l2, l3, l4, l5, l6, l7, l8, l9, l10, l11, l12, l13, l14, l15, l16, l18, l20, l22, l24, l30, l31, l39, l40, l48, l60, l154, l255, l256, l400, l2000, l6160, l14000, lm1, q_lt, q_le, q_eq, q_mI, q_mI', q_ltmI, q_in, q_bz0, q_bz1, q_bzn0, q_bzn1, q_bzb, q_bn0, q_bn1, q_shr, q_shl, q_1s, b_one, b_two, fa_and, fa_or, nI_add, n_mul, nI_clamp, z_rcs, true_and, and_true, if_true, if_false, y_kd hF, y_n hF, y_m hF, (y_row hF).1, (y_row hF).2.1, (y_row hF).2.2, (y_size hF).1, (y_size hF).2.1, (y_size hF).2.2, (y_first hF).1, (y_first hF).2.1, (y_first hF).2.2, (y_deg hF).1, (y_deg hF).2.1, (y_deg hF).2.2, (y_on hF).1, (y_on hF).2.1, (y_on hF).2.2, (y_join hF).1, (y_join hF).2.1, (y_join hF).2.2, y_Ln hF, y_Sz hF, y_Ft hF, y_Dg hF, y_On hF, y_kd hT, y_n hT, y_m hT, (y_row hT).1, (y_row hT).2.1, (y_row hT).2.2, (y_size hT).1, (y_size hT).2.1, (y_size hT).2.2, (y_first hT).1, (y_first hT).2.1, (y_first hT).2.2, (y_deg hT).1, (y_deg hT).2.1, (y_deg hT).2.2, (y_on hT).1, (y_on hT).2.1, (y_on hT).2.2, (y_join hT).1, (y_join hT).2.1, (y_join hT).2.2, y_Ln hT, y_Sz hT, y_Ft hT, y_Dg hT, y_On hT, hM.1, hM.2.1, hM.2.2.1, hM.2.2.2.1.1, hM.2.2.2.1.2.1, hM.2.2.2.1.2.2.1, hM.2.2.2.2.1.1, hM.2.2.2.2.1.2.1, hM.2.2.2.2.1.2.2.1, hM.2.2.2.2.2.1, hM.2.2.2.2.2.2.1, hM.2.2.2.2.2.2.2.1, hM.2.2.2.2.2.2.2.2, y_Jm hF, y_Jm hT, hN, pax_pai, nu]
            have hb' : ∀ i, i < p + 1 → z_u N p v i < 8 := fun i hi => by
              by_cases e : i = p
              · rw [e, u_eq]; exact hv8
              · rw [u_ne _ _ e]; exact hb i (by omega)
            refine ⟨hM.1, _, _, ih (p + 1) (us ||| 2 ^ v) t' (z_u N p v) (by omega) us2 ht' hb', ?_⟩
            have pre := tal_pre (F := F) (T := T) (ex := ex) k (p + 1) (us ||| 2 ^ v) t' (z_u N p v)
            rw [nI_add]
            exact ihr (v + 1) _ _ (by omega) (by omega) (by omega) (fun i hi => by rw [pre i (by omega)]; exact hb' i (by omega))
        · rw [if_neg c1, if_neg c1]
          exact ihr (v + 1) s N (by omega) (by omega) (by omega) hb
    have hW' := mw_n (f := fun i => nI (N i)) hW
    have hM := hW'.1
    have hF := hW'.2.1
    have hT := hW'.2.2.1
    have hN : ∀ i, i < 8 → z_ai (z_pax h mn (fun i => nI (N i))) mn i = nI (N i) := fun i _ => by rw [pax_ai]
    have lnl := lnR_le (F := F) hb p (Nat.le_refl _)
    refine en_X5_tally (b_X5_tally_0 (z_pu0V rfl) ?_)
    simp (disch := omega) only [l0, l1, l2, l3, l4, l5, l6, l7, l8, l9, l10, l11, l12, l13, l14, l15, l16, l18, l20, l22, l24, l30, l31, l39, l40, l48, l60, l154, l255, l256, l400, l2000, l6160, l14000, lm1, q_lt, q_le, q_eq, q_mI, q_mI', q_ltmI, q_in, q_bz0, q_bz1, q_bzn0, q_bzn1, q_bzb, q_bn0, q_bn1, q_shr, q_shl, q_1s, b_one, b_two, fa_and, fa_or, nI_add, n_mul, nI_clamp, z_rcs, true_and, and_true, if_true, if_false, y_kd hF, y_n hF, y_m hF, (y_row hF).1, (y_row hF).2.1, (y_row hF).2.2, (y_size hF).1, (y_size hF).2.1, (y_size hF).2.2, (y_first hF).1, (y_first hF).2.1, (y_first hF).2.2, (y_deg hF).1, (y_deg hF).2.1, (y_deg hF).2.2, (y_on hF).1, (y_on hF).2.1, (y_on hF).2.2, (y_join hF).1, (y_join hF).2.1, (y_join hF).2.2, y_Ln hF, y_Sz hF, y_Ft hF, y_Dg hF, y_On hF, y_kd hT, y_n hT, y_m hT, (y_row hT).1, (y_row hT).2.1, (y_row hT).2.2, (y_size hT).1, (y_size hT).2.1, (y_size hT).2.2, (y_first hT).1, (y_first hT).2.1, (y_first hT).2.2, (y_deg hT).1, (y_deg hT).2.1, (y_deg hT).2.2, (y_on hT).1, (y_on hT).2.1, (y_on hT).2.2, (y_join hT).1, (y_join hT).2.1, (y_join hT).2.2, y_Ln hT, y_Sz hT, y_Ft hT, y_Dg hT, y_On hT, hM.1, hM.2.1, hM.2.2.1, hM.2.2.2.1.1, hM.2.2.2.1.2.1, hM.2.2.2.1.2.2.1, hM.2.2.2.2.1.1, hM.2.2.2.2.1.2.1, hM.2.2.2.2.1.2.2.1, hM.2.2.2.2.2.1, hM.2.2.2.2.2.2.1, hM.2.2.2.2.2.2.2.1, hM.2.2.2.2.2.2.2.2, y_Jm hF, y_Jm hT, hN]
    rw [if_pos (by omega)]
    refine ⟨_, _, e5_leastName hM hF hT hN (by omega), ?_⟩
    unfold g_ln
    exact main (T.1 - lnR F N p p) (lnR F N p p) 0 N (by omega) (by omega) (by omega) hb
theorem e5_polaritiesFrom (hW : mw mt mn qf bf qt bt af at' ex h F T) (hFT : T.1 = F.2.1) : ∀ k p us N, p + k = F.1 → us < 256 → (∀ i, i < p → N i < T.1) → z_Ev G (d + k + 6) k_X5_polaritiesFrom [.ref mt, .int (nI p), .int (nI us)] (z_pax h mn (fun i => nI (N i))) (.inl (some (.int (nI (g_pol F T ex k p us N).1))), z_pax h mn (fun i => nI ((g_pol F T ex k p us N).2 i))) := by
  have n1 := y_n8 hW.2.1
  have n2 := y_n8 hW.2.2.1
  have m2 := y_m12 hW.2.2.1
  intro k
  induction k with
  | zero =>
    intro p us N hk hu hb
    have hW' := mw_n (f := fun i => nI (N i)) hW
    have hM := hW'.1
    have hF := hW'.2.1
    have hT := hW'.2.2.1
    have hN : ∀ i, i < 8 → z_ai (z_pax h mn (fun i => nI (N i))) mn i = nI (N i) := fun i _ => by rw [pax_ai]
    refine en_X5_polaritiesFrom (b_X5_polaritiesFrom_0 (z_pu0V rfl) ?_)
    simp (disch := omega) only [l0, l1, l2, l3, l4, l5, l6, l7, l8, l9, l10, l11, l12, l13, l14, l15, l16, l18, l20, l22, l24, l30, l31, l39, l40, l48, l60, l154, l255, l256, l400, l2000, l6160, l14000, lm1, q_lt, q_le, q_eq, q_mI, q_mI', q_ltmI, q_in, q_bz0, q_bz1, q_bzn0, q_bzn1, q_bzb, q_bn0, q_bn1, q_shr, q_shl, q_1s, b_one, b_two, fa_and, fa_or, nI_add, n_mul, nI_clamp, z_rcs, true_and, and_true, if_true, if_false, y_kd hF, y_n hF, y_m hF, (y_row hF).1, (y_row hF).2.1, (y_row hF).2.2, (y_size hF).1, (y_size hF).2.1, (y_size hF).2.2, (y_first hF).1, (y_first hF).2.1, (y_first hF).2.2, (y_deg hF).1, (y_deg hF).2.1, (y_deg hF).2.2, (y_on hF).1, (y_on hF).2.1, (y_on hF).2.2, (y_join hF).1, (y_join hF).2.1, (y_join hF).2.2, y_Ln hF, y_Sz hF, y_Ft hF, y_Dg hF, y_On hF, y_kd hT, y_n hT, y_m hT, (y_row hT).1, (y_row hT).2.1, (y_row hT).2.2, (y_size hT).1, (y_size hT).2.1, (y_size hT).2.2, (y_first hT).1, (y_first hT).2.1, (y_first hT).2.2, (y_deg hT).1, (y_deg hT).2.1, (y_deg hT).2.2, (y_on hT).1, (y_on hT).2.1, (y_on hT).2.2, (y_join hT).1, (y_join hT).2.1, (y_join hT).2.2, y_Ln hT, y_Sz hT, y_Ft hT, y_Dg hT, y_On hT, hM.1, hM.2.1, hM.2.2.1, hM.2.2.2.1.1, hM.2.2.2.1.2.1, hM.2.2.2.1.2.2.1, hM.2.2.2.2.1.1, hM.2.2.2.2.1.2.1, hM.2.2.2.2.1.2.2.1, hM.2.2.2.2.2.1, hM.2.2.2.2.2.2.1, hM.2.2.2.2.2.2.2.1, hM.2.2.2.2.2.2.2.2, y_Jm hF, y_Jm hT, hN]
    rw [if_neg (by omega)]
    rfl
  | succ k ih =>
    intro p us N hk hu hb
    have main : ∀ r v s N, v + r = T.1 → (∀ i, i < p → N i < T.1) → z_J G (d + (k + 1) + 6) (m_X5_polaritiesFrom z_pu0) (.inl (some (.int (nI (polV (fun u N => g_pol F T ex k (p + 1) u N) F T ex p us r v s N).1))), z_pax h mn (fun i => nI ((polV (fun u N => g_pol F T ex k (p + 1) u N) F T ex p us r v s N).2 i))) 18 [some (.ref mt), some (.int (nI p)), some (.int (nI us)), some (.int (nI s)), some (.int (nI v))] [] (z_pax h mn (fun i => nI (N i))) := by
      intro r
      induction r with
      | zero =>
        intro v s N hv hb
        have hW' := mw_n (f := fun i => nI (N i)) hW
        have hM := hW'.1
        have hF := hW'.2.1
        have hT := hW'.2.2.1
        have hN : ∀ i, i < 8 → z_ai (z_pax h mn (fun i => nI (N i))) mn i = nI (N i) := fun i _ => by rw [pax_ai]
        refine b_X5_polaritiesFrom_18 (z_pu0V rfl) ?_
        simp (disch := omega) only [l0, l1, l2, l3, l4, l5, l6, l7, l8, l9, l10, l11, l12, l13, l14, l15, l16, l18, l20, l22, l24, l30, l31, l39, l40, l48, l60, l154, l255, l256, l400, l2000, l6160, l14000, lm1, q_lt, q_le, q_eq, q_mI, q_mI', q_ltmI, q_in, q_bz0, q_bz1, q_bzn0, q_bzn1, q_bzb, q_bn0, q_bn1, q_shr, q_shl, q_1s, b_one, b_two, fa_and, fa_or, nI_add, n_mul, nI_clamp, z_rcs, true_and, and_true, if_true, if_false, y_kd hF, y_n hF, y_m hF, (y_row hF).1, (y_row hF).2.1, (y_row hF).2.2, (y_size hF).1, (y_size hF).2.1, (y_size hF).2.2, (y_first hF).1, (y_first hF).2.1, (y_first hF).2.2, (y_deg hF).1, (y_deg hF).2.1, (y_deg hF).2.2, (y_on hF).1, (y_on hF).2.1, (y_on hF).2.2, (y_join hF).1, (y_join hF).2.1, (y_join hF).2.2, y_Ln hF, y_Sz hF, y_Ft hF, y_Dg hF, y_On hF, y_kd hT, y_n hT, y_m hT, (y_row hT).1, (y_row hT).2.1, (y_row hT).2.2, (y_size hT).1, (y_size hT).2.1, (y_size hT).2.2, (y_first hT).1, (y_first hT).2.1, (y_first hT).2.2, (y_deg hT).1, (y_deg hT).2.1, (y_deg hT).2.2, (y_on hT).1, (y_on hT).2.1, (y_on hT).2.2, (y_join hT).1, (y_join hT).2.1, (y_join hT).2.2, y_Ln hT, y_Sz hT, y_Ft hT, y_Dg hT, y_On hT, hM.1, hM.2.1, hM.2.2.1, hM.2.2.2.1.1, hM.2.2.2.1.2.1, hM.2.2.2.1.2.2.1, hM.2.2.2.2.1.1, hM.2.2.2.2.1.2.1, hM.2.2.2.2.1.2.2.1, hM.2.2.2.2.2.1, hM.2.2.2.2.2.2.1, hM.2.2.2.2.2.2.2.1, hM.2.2.2.2.2.2.2.2, y_Jm hF, y_Jm hT, hN]
        rw [if_neg (by omega)]
        rfl
      | succ r ihr =>
        intro v s N hv hb
        have hW' := mw_n (f := fun i => nI (N i)) hW
        have hM := hW'.1
        have hF := hW'.2.1
        have hT := hW'.2.2.1
        have hN : ∀ i, i < 8 → z_ai (z_pax h mn (fun i => nI (N i))) mn i = nI (N i) := fun i _ => by rw [pax_ai]
        have hv8 : v < 8 := by omega
        have pv := t_pow hv8
        have us2 := or_lt256 hu pv
        refine b_X5_polaritiesFrom_18 (z_pu0V rfl) ?_
        simp (disch := omega) only [l0, l1, l2, l3, l4, l5, l6, l7, l8, l9, l10, l11, l12, l13, l14, l15, l16, l18, l20, l22, l24, l30, l31, l39, l40, l48, l60, l154, l255, l256, l400, l2000, l6160, l14000, lm1, q_lt, q_le, q_eq, q_mI, q_mI', q_ltmI, q_in, q_bz0, q_bz1, q_bzn0, q_bzn1, q_bzb, q_bn0, q_bn1, q_shr, q_shl, q_1s, b_one, b_two, fa_and, fa_or, nI_add, n_mul, nI_clamp, z_rcs, true_and, and_true, if_true, if_false, y_kd hF, y_n hF, y_m hF, (y_row hF).1, (y_row hF).2.1, (y_row hF).2.2, (y_size hF).1, (y_size hF).2.1, (y_size hF).2.2, (y_first hF).1, (y_first hF).2.1, (y_first hF).2.2, (y_deg hF).1, (y_deg hF).2.1, (y_deg hF).2.2, (y_on hF).1, (y_on hF).2.1, (y_on hF).2.2, (y_join hF).1, (y_join hF).2.1, (y_join hF).2.2, y_Ln hF, y_Sz hF, y_Ft hF, y_Dg hF, y_On hF, y_kd hT, y_n hT, y_m hT, (y_row hT).1, (y_row hT).2.1, (y_row hT).2.2, (y_size hT).1, (y_size hT).2.1, (y_size hT).2.2, (y_first hT).1, (y_first hT).2.1, (y_first hT).2.2, (y_deg hT).1, (y_deg hT).2.1, (y_deg hT).2.2, (y_on hT).1, (y_on hT).2.1, (y_on hT).2.2, (y_join hT).1, (y_join hT).2.1, (y_join hT).2.2, y_Ln hT, y_Sz hT, y_Ft hT, y_Dg hT, y_On hT, hM.1, hM.2.1, hM.2.2.1, hM.2.2.2.1.1, hM.2.2.2.1.2.1, hM.2.2.2.1.2.2.1, hM.2.2.2.2.1.1, hM.2.2.2.2.1.2.1, hM.2.2.2.2.1.2.2.1, hM.2.2.2.2.2.1, hM.2.2.2.2.2.2.1, hM.2.2.2.2.2.2.2.1, hM.2.2.2.2.2.2.2.2, y_Jm hF, y_Jm hT, hN]
        rw [if_pos (by omega)]
        unfold polV
        by_cases c1 : us.testBit v = false
        · rw [if_pos c1]
          refine ⟨_, _, e5_isMutual hM hF hT hN (by omega) (by omega) (fun i hi => by have := hb i hi; omega), ?_⟩
          cases c2 : g_mut F N p v
          · rw [if_pos (by rfl), if_neg (fun e => by cases e.2.1)]
            exact ihr (v + 1) s N (by omega) hb
          · rw [if_neg (by decide)]
            refine ⟨hM.1, _, _, e5_fit hM hF hT hN (by omega) hv8 (by decide) (fun i hi => by have := hb i hi; omega), ?_⟩
            cases c3 : g_fit F T ex N p v 0 with
            | none =>
              rw [if_pos (by rfl), if_neg (fun e => e.2.2 rfl)]
              exact ihr (v + 1) _ N (by omega) hb
            | some t' =>
              have ht' := fit_lt m2 (by decide) c3
              rw [if_neg (show ¬ oI (some t') = mI from t_ne1 (by omega)), if_pos (show us.testBit v = false ∧ true = true ∧ some t' ≠ none from ⟨c1, rfl, fun e => by cases e⟩)]
              simp (disch := omega) only [l0, l1, l2, l3, l4, l5, l6, l7, l8, l9, l10, l11, l12, l13, l14, l15, l16, l18, l20, l22, l24, l30, l31, l39, l40, l48, l60, l154, l255, l256, l400, l2000, l6160, l14000, lm1, q_lt, q_le, q_eq, q_mI, q_mI', q_ltmI, q_in, q_bz0, q_bz1, q_bzn0, q_bzn1, q_bzb, q_bn0, q_bn1, q_shr, q_shl, q_1s, b_one, b_two, fa_and, fa_or, nI_add, n_mul, nI_clamp, z_rcs, true_and, and_true, if_true, if_false, y_kd hF, y_n hF, y_m hF, (y_row hF).1, (y_row hF).2.1, (y_row hF).2.2, (y_size hF).1, (y_size hF).2.1, (y_size hF).2.2, (y_first hF).1, (y_first hF).2.1, (y_first hF).2.2, (y_deg hF).1, (y_deg hF).2.1, (y_deg hF).2.2, (y_on hF).1, (y_on hF).2.1, (y_on hF).2.2, (y_join hF).1, (y_join hF).2.1, (y_join hF).2.2, y_Ln hF, y_Sz hF, y_Ft hF, y_Dg hF, y_On hF, y_kd hT, y_n hT, y_m hT, (y_row hT).1, (y_row hT).2.1, (y_row hT).2.2, (y_size hT).1, (y_size hT).2.1, (y_size hT).2.2, (y_first hT).1, (y_first hT).2.1, (y_first hT).2.2, (y_deg hT).1, (y_deg hT).2.1, (y_deg hT).2.2, (y_on hT).1, (y_on hT).2.1, (y_on hT).2.2, (y_join hT).1, (y_join hT).2.1, (y_join hT).2.2, y_Ln hT, y_Sz hT, y_Ft hT, y_Dg hT, y_On hT, hM.1, hM.2.1, hM.2.2.1, hM.2.2.2.1.1, hM.2.2.2.1.2.1, hM.2.2.2.1.2.2.1, hM.2.2.2.2.1.1, hM.2.2.2.2.1.2.1, hM.2.2.2.2.1.2.2.1, hM.2.2.2.2.2.1, hM.2.2.2.2.2.2.1, hM.2.2.2.2.2.2.2.1, hM.2.2.2.2.2.2.2.2, y_Jm hF, y_Jm hT, hN, pax_pai, nu]
              have hb' : ∀ i, i < p + 1 → z_u N p v i < T.1 := fun i hi => by
                by_cases e : i = p
                · rw [e, u_eq]; omega
                · rw [u_ne _ _ e]; exact hb i (by omega)
              refine ⟨hM.1, _, _, ih (p + 1) (us ||| 2 ^ v) (z_u N p v) (by omega) us2 hb', ?_⟩
              have pre := pol_pre (F := F) (T := T) (ex := ex) k (p + 1) (us ||| 2 ^ v) (z_u N p v)
              rw [nI_add]
              exact ihr (v + 1) _ _ (by omega) (fun i hi => by rw [pre i (by omega)]; exact hb' i (by omega))
        · rw [if_neg c1, if_neg (fun e => c1 e.1)]
          exact ihr (v + 1) s N (by omega) hb
    have hW' := mw_n (f := fun i => nI (N i)) hW
    have hM := hW'.1
    have hF := hW'.2.1
    have hT := hW'.2.2.1
    have hN : ∀ i, i < 8 → z_ai (z_pax h mn (fun i => nI (N i))) mn i = nI (N i) := fun i _ => by rw [pax_ai]
    refine en_X5_polaritiesFrom (b_X5_polaritiesFrom_0 (z_pu0V rfl) ?_)
    simp (disch := omega) only [l0, l1, l2, l3, l4, l5, l6, l7, l8, l9, l10, l11, l12, l13, l14, l15, l16, l18, l20, l22, l24, l30, l31, l39, l40, l48, l60, l154, l255, l256, l400, l2000, l6160, l14000, lm1, q_lt, q_le, q_eq, q_mI, q_mI', q_ltmI, q_in, q_bz0, q_bz1, q_bzn0, q_bzn1, q_bzb, q_bn0, q_bn1, q_shr, q_shl, q_1s, b_one, b_two, fa_and, fa_or, nI_add, n_mul, nI_clamp, z_rcs, true_and, and_true, if_true, if_false, y_kd hF, y_n hF, y_m hF, (y_row hF).1, (y_row hF).2.1, (y_row hF).2.2, (y_size hF).1, (y_size hF).2.1, (y_size hF).2.2, (y_first hF).1, (y_first hF).2.1, (y_first hF).2.2, (y_deg hF).1, (y_deg hF).2.1, (y_deg hF).2.2, (y_on hF).1, (y_on hF).2.1, (y_on hF).2.2, (y_join hF).1, (y_join hF).2.1, (y_join hF).2.2, y_Ln hF, y_Sz hF, y_Ft hF, y_Dg hF, y_On hF, y_kd hT, y_n hT, y_m hT, (y_row hT).1, (y_row hT).2.1, (y_row hT).2.2, (y_size hT).1, (y_size hT).2.1, (y_size hT).2.2, (y_first hT).1, (y_first hT).2.1, (y_first hT).2.2, (y_deg hT).1, (y_deg hT).2.1, (y_deg hT).2.2, (y_on hT).1, (y_on hT).2.1, (y_on hT).2.2, (y_join hT).1, (y_join hT).2.1, (y_join hT).2.2, y_Ln hT, y_Sz hT, y_Ft hT, y_Dg hT, y_On hT, hM.1, hM.2.1, hM.2.2.1, hM.2.2.2.1.1, hM.2.2.2.1.2.1, hM.2.2.2.1.2.2.1, hM.2.2.2.2.1.1, hM.2.2.2.2.1.2.1, hM.2.2.2.2.1.2.2.1, hM.2.2.2.2.2.1, hM.2.2.2.2.2.2.1, hM.2.2.2.2.2.2.2.1, hM.2.2.2.2.2.2.2.2, y_Jm hF, y_Jm hT, hN]
    rw [if_pos (by omega)]
    exact main T.1 0 0 N (by omega) hb
end FY
