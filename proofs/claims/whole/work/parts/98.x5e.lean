/-! the matcher: nameAfter, moves -/
section GA
variable {G : z_G} {d mt mn qf bf qt bt af at' : Nat} {ex : Bool} {h : z_H} {F T : Sc} {N : Nat → Nat}
theorem nmV_pre {go : Nat → (Nat → Nat) → Bool × (Nat → Nat)} {p us sk : Nat} (hgo : ∀ u N i, i < p → (go u N).2 i = N i) : ∀ r v s N i, i < p → (nmV go F T ex p us sk r v s N).2 i = N i := by
  intro r
  induction r with
  | zero => intro v s N i hi; rfl
  | succ r ih =>
    intro v s N i hi
    unfold nmV
    have hg : (go (us ||| 2 ^ v) (z_u N p v)).2 i = N i := by rw [hgo _ _ i hi, u_ne _ _ (by omega)]
    split
    · split
      · split
        · exact hg
        · rw [ih _ _ _ i hi]; exact hg
      · rw [ih _ _ _ i hi]; exact hg
    · exact ih _ _ _ i hi
theorem nmV_lt {go : Nat → (Nat → Nat) → Bool × (Nat → Nat)} {p us sk : Nat} : ∀ r v s N, v + r ≤ 8 → (nmV go F T ex p us sk r v s N).1 < 8 := by
  intro r
  induction r with
  | zero => intro v s N _; show 0 < 8; decide
  | succ r ih =>
    intro v s N hv
    unfold nmV
    split
    · split
      · split
        · show v < 8; omega
        · exact ih _ _ _ (by omega)
      · exact ih _ _ _ (by omega)
    · exact ih _ _ _ (by omega)
def g_nmA (F T : Sc) (ex : Bool) (p us sk : Nat) (N : Nat → Nat) : Nat × (Nat → Nat) := nmV (fun u N => g_fin F T ex (F.1 - (p + 1)) (p + 1) u 0 N) F T ex p us sk T.1 0 0 N
theorem e5_nameAfter (hW : mw mt mn qf bf qt bt af at' ex h F T) {p us sk : Nat} (hp : p < F.1) (hu : us < 256) (hsk : sk < 2 ^ 31) (hb : ∀ i, i < p → N i < 8) : z_Ev G (d + 15) k_X5_nameAfter [.ref mt, .int (nI p), .int (nI us), .int (nI sk)] (z_pax h mn (fun i => nI (N i))) (.inl (some (.int (nI (g_nmA F T ex p us sk N).1))), z_pax h mn (fun i => nI ((g_nmA F T ex p us sk N).2 i))) := by
  have n1 := y_n8 hW.2.1
  have n2 := y_n8 hW.2.2.1
  have m2 := y_m12 hW.2.2.1
  obtain ⟨k, ek⟩ : ∃ k, k = F.1 - (p + 1) := ⟨_, rfl⟩
  have fin := fun u N hu hb => e5_finish (G := G) (d := d + (8 - k)) hW k (p + 1) u 0 N (by omega) hu (by decide) hb
  rw [show d + (8 - k) + k + 6 = d + 14 by omega] at fin
  have main : ∀ r v s N, v + r = T.1 → s ≤ v → (∀ i, i < p → N i < 8) → z_J G (d + 15) (m_X5_nameAfter z_pu0) (.inl (some (.int (nI (nmV (fun u N => g_fin F T ex k (p + 1) u 0 N) F T ex p us sk r v s N).1))), z_pax h mn (fun i => nI ((nmV (fun u N => g_fin F T ex k (p + 1) u 0 N) F T ex p us sk r v s N).2 i))) 6 [some (.ref mt), some (.int (nI p)), some (.int (nI us)), some (.int (nI sk)), some (.int (nI s)), some (.int (nI v))] [] (z_pax h mn (fun i => nI (N i))) := by
    intro r
    induction r with
    | zero =>
      intro v s N hv hs hb
      have hW' := mw_n (f := fun i => nI (N i)) hW
      have hM := hW'.1
      have hF := hW'.2.1
      have hT := hW'.2.2.1
      have hN : ∀ i, i < 8 → z_ai (z_pax h mn (fun i => nI (N i))) mn i = nI (N i) := fun i _ => by rw [pax_ai]
      refine b_X5_nameAfter_6 (z_pu0V rfl) ?_
      simp (disch := omega) only [l0, l1, l2, l3, l4, l5, l6, l7, l8, l9, l10, l11, l12, l13, l14, l15, l16, l18, l20, l22, l24, l30, l31, l39, l40, l48, l60, l154, l255, l256, l400, l2000, l6160, l14000, lm1, q_lt, q_le, q_eq, q_mI, q_mI', q_ltmI, q_in, q_bz0, q_bz1, q_bzn0, q_bzn1, q_bzb, q_bn0, q_bn1, q_shr, q_shl, q_1s, b_one, b_two, fa_and, fa_or, nI_add, n_mul, nI_clamp, z_rcs, true_and, and_true, if_true, if_false, y_kd hF, y_n hF, y_m hF, (y_row hF).1, (y_row hF).2.1, (y_row hF).2.2, (y_size hF).1, (y_size hF).2.1, (y_size hF).2.2, (y_first hF).1, (y_first hF).2.1, (y_first hF).2.2, (y_deg hF).1, (y_deg hF).2.1, (y_deg hF).2.2, (y_on hF).1, (y_on hF).2.1, (y_on hF).2.2, (y_join hF).1, (y_join hF).2.1, (y_join hF).2.2, y_Ln hF, y_Sz hF, y_Ft hF, y_Dg hF, y_On hF, y_kd hT, y_n hT, y_m hT, (y_row hT).1, (y_row hT).2.1, (y_row hT).2.2, (y_size hT).1, (y_size hT).2.1, (y_size hT).2.2, (y_first hT).1, (y_first hT).2.1, (y_first hT).2.2, (y_deg hT).1, (y_deg hT).2.1, (y_deg hT).2.2, (y_on hT).1, (y_on hT).2.1, (y_on hT).2.2, (y_join hT).1, (y_join hT).2.1, (y_join hT).2.2, y_Ln hT, y_Sz hT, y_Ft hT, y_Dg hT, y_On hT, hM.1, hM.2.1, hM.2.2.1, hM.2.2.2.1.1, hM.2.2.2.1.2.1, hM.2.2.2.1.2.2.1, hM.2.2.2.2.1.1, hM.2.2.2.2.1.2.1, hM.2.2.2.2.1.2.2.1, hM.2.2.2.2.2.1, hM.2.2.2.2.2.2.1, hM.2.2.2.2.2.2.2.1, hM.2.2.2.2.2.2.2.2, y_Jm hF, y_Jm hT, hN]
      rw [if_neg (by omega)]
      rfl
    | succ r ihr =>
      intro v s N hv hs hb
      have hW' := mw_n (f := fun i => nI (N i)) hW
      have hM := hW'.1
      have hF := hW'.2.1
      have hT := hW'.2.2.1
      have hN : ∀ i, i < 8 → z_ai (z_pax h mn (fun i => nI (N i))) mn i = nI (N i) := fun i _ => by rw [pax_ai]
      have hv8 : v < 8 := by omega
      have pv := t_pow hv8
      have us2 := or_lt256 hu pv
      refine b_X5_nameAfter_6 (z_pu0V rfl) ?_
      simp (disch := omega) only [l0, l1, l2, l3, l4, l5, l6, l7, l8, l9, l10, l11, l12, l13, l14, l15, l16, l18, l20, l22, l24, l30, l31, l39, l40, l48, l60, l154, l255, l256, l400, l2000, l6160, l14000, lm1, q_lt, q_le, q_eq, q_mI, q_mI', q_ltmI, q_in, q_bz0, q_bz1, q_bzn0, q_bzn1, q_bzb, q_bn0, q_bn1, q_shr, q_shl, q_1s, b_one, b_two, fa_and, fa_or, nI_add, n_mul, nI_clamp, z_rcs, true_and, and_true, if_true, if_false, y_kd hF, y_n hF, y_m hF, (y_row hF).1, (y_row hF).2.1, (y_row hF).2.2, (y_size hF).1, (y_size hF).2.1, (y_size hF).2.2, (y_first hF).1, (y_first hF).2.1, (y_first hF).2.2, (y_deg hF).1, (y_deg hF).2.1, (y_deg hF).2.2, (y_on hF).1, (y_on hF).2.1, (y_on hF).2.2, (y_join hF).1, (y_join hF).2.1, (y_join hF).2.2, y_Ln hF, y_Sz hF, y_Ft hF, y_Dg hF, y_On hF, y_kd hT, y_n hT, y_m hT, (y_row hT).1, (y_row hT).2.1, (y_row hT).2.2, (y_size hT).1, (y_size hT).2.1, (y_size hT).2.2, (y_first hT).1, (y_first hT).2.1, (y_first hT).2.2, (y_deg hT).1, (y_deg hT).2.1, (y_deg hT).2.2, (y_on hT).1, (y_on hT).2.1, (y_on hT).2.2, (y_join hT).1, (y_join hT).2.1, (y_join hT).2.2, y_Ln hT, y_Sz hT, y_Ft hT, y_Dg hT, y_On hT, hM.1, hM.2.1, hM.2.2.1, hM.2.2.2.1.1, hM.2.2.2.1.2.1, hM.2.2.2.1.2.2.1, hM.2.2.2.2.1.1, hM.2.2.2.2.1.2.1, hM.2.2.2.2.1.2.2.1, hM.2.2.2.2.2.1, hM.2.2.2.2.2.2.1, hM.2.2.2.2.2.2.2.1, hM.2.2.2.2.2.2.2.2, y_Jm hF, y_Jm hT, hN]
      rw [if_pos (by omega)]
      unfold nmV
      by_cases c1 : us.testBit v = false
      · rw [if_pos c1]
        refine ⟨_, _, e5_fit hM hF hT hN (by omega) hv8 (by decide) hb, ?_⟩
        cases c3 : g_fit F T ex N p v 0 with
        | none =>
          rw [if_pos (by rfl), if_neg (fun e => e.2 rfl)]
          exact ihr (v + 1) _ N (by omega) (by omega) hb
        | some t' =>
          have ht' := fit_lt m2 (by decide) c3
          rw [if_neg (show ¬ oI (some t') = mI from t_ne1 (by omega)), if_pos (show us.testBit v = false ∧ some t' ≠ none from ⟨c1, fun e => by cases e⟩)]
          simp (disch := omega) only [l0, l1, l2, l3, l4, l5, l6, l7, l8, l9, l10, l11, l12, l13, l14, l15, l16, l18, l20, l22, l24, l30, l31, l39, l40, l48, l60, l154, l255, l256, l400, l2000, l6160, l14000, lm1, q_lt, q_le, q_eq, q_mI, q_mI', q_ltmI, q_in, q_bz0, q_bz1, q_bzn0, q_bzn1, q_bzb, q_bn0, q_bn1, q_shr, q_shl, q_1s, b_one, b_two, fa_and, fa_or, nI_add, n_mul, nI_clamp, z_rcs, true_and, and_true, if_true, if_false, y_kd hF, y_n hF, y_m hF, (y_row hF).1, (y_row hF).2.1, (y_row hF).2.2, (y_size hF).1, (y_size hF).2.1, (y_size hF).2.2, (y_first hF).1, (y_first hF).2.1, (y_first hF).2.2, (y_deg hF).1, (y_deg hF).2.1, (y_deg hF).2.2, (y_on hF).1, (y_on hF).2.1, (y_on hF).2.2, (y_join hF).1, (y_join hF).2.1, (y_join hF).2.2, y_Ln hF, y_Sz hF, y_Ft hF, y_Dg hF, y_On hF, y_kd hT, y_n hT, y_m hT, (y_row hT).1, (y_row hT).2.1, (y_row hT).2.2, (y_size hT).1, (y_size hT).2.1, (y_size hT).2.2, (y_first hT).1, (y_first hT).2.1, (y_first hT).2.2, (y_deg hT).1, (y_deg hT).2.1, (y_deg hT).2.2, (y_on hT).1, (y_on hT).2.1, (y_on hT).2.2, (y_join hT).1, (y_join hT).2.1, (y_join hT).2.2, y_Ln hT, y_Sz hT, y_Ft hT, y_Dg hT, y_On hT, hM.1, hM.2.1, hM.2.2.1, hM.2.2.2.1.1, hM.2.2.2.1.2.1, hM.2.2.2.1.2.2.1, hM.2.2.2.2.1.1, hM.2.2.2.2.1.2.1, hM.2.2.2.2.1.2.2.1, hM.2.2.2.2.2.1, hM.2.2.2.2.2.2.1, hM.2.2.2.2.2.2.2.1, hM.2.2.2.2.2.2.2.2, y_Jm hF, y_Jm hT, hN, pax_pai, nu]
          have hb' : ∀ i, i < p + 1 → z_u N p v i < 8 := fun i hi => by
            by_cases e : i = p
            · rw [e, u_eq]; exact hv8
            · rw [u_ne _ _ e]; exact hb i (by omega)
          refine ⟨hM.1, _, _, fin (us ||| 2 ^ v) (z_u N p v) us2 hb', ?_⟩
          have pre := fin_pre (F := F) (T := T) (ex := ex) k (p + 1) (us ||| 2 ^ v) 0 (z_u N p v)
          have hb2 : ∀ i, i < p → (g_fin F T ex k (p + 1) (us ||| 2 ^ v) 0 (z_u N p v)).2 i < 8 := fun i hi => by rw [pre i (by omega)]; exact hb' i (by omega)
          cases c4 : (g_fin F T ex k (p + 1) (us ||| 2 ^ v) 0 (z_u N p v)).1
          · rw [if_pos (by rfl), if_neg (by decide)]
            exact ihr (v + 1) _ _ (by omega) (by omega) hb2
          · rw [if_neg (by decide), if_pos rfl]
            by_cases c5 : s = sk
            · rw [if_pos c5, if_pos c5]
            · rw [if_neg c5, if_neg c5]
              exact ihr (v + 1) _ _ (by omega) (by omega) hb2
      · rw [if_neg c1, if_neg (fun e => c1 e.1)]
        exact ihr (v + 1) s N (by omega) (by omega) hb
  refine en_X5_nameAfter (b_X5_nameAfter_0 (z_pu0V rfl) ?_)
  have := main T.1 0 0 N (by omega) (Nat.le_refl _) hb
  rw [ek] at this
  exact this
end GA
