/-! the matcher: orbits, names by number -/
def g_uni (O : Nat → Nat) (p q : Nat) : Nat → Nat := fun i => if i < 8 ∧ O i = (if O p < O q then O q else O p) then (if O q < O p then O q else O p) else O i
def g_unN (F : Sc) (N O : Nat → Nat) : Nat → Nat := it (fun p O => g_uni O p (N p)) O F.1
def nmV (go : Nat → (Nat → Nat) → Bool × (Nat → Nat)) (F T : Sc) (ex : Bool) (p us sk : Nat) : Nat → Nat → Nat → (Nat → Nat) → Nat × (Nat → Nat)
  | 0, _, _, N => (0, N)
  | r + 1, v, s, N => if us.testBit v = false ∧ g_fit F T ex N p v 0 ≠ none then
      (if (go (us ||| 2 ^ v) (z_u N p v)).1 then (if s = sk then (v, (go (us ||| 2 ^ v) (z_u N p v)).2) else nmV go F T ex p us sk r (v + 1) (s + 1) (go (us ||| 2 ^ v) (z_u N p v)).2) else nmV go F T ex p us sk r (v + 1) s (go (us ||| 2 ^ v) (z_u N p v)).2)
    else nmV go F T ex p us sk r (v + 1) s N
def movV (go : Nat → (Nat → Nat) → Bool × (Nat → Nat)) (F T : Sc) (ex : Bool) (p : Nat) : Nat → Nat → Nat → (Nat → Nat) → (Nat → Nat) → Nat × (Nat → Nat) × (Nat → Nat)
  | 0, _, m, N, O => (m, N, O)
  | r + 1, v, m, N, O => if (g_twT F p).testBit v then movV go F T ex p r (v + 1) (m + 1) N (g_uni O p v) else
      match g_fit F T ex N p v 0 with
      | none => movV go F T ex p r (v + 1) m N O
      | some _ => if (go ((2 ^ p - 1) ||| 2 ^ v) (z_u N p v)).1 then movV go F T ex p r (v + 1) (m + 1) (go ((2 ^ p - 1) ||| 2 ^ v) (z_u N p v)).2 (g_unN F (go ((2 ^ p - 1) ||| 2 ^ v) (z_u N p v)).2 O) else movV go F T ex p r (v + 1) m (go ((2 ^ p - 1) ||| 2 ^ v) (z_u N p v)).2 O
def idN (p : Nat) (N : Nat → Nat) : Nat → Nat := fun i => if i < p then i else N i
def g_mov (F T : Sc) (ex : Bool) (p : Nat) (N O : Nat → Nat) : Nat × (Nat → Nat) × (Nat → Nat) := movV (fun u N => g_fin F T ex (F.1 - (p + 1)) (p + 1) u 0 N) F T ex p (F.1 - (p + 1)) (p + 1) 1 (idN p N) O
section FZ
variable {G : z_G} {d mt mn qf bf qt bt af at' : Nat} {ex : Bool} {h : z_H} {F T : Sc} {N : Nat → Nat}
theorem pax_comm (h : z_H) {a b : Nat} (f g : Nat → Int32) (hab : a ≠ b) : z_pax (z_pax h a f) b g = z_pax (z_pax h b g) a f := by
  show (h.1, z_kd h, z_ln h, z_oi h, z_or h, z_u (z_u (z_ai h) a f) b g, z_al h, z_ar h) = (h.1, z_kd h, z_ln h, z_oi h, z_or h, z_u (z_u (z_ai h) b g) a f, z_al h, z_ar h)
  rw [u_comm _ _ _ hab]
theorem uni_lt {O : Nat → Nat} (hO : ∀ i, i < 8 → O i < 8) {p q : Nat} (hp : p < 8) (hq : q < 8) : ∀ i, i < 8 → g_uni O p q i < 8 := by
  intro i hi
  have h1 := hO p hp
  have h2 := hO q hq
  have h3 := hO i hi
  have h4 : (if O q < O p then O q else O p) < 8 := by split <;> assumption
  unfold g_uni
  by_cases c : i < 8 ∧ O i = (if O p < O q then O q else O p)
  · rw [if_pos c]; exact h4
  · rw [if_neg c]; exact h3
theorem unN_lt {O : Nat → Nat} (hO : ∀ i, i < 8 → O i < 8) (hN : ∀ i, i < F.1 → N i < 8) (h8 : F.1 ≤ 8) : ∀ i, i < 8 → g_unN F N O i < 8 := by
  have key : ∀ k, k ≤ F.1 → ∀ i, i < 8 → it (fun p O => g_uni O p (N p)) O k i < 8 := by
    intro k
    induction k with
    | zero => intro _; exact hO
    | succ k ih =>
      intro hk
      rw [it_s]
      exact uni_lt (ih (by omega)) (by omega) (hN k (by omega))
  exact key _ (Nat.le_refl _)
theorem e5_unite {a : Nat} {O : Nat → Nat} (k1 : z_kd h a = 1) (k2 : z_ln h a = 8) (hO : ∀ i, i < 8 → O i < 8) {p q : Nat} (hp : p < 8) (hq : q < 8) : z_Ev G (d + 4) k_X5_unite [.ref a, .int (nI p), .int (nI q)] (z_pax h a (fun i => nI (O i))) (.inl none, z_pax h a (fun i => nI (g_uni O p q i))) := by
  have h1 := hO p hp
  have h2 := hO q hq
  refine en_X5_unite (b_X5_unite_0 (z_pu0V rfl) ?_)
  have kd : ∀ f, z_kd (z_pax h a f) a = 1 := fun f => k1
  have vi : ∀ f i, i < 8 → vp_in (nI i) (z_ln (z_pax h a f) a) := fun f i hi => by
    show vp_in (nI i) (z_ln h a); rw [k2]; exact vp_in_nI hi (by decide)
  rw [nI_clamp (show p < 2 ^ 31 by omega), nI_clamp (show q < 2 ^ 31 by omega), pax_ai]
  refine ⟨kd _, vi _ p hp, kd _, vi _ q hq, _, _, e_min, kd _, vi _ p hp, kd _, vi _ q hq, _, _, by rw [pax_ai]; exact e_max, ?_⟩
  rw [show (if nI (O q) < nI (O p) then nI (O q) else nI (O p)) = nI (if O q < O p then O q else O p) by
    by_cases c : O q < O p
    · rw [if_pos c, if_pos (nI_lt c (by omega))]
    · rw [if_neg c, if_neg (nI_nlt (by omega) (by omega))], show (if nI (O p) < nI (O q) then nI (O q) else nI (O p)) = nI (if O p < O q then O q else O p) by
    by_cases c : O p < O q
    · rw [if_pos c, if_pos (nI_lt c (by omega))]
    · rw [if_neg c, if_neg (nI_nlt (by omega) (by omega))]]
  obtain ⟨hi, ehi⟩ : ∃ x, x = (if O p < O q then O q else O p) := ⟨_, rfl⟩
  obtain ⟨lo, elo⟩ : ∃ x, x = (if O q < O p then O q else O p) := ⟨_, rfl⟩
  have hhi : hi < 8 := by rw [ehi]; split <;> assumption
  have e0 : (fun i => nI (g_uni O p q i)) = fun i => nI (if i < 8 ∧ O i = hi then lo else O i) := by
    funext i
    unfold g_uni
    rw [← ehi, ← elo]
  rw [e0, ← ehi, ← elo]
  have key := z_forH (G := G) (d := d + 4) (μ := m_X5_unite z_pu0) (r := (.inl none, z_pax h a (fun i => nI (if i < 8 ∧ O i = hi then lo else O i)))) (pc := 24) (fun k (_ : Unit) => [some (.ref a), none, none, some (.int (nI lo)), some (.int (nI hi)), some (.int (nI k))]) (fun k _ => z_pax h a (fun i => nI (if i < k ∧ O i = hi then lo else O i))) (fun _ u => u) () 8 ?_ ?_
  · rw [show (fun i => nI (if i < 0 ∧ O i = hi then lo else O i)) = fun i => nI (O i) from funext fun i => by rw [if_neg (by omega)]] at key
    exact key
  · intro k hk hJ
    have hk3 := hO k hk
    refine b_X5_unite_24 (z_pu0V rfl) ?_
    rw [if_pos (nI_lt hk (by decide)), nI_clamp (by omega), pax_ai]
    refine ⟨kd _, vi _ k hk, ?_⟩
    have e1 : (if k < k ∧ O k = hi then lo else O k) = O k := if_neg (by omega)
    show if nI (if k < k ∧ O k = hi then lo else O k) = nI hi then _ else _
    rw [e1, nI_add]
    by_cases c : O k = hi
    · rw [if_pos (by rw [c]), pax_pai, nu]
      refine ⟨kd _, vi _ k hk, ?_⟩
      rw [show (fun i => nI (z_u (fun i => if i < k ∧ O i = hi then lo else O i) k lo i)) = fun i => nI (if i < k + 1 ∧ O i = hi then lo else O i) from funext fun i => by
        by_cases e : i = k
        · subst e; rw [u_eq, if_pos ⟨by omega, c⟩]
        · rw [u_ne _ _ e]
          by_cases c2 : i < k ∧ O i = hi
          · rw [if_pos c2, if_pos ⟨by omega, c2.2⟩]
          · rw [if_neg c2, if_neg (fun f => c2 ⟨by omega, f.2⟩)]]
      exact hJ
    · rw [if_neg (fun e => c ((nI_eq (by omega) (by omega)).mp e))]
      rw [show (fun i => nI (if i < k ∧ O i = hi then lo else O i)) = fun i => nI (if i < k + 1 ∧ O i = hi then lo else O i) from funext fun i => by
        by_cases e : i = k
        · subst e; rw [if_neg (by omega), if_neg (fun f => c f.2)]
        · by_cases c2 : i < k ∧ O i = hi
          · rw [if_pos c2, if_pos ⟨by omega, c2.2⟩]
          · rw [if_neg c2, if_neg (fun f => c2 ⟨by omega, f.2⟩)]]
      exact hJ
  · refine b_X5_unite_24 (z_pu0V rfl) ?_
    rw [if_neg (nI_nlt (Nat.le_refl _) (by decide))]
theorem mw_o {f : Nat → Int32} (hW : mw mt mn qf bf qt bt af at' ex h F T) {ob : Nat} (ho : ob ≠ af ∧ ob ≠ at' ∧ (∀ j, j < 8 → j ≠ 3 → j ≠ 4 → ob ≠ bf + j) ∧ (∀ j, j < 8 → j ≠ 3 → j ≠ 4 → ob ≠ bt + j)) : mw mt mn qf bf qt bt af at' ex (z_pax h ob f) F T := mw_px hW ho.1 ho.2.1 ho.2.2.1 ho.2.2.2
theorem e5_uniteNamed (hW : mw mt mn qf bf qt bt af at' ex h F T) {ob : Nat} (ho : ob ≠ af ∧ ob ≠ at' ∧ (∀ j, j < 8 → j ≠ 3 → j ≠ 4 → ob ≠ bf + j) ∧ (∀ j, j < 8 → j ≠ 3 → j ≠ 4 → ob ≠ bt + j)) (hob : mn ≠ ob) (k1 : z_kd h ob = 1) (k2 : z_ln h ob = 8) {O : Nat → Nat} (hO : ∀ i, i < 8 → O i < 8) (hb : ∀ i, i < F.1 → N i < 8) : z_Ev G (d + 5) k_X5_uniteNamed [.ref mt, .ref ob] (z_pax (z_pax h mn (fun i => nI (N i))) ob (fun i => nI (O i))) (.inl none, z_pax (z_pax h mn (fun i => nI (N i))) ob (fun i => nI (g_unN F N O i))) := by
  have n1 := y_n8 hW.2.1
  refine en_X5_uniteNamed (b_X5_uniteNamed_0 (z_pu0V rfl) ?_)
  have hlt : ∀ k, k ≤ F.1 → ∀ i, i < 8 → it (fun p O => g_uni O p (N p)) O k i < 8 := by
    intro k
    induction k with
    | zero => intro _; exact hO
    | succ k ih =>
      intro hk
      rw [it_s]
      exact uni_lt (ih (by omega)) (by omega) (hb k (by omega))
  refine z_forH (fun k (_ : Nat → Nat) => [some (.ref mt), some (.ref ob), some (.int (nI k))]) (fun _ O => z_pax (z_pax h mn (fun i => nI (N i))) ob (fun i => nI (O i))) (fun p O => g_uni O p (N p)) O F.1 ?_ ?_
  · intro p hp hJ
    have hO1 := hlt p (by omega)
    obtain ⟨O1, eO⟩ : ∃ O1, O1 = it (fun p O => g_uni O p (N p)) O p := ⟨_, rfl⟩
    rw [← eO] at hJ hO1 ⊢
    have hW' := mw_o (f := fun i => nI (O1 i)) (mw_n (f := fun i => nI (N i)) hW) ho
    have hM := hW'.1
    have hF := hW'.2.1
    have hT := hW'.2.2.1
    have hN : ∀ i, i < 8 → z_ai (z_pax (z_pax h mn (fun i => nI (N i))) ob (fun i => nI (O1 i))) mn i = nI (N i) := fun i _ => by
      rw [show z_ai (z_pax (z_pax h mn (fun i => nI (N i))) ob (fun i => nI (O1 i))) mn = z_ai (z_pax h mn (fun i => nI (N i))) mn from u_ne _ _ hob, pax_ai]
    have hNp := hb p hp
    refine b_X5_uniteNamed_2 (z_pu0V rfl) ?_
    simp (disch := omega) only [l0, l1, l2, l3, l4, l5, l6, l7, l8, l9, l10, l11, l12, l13, l14, l15, l16, l18, l20, l22, l24, l30, l31, l39, l40, l48, l60, l154, l255, l256, l400, l2000, l6160, l14000, lm1, q_lt, q_le, q_eq, q_mI, q_mI', q_ltmI, q_in, q_bz0, q_bz1, q_bzn0, q_bzn1, q_bzb, q_bn0, q_bn1, q_shr, q_shl, q_1s, b_one, b_two, fa_and, fa_or, nI_add, n_mul, nI_clamp, z_rcs, true_and, and_true, if_true, if_false, y_kd hF, y_n hF, y_m hF, (y_row hF).1, (y_row hF).2.1, (y_row hF).2.2, (y_size hF).1, (y_size hF).2.1, (y_size hF).2.2, (y_first hF).1, (y_first hF).2.1, (y_first hF).2.2, (y_deg hF).1, (y_deg hF).2.1, (y_deg hF).2.2, (y_on hF).1, (y_on hF).2.1, (y_on hF).2.2, (y_join hF).1, (y_join hF).2.1, (y_join hF).2.2, y_Ln hF, y_Sz hF, y_Ft hF, y_Dg hF, y_On hF, y_kd hT, y_n hT, y_m hT, (y_row hT).1, (y_row hT).2.1, (y_row hT).2.2, (y_size hT).1, (y_size hT).2.1, (y_size hT).2.2, (y_first hT).1, (y_first hT).2.1, (y_first hT).2.2, (y_deg hT).1, (y_deg hT).2.1, (y_deg hT).2.2, (y_on hT).1, (y_on hT).2.1, (y_on hT).2.2, (y_join hT).1, (y_join hT).2.1, (y_join hT).2.2, y_Ln hT, y_Sz hT, y_Ft hT, y_Dg hT, y_On hT, hM.1, hM.2.1, hM.2.2.1, hM.2.2.2.1.1, hM.2.2.2.1.2.1, hM.2.2.2.1.2.2.1, hM.2.2.2.2.1.1, hM.2.2.2.2.1.2.1, hM.2.2.2.2.1.2.2.1, hM.2.2.2.2.2.1, hM.2.2.2.2.2.2.1, hM.2.2.2.2.2.2.2.1, hM.2.2.2.2.2.2.2.2, y_Jm hF, y_Jm hT, hN, hp]
    exact ⟨_, e5_unite (h := z_pax h mn (fun i => nI (N i))) k1 k2 hO1 (show p < 8 by omega) hNp, hJ⟩
  · have hW' := mw_o (f := fun i => nI (it (fun p O => g_uni O p (N p)) O F.1 i)) (mw_n (f := fun i => nI (N i)) hW) ho
    have hM := hW'.1
    have hF := hW'.2.1
    refine b_X5_uniteNamed_2 (z_pu0V rfl) ?_
    rw [hM.2.1, z_rcs, y_n hF, if_neg (nI_nlt (Nat.le_refl _) (by omega))]
    exact ⟨hM.1, y_kd hF, rfl⟩
theorem finV_ok {go : Nat → Nat → (Nat → Nat) → Bool × (Nat → Nat)} {p us t k : Nat} (hgo : ∀ u t N, (go u t N).1 = true → (∀ i, i < p + 1 → (go u t N).2 i = N i) ∧ ∀ i, p + 1 ≤ i → i < p + 1 + k → (go u t N).2 i < T.1) : ∀ r v fl N, v + r ≤ T.1 → (finV go F T ex p us t r v fl N).1 = true → ∀ i, p ≤ i → i < p + (k + 1) → (finV go F T ex p us t r v fl N).2 i < T.1 := by
  intro r
  induction r with
  | zero => intro v fl N _ e; cases e
  | succ r ih =>
    intro v fl N hv e i h1 h2
    unfold finV at e ⊢
    split at e
    · rename_i c
      rw [if_pos c]
      split at e
      · rename_i c2
        exact ih (v + 1) _ _ (by omega) e i h1 h2
      · rename_i t' c2
        split at e
        · rename_i c3
          rw [if_pos c3]
          obtain ⟨g1, g2⟩ := hgo _ _ _ c3
          by_cases e1 : i = p
          · rw [e1, g1 p (by omega), u_eq]; omega
          · exact g2 i (by omega) (by omega)
        · rename_i c3
          rw [if_neg c3]
          exact ih (v + 1) _ _ (by omega) e i h1 h2
    · rename_i c
      rw [if_neg c]
      exact ih (v + 1) _ _ (by omega) e i h1 h2
theorem fin_ok : ∀ k p us t N, (g_fin F T ex k p us t N).1 = true → ∀ i, p ≤ i → i < p + k → (g_fin F T ex k p us t N).2 i < T.1 := by
  intro k
  induction k with
  | zero => intro p us t N _ i h1 h2; omega
  | succ k ih =>
    intro p us t N e i h1 h2
    unfold g_fin at e ⊢
    exact finV_ok (k := k) (fun u t N e => ⟨fun i hi => fin_pre k (p + 1) u t N i hi, fun i h1 h2 => ih (p + 1) u t N e i h1 h2⟩) _ _ _ _ (by omega) e i h1 h2
end FZ
