/-! the matcher: moves -/
theorem pax_pai2 (h : z_H) {a b : Nat} (f g : Nat → Int32) (k : Nat) (v : Int32) (hab : a ≠ b) : z_pai (z_pax (z_pax h a f) b g) a k v = z_pax (z_pax h a (z_u f k v)) b g := by
  rw [pax_comm h f g hab, pax_pai, pax_comm h g _ (fun e => hab e.symm)]
section GC
variable {G : z_G} {d mt mn qf bf qt bt af at' : Nat} {ex : Bool} {h : z_H} {F T : Sc} {N : Nat → Nat}
theorem e5_moves (hW : mw mt mn qf bf qt bt af at' ex h F T) (hFT : F.1 = T.1) {ob : Nat} (ho : ob ≠ af ∧ ob ≠ at' ∧ (∀ j, j < 8 → j ≠ 3 → j ≠ 4 → ob ≠ bf + j) ∧ (∀ j, j < 8 → j ≠ 3 → j ≠ 4 → ob ≠ bt + j)) (hob : mn ≠ ob) (k1 : z_kd h ob = 1) (k2 : z_ln h ob = 8) {O : Nat → Nat} (hO : ∀ i, i < 8 → O i < 8) {p : Nat} (hp : p < F.1) : z_Ev G (d + 15) k_X5_moves [.ref mt, .int (nI p), .ref ob] (z_pax (z_pax h mn (fun i => nI (N i))) ob (fun i => nI (O i))) (.inl (some (.int (nI (g_mov F T ex p N O).1))), z_pax (z_pax h mn (fun i => nI ((g_mov F T ex p N O).2.1 i))) ob (fun i => nI ((g_mov F T ex p N O).2.2 i))) := by
  have n1 := y_n8 hW.2.1
  have n2 := y_n8 hW.2.2.1
  have m2 := y_m12 hW.2.2.1
  have pp := t_pow (show p < 8 by omega)
  have pp0 := Nat.two_pow_pos p
  obtain ⟨k, ek⟩ : ∃ k, k = F.1 - (p + 1) := ⟨_, rfl⟩
  have hWo : ∀ f, mw mt mn qf bf qt bt af at' ex (z_pax h ob f) F T := fun f => mw_o hW ho
  have fin : ∀ (O : Nat → Nat) u N, u < 256 → (∀ i, i < p + 1 → N i < 8) → z_Ev G (d + 14) k_X5_finish [.ref mt, .int (nI (p + 1)), .int (nI u), .int (nI 0)] (z_pax (z_pax h mn (fun i => nI (N i))) ob (fun i => nI (O i))) (.inl (some (.int (nI (g_fin F T ex k (p + 1) u 0 N).1.toNat))), z_pax (z_pax h mn (fun i => nI ((g_fin F T ex k (p + 1) u 0 N).2 i))) ob (fun i => nI (O i))) := by
    intro O u N hu hb
    have f1 := e5_finish (G := G) (d := d + (8 - k)) (hWo (fun i => nI (O i))) k (p + 1) u 0 N (by omega) hu (by decide) hb
    rw [show d + (8 - k) + k + 6 = d + 14 by omega, pax_comm h _ _ (fun e => hob e.symm), pax_comm h _ _ (fun e => hob e.symm)] at f1
    exact f1
  have hws : ∀ (N O : Nat → Nat), mw mt mn qf bf qt bt af at' ex (z_pax (z_pax h mn (fun i => nI (N i))) ob (fun i => nI (O i))) F T := fun N O => mw_o (mw_n hW) ho
  have hns : ∀ (N O : Nat → Nat) i, i < 8 → z_ai (z_pax (z_pax h mn (fun i => nI (N i))) ob (fun i => nI (O i))) mn i = nI (N i) := fun N O i _ => by
    rw [show z_ai (z_pax (z_pax h mn (fun i => nI (N i))) ob (fun i => nI (O i))) mn = z_ai (z_pax h mn (fun i => nI (N i))) mn from u_ne _ _ hob, pax_ai]
  have main : ∀ r v m N O (R : z_Res), v + r = F.1 → p < v → (∀ i, i < p → N i < 8) → (∀ i, i < 8 → O i < 8) → R = (.inl (some (.int (nI (movV (fun u N => g_fin F T ex k (p + 1) u 0 N) F T ex p r v m N O).1))), z_pax (z_pax h mn (fun i => nI ((movV (fun u N => g_fin F T ex k (p + 1) u 0 N) F T ex p r v m N O).2.1 i))) ob (fun i => nI ((movV (fun u N => g_fin F T ex k (p + 1) u 0 N) F T ex p r v m N O).2.2 i))) → z_J G (d + 15) (m_X5_moves z_pu0) R 38 [some (.ref mt), some (.int (nI p)), some (.ref ob), some (.int (nI m)), some (.int (nI (2 ^ p - 1))), some (.int (nI v))] [] (z_pax (z_pax h mn (fun i => nI (N i))) ob (fun i => nI (O i))) := by
    intro r
    induction r with
    | zero =>
      intro v m N O R hv hpv hb hO eR
      have hM := (hws N O).1
      have hF := (hws N O).2.1
      refine b_X5_moves_38 (z_pu0V rfl) ?_
      rw [hM.2.1, z_rcs, y_n hF, if_neg (nI_nlt (by omega) (by omega))]
      exact ⟨hM.1, y_kd hF, eR⟩
    | succ r ihr =>
      intro v m N O R hv hpv hb hO eR
      have hM := (hws N O).1
      have hF := (hws N O).2.1
      have hT := (hws N O).2.2.1
      have hN := hns N O
      have hv8 : v < 8 := by omega
      have pv := t_pow hv8
      have us2 := or_lt256 (show 2 ^ p - 1 < 256 by omega) pv
      have tl := tw_lt (S := F) n1.2 p
      have hM7 := hM.2.2.2.1.2.2.2 p (by omega)
      refine b_X5_moves_38 (z_pu0V rfl) ?_
      rw [hM.2.1, z_rcs, y_n hF, if_pos (nI_lt (by omega) (by omega)), hM.2.2.2.1.1, z_rcs, nI_clamp (show p < 2 ^ 31 by omega), hM7]
      refine ⟨hM.1, y_kd hF, hM.1, hM.2.2.2.1.2.1, by rw [hM.2.2.2.1.2.2.1]; exact vp_in_nI (by omega) (by decide), ?_⟩
      have bit := n_bit (x := g_twT F p) (p := v) (by omega) (by omega)
      rw [show (nI (g_twT F p) >>> (nI v &&& nI 31)) &&& nI 1 = nI ((g_twT F p).testBit v).toNat from bit, nI_add, nI_add, nI_add]
      unfold movV at eR
      cases c1 : (g_twT F p).testBit v
      · rw [c1, if_neg (by decide)] at eR
        rw [if_pos (by rfl)]
        refine ⟨hM.1, _, _, e5_fit (d := d + 9) hM hF hT hN (by omega) hv8 (by decide) hb, ?_⟩
        cases c3 : g_fit F T ex N p v 0 with
        | none =>
          rw [c3] at eR
          rw [if_pos (by rfl)]
          exact ihr (v + 1) m N O R (by omega) (by omega) hb hO eR
        | some t' =>
          rw [c3] at eR
          have ht' := fit_lt m2 (by decide) c3
          rw [if_neg (show ¬ oI (some t') = mI from t_ne1 (by omega)), hM.2.2.2.2.2.2.1, z_rcs, pax_pai2 _ _ _ _ _ hob, nu, show nI 1 <<< (nI v &&& nI 31) = nI (2 ^ v) from n_one (by omega), fa_or]
          have hb' : ∀ i, i < p + 1 → z_u N p v i < 8 := fun i hi => by
            by_cases e : i = p
            · rw [e, u_eq]; exact hv8
            · rw [u_ne _ _ e]; exact hb i (by omega)
          refine ⟨hM.1, hM.2.2.2.2.2.2.2.1, ?_, (hws (z_u N p v) O).1.1, _, _, fin O ((2 ^ p - 1) ||| 2 ^ v) (z_u N p v) us2 hb', ?_⟩
          · rw [hM.2.2.2.2.2.2.2.2]; exact vp_in_nI (by omega) (by decide)
          have pre := fin_pre (F := F) (T := T) (ex := ex) k (p + 1) ((2 ^ p - 1) ||| 2 ^ v) 0 (z_u N p v)
          have hb2 : ∀ i, i < p + 1 → (g_fin F T ex k (p + 1) ((2 ^ p - 1) ||| 2 ^ v) 0 (z_u N p v)).2 i < 8 := fun i hi => by rw [pre i (by omega)]; exact hb' i (by omega)
          cases c4 : (g_fin F T ex k (p + 1) ((2 ^ p - 1) ||| 2 ^ v) 0 (z_u N p v)).1
          · rw [if_pos (by rfl)]
            dsimp only at eR
            rw [c4, if_neg (by decide)] at eR
            exact ihr (v + 1) m (g_fin F T ex k (p + 1) ((2 ^ p - 1) ||| 2 ^ v) 0 (z_u N p v)).2 O R (by omega) (by omega) (fun i hi => hb2 i (by omega)) hO eR
          · have hbF : ∀ i, i < F.1 → (g_fin F T ex k (p + 1) ((2 ^ p - 1) ||| 2 ^ v) 0 (z_u N p v)).2 i < 8 := fun i hi => by
              by_cases e : i < p + 1
              · exact hb2 i e
              · exact Nat.lt_of_lt_of_le (fin_ok k (p + 1) _ 0 _ c4 i (by omega) (by omega)) n2.2
            dsimp only at eR
            rw [c4, if_pos rfl] at eR
            rw [if_neg (by decide)]
            refine ⟨(hws (g_fin F T ex k (p + 1) ((2 ^ p - 1) ||| 2 ^ v) 0 (z_u N p v)).2 O).1.1, _, e5_uniteNamed (d := d + 9) hW ho hob k1 k2 hO hbF, ?_⟩
            exact ihr (v + 1) (m + 1) (g_fin F T ex k (p + 1) ((2 ^ p - 1) ||| 2 ^ v) 0 (z_u N p v)).2 (g_unN F (g_fin F T ex k (p + 1) ((2 ^ p - 1) ||| 2 ^ v) 0 (z_u N p v)).2 O) R (by omega) (by omega) (fun i hi => hb2 i (by omega)) (unN_lt hO hbF n1.2) eR
      · rw [c1, if_pos rfl] at eR
        rw [if_neg (by decide)]
        refine ⟨_, e5_unite (d := d + 10) (h := z_pax h mn (fun i => nI (N i))) k1 k2 hO (show p < 8 by omega) hv8, ?_⟩
        exact ihr (v + 1) (m + 1) N (g_uni O p v) R (by omega) (by omega) hb (uni_lt hO (by omega) hv8) eR
  refine en_X5_moves (b_X5_moves_0 (z_pu0V rfl) ?_)
  obtain ⟨R0, eR0⟩ : ∃ R0 : z_Res, R0 = (.inl (some (.int (nI (g_mov F T ex p N O).1))), z_pax (z_pax h mn (fun i => nI ((g_mov F T ex p N O).2.1 i))) ob (fun i => nI ((g_mov F T ex p N O).2.2 i))) := ⟨_, rfl⟩
  rw [← eR0]
  have key := z_forH (G := G) (d := d + 15) (μ := m_X5_moves z_pu0) (r := R0) (pc := 5) (fun q (_ : Unit) => [some (.ref mt), some (.int (nI p)), some (.ref ob), some (.int (nI 1)), some (.int (nI q)), none]) (fun q _ => z_pax (z_pax h mn (fun i => nI (idN q N i))) ob (fun i => nI (O i))) (fun _ u => u) () p ?_ ?_
  · rw [show (fun i => nI (idN 0 N i)) = fun i => nI (N i) from funext fun i => by unfold idN; rw [if_neg (Nat.not_lt_zero _)]] at key
    exact key
  · intro q hq hJ
    have hM := (hws (idN q N) O).1
    refine b_X5_moves_5 (z_pu0V rfl) ?_
    rw [if_pos (nI_lt hq (by omega)), hM.2.2.2.2.2.2.1, z_rcs, nI_clamp (by omega), nI_add, pax_pai2 _ _ _ _ _ hob, nu]
    refine ⟨hM.1, hM.2.2.2.2.2.2.2.1, ?_, ?_⟩
    · rw [hM.2.2.2.2.2.2.2.2]; exact vp_in_nI (by omega) (by decide)
    · rw [show (fun i => nI (z_u (idN q N) q q i)) = fun i => nI (idN (q + 1) N i) from funext fun i => by
        unfold idN
        by_cases e : i = q
        · subst e; rw [u_eq, if_pos (by omega)]
        · rw [u_ne _ _ e]
          by_cases c : i < q
          · rw [if_pos c, if_pos (by omega)]
          · rw [if_neg c, if_neg (by omega)]]
      exact hJ
  · refine b_X5_moves_5 (z_pu0V rfl) ?_
    rw [if_neg (nI_nlt (Nat.le_refl _) (by omega)), show nI 1 <<< (nI p &&& nI 31) = nI (2 ^ p) from n_one (by omega), q_sub (show 1 ≤ 2 ^ p by omega), nI_add]
    have := main k (p + 1) 1 (idN p N) O R0 (by omega) (by omega) (fun i hi => by unfold idN; rw [if_pos hi]; omega) hO (by rw [eR0]; unfold g_mov; rw [← ek])
    exact this
end GC
