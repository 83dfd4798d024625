/-! lines of a text -/
abbrev pE : Type := Nat × Nat
def p_lnL (T : Nat → Nat) (n np : Nat) : Nat → Nat → Nat → Nat → (Nat × Nat) ⊕ pE
  | 0, _, j, x => .inl (x, j)
  | f + 1, k, j, x => if k < 2 ∨ tk_k T n j = 2 then (match p_pt T n j np with
    | .inl v => if x.testBit v.1 then .inr (5, tk_b T n j) else p_lnL T n np f (k + 1) v.2 (x ||| 2 ^ v.1)
    | .inr c => .inr (c, tk_b T n j)) else .inl (x, j)
def p_line (T : Nat → Nat) (n i : Nat) (c : Cd) : (Nat × Nat) ⊕ pE := if c.1.2.1 = 12 then .inr (2, tk_b T n i) else match p_lnL T n c.1.1 4 0 (tk_e T n i) 0 with
  | .inr e => .inr e
  | .inl v => if (tk_k T n v.2 = 3 ∧ T (tk_b T n v.2) = 59) ∧ c_two c.1 v.1 = true then .inr (5, tk_b T n v.2) else .inl v
theorem p_pt_in {T : Nat → Nat} {n j np : Nat} (hj : j ≤ n) : (∀ v, p_pt T n j np = .inl v → v.1 < np ∧ v.2 = tk_e T n j ∧ v.2 ≤ n) ∧ ∀ c, p_pt T n j np = .inr c → 0 < c ∧ c < 6 := by
  unfold p_pt
  cases hp : p_num T n j 0 9 with
  | inl v =>
    have hv := p_num_9 hj hp
    refine ⟨fun w h => ?_, fun c h => ?_⟩
    · dsimp only at h
      split at h
      · rename_i q; cases h; exact ⟨q, hv.2.2.2.1, by rw [hv.2.2.2.1]; exact (tk_en hj).2⟩
      · cases h
    · dsimp only at h
      split at h
      · cases h
      · cases h; exact ⟨by decide, by decide⟩
  | inr c =>
    refine ⟨fun w h => (by cases h), fun c' h => ?_⟩
    cases h
    unfold p_num at hp
    split at hp
    · split at hp
      · cases hp
      · cases hp; exact ⟨by decide, by decide⟩
    · cases hp; exact ⟨by decide, by decide⟩
/-- what the points of a line come to -/
theorem p_lnL_in {T : Nat → Nat} {n np : Nat} (hnp : np ≤ 8) : ∀ f k j x, k + f = 4 → j ≤ n → x < 2 ^ np → n_pc x = k → (∀ v, p_lnL T n np f k j x = .inl v → v.1 < 2 ^ np ∧ 2 ≤ n_pc v.1 ∧ n_pc v.1 ≤ 4 ∧ v.2 ≤ n) ∧ ∀ e, p_lnL T n np f k j x = .inr e → 0 < e.1 ∧ e.1 < 6 := by
  intro f
  induction f with
  | zero =>
    intro k j x hk hj hx hpc
    refine ⟨fun v h => ?_, fun e h => by cases h⟩
    cases h
    exact ⟨hx, by show 2 ≤ n_pc x; omega, by show n_pc x ≤ 4; omega, hj⟩
  | succ f ih =>
    intro k j x hk hj hx hpc
    have hp8 := n_p8 hnp
    unfold p_lnL
    by_cases hc : k < 2 ∨ tk_k T n j = 2
    · rw [if_pos hc]
      have hpt := p_pt_in (T := T) (np := np) hj
      cases hp : p_pt T n j np with
      | inl v =>
        obtain ⟨v1, v2, v3⟩ := hpt.1 v hp
        dsimp only
        cases hb : x.testBit v.1
        · rw [if_neg (by decide)]
          refine ih (k + 1) v.2 (x ||| 2 ^ v.1) (by omega) v3 (Nat.or_lt_two_pow hx (Nat.pow_lt_pow_right (by decide) v1)) ?_
          rw [Nat.or_comm, pc_or1 x (by omega) v.1 (by omega) hb, hpc]
        · rw [if_pos rfl]
          exact ⟨fun v h => (by cases h), fun e h => (by cases h; exact ⟨by show 0 < 5; decide, by show 5 < 6; decide⟩)⟩
      | inr c =>
        have := hpt.2 c hp
        exact ⟨fun v h => (by cases h), fun e h => (by cases h; exact this)⟩
    · rw [if_neg hc]
      refine ⟨fun v h => ?_, fun e h => by cases h⟩
      cases h
      exact ⟨hx, by show 2 ≤ n_pc x; omega, by show n_pc x ≤ 4; omega, hj⟩
section DE
variable {G : z_G} {d : Nat} {h : z_H} {M : Nat} {A : Nat → Nat → Int32} {T : Nat → Nat} {n : Nat}
theorem l_rl (hM : z_sh M h) {np : Nat} (hnp : np ≤ 8) (h2 : A 2 0 = nI np) : ∀ f k j x F, k + f = 4 → j ≤ n → x < 256 → txt T n F A → tokF T n F j → F 12 = nI 0 → match p_lnL T n np f k j x with
    | .inl v => ∃ F', agrF [6, 8, 9, 10, 11] F F' ∧ tokF T n F' v.2 ∧ v.2 ≤ n ∧ v.1 < 256 ∧ ∀ r, z_J G (d + 7) (m_X12_readLine z_puC) r 106 [some (.ref M), some (.int (nI v.1)), none, none] [] (z_rs h M F' A) → z_J G (d + 7) (m_X12_readLine z_puC) r 32 [some (.ref M), some (.int (nI x)), some (.int (nI k)), none] [] (z_rs h M F A)
    | .inr e => ∃ F' x', errR F F' e.1 e.2 ∧ (0 < e.1 ∧ e.1 < 6) ∧ ∀ r, z_J G (d + 7) (m_X12_readLine z_puC) r 106 [some (.ref M), some (.int x'), none, none] [] (z_rs h M F' A) → z_J G (d + 7) (m_X12_readLine z_puC) r 32 [some (.ref M), some (.int (nI x)), some (.int (nI k)), none] [] (z_rs h M F A) := by
  intro f
  induction f with
  | zero =>
    intro k j x F hk hj hx ht hF h12
    refine ⟨F, agrF_rf, hF, hj, hx, fun r hJ => b_X12_readLine_32 z_puCV ?_⟩
    rw [if_neg (show ¬ nI k < nI 4 from fun e => by have := (nI_ltI (by omega) (by omega)).mp e; omega)]
    exact hJ
  | succ f ih =>
    intro k j x F hk hj hx ht hF h12
    have hk4 : tk_k T n j ≤ 4 := by unfold tk_k; split; omega; split; omega; split; omega; split <;> omega
    have ept := e_pointNow (G := G) (d := d) (A := A) (np := np) hM ht hj hF h12 hnp h2
    have hpt := p_pt_in (T := T) (np := np) hj
    -- into the body
    have body : (k < 2 ∨ tk_k T n j = 2) → ∀ r, (∃ x_2 h_1, z_Ev G (d + 6) k_X12_pointNow [.ref M] (z_rs h M F A) (.inl (some (.int x_2)), h_1) ∧ (z_kd h_1 M = 28 ∧ (if (z_oi h_1 M 12) = nI 0 then (if ((nI x >>> (x_2 &&& nI 31)) &&& nI 1) = nI 1 then (z_kd h_1 M = 28 ∧ ∃ h_3, z_Ev G (d + 6) k_X12_wrong [.ref M, .int (nI 5)] h_1 (.inl none, h_3) ∧ z_J G (d + 7) (m_X12_readLine z_puC) r 83 [some (.ref M), some (.int (nI x)), some (.int (nI k)), some (.int x_2)] [] h_3) else z_J G (d + 7) (m_X12_readLine z_puC) r 83 [some (.ref M), some (.int (nI x)), some (.int (nI k)), some (.int x_2)] [] h_1) else z_J G (d + 7) (m_X12_readLine z_puC) r 83 [some (.ref M), some (.int (nI x)), some (.int (nI k)), some (.int x_2)] [] h_1))) → z_J G (d + 7) (m_X12_readLine z_puC) r 32 [some (.ref M), some (.int (nI x)), some (.int (nI k)), none] [] (z_rs h M F A) := by
      intro hc r hr
      refine b_X12_readLine_32 z_puCV ?_
      rw [if_pos (nI_lt (show k < 4 by omega) (by omega)), rs_oi, h12, if_pos rfl]
      refine ⟨sh_kd hM, ?_⟩
      by_cases k2 : k < 2
      · rw [if_pos (nI_lt k2 (by omega))]
        exact ⟨sh_kd hM, hr⟩
      · rw [if_neg (fun e => k2 ((nI_ltI (by omega) (by omega)).mp e)), if_pos (show F 8 = nI 2 by rw [hF.2.2.2.1]; rcases hc with q | q; exact absurd q k2; rw [q])]
        exact ⟨sh_kd hM, sh_kd hM, hr⟩
    -- behind an error
    have bad : ∀ F' p r, p < 10 → ¬ F' 12 = nI 0 → z_J G (d + 7) (m_X12_readLine z_puC) r 106 [some (.ref M), some (.int (nI (x ||| 2 ^ p))), none, none] [] (z_rs h M F' A) → z_J G (d + 7) (m_X12_readLine z_puC) r 83 [some (.ref M), some (.int (nI x)), some (.int (nI k)), some (.int (nI p))] [] (z_rs h M F' A) := by
      intro F' p r hp h12' hJ
      refine b_X12_readLine_83 z_puCV ⟨sh_kd hM, ?_⟩
      rw [rs_oi, if_neg h12', show nI 1 <<< (nI p &&& nI 31) = nI (2 ^ p) from n_one (by omega), fa_or, nI_add]
      refine b_X12_readLine_32 z_puCV ?_
      rw [rs_oi, if_neg h12']
      split
      · exact ⟨sh_kd hM, hJ⟩
      · exact hJ
    unfold p_lnL
    by_cases hc : k < 2 ∨ tk_k T n j = 2
    · rw [if_pos hc]
      cases hp : p_pt T n j np with
      | inl v =>
        rw [hp] at ept
        obtain ⟨v1, v2, v3⟩ := hpt.1 v hp
        dsimp only at ept ⊢
        cases hb : x.testBit v.1
        · rw [if_neg (by decide)]
          obtain ⟨F1, g1, g2, g3⟩ := e_stepOn (G := G) (d := d + 2) (A := A) hM ht (i := tk_e T n j) (tk_en hj).2 hF.2.2.1
          rw [← v2] at g2
          have i1 := ih (k + 1) v.2 (x ||| 2 ^ v.1) F1 (by omega) v3 (or_lt256 hx (t_pow (by omega))) (txt_agr ht (g1 7 (by decide)) rfl) g2 ((g1 12 (by decide)).trans h12)
          have link : ∀ r, z_J G (d + 7) (m_X12_readLine z_puC) r 32 [some (.ref M), some (.int (nI (x ||| 2 ^ v.1))), some (.int (nI (k + 1))), none] [] (z_rs h M F1 A) → z_J G (d + 7) (m_X12_readLine z_puC) r 32 [some (.ref M), some (.int (nI x)), some (.int (nI k)), none] [] (z_rs h M F A) := by
            intro r hJ
            refine body hc r ⟨_, _, ept, sh_kd hM, ?_⟩
            rw [rs_oi, h12, if_pos rfl]
            simp (disch := omega) only [l0, l1, l2, l3, l4, l5, l6, l7, l8, l9, l10, l11, l12, l13, l14, l15, l16, l18, l20, l22, l24, l30, l31, l39, l40, l48, l60, l154, l255, l256, l400, l2000, l6160, l14000, lm1, q_lt, q_le, q_eq, q_mI, q_mI', q_ltmI, q_in, q_bz0, q_bz1, q_bzn0, q_bzn1, q_bzb, q_bn0, q_bn1, q_shr, q_shl, q_1s, b_one, b_two, fa_and, fa_or, nI_add, n_mul, nI_clamp, z_rcs, true_and, and_true, if_true, if_false]
            rw [hb, if_neg (by decide)]
            refine b_X12_readLine_83 z_puCV ⟨sh_kd hM, ?_⟩
            rw [rs_oi, h12, if_pos rfl, show nI 1 <<< (nI v.1 &&& nI 31) = nI (2 ^ v.1) from n_one (by omega), fa_or, nI_add]
            exact ⟨sh_kd hM, _, g3, hJ⟩
          cases hq : p_lnL T n np f (k + 1) v.2 (x ||| 2 ^ v.1) with
          | inl w =>
            rw [hq] at i1
            obtain ⟨F', j1, j2, j3, j4, j5⟩ := i1
            exact ⟨F', agrF_tr g1 j1, j2, j3, j4, fun r hJ => link r (j5 r hJ)⟩
          | inr e =>
            rw [hq] at i1
            obtain ⟨F', x', j1, j2, j3⟩ := i1
            exact ⟨F', x', ⟨j1.1, j1.2.1, agrF_tr (agrF_mono g1 (by decide)) j1.2.2⟩, j2, fun r hJ => link r (j3 r hJ)⟩
        · rw [if_pos rfl]
          refine ⟨errF F 5, nI (x ||| 2 ^ v.1), errF_R hF, ⟨by show 0 < 5; decide, by show 5 < 6; decide⟩, fun r hJ => body hc r ⟨_, _, ept, sh_kd hM, ?_⟩⟩
          rw [rs_oi, h12, if_pos rfl]
          simp (disch := omega) only [l0, l1, l2, l3, l4, l5, l6, l7, l8, l9, l10, l11, l12, l13, l14, l15, l16, l18, l20, l22, l24, l30, l31, l39, l40, l48, l60, l154, l255, l256, l400, l2000, l6160, l14000, lm1, q_lt, q_le, q_eq, q_mI, q_mI', q_ltmI, q_in, q_bz0, q_bz1, q_bzn0, q_bzn1, q_bzb, q_bn0, q_bn1, q_shr, q_shl, q_1s, b_one, b_two, fa_and, fa_or, nI_add, n_mul, nI_clamp, z_rcs, true_and, and_true, if_true, if_false]
          rw [hb, if_pos rfl]
          exact ⟨sh_kd hM, _, e_wrong hM h12 5, bad _ _ r (by omega) (errF_12 (by decide) (by decide)) hJ⟩
      | inr c =>
        rw [hp] at ept
        obtain ⟨p, hp10, ep⟩ := ept
        have hcc := hpt.2 c hp
        refine ⟨errF F c, nI (x ||| 2 ^ p), errF_R hF, hcc, fun r hJ => body hc r ⟨_, _, ep, sh_kd hM, ?_⟩⟩
        rw [rs_oi, if_neg (errF_12 hcc.1 (by omega))]
        exact bad _ p r hp10 (errF_12 hcc.1 (by omega)) hJ
    · rw [if_neg hc]
      refine ⟨F, agrF_rf, hF, hj, hx, fun r hJ => b_X12_readLine_32 z_puCV ?_⟩
      rw [if_pos (nI_lt (show k < 4 by omega) (by omega)), rs_oi, h12, if_pos rfl, if_neg (show ¬ nI k < nI 2 from fun e => by have := (nI_ltI (by omega) (by omega)).mp e; omega), if_neg (show ¬ F 8 = nI 2 from fun e => by rw [hF.2.2.2.1] at e; have := (nI_eq (by omega) (by omega)).mp e; omega)]
      exact ⟨sh_kd hM, sh_kd hM, hJ⟩
theorem e_readLine (hM : z_sh M h) {F : Nat → Int32} {c : Cd} (hc : c_cok c) (hrow : ∀ k, k < 30 → A 2 k = rowC c k) {i : Nat} (hi : i ≤ n) (ht : txt T n F A) (hF : tokF T n F i) (h12 : F 12 = nI 0) : match p_line T n i c with
    | .inl v => ∃ F', agrF [6, 8, 9, 10, 11] F F' ∧ tokF T n F' v.2 ∧ v.2 ≤ n ∧ z_Ev G (d + 7) k_X12_readLine [.ref M] (z_rs h M F A) (.inl none, z_rs h M F' (z_u A 2 (z_u (z_u (A 2) (2 + c.1.2.1) (nI v.1)) 1 (nI (c.1.2.1 + 1)))))
    | .inr e => ∃ F' f, errR F F' e.1 e.2 ∧ (0 < e.1 ∧ e.1 < 6) ∧ z_Ev G (d + 7) k_X12_readLine [.ref M] (z_rs h M F A) (.inl none, z_rs h M F' (z_u A 2 f)) := by
  have hm := hc.1.2.1
  have hn8 := hc.1.1
  have h21 : A 2 1 = nI c.1.2.1 := hrow 1 (by omega)
  have h20 : A 2 0 = nI c.1.1 := hrow 0 (by omega)
  have hM2 : ∀ F0 A0, z_sh M (z_rs h M F0 A0) := fun _ _ => hM
  have head : ∀ r, (if c.1.2.1 = 12 then r = (.inl none, z_rs h M (errF F 2) A) else z_kd (z_rs h M F A) M = 28 ∧ ∃ h_4, z_Ev G (d + 6) k_X12_stepOn [.ref M] (z_rs h M F A) (.inl none, h_4) ∧ z_J G (d + 7) (m_X12_readLine z_puC) r 32 [some (.ref M), some (.int (nI 0)), some (.int (nI 0)), none] [] h_4) → z_Ev G (d + 7) k_X12_readLine [.ref M] (z_rs h M F A) r := by
    intro r hr
    refine en_X12_readLine (b_X12_readLine_0 z_puCV ⟨sh_kd hM, ?_⟩)
    rw [show z_or (z_rs h M F A) M 2 = some (M + 2) from (sh_read hM).1, z_rcs, rs_ai _ _ _ _ (by omega) (by omega), nI_clamp (show 1 < 2 ^ 31 by decide), h21]
    refine ⟨(sh_read hM).2.1, by show vp_in (nI 1) (z_ln h (M + 2)); rw [(sh_read hM).2.2]; exact vp_in_nI (by omega) (by omega), ?_⟩
    by_cases h12' : c.1.2.1 = 12
    · rw [if_pos h12'] at hr
      rw [if_pos (by rw [h12'])]
      refine ⟨sh_kd hM, _, e_wrong hM h12 2, sh_kd hM, ?_⟩
      rw [rs_oi, if_neg (errF_12 (by decide) (by decide))]
      exact hr
    · rw [if_neg h12'] at hr
      rw [if_neg (fun e => h12' ((nI_eq (by omega) (by omega)).mp e)), rs_oi, h12, if_pos rfl]
      exact ⟨sh_kd hM, hr⟩
  have tail : ∀ F0 x1, c.1.2.1 < 12 → z_J G (d + 7) (m_X12_readLine z_puC) (.inl none, z_rs h M F0 (z_u A 2 (z_u (z_u (A 2) (2 + c.1.2.1) x1) 1 (nI (c.1.2.1 + 1))))) 138 [some (.ref M), some (.int x1), none, none] [] (z_rs h M F0 A) := by
    intro F0 x1 hlt
    refine b_X12_readLine_138 z_puCV ?_
    simp (disch := omega) only [l0, l1, l2, l3, l4, l5, l6, l7, l8, l9, l10, l11, l12, l13, l14, l15, l16, l18, l20, l22, l24, l30, l31, l39, l40, l48, l60, l154, l255, l256, l400, l2000, l6160, l14000, lm1, q_lt, q_le, q_eq, q_mI, q_mI', q_ltmI, q_in, q_bz0, q_bz1, q_bzn0, q_bzn1, q_bzb, q_bn0, q_bn1, q_shr, q_shl, q_1s, b_one, b_two, fa_and, fa_or, nI_add, n_mul, nI_clamp, z_rcs, true_and, and_true, if_true, if_false, rs_ai, rs_oi, rs_pai, rs_poi, rs_pax, rs_kd, rs_ln, rs_or, u_eq, u_ne, sh_kd hM, (sh_read hM).1, (sh_read hM).2.1, (sh_read hM).2.2, h21, u_u]
  unfold p_line
  by_cases h12' : c.1.2.1 = 12
  · rw [if_pos h12']
    refine ⟨errF F 2, A 2, errF_R hF, ⟨by show 0 < 2; decide, by show 2 < 6; decide⟩, head _ ?_⟩
    rw [if_pos h12', u_self]
  · rw [if_neg h12']
    obtain ⟨F1, g1, g2, g3⟩ := e_stepOn (G := G) (d := d + 2) (A := A) hM ht (i := tk_e T n i) (tk_en hi).2 hF.2.2.1
    have ht1 := txt_agr (A' := A) ht (g1 7 (by decide)) rfl
    have l := l_rl (G := G) (d := d) (A := A) (T := T) (n := n) hM hn8.2 h20 4 0 (tk_e T n i) 0 F1 (by omega) (tk_en hi).2 (by decide) ht1 g2 ((g1 12 (by decide)).trans h12)
    cases hq : p_lnL T n c.1.1 4 0 (tk_e T n i) 0 with
    | inl v =>
      rw [hq] at l
      obtain ⟨F2, j1, j2, j3, j4, j5⟩ := l
      have hF2 : F2 12 = nI 0 := (j1 12 (by decide)).trans ((g1 12 (by decide)).trans h12)
      have ht2 := txt_agr (A' := A) ht1 (j1 7 (by decide)) rfl
      obtain ⟨m1, m2⟩ := e_mark hM ht2 j3 j2 hF2 (show 59 < 256 by decide)
      have hok2 : r_ok (A 2) ∧ r_S (A 2) = c.1 := ⟨r_isok (row_is hc hrow) hc.1.2.2.2.1, r_isS (row_is hc hrow) hc.1.2.2.2.1⟩
      have s2 : s_X12_sharesTwo (M + 2) (nI v.1) (z_rs h M F2 A) := ⟨⟨(sh_read hM).2.1, by show 14 ≤ z_ln h (M + 2); rw [(sh_read hM).2.2]; decide, by show z_ln h (M + 2) ≤ 154; rw [(sh_read hM).2.2]; decide⟩, by rw [rs_ai _ _ _ _ (by omega) (by omega)]; exact hok2.1, v.1, by omega, rfl⟩
      have f2 : f_X12_sharesTwo (M + 2) (nI v.1) (z_rs h M F2 A) = nI (c_two c.1 v.1).toNat := by
        unfold f_X12_sharesTwo
        rw [nI_clamp (by omega), rs_ai _ _ _ _ (by omega) (by omega), hok2.2]
      have at106 : ∀ r, (if (tk_k T n v.2 = 3 ∧ T (tk_b T n v.2) = 59) ∧ c_two c.1 v.1 = true then z_J G (d + 7) (m_X12_readLine z_puC) r 138 [some (.ref M), some (.int (nI v.1)), none, none] [] (z_rs h M (errF F2 5) A) else z_J G (d + 7) (m_X12_readLine z_puC) r 138 [some (.ref M), some (.int (nI v.1)), none, none] [] (z_rs h M F2 A)) → z_J G (d + 7) (m_X12_readLine z_puC) r 106 [some (.ref M), some (.int (nI v.1)), none, none] [] (z_rs h M F2 A) := by
        intro r hr
        refine b_X12_readLine_106 z_puCV ⟨sh_kd hM, ?_⟩
        rw [rs_oi, hF2, if_pos rfl, m2, show z_or (z_rs h M F2 A) M 2 = some (M + 2) from (sh_read hM).1, z_rcs, f2]
        refine ⟨sh_kd hM, m1, ?_⟩
        by_cases q1 : tk_k T n v.2 = 3 ∧ T (tk_b T n v.2) = 59
        · rw [decide_eq_true q1, if_neg (by decide)]
          refine ⟨sh_kd hM, s2, ?_⟩
          cases q2 : c_two c.1 v.1
          · rw [if_neg (fun q => by rw [q2] at q; cases q.2)] at hr
            rw [if_pos (by decide)]; exact hr
          · rw [if_pos ⟨q1, q2⟩] at hr
            rw [if_neg (by decide)]
            exact ⟨sh_kd hM, _, e_wrong hM hF2 5, hr⟩
        · rw [decide_eq_false q1, if_pos (by decide)]
          rw [if_neg (fun q => q1 q.1)] at hr
          exact hr
      dsimp only
      by_cases q : (tk_k T n v.2 = 3 ∧ T (tk_b T n v.2) = 59) ∧ c_two c.1 v.1 = true
      · rw [if_pos q]
        have er := errF_R (c := 5) j2
        refine ⟨errF F2 5, z_u (z_u (A 2) (2 + c.1.2.1) (nI v.1)) 1 (nI (c.1.2.1 + 1)), ⟨er.1, er.2.1, agrF_tr (agrF_mono (agrF_tr g1 j1) (by decide)) er.2.2⟩, ⟨by show 0 < 5; decide, by show 5 < 6; decide⟩, head _ ?_⟩
        rw [if_neg h12']
        refine ⟨sh_kd hM, _, g3, j5 _ (at106 _ ?_)⟩
        rw [if_pos q]
        exact tail _ _ (by omega)
      · rw [if_neg q]
        refine ⟨F2, agrF_tr g1 j1, j2, j3, head _ ?_⟩
        rw [if_neg h12']
        refine ⟨sh_kd hM, _, g3, j5 _ (at106 _ ?_)⟩
        rw [if_neg q]
        exact tail _ _ (by omega)
    | inr e =>
      rw [hq] at l
      obtain ⟨F2, x', j1, j2, j3⟩ := l
      refine ⟨F2, z_u (z_u (A 2) (2 + c.1.2.1) x') 1 (nI (c.1.2.1 + 1)), ⟨j1.1, j1.2.1, agrF_tr (agrF_mono g1 (by decide)) j1.2.2⟩, j2, head _ ?_⟩
      rw [if_neg h12']
      refine ⟨sh_kd hM, _, g3, j3 _ (b_X12_readLine_106 z_puCV ⟨sh_kd hM, ?_⟩)⟩
      rw [rs_oi, if_neg (show ¬ F2 12 = nI 0 from fun q => by rw [j1.1] at q; have := (nI_eq (by omega) (by omega)).mp q; omega)]
      exact tail _ _ (by omega)
end DE
