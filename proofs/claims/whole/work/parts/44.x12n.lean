theorem en_X12_nextNaming {pu : Nat → Option ((List Value → z_H → Prop) × (List Value → z_H → Int32))} {G : z_G} {d : Nat} {r : z_Res} {h : z_H} {x0 : Nat} {x1 : Int32} (hJ : z_J G d (m_X12_nextNaming pu) r 0 [some (.ref x0), some (.int x1), none, none, none, none] [] h) : z_Ev G d k_X12_nextNaming [.ref x0, .int x1] h r := z_enter (μ := m_X12_nextNaming pu) rfl (by decide) rfl rfl (fun q => by cases q) (Nat.le_of_ble_eq_true rfl) hJ
def hd_X12_nextNaming : Nat → Option (List Bool) := (fun k => (cond (Nat.blt k 104) (cond (Nat.blt k 41) (cond (Nat.beq k 4) (some [true, true, true, false, false, false]) none) (cond (Nat.blt k 78) (cond (Nat.beq k 41) (some [true, true, true, true, false, false]) none) (cond (Nat.beq k 78) (some [true, false, false, false, true, true]) none))) none))
set_option maxRecDepth 20000 in
theorem b_X12_nextNaming_0 {G : z_G} {d : Nat} {r : z_Res} (hPu : z_PuV G d (t_X12 z_puC)) {h : z_H} {x0 : Nat} {x1 : Int32} (hT : (z_J G (d + 1) (m_X12_nextNaming z_puC) r) 4 [some (.ref x0), some (.int x1), some (.int (x1 - (nI 2))), none, none, none] [] h) : (z_J G (d + 1) (m_X12_nextNaming z_puC) r) 0 [some (.ref x0), some (.int x1), none, none, none, none] [] h := z_bq (v_X12 z_puC (vP_X12_nextNaming z_puC) hPu) hd_X12_nextNaming 7 hT
set_option maxRecDepth 20000 in
theorem b_X12_nextNaming_4 {G : z_G} {d : Nat} {r : z_Res} (hPu : z_PuV G d (t_X12 z_puC)) {h : z_H} {x0 : Nat} {x1 : Int32} {x2 : Int32} (hT : (if x2 < (nI 0) then (if x2 < (nI 0) then (z_bz (nI 0) ∧ r = (.inl (some (.int (nI 0))), h)) else (z_J G (d + 1) (m_X12_nextNaming z_puC) r) 41 [some (.ref x0), some (.int x1), some (.int x2), some (.int (x1 - (nI 1))), none, none] [] h) else (z_kd h x0 = 28 ∧ (z_rc (z_or h x0 16) False (fun x_1 => (z_kd h x_1 = 1 ∧ vp_in x2 (z_ln h x_1) ∧ (z_kd h x0 = 28 ∧ (z_rc (z_or h x0 16) False (fun x_2 => (z_kd h x_2 = 1 ∧ vp_in (x2 + (nI 1)) (z_ln h x_2) ∧ (if (z_ai h x_2 (Int32.toNatClampNeg (x2 + (nI 1)))) < (z_ai h x_1 (Int32.toNatClampNeg x2)) then (z_J G (d + 1) (m_X12_nextNaming z_puC) r) 4 [some (.ref x0), some (.int x1), some (.int (x2 + mI)), none, none, none] [] h else (if x2 < (nI 0) then (z_bz (nI 0) ∧ r = (.inl (some (.int (nI 0))), h)) else (z_J G (d + 1) (m_X12_nextNaming z_puC) r) 41 [some (.ref x0), some (.int x1), some (.int x2), some (.int (x1 - (nI 1))), none, none] [] h)))))))))))) : (z_J G (d + 1) (m_X12_nextNaming z_puC) r) 4 [some (.ref x0), some (.int x1), some (.int x2), none, none, none] [] h := z_bq (v_X12 z_puC (vP_X12_nextNaming z_puC) hPu) hd_X12_nextNaming 22 hT
set_option maxRecDepth 20000 in
theorem b_X12_nextNaming_41 {G : z_G} {d : Nat} {r : z_Res} (hPu : z_PuV G d (t_X12 z_puC)) {h : z_H} {x0 : Nat} {x1 : Int32} {x2 : Int32} {x3 : Int32} (hT : (z_kd h x0 = 28 ∧ (z_rc (z_or h x0 16) False (fun x_1 => (z_kd h x_1 = 1 ∧ vp_in x3 (z_ln h x_1) ∧ (z_kd h x0 = 28 ∧ (z_rc (z_or h x0 16) False (fun x_2 => (z_kd h x_2 = 1 ∧ vp_in x2 (z_ln h x_2) ∧ (if (z_ai h x_1 (Int32.toNatClampNeg x3)) < (z_ai h x_2 (Int32.toNatClampNeg x2)) then (z_J G (d + 1) (m_X12_nextNaming z_puC) r) 41 [some (.ref x0), some (.int x1), some (.int x2), some (.int (x3 + mI)), none, none] [] h else (z_kd h x0 = 28 ∧ ∃ h_3, z_Ev G d k_X12_exchange [.ref x0, .int x2, .int x3] h (.inl none, h_3) ∧ (z_J G (d + 1) (m_X12_nextNaming z_puC) r) 78 [some (.ref x0), none, none, none, some (.int (x2 + (nI 1))), some (.int (x1 - (nI 1)))] [] h_3))))))))))) : (z_J G (d + 1) (m_X12_nextNaming z_puC) r) 41 [some (.ref x0), some (.int x1), some (.int x2), some (.int x3), none, none] [] h := z_bq (v_X12 z_puC (vP_X12_nextNaming z_puC) hPu) hd_X12_nextNaming 24 hT
set_option maxRecDepth 20000 in
theorem b_X12_nextNaming_78 {G : z_G} {d : Nat} {r : z_Res} (hPu : z_PuV G d (t_X12 z_puC)) {h : z_H} {x0 : Nat} {x4 : Int32} {x5 : Int32} (hT : (if x4 < x5 then (z_kd h x0 = 28 ∧ ∃ h_1, z_Ev G d k_X12_exchange [.ref x0, .int x4, .int x5] h (.inl none, h_1) ∧ (z_J G (d + 1) (m_X12_nextNaming z_puC) r) 78 [some (.ref x0), none, none, none, some (.int (x4 + (nI 1))), some (.int (x5 + mI))] [] h_1) else (z_bz (nI 1) ∧ r = (.inl (some (.int (nI 1))), h)))) : (z_J G (d + 1) (m_X12_nextNaming z_puC) r) 78 [some (.ref x0), none, none, none, some (.int x4), some (.int x5)] [] h := z_bq (v_X12 z_puC (vP_X12_nextNaming z_puC) hPu) hd_X12_nextNaming 13 hT
/-! the next naming -/
def arrI (n : Nat) (N : Nat → Nat) (g : Nat → Int32) : Nat → Int32 := fun i => if i < n then nI (N i) else g i
def swN (N : Nat → Nat) (a b : Nat) : Nat → Nat := z_u (z_u N a (N b)) b (N a)
theorem arrI_in {n : Nat} {N : Nat → Nat} {g : Nat → Int32} {i : Nat} (h : i < n) : arrI n N g i = nI (N i) := if_pos h
theorem arrI_sw {n : Nat} {N : Nat → Nat} {g : Nat → Int32} {a b : Nat} (ha : a < n) (hb : b < n) : swp (arrI n N g) a b = arrI n (swN N a b) g := by
  funext i
  unfold swp arrI swN z_u
  by_cases h1 : i = b
  · subst h1; rw [if_pos rfl, if_pos ha, if_pos hb, if_pos rfl]
  · rw [if_neg h1]
    by_cases h2 : i = a
    · subst h2; rw [if_pos rfl, if_pos hb, if_pos ha, if_neg h1, if_pos rfl]
    · rw [if_neg h2]
      by_cases h3 : i < n
      · show (if i < n then nI (N i) else g i) = _
        rw [if_pos h3, if_pos h3, if_neg h1, if_neg h2]
      · show (if i < n then nI (N i) else g i) = _
        rw [if_neg h3, if_neg h3]
/-- t steps of the turning round -/
def rvN (n k : Nat) (N : Nat → Nat) (t : Nat) : Nat → Nat := fun i => if (k < i ∧ i ≤ k + t) ∨ (n ≤ i + t ∧ i < n) then N (n + k - i) else N i
theorem rvN_0 (n k : Nat) (N : Nat → Nat) : rvN n k N 0 = N := by funext i; exact if_neg (by omega)
theorem rvN_s {n k : Nat} (N : Nat → Nat) {t : Nat} (ht : k + 1 + t < n - 1 - t) : swN (rvN n k N t) (k + 1 + t) (n - 1 - t) = rvN n k N (t + 1) := by
  funext i
  unfold swN z_u
  by_cases h1 : i = n - 1 - t
  · rw [if_pos h1]
    unfold rvN
    rw [if_neg (by omega), if_pos (by omega)]
    congr 1; omega
  · rw [if_neg h1]
    by_cases h2 : i = k + 1 + t
    · rw [if_pos h2]
      unfold rvN
      rw [if_neg (by omega), if_pos (by omega)]
      congr 1; omega
    · rw [if_neg h2]
      unfold rvN
      by_cases h3 : (k < i ∧ i ≤ k + t) ∨ (n ≤ i + t ∧ i < n)
      · rw [if_pos h3, if_pos (by omega)]
      · rw [if_neg h3, if_neg (by omega)]
theorem rvN_end {n k : Nat} (N : Nat → Nat) {t : Nat} (ht : ¬ k + 1 + t < n - 1 - t) (hkt : k + t < n) (i : Nat) : rvN n k N t i = if k < i ∧ i < n then N (n + k - i) else N i := by
  unfold rvN
  by_cases h : k < i ∧ i < n
  · rw [if_pos h]
    by_cases h2 : (k < i ∧ i ≤ k + t) ∨ (n ≤ i + t ∧ i < n)
    · rw [if_pos h2]
    · rw [if_neg h2]; congr 1; omega
  · rw [if_neg h, if_neg (by omega)]
section NX
variable {G : z_G} {d : Nat} {h : z_H} {M : Nat}
theorem e_next1 (hM : z_sh M h) {n : Nat} (hn : n ≤ 8) {N N' : Nat → Nat} {g : Nat → Int32} (hf : z_ai h (M + 5) = arrI n N g) (hN : ∀ i, i < n → N i < 8) (hx : nxR n N N') : z_Ev G (d + 5) k_X12_nextNaming [.ref M, .int (nI n)] h (.inl (some (.int (nI 1))), z_pax h (M + 5) (arrI n N' g)) := by
  obtain ⟨k, j, hkj, hj, h1, h2, h3, h4, h5⟩ := hx
  refine en_X12_nextNaming (b_X12_nextNaming_0 z_puCV ?_)
  have key3 : ∀ s t, n ≤ k + 2 + 2 * t + 2 * s → k + 1 + t ≤ n → t ≤ n - 1 → z_J G (d + 5) (m_X12_nextNaming z_puC) (.inl (some (.int (nI 1))), z_pax h (M + 5) (arrI n N' g)) 78 [some (.ref M), none, none, none, some (.int (nI (k + 1 + t))), some (.int (nI (n - 1 - t)))] [] (z_pax h (M + 5) (arrI n (rvN n k (swN N k j) t) g)) := by
    have fin : ∀ t, ¬ k + 1 + t < n - 1 - t → k + t < n → rvN n k (swN N k j) t = N' := by
      intro t ht hkt
      funext i
      rw [rvN_end _ ht hkt, h5 i]
      unfold swN z_u
      by_cases c1 : i = k
      · rw [if_neg (show ¬ (k < i ∧ i < n) by omega), if_pos c1, if_neg (show ¬ i = j by omega), if_pos c1]
      · rw [if_neg c1]
        by_cases c2 : k < i ∧ i < n
        · rw [if_pos c2, if_pos c2]
          by_cases c3 : n + k - i = j
          · rw [if_pos c3, if_pos c3, if_neg c1]
          · rw [if_neg c3, if_neg c3, if_neg (show ¬ n + k - i = k by omega), if_neg c1]
        · rw [if_neg c2, if_neg c2, if_neg (show ¬ i = j by omega), if_neg c1]
    intro s
    induction s with
    | zero =>
      intro t hs ht ht2
      have hc : ¬ k + 1 + t < n - 1 - t := by omega
      refine b_X12_nextNaming_78 z_puCV ?_
      simp (disch := omega) only [l0, l1, l2, l3, l4, l5, l6, l7, l8, l9, l10, l11, l12, l13, l14, l15, l16, l18, l20, l22, l24, l30, l31, l39, l40, l48, l60, l154, l255, l256, l400, l2000, l6160, l14000, lm1, q_lt, q_le, q_eq, q_mI, q_mI', q_ltmI, q_in, q_bz0, q_bz1, q_bzn0, q_bzn1, q_bzb, q_bn0, q_bn1, q_shr, q_shl, q_1s, b_one, b_two, fa_and, fa_or, nI_add, n_mul, nI_clamp, z_rcs, true_and, and_true, if_true, if_false, hc]
      rw [fin t hc (by omega)]
    | succ s ih =>
      intro t hs ht ht2
      refine b_X12_nextNaming_78 z_puCV ?_
      by_cases hc : k + 1 + t < n - 1 - t
      · simp (disch := omega) only [l0, l1, l2, l3, l4, l5, l6, l7, l8, l9, l10, l11, l12, l13, l14, l15, l16, l18, l20, l22, l24, l30, l31, l39, l40, l48, l60, l154, l255, l256, l400, l2000, l6160, l14000, lm1, q_lt, q_le, q_eq, q_mI, q_mI', q_ltmI, q_in, q_bz0, q_bz1, q_bzn0, q_bzn1, q_bzb, q_bn0, q_bn1, q_shr, q_shl, q_1s, b_one, b_two, fa_and, fa_or, nI_add, n_mul, nI_clamp, z_rcs, true_and, and_true, if_true, if_false, hc]
        have e := e_exchange (G := G) (d := d) (h := z_pax h (M + 5) (arrI n (rvN n k (swN N k j) t) g)) (M := M) hM (show k + 1 + t < 8 by omega) (show n - 1 - t < 8 by omega)
        rw [h_pax_pax, h_pax_ai, arrI_sw (by omega) (by omega), rvN_s _ hc] at e
        refine ⟨sh_kd hM, _, e, ?_⟩
        rw [show nI (n - 1 - t) + mI = nI (n - 1 - (t + 1)) from by rw [show n - 1 - t = n - 1 - (t + 1) + 1 by omega]; exact q_pred _]
        exact ih (t + 1) (by omega) (by omega) (by omega)
      · simp (disch := omega) only [l0, l1, l2, l3, l4, l5, l6, l7, l8, l9, l10, l11, l12, l13, l14, l15, l16, l18, l20, l22, l24, l30, l31, l39, l40, l48, l60, l154, l255, l256, l400, l2000, l6160, l14000, lm1, q_lt, q_le, q_eq, q_mI, q_mI', q_ltmI, q_in, q_bz0, q_bz1, q_bzn0, q_bzn1, q_bzb, q_bn0, q_bn1, q_shr, q_shl, q_1s, b_one, b_two, fa_and, fa_or, nI_add, n_mul, nI_clamp, z_rcs, true_and, and_true, if_true, if_false, hc]
        rw [fin t hc (by omega)]
  have key2 : ∀ t, j + t < n → z_J G (d + 5) (m_X12_nextNaming z_puC) (.inl (some (.int (nI 1))), z_pax h (M + 5) (arrI n N' g)) 41 [some (.ref M), some (.int (nI n)), some (.int (nI k)), some (.int (nI (j + t))), none, none] [] h := by
    intro t
    induction t with
    | zero =>
      intro _
      have n1 := hN k (by omega)
      have n2 := hN j (by omega)
      have hc : ¬ N j < N k := by omega
      refine b_X12_nextNaming_41 z_puCV ?_
      simp (disch := omega) only [l0, l1, l2, l3, l4, l5, l6, l7, l8, l9, l10, l11, l12, l13, l14, l15, l16, l18, l20, l22, l24, l30, l31, l39, l40, l48, l60, l154, l255, l256, l400, l2000, l6160, l14000, lm1, q_lt, q_le, q_eq, q_mI, q_mI', q_ltmI, q_in, q_bz0, q_bz1, q_bzn0, q_bzn1, q_bzb, q_bn0, q_bn1, q_shr, q_shl, q_1s, b_one, b_two, fa_and, fa_or, nI_add, n_mul, nI_clamp, z_rcs, true_and, and_true, if_true, if_false, sh_kd hM, (sh_naming hM).1, (sh_naming hM).2.1, (sh_naming hM).2.2, Nat.add_zero, hf, arrI_in, hc, q_sub]
      have e := e_exchange (G := G) (d := d) hM (show k < 8 by omega) (show j < 8 by omega)
      rw [hf, arrI_sw (by omega) (by omega)] at e
      refine ⟨_, e, ?_⟩
      have h6 := key3 n 0 (by omega) (by omega) (by omega)
      rw [rvN_0] at h6
      exact h6
    | succ t ih =>
      intro ht
      have n1 := hN k (by omega)
      have n2 := hN (j + (t + 1)) (by omega)
      have hc := h3 (j + (t + 1)) (by omega) (by omega)
      refine b_X12_nextNaming_41 z_puCV ?_
      simp (disch := omega) only [l0, l1, l2, l3, l4, l5, l6, l7, l8, l9, l10, l11, l12, l13, l14, l15, l16, l18, l20, l22, l24, l30, l31, l39, l40, l48, l60, l154, l255, l256, l400, l2000, l6160, l14000, lm1, q_lt, q_le, q_eq, q_mI, q_mI', q_ltmI, q_in, q_bz0, q_bz1, q_bzn0, q_bzn1, q_bzb, q_bn0, q_bn1, q_shr, q_shl, q_1s, b_one, b_two, fa_and, fa_or, nI_add, n_mul, nI_clamp, z_rcs, true_and, and_true, if_true, if_false, sh_kd hM, (sh_naming hM).1, (sh_naming hM).2.1, (sh_naming hM).2.2, hf, arrI_in, hc]
      rw [show nI (j + (t + 1)) + mI = nI (j + t) from q_pred _]
      exact ih (by omega)
  have key1 : ∀ t, k + t + 1 < n → z_J G (d + 5) (m_X12_nextNaming z_puC) (.inl (some (.int (nI 1))), z_pax h (M + 5) (arrI n N' g)) 4 [some (.ref M), some (.int (nI n)), some (.int (nI (k + t))), none, none, none] [] h := by
    intro t
    induction t with
    | zero =>
      intro _
      have n1 := hN k (by omega)
      have n2 := hN (k + 1) (by omega)
      have hc : ¬ N (k + 1) < N k := by omega
      refine b_X12_nextNaming_4 z_puCV ?_
      simp (disch := omega) only [l0, l1, l2, l3, l4, l5, l6, l7, l8, l9, l10, l11, l12, l13, l14, l15, l16, l18, l20, l22, l24, l30, l31, l39, l40, l48, l60, l154, l255, l256, l400, l2000, l6160, l14000, lm1, q_lt, q_le, q_eq, q_mI, q_mI', q_ltmI, q_in, q_bz0, q_bz1, q_bzn0, q_bzn1, q_bzb, q_bn0, q_bn1, q_shr, q_shl, q_1s, b_one, b_two, fa_and, fa_or, nI_add, n_mul, nI_clamp, z_rcs, true_and, and_true, if_true, if_false, sh_kd hM, (sh_naming hM).1, (sh_naming hM).2.1, (sh_naming hM).2.2, Nat.add_zero, hf, arrI_in, hc, Nat.not_lt_zero, q_sub]
      have h6 := key2 (n - 1 - j) (by omega)
      rw [show j + (n - 1 - j) = n - 1 by omega] at h6
      exact h6
    | succ t ih =>
      intro ht
      have n1 := hN (k + (t + 1)) (by omega)
      have n2 := hN (k + (t + 1) + 1) (by omega)
      have hc := h1 (k + (t + 1)) (by omega) (by omega)
      refine b_X12_nextNaming_4 z_puCV ?_
      simp (disch := omega) only [l0, l1, l2, l3, l4, l5, l6, l7, l8, l9, l10, l11, l12, l13, l14, l15, l16, l18, l20, l22, l24, l30, l31, l39, l40, l48, l60, l154, l255, l256, l400, l2000, l6160, l14000, lm1, q_lt, q_le, q_eq, q_mI, q_mI', q_ltmI, q_in, q_bz0, q_bz1, q_bzn0, q_bzn1, q_bzb, q_bn0, q_bn1, q_shr, q_shl, q_1s, b_one, b_two, fa_and, fa_or, nI_add, n_mul, nI_clamp, z_rcs, true_and, and_true, if_true, if_false, sh_kd hM, (sh_naming hM).1, (sh_naming hM).2.1, (sh_naming hM).2.2, hf, arrI_in, hc, Nat.not_lt_zero]
      rw [show nI (k + (t + 1)) + mI = nI (k + t) from q_pred _]
      exact ih (by omega)
  have h6 := key1 (n - 2 - k) (by omega)
  rw [show k + (n - 2 - k) = n - 2 by omega] at h6
  rw [q_sub (show 2 ≤ n by omega)]
  exact h6
theorem e_next0 (hM : z_sh M h) {n : Nat} (h0 : 1 ≤ n) (hn : n ≤ 8) {N : Nat → Nat} {g : Nat → Int32} (hf : z_ai h (M + 5) = arrI n N g) (hN : ∀ i, i < n → N i < 8) (hx : nx0 n N) : z_Ev G (d + 5) k_X12_nextNaming [.ref M, .int (nI n)] h (.inl (some (.int (nI 0))), h) := by
  refine en_X12_nextNaming (b_X12_nextNaming_0 z_puCV ?_)
  have hm : mI < nI 0 := by decide
  have key0 : z_J G (d + 5) (m_X12_nextNaming z_puC) (.inl (some (.int (nI 0))), h) 4 [some (.ref M), some (.int (nI n)), some (.int mI), none, none, none] [] h := by
    refine b_X12_nextNaming_4 z_puCV ?_
    simp (disch := omega) only [l0, l1, l2, l3, l4, l5, l6, l7, l8, l9, l10, l11, l12, l13, l14, l15, l16, l18, l20, l22, l24, l30, l31, l39, l40, l48, l60, l154, l255, l256, l400, l2000, l6160, l14000, lm1, q_lt, q_le, q_eq, q_mI, q_mI', q_ltmI, q_in, q_bz0, q_bz1, q_bzn0, q_bzn1, q_bzb, q_bn0, q_bn1, q_shr, q_shl, q_1s, b_one, b_two, fa_and, fa_or, nI_add, n_mul, nI_clamp, z_rcs, true_and, and_true, if_true, if_false, hm]
  have key1 : ∀ t, t + 1 < n → z_J G (d + 5) (m_X12_nextNaming z_puC) (.inl (some (.int (nI 0))), h) 4 [some (.ref M), some (.int (nI n)), some (.int (nI t)), none, none, none] [] h := by
    intro t
    induction t with
    | zero =>
      intro ht
      have n1 := hN 0 (by omega)
      have n2 := hN (0 + 1) (by omega)
      have hc := hx 0 ht
      refine b_X12_nextNaming_4 z_puCV ?_
      simp (disch := omega) only [l0, l1, l2, l3, l4, l5, l6, l7, l8, l9, l10, l11, l12, l13, l14, l15, l16, l18, l20, l22, l24, l30, l31, l39, l40, l48, l60, l154, l255, l256, l400, l2000, l6160, l14000, lm1, q_lt, q_le, q_eq, q_mI, q_mI', q_ltmI, q_in, q_bz0, q_bz1, q_bzn0, q_bzn1, q_bzb, q_bn0, q_bn1, q_shr, q_shl, q_1s, b_one, b_two, fa_and, fa_or, nI_add, n_mul, nI_clamp, z_rcs, true_and, and_true, if_true, if_false, sh_kd hM, (sh_naming hM).1, (sh_naming hM).2.1, (sh_naming hM).2.2, hf, arrI_in, hc, Nat.not_lt_zero]
      exact key0
    | succ t ih =>
      intro ht
      have n1 := hN (t + 1) (by omega)
      have n2 := hN (t + 1 + 1) (by omega)
      have hc := hx (t + 1) ht
      refine b_X12_nextNaming_4 z_puCV ?_
      simp (disch := omega) only [l0, l1, l2, l3, l4, l5, l6, l7, l8, l9, l10, l11, l12, l13, l14, l15, l16, l18, l20, l22, l24, l30, l31, l39, l40, l48, l60, l154, l255, l256, l400, l2000, l6160, l14000, lm1, q_lt, q_le, q_eq, q_mI, q_mI', q_ltmI, q_in, q_bz0, q_bz1, q_bzn0, q_bzn1, q_bzb, q_bn0, q_bn1, q_shr, q_shl, q_1s, b_one, b_two, fa_and, fa_or, nI_add, n_mul, nI_clamp, z_rcs, true_and, and_true, if_true, if_false, sh_kd hM, (sh_naming hM).1, (sh_naming hM).2.1, (sh_naming hM).2.2, hf, arrI_in, hc, Nat.not_lt_zero]
      rw [show nI (t + 1) + mI = nI t from q_pred _]
      exact ih (by omega)
  by_cases hn1 : n = 1
  · subst hn1
    exact key0
  · rw [q_sub (show 2 ≤ n by omega)]
    exact key1 (n - 2) (by omega)
end NX
