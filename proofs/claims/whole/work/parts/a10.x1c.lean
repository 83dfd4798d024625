/-! the cards: points that change places; the last point gone -/
theorem trs_x : ∀ a, a < 8 → ∀ b, b < 8 → a ≠ b → ∀ x, x < 256 → c_nm (trs a b) x = if x &&& (2 ^ a ||| 2 ^ b) = 0 ∨ x &&& (2 ^ a ||| 2 ^ b) = 2 ^ a ||| 2 ^ b then x else x ^^^ (2 ^ a ||| 2 ^ b) := by decide +kernel
section HE
variable {V : CV} {G : z_G} {d L c : Nat} {h : z_H} {cd : Cd} {X : Nat → Prop}
theorem e1_swapped (hX : ∀ a, X a → hl L a) (hI : inv V L h) (hL : L + 75 ≤ z_n h) (hc : cdk L h c cd) (hok : c_cok cd) {p r : Nat} (hp : p < cd.1.1) (hr : r < cd.1.1) (hpr : p ≠ r) : ∃ h' c', z_Ev G (d + 6) k_X1_swapped [.ref c, .int (nI p), .int (nI r)] h (.inl (some (va_rf (some c'))), h') ∧ inv V L h' ∧ ex X 17 197 h h' ∧ cdk L h' c' (op_swap cd p r) := by
  have hc0 := hc
  obtain ⟨q, b, u, v, ⟨c1, c2, ⟨c3, c4, c5⟩, ⟨c6, c7, c8⟩, hA, c10⟩, g1, g2, g3⟩ := hc0
  have hn := y_n8 hA
  have hm := y_m12 hA
  obtain ⟨S, eS⟩ : ∃ S, S = cd.1 := ⟨_, rfl⟩
  rw [← eS] at hn hm hp hr hA
  have p8 : p < 8 := by omega
  have r8 : r < 8 := by omega
  have pw := or_lt256 (t_pow p8) (t_pow r8)
  -- the numbers
  obtain ⟨f, ef⟩ : ∃ f : Nat → Int32, f = fun i => if i < S.2.1 then nI (c_nm (trs p r) (S.2.2 i)) else z_ai h (b + 5) i := ⟨_, rfl⟩
  obtain ⟨h1, eh1⟩ : ∃ h1, h1 = z_nwi h 1 S.2.1 f := ⟨_, rfl⟩
  obtain ⟨I1, e1⟩ := nw_k hI S.2.1 f X
  have fr1 := nw_fr hI hL S.2.1 f
  rw [← eh1] at I1 e1 fr1
  have L1 : L + 75 ≤ z_n h1 := Nat.le_trans hL e1.1.1
  have hc1 := cdk_ex hI hX e1 hc
  obtain ⟨h2, k2, ev2, I2, e2, hk2⟩ := e1_placed (G := G) (d := d) hX I1 L1 hc1 p8 (cd.2.1 r) (cd.2.2 r)
  have L2 : L + 75 ≤ z_n h2 := Nat.le_trans L1 e2.1.1
  have hc2 := cdk_ex I1 hX e2 hc1
  obtain ⟨h3, k3, ev3, I3, e3, hk3⟩ := e1_placed (G := G) (d := d) hX I2 L2 hk2 r8 (cd.2.1 p) (cd.2.2 p)
  have L3 : L + 75 ≤ z_n h3 := Nat.le_trans L2 e3.1.1
  have E2 := ex_trans hI I1 hX e1 e2
  have E3 := ex_trans hI I2 hX E2 e3
  have E13 := ex_trans I1 I2 hX e2 e3
  have frn := ex_fr I1 hX E13 fr1
  have hSw : c_sok (op_swap cd p r).1 := (cok_swap hok (by rw [← eS]; exact hp) (by rw [← eS]; exact hr)).1
  obtain ⟨h4, ev4, I4, e4, A4, N4⟩ := mk_sc (G := G) (d := d) (X := X) (S := (op_swap cd p r).1) I3 L3 hSw (a := z_n h) (La := S.2.1) (by have := E3.1.1; have := frn.1.1; omega) (by rw [frn.2.1, eh1]; exact nwi_kd _ _ _ _) (by rw [frn.2.2.1, eh1]; exact nwi_ln _ _ _ _) (by omega) (by rw [eS]; exact Nat.le_refl _) (fun l hl => by
    have hl' : l < S.2.1 := by rw [eS]; exact hl
    rw [frn.2.2.2.2.2.1, eh1, nwi_ai, ef]
    show (if l < S.2.1 then _ else _) = nI (c_nm (trs p r) (cd.1.2.2 l))
    rw [if_pos hl', eS])
  have L4 : L + 75 ≤ z_n h4 := Nat.le_trans L3 e4.1.1
  obtain ⟨h5, ev5, I5, e5, hk5⟩ := e1_with (G := G) (d := d) hX I4 L4 (cdk_ex I3 hX e4 hk3) A4
  have E4 := ex_trans hI I3 hX E3 e4
  have E5 := ex_trans hI I4 hX E4 e5
  refine ⟨h5, z_n h4, en_X1_swapped (b_X1_swapped_0 (z_pu0V rfl) ⟨c1, ?_⟩), I5, ex_mono E5 (by omega) (by omega), hk5⟩
  rw [c2, z_rcs, (y_row hA).1, z_rcs, (y_row hA).2.2, show nI 1 <<< (nI p &&& nI 31) = nI (2 ^ p) from n_one (by omega), show nI 1 <<< (nI r &&& nI 31) = nI (2 ^ r) from n_one (by omega), fa_or]
  refine ⟨y_kd hA, (y_row hA).2.1, nwi_kd _ _ _ _, ?_⟩
  have hcf : ∀ f, z_kd (z_nwi h 1 S.2.1 f) c = 17 := fun f => by
    rw [show z_kd (z_nwi h 1 S.2.1 f) c = z_kd h c from u_ne _ _ (by have := g1.1; omega)]; exact c1
  have hAf : ∀ f, sc_at q b (z_nwi h 1 S.2.1 f) S := fun f => nw_sc hI S.2.1 f hA
  have key := z_forH (G := G) (d := d + 6) (μ := m_X1_swapped z_pu0) (r := (.inl (some (va_rf (some (z_n h4)))), h5)) (pc := 26) (fun k (_ : Unit) => [some (.ref c), some (.int (nI p)), some (.int (nI r)), some (.int (nI (2 ^ p ||| 2 ^ r))), some (.ref (z_n h)), some (.int (nI k)), none]) (fun k _ => z_nwi h 1 S.2.1 (fun i => if i < k then nI (c_nm (trs p r) (S.2.2 i)) else z_ai h (b + 5) i)) (fun _ u => u) () S.2.1 ?_ ?_
  · rw [show (fun i => if i < 0 then nI (c_nm (trs p r) (S.2.2 i)) else z_ai h (b + 5) i) = z_ai h (b + 5) from funext fun i => if_neg (Nat.not_lt_zero _)] at key
    exact key
  · intro k hk hJ
    have l1 := y_256 hA k
    have l2 := and_lt256 (b := 2 ^ p ||| 2 ^ r) l1
    obtain ⟨g, eg⟩ : ∃ g : Nat → Int32, g = fun i => if i < k then nI (c_nm (trs p r) (S.2.2 i)) else z_ai h (b + 5) i := ⟨_, rfl⟩
    have gk : g k = nI (S.2.2 k) := by rw [eg]; show (if k < k then _ else _) = _; rw [if_neg (Nat.lt_irrefl _)]; exact y_Ln hA hk
    rw [← eg]
    have tx := trs_x p p8 r r8 hpr (S.2.2 k) l1
    refine b_X1_swapped_26 (z_pu0V rfl) ⟨hcf _, ?_⟩
    have o0 : z_or (z_nwi h 1 S.2.1 g) c 0 = some q := c2
    rw [o0, z_rcs, y_m (hAf g), if_pos (nI_lt hk (by omega)), nI_clamp (by omega), nwi_ai, gk, fa_and, nI_add, nwi_ln, nwi_kd, n_xor, nwi_pai]
    refine ⟨y_kd (hAf g), rfl, vp_in_nI hk (by omega), ?_⟩
    by_cases d1 : S.2.2 k &&& (2 ^ p ||| 2 ^ r) = 0
    · rw [if_pos (by rw [d1])]
      rw [show g = fun i => if i < k + 1 then nI (c_nm (trs p r) (S.2.2 i)) else z_ai h (b + 5) i from funext fun i => by
        rw [eg]
        by_cases e : i = k
        · subst e; show (if i < i then _ else _) = _; rw [if_neg (Nat.lt_irrefl _), if_pos (by omega), tx, if_pos (Or.inl d1)]; exact y_Ln hA hk
        · show (if i < k then _ else _) = _
          by_cases c : i < k
          · rw [if_pos c, if_pos (by omega)]
          · rw [if_neg c, if_neg (by omega)]]
      exact hJ
    · rw [if_neg (fun e => d1 ((nI_eq (by omega) (by decide)).mp e))]
      by_cases d2 : S.2.2 k &&& (2 ^ p ||| 2 ^ r) = 2 ^ p ||| 2 ^ r
      · rw [if_pos (by rw [d2])]
        rw [show g = fun i => if i < k + 1 then nI (c_nm (trs p r) (S.2.2 i)) else z_ai h (b + 5) i from funext fun i => by
          rw [eg]
          by_cases e : i = k
          · subst e; show (if i < i then _ else _) = _; rw [if_neg (Nat.lt_irrefl _), if_pos (by omega), tx, if_pos (Or.inr d2)]; exact y_Ln hA hk
          · show (if i < k then _ else _) = _
            by_cases c : i < k
            · rw [if_pos c, if_pos (by omega)]
            · rw [if_neg c, if_neg (by omega)]]
        exact hJ
      · rw [if_neg (fun e => d2 ((nI_eq (by omega) (by omega)).mp e))]
        refine ⟨rfl, vp_in_nI hk (by omega), rfl, vp_in_nI hk (by omega), ?_⟩
        rw [show z_u g k (nI (S.2.2 k ^^^ (2 ^ p ||| 2 ^ r))) = fun i => if i < k + 1 then nI (c_nm (trs p r) (S.2.2 i)) else z_ai h (b + 5) i from funext fun i => by
          by_cases e : i = k
          · subst e; rw [u_eq, if_pos (by omega), tx, if_neg (by rintro (e | e); exact d1 e; exact d2 e)]
          · rw [u_ne _ _ e, eg]
            show (if i < k then _ else _) = _
            by_cases c : i < k
            · rw [if_pos c, if_pos (by omega)]
            · rw [if_neg c, if_neg (by omega)]]
        exact hJ
  · rw [← ef, ← eh1]
    obtain ⟨q', b', u', v', ⟨y1, y2, ⟨y3, y4, y5⟩, ⟨y6, y7, y8⟩, y9, y10⟩, _⟩ := hc1
    have A1 := ex_sc hI hX e1 hA
    have qq : q' = q := Option.some.inj (y2.symm.trans (by rw [eh1]; exact c2))
    subst qq
    refine b_X1_swapped_26 (z_pu0V rfl) ⟨y1, ?_⟩
    rw [y2, z_rcs, y_m A1, if_neg (nI_nlt (Nat.le_refl _) (by omega)), y3, z_rcs, y6, z_rcs, nI_clamp (show r < 2 ^ 31 by omega), nI_clamp (show p < 2 ^ 31 by omega), (y10 r r8).1, (y10 r r8).2]
    refine ⟨y_kd A1, y1, y4, by rw [y5]; exact vp_in_nI r8 (by decide), y1, y7, by rw [y8]; exact vp_in_nI r8 (by decide), y1, _, _, ev2, ?_⟩
    obtain ⟨q2, b2, u2, v2, ⟨w1, w2, ⟨w3, w4, w5⟩, ⟨w6, w7, w8⟩, w9, w10⟩, wf, _⟩ := hc2
    rw [z_rcs, w3, z_rcs, w6, z_rcs, (w10 p p8).1, (w10 p p8).2]
    have hk2' := hk2
    obtain ⟨_, _, _, _, ⟨x1, _⟩, xf, _⟩ := hk2'
    refine ⟨w1, w4, by rw [w5]; exact vp_in_nI p8 (by decide), w1, w7, by rw [w8]; exact vp_in_nI p8 (by decide), x1, _, _, ev3, ?_⟩
    have hc3 := cdk_ex I2 hX e3 ⟨q2, b2, u2, v2, ⟨w1, w2, ⟨w3, w4, w5⟩, ⟨w6, w7, w8⟩, w9, w10⟩, wf, by assumption⟩
    obtain ⟨q3, b3, u3, v3, ⟨s1, s2, _, _, s9, _⟩, sf, _⟩ := hc3
    have ns := nwo_sm (h := h3) (ci := 8) (N := 15) sf.1
    have l3 := (inv_k I3 s9).2.1
    have ns2 := nwo_sm (h := h3) (ci := 8) (N := 15) (a := q3) (by have := l3.1; have := l3.2.1; omega)
    obtain ⟨_, _, _, _, ⟨t1, _⟩, _⟩ := cdk_ex I3 hX e4 hk3
    rw [z_rcs, ns.1, ns.2.2.2.1, s2, z_rcs, z_rcs, ns2.1, ns2.2.2.1, y_n s9, y_m s9]
    refine ⟨s1, y_kd s9, s1, y_kd s9, _, ev4, t1, _, _, ev5, ?_⟩
    rw [z_rcs]
end HE
