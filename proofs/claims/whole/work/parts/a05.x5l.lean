/-! the matcher: symmetric, withinWays, firstWithin -/
section GH
variable {V : CV} {U : UV} {G : z_G} {d L mt q b q1 b1 q2 b2 c s : Nat} {h h' h'' : z_H} {S F T : Sc} {X : Nat → Prop}
theorem sc_poi {k : Nat} {v : Int32} {x : Nat} (hA : sc_at q b h S) (hx : x ≠ q) : sc_at q b (z_poi h x k v) S := sc_at_of hA (fun _ _ => ⟨rfl, rfl⟩) (u_ne _ _ (fun e => hx e.symm)) (fun _ _ => rfl) (fun _ _ _ _ => rfl)
theorem e5_symmetric (hV : vM V) (hU : vU V U) (hI : inv V L h) (hL : L + 75 ≤ z_n h) (ht : mtk U L h) (hA : sc_at q b h S) {i p : Nat} (hi : i < U.1 S 0) (hp : p < S.1) : ∃ h', z_Ev G (d + 17) k_X5_symmetric [.ref (L + 21), .ref q, .int (nI i), .int (nI p)] h (.inl (some (.int (nI (U.2.1 S i p)))), h') ∧ inv V L h' ∧ ex (mX L) 5 41 h h' ∧ mtk U L h' := by
  have hX : ∀ a, mX L a → hl L a := fun _ hx => mX_hl hx
  have n1 := y_n8 hA
  have mx : mX L (L + 21) := ⟨by omega, by omega⟩
  obtain ⟨u1, u2⟩ := hU.1 S hA.2.1
  have hi31 : i < 2 ^ 31 := Nat.lt_trans hi (u1 0 (by decide)).2
  by_cases c : z_or h (L + 21) 6 = some q ∧ z_oi h (L + 21) 7 = nI i
  · refine ⟨h, en_X5_symmetric (b_X5_symmetric_0 (z_pu0V rfl) ?_), hI, ex_mono (ex_refl h) (by omega) (by omega), ht⟩
    rw [c.1, z_rcs, if_pos rfl, if_pos c.2]
    refine ⟨ht.1.1, ht.1.1, b_X5_symmetric_37 (z_pu0V rfl) ?_⟩
    obtain ⟨b', S', i', s1, s2, s3, s4⟩ := ht.2.1 q c.1
    obtain ⟨-, eS⟩ := sc_u hA s1
    subst eS
    have ei : i = i' := (nI_eq hi31 (Nat.lt_trans s3 (u1 0 (by decide)).2)).mp (c.2.symm.trans s2)
    subst ei
    rw [ht.1.2.2.1.1, z_rcs, nI_clamp (by omega), s4 p hp]
    exact ⟨ht.1.1, ht.1.2.2.1.2.1, by rw [ht.1.2.2.1.2.2]; exact vp_in_nI (by omega) (by decide), rfl⟩
  · obtain ⟨v13, v8, v9⟩ := hV S hA.2.1
    obtain ⟨g1, a, ev1, I1, e1, m1, k1, ea⟩ := e5_measured (G := G) (d := d) hI hL ht.1 v13 v8 v9 hA
    have A1 := ex_sc hI hX e1 hA
    have L1 : L + 75 ≤ z_n g1 := Nat.le_trans hL e1.1.1
    obtain ⟨r1, r2, r3, r4⟩ := kept_row I1 A1 (by omega) ea
    obtain ⟨g2, N, ev2, I2, e2, m2, k2, r23⟩ := e5_findSymmetric (G := G) (d := d) hV I1 L1 m1 A1 r1 r2 r3 (od := U.1 S) (fun p hp => ⟨by rw [r4 p hp]; exact (u1 p hp).1, (u1 p hp).2⟩) hi31
    have A2 := ex_sc I1 hX e2 A1
    obtain ⟨g3, eg3⟩ : ∃ g, g = z_poi (z_por g2 (L + 21) 6 (some q)) (L + 21) 7 (nI i) := ⟨_, rfl⟩
    have x3 : xt (mX L) g2 g3 := by rw [eg3]; exact xt_trans (xt_por 6 _ mx) (xt_poi 7 _ mx)
    have I3 := inv_xt I2 hX x3
    have e3 : ex (mX L) 0 0 g2 g3 := xt_ex x3 (by rw [eg3]; exact Nat.le_refl _) (by rw [eg3]; exact Nat.le_refl _)
    have o3 : ∀ k, z_or g3 (L + 21) k = if k = 6 then some q else z_or g2 (L + 21) k := fun k => by
      rw [eg3]
      show z_u (z_or g2) (L + 21) (z_u (z_or g2 (L + 21)) 6 (some q)) (L + 21) k = _
      rw [u_eq]; rfl
    have f3 : ∀ k, z_oi g3 (L + 21) k = if k = 7 then nI i else z_oi g2 (L + 21) k := fun k => by
      rw [eg3]
      show z_u (z_oi g2) (L + 21) (z_u (z_oi g2 (L + 21)) 7 (nI i)) (L + 21) k = _
      rw [u_eq]; rfl
    have a3 : z_ai g3 = z_ai g2 := by rw [eg3]; rfl
    have m3 : ms L g3 := by
      obtain ⟨y0, ⟨y1, y2, y3⟩, ⟨y4, y5, y6⟩, y7, y8, y9⟩ := m2
      have kd : z_kd g3 = z_kd g2 := by rw [eg3]; rfl
      have ln : z_ln g3 = z_ln g2 := by rw [eg3]; rfl
      exact ⟨by rw [kd]; exact y0, ⟨by rw [o3, if_neg (by decide)]; exact y1, by rw [kd]; exact y2, by rw [ln]; exact y3⟩, ⟨by rw [o3, if_neg (by decide)]; exact y4, by rw [kd]; exact y5, by rw [ln]; exact y6⟩, by rw [o3, if_neg (by decide)]; exact y7, by rw [kd]; exact y8, by rw [ln]; exact y9⟩
    have A3 := ex_sc I2 hX e3 A2
    have E2 := ex_trans hI I1 hX e1 e2
    have E3 := ex_trans hI I2 hX E2 e3
    have r23' : ∀ p, p < S.1 → z_ai g3 (L + 23) p = nI (U.2.1 S i p) := fun p hp => by
      rw [a3, r23 p (by omega), u2 i hi N p hp]
    refine ⟨g3, en_X5_symmetric (b_X5_symmetric_0 (z_pu0V rfl) ?_), I3, ex_mono E3 (by omega) (by omega), m3, ?_, ?_⟩
    · have j16 : z_J G (d + 17) (m_X5_symmetric z_pu0) (.inl (some (.int (nI (U.2.1 S i p)))), g3) 16 [some (.ref (L + 21)), some (.ref q), some (.int (nI i)), some (.int (nI p))] [] h := by
        refine b_X5_symmetric_16 (z_pu0V rfl) ⟨ht.1.1, _, _, ev1, ?_⟩
        rw [z_rcs]
        refine ⟨m1.1, _, ev2, b_X5_symmetric_27 (z_pu0V rfl) ⟨m2.1, m2.1, ?_⟩⟩
        rw [← eg3]
        refine b_X5_symmetric_37 (z_pu0V rfl) ⟨m3.1, ?_⟩
        rw [m3.2.2.1.1, z_rcs, nI_clamp (by omega), r23' p hp]
        exact ⟨m3.2.2.1.2.1, by rw [m3.2.2.1.2.2]; exact vp_in_nI (by omega) (by decide), rfl⟩
      refine ⟨ht.1.1, ?_⟩
      cases o6 : z_or h (L + 21) 6 with
      | none => rw [z_rcn, if_neg (by intro e; cases e)]; exact j16
      | some q0 =>
        rw [z_rcs]
        by_cases c1 : (some q0 : Option Nat) = some q
        · rw [if_pos c1, if_neg (fun e => c ⟨o6.trans c1, e⟩)]
          exact ⟨ht.1.1, j16⟩
        · rw [if_neg c1]; exact j16
    · intro q' hq'
      rw [o3, if_pos rfl] at hq'
      cases hq'
      exact ⟨b, S, i, A3, by rw [f3, if_pos rfl], hi, r23'⟩
    · refine wi_km (h := h) ⟨fun k hk => ?_, fun k hk => ?_, ?_⟩ (fun q b S hA => ex_sc hI hX E3 hA) ht.2.2
      · rw [o3, if_neg (by omega), k2.1 k (by omega), k1.1 k (by omega)]
      · rw [f3, if_neg (by omega), k2.2.1 k (by omega), k1.2.1 k (by omega)]
      · rw [a3, k2.2.2, k1.2.2.2]
theorem e5_withinWays (hV : vM V) (hU : vU V U) (hI : inv V L h) (hL : L + 75 ≤ z_n h) (ht : mtk U L h) (hF : sc_at q1 b1 h F) (hT : sc_at q2 b2 h T) : ∃ h', z_Ev G (d + 17) k_X5_withinWays [.ref (L + 21), .ref q1, .ref q2] h (.inl (some (.int (nI (U.2.2.1 F T)))), h') ∧ inv V L h' ∧ ex (mX L) 2 16 h h' ∧ mtk U L h' ∧ (U.2.2.1 F T ≠ 0 → ∀ p, p < F.1 → z_ai h' (L + 24) p = nI (U.2.2.2 F T p)) := by
  have hX : ∀ a, mX L a → hl L a := fun _ hx => mX_hl hx
  have n1 := y_n8 hF
  have n2 := y_n8 hT
  have m1 := y_m12 hF
  have m2 := y_m12 hT
  have mx : mX L (L + 21) := ⟨by omega, by omega⟩
  obtain ⟨u0, u1, u2⟩ := hU.2 F T hF.2.1 hT.2.1
  by_cases c : z_or h (L + 21) 9 = some q1 ∧ z_or h (L + 21) 10 = some q2
  · obtain ⟨b1', b2', F', T', s1, s2, s3, s4⟩ := ht.2.2 q1 q2 c.1 c.2
    obtain ⟨-, eF⟩ := sc_u hF s1
    obtain ⟨-, eT⟩ := sc_u hT s2
    subst eF; subst eT
    refine ⟨h, en_X5_withinWays (b_X5_withinWays_0 (z_pu0V rfl) ?_), hI, ex_mono (ex_refl h) (by omega) (by omega), ht, s4⟩
    rw [c.1, z_rcs, if_pos rfl, c.2, z_rcs, if_pos rfl]
    exact ⟨ht.1.1, ht.1.1, b_X5_withinWays_107 (z_pu0V rfl) ⟨ht.1.1, by rw [s3]⟩⟩
  · obtain ⟨g1, af, at', evb, I1, e1, t1, w1, ffa, ffb⟩ := e5_begin (G := G) (d := d + 9) hI hL ht.1 (hV F hF.2.1).1 (hV T hT.2.1).1 hF hT false
    have ms1 : ms L g1 := tq_ms hL t1 ht.1
    have km1 := km_tq hL t1
    have L1 : L + 75 ≤ z_n g1 := Nat.le_trans hL e1.1.1
    obtain ⟨N, eN⟩ : ∃ N : Nat → Nat, N = fun i => uN (z_ai g1 (L + 22) i) := ⟨_, rfl⟩
    have hg : z_pax g1 (L + 22) (fun i => nI (N i)) = g1 := by rw [eN, ← row_u, pax_self]
    -- the rest, from the number's putting on
    have rest : ∀ N' : Nat → Nat, ∃ h', (∀ (r : z_Res), r = (.inl (some (.int (nI (U.2.2.1 F T)))), h') → z_J G (d + 17) (m_X5_withinWays z_pu0) r 65 [some (.ref (L + 21)), some (.ref q1), some (.ref q2)] [] (z_poi (z_pax g1 (L + 22) (fun i => nI (N' i))) (L + 21) 11 (nI (U.2.2.1 F T)))) ∧ inv V L h' ∧ ex (mX L) 2 16 h h' ∧ mtk U L h' ∧ (U.2.2.1 F T ≠ 0 → ∀ p, p < F.1 → z_ai h' (L + 24) p = nI (U.2.2.2 F T p)) := by
      intro N'
      obtain ⟨g2, eg2⟩ : ∃ g, g = z_poi g1 (L + 21) 11 (nI (U.2.2.1 F T)) := ⟨_, rfl⟩
      have ecm : z_poi (z_pax g1 (L + 22) (fun i => nI (N' i))) (L + 21) 11 (nI (U.2.2.1 F T)) = z_pax g2 (L + 22) (fun i => nI (N' i)) := by rw [eg2]; rfl
      rw [ecm]
      have w2 : mw (L + 21) (L + 22) q1 b1 q2 b2 af at' false g2 F T := by
        obtain ⟨⟨y1, y2, y3, y4, y5, y6, y7⟩, hF1, hT1, y8⟩ := w1
        have nq1 : L + 21 ≠ q1 := fun e => by have := mq_ne I1 hF1 (x := L + 21) (by unfold hl; omega); have := (inv_k I1 hF1).2.1.1; omega
        have nq2 : L + 21 ≠ q2 := fun e => by have := mq_ne I1 hT1 (x := L + 21) (by unfold hl; omega); have := (inv_k I1 hT1).2.1.1; omega
        rw [eg2]
        refine ⟨⟨y1, y2, y3, y4, y5, ?_, y7⟩, sc_poi hF1 nq1, sc_poi hT1 nq2, y8⟩
        show z_u (z_oi g1) (L + 21) (z_u (z_oi g1 (L + 21)) 11 _) (L + 21) 4 = _
        rw [u_eq, u_ne _ _ (by decide)]; exact y6
      have x2 : xt (mX L) g1 g2 := by rw [eg2]; exact xt_poi 11 _ mx
      have c2 : z_c g2 = z_c g1 := by rw [eg2]; rfl
      have s2 : z_s g2 = z_s g1 := by rw [eg2]; rfl
      have o2 : z_or g2 = z_or g1 := by rw [eg2]; rfl
      have f2 : ∀ k, z_oi g2 (L + 21) k = if k = 11 then nI (U.2.2.1 F T) else z_oi g1 (L + 21) k := fun k => by
        rw [eg2]
        show z_u (z_oi g1) (L + 21) (z_u (z_oi g1 (L + 21)) 11 (nI (U.2.2.1 F T))) (L + 21) k = _
        rw [u_eq]; rfl
      have ms2 : ms L g2 := by rw [eg2]; exact ms1
      -- whatever rows 22 and 24 hold, the end is well
      have fin : ∀ (f f' : Nat → Int32), (U.2.2.1 F T ≠ 0 → ∀ p, p < F.1 → f' p = nI (U.2.2.2 F T p)) → ∃ h', h' = z_por (z_por (z_pax (z_pax g2 (L + 22) f) (L + 24) f') (L + 21) 9 (some q1)) (L + 21) 10 (some q2) ∧ inv V L h' ∧ ex (mX L) 2 16 h h' ∧ mtk U L h' ∧ (U.2.2.1 F T ≠ 0 → ∀ p, p < F.1 → z_ai h' (L + 24) p = nI (U.2.2.2 F T p)) ∧ z_oi h' (L + 21) 11 = nI (U.2.2.1 F T) := by
        intro f f' hf
        obtain ⟨h', eh⟩ : ∃ h', h' = z_por (z_por (z_pax (z_pax g2 (L + 22) f) (L + 24) f') (L + 21) 9 (some q1)) (L + 21) 10 (some q2) := ⟨_, rfl⟩
        have xx : xt (mX L) g1 h' := by rw [eh]; exact xt_trans x2 (xt_trans (xt_pax _ ⟨by omega, by omega⟩) (xt_trans (xt_pax _ ⟨by omega, by omega⟩) (xt_trans (xt_por 9 _ mx) (xt_por 10 _ mx))))
        have ee : ex (mX L) 0 0 g1 h' := xt_ex xx (by rw [eh]; exact Nat.le_of_eq c2) (by rw [eh]; exact Nat.le_of_eq s2)
        have E := ex_trans hI I1 hX e1 ee
        have oo : ∀ k, z_or h' (L + 21) k = if k = 10 then some q2 else if k = 9 then some q1 else z_or g1 (L + 21) k := fun k => by
          rw [eh]
          show z_u (z_u (z_or g2) (L + 21) (z_u (z_or g2 (L + 21)) 9 (some q1))) (L + 21) (z_u (z_u (z_or g2) (L + 21) (z_u (z_or g2 (L + 21)) 9 (some q1)) (L + 21)) 10 (some q2)) (L + 21) k = _
          rw [u_eq, u_eq, o2]; rfl
        have ff : ∀ k, z_oi h' (L + 21) k = z_oi g2 (L + 21) k := fun k => by rw [eh]; rfl
        have a24 : z_ai h' (L + 24) = f' := by rw [eh]; exact pax_ai _ _ _
        have a23 : z_ai h' (L + 23) = z_ai g1 (L + 23) := by
          rw [eh]
          show z_u (z_u (z_ai g2) (L + 22) f) (L + 24) f' (L + 23) = _
          rw [u_ne _ _ (by omega), u_ne _ _ (by omega), eg2]; rfl
        have m3 : ms L h' := by
          obtain ⟨y0, ⟨y1, y2, y3⟩, ⟨y4, y5, y6⟩, y7, y8, y9⟩ := ms1
          have kd : z_kd h' = z_kd g1 := by rw [eh, eg2]; rfl
          have ln : z_ln h' = z_ln g1 := by rw [eh, eg2]; rfl
          exact ⟨by rw [kd]; exact y0, ⟨by rw [oo, if_neg (by decide), if_neg (by decide)]; exact y1, by rw [kd]; exact y2, by rw [ln]; exact y3⟩, ⟨by rw [oo, if_neg (by decide), if_neg (by decide)]; exact y4, by rw [kd]; exact y5, by rw [ln]; exact y6⟩, by rw [oo, if_neg (by decide), if_neg (by decide)]; exact y7, by rw [kd]; exact y8, by rw [ln]; exact y9⟩
        have f11 : z_oi h' (L + 21) 11 = nI (U.2.2.1 F T) := by rw [ff, f2, if_pos rfl]
        refine ⟨h', eh, inv_xt I1 hX xx, ex_mono E (by omega) (by omega), ⟨m3, ?_, ?_⟩, fun hn p hp => by rw [a24]; exact hf hn p hp, f11⟩
        · refine sy_km (h := h) ⟨fun k hk => ?_, fun k hk => ?_, ?_⟩ (fun q b S hA => ex_sc hI hX E hA) ht.2.1
          · rw [oo, if_neg (by omega), if_neg (by omega), km1.1 k (by omega)]
          · rw [ff, f2, if_neg (by omega), km1.2.1 k (by omega)]
          · rw [a23, km1.2.2.1]
        · intro q1' q2' h9 h10
          rw [oo, if_neg (by decide), if_pos rfl] at h9
          rw [oo, if_pos rfl] at h10
          cases h9; cases h10
          exact ⟨b1, b2, F, T, ex_sc hI hX E hF, ex_sc hI hX E hT, f11, fun hn p hp => by rw [a24]; exact hf hn p hp⟩
      have r24 : ∀ f, z_ai (z_pax g2 (L + 22) f) (L + 24) = z_ai g2 (L + 24) := fun f => u_ne _ _ (by omega)
      by_cases hz : U.2.2.1 F T = 0
      · obtain ⟨h', eh, ih', exh, mth, wh, fh⟩ := fin (fun i => nI (N' i)) (z_ai g2 (L + 24)) (fun hn => absurd hz hn)
        rw [show z_pax (z_pax g2 (L + 22) (fun i => nI (N' i))) (L + 24) (z_ai g2 (L + 24)) = z_pax g2 (L + 22) (fun i => nI (N' i)) by rw [← r24 (fun i => nI (N' i)), pax_self]] at eh
        refine ⟨h', fun r er => b_X5_withinWays_65 (z_pu0V rfl) ⟨ms2.1, ?_⟩, ih', exh, mth, wh⟩
        have e11 : z_oi (z_pax g2 (L + 22) (fun i => nI (N' i))) (L + 21) 11 = nI (U.2.2.1 F T) := by
          show z_oi g2 (L + 21) 11 = _
          rw [f2, if_pos rfl]
        rw [e11, if_pos (by rw [hz])]
        refine b_X5_withinWays_97 (z_pu0V rfl) ⟨ms2.1, ms2.1, ?_⟩
        rw [← eh]
        exact b_X5_withinWays_107 (z_pu0V rfl) ⟨mth.1.1, by rw [fh]; exact er⟩
      · obtain ⟨v1, v2⟩ := u2 hz N'
        have ef := e5_finish (G := G) (d := d + (10 - F.1)) w2 F.1 0 0 0 N' (by omega) (by decide) (by decide) (fun i hi => absurd hi (Nat.not_lt_zero _))
        rw [show d + (10 - F.1) + F.1 + 6 = d + 16 by omega, v1] at ef
        obtain ⟨h', eh, ih', exh, mth, wh, fh⟩ := fin (fun i => nI ((g_fin F T false F.1 0 0 0 N').2 i)) (va_cpy (fun i => nI ((g_fin F T false F.1 0 0 0 N').2 i)) (z_ai g2 (L + 24)) 0 0 8) (fun _ p hp => by
          unfold va_cpy
          rw [if_pos ⟨by omega, by omega⟩, Nat.zero_add, Nat.sub_zero]
          exact congrArg nI (v2 p hp))
        refine ⟨h', fun r er => b_X5_withinWays_65 (z_pu0V rfl) ⟨ms2.1, ?_⟩, ih', exh, mth, wh⟩
        have e11 : z_oi (z_pax g2 (L + 22) (fun i => nI (N' i))) (L + 21) 11 = nI (U.2.2.1 F T) := by
          show z_oi g2 (L + 21) 11 = _
          rw [f2, if_pos rfl]
        rw [e11, if_neg (fun e => hz ((nI_eq u0 (by decide)).mp e))]
        refine ⟨ms2.1, _, _, ef, ?_⟩
        have or1 : ∀ f, z_or (z_pax g2 (L + 22) f) (L + 21) 5 = some (L + 22) := fun f => ms2.2.1.1
        have or2 : ∀ f, z_or (z_pax g2 (L + 22) f) (L + 21) 12 = some (L + 24) := fun f => ms2.2.2.2.1
        rw [if_neg (show ¬ nI (Bool.toNat true) = nI 0 by decide), or1, z_rcs, or2, z_rcs, pax_ai, r24, nI_clamp (show 0 < 2 ^ 31 by decide), nI_clamp (show 8 < 2 ^ 31 by decide)]
        refine ⟨ms2.1, ms2.1, ⟨by decide, by decide, by decide, ?_, ?_⟩, Or.inl ⟨ms2.2.1.2.1, ms2.2.2.2.2.1, ?_⟩⟩
        · show 8 ≤ z_ln g2 (L + 22); rw [ms2.2.1.2.2]; decide
        · show 8 ≤ z_ln g2 (L + 24); rw [ms2.2.2.2.2.2]; decide
        · refine b_X5_withinWays_97 (z_pu0V rfl) ⟨ms2.1, ms2.1, ?_⟩
          rw [← eh]
          exact b_X5_withinWays_107 (z_pu0V rfl) ⟨mth.1.1, by rw [fh]; exact er⟩
    have F1 := w1.2.1
    have T1 := w1.2.2.1
    have main : ∃ h', z_J G (d + 17) (m_X5_withinWays z_pu0) (.inl (some (.int (nI (U.2.2.1 F T)))), h') 16 [some (.ref (L + 21)), some (.ref q1), some (.ref q2)] [] h ∧ inv V L h' ∧ ex (mX L) 2 16 h h' ∧ mtk U L h' ∧ (U.2.2.1 F T ≠ 0 → ∀ p, p < F.1 → z_ai h' (L + 24) p = nI (U.2.2.2 F T p)) := by
      by_cases hz : T.1 < F.1 ∨ T.2.1 < F.2.1
      · obtain ⟨h', hj, r1, r2, r3, r4⟩ := rest N
        have hj := hj _ rfl
        have uz := u1 N
        rw [if_pos hz] at uz
        rw [hg, uz] at hj
        refine ⟨h', b_X5_withinWays_16 (z_pu0V rfl) ⟨ht.1.1, _, evb, y_kd F1, y_kd T1, ?_⟩, r1, r2, r3, r4⟩
        rw [y_n F1, y_n T1, y_m F1, y_m T1, uz]
        by_cases c1 : T.1 < F.1
        · rw [if_pos (nI_lt c1 (by omega))]
          exact ⟨ms1.1, hj⟩
        · rw [if_neg (nI_nlt (by omega) (by omega)), if_pos (nI_lt (by omega) (by omega))]
          exact ⟨y_kd F1, y_kd T1, ms1.1, hj⟩
      · have uz := u1 N
        rw [if_neg hz] at uz
        obtain ⟨h', hj, r1, r2, r3, r4⟩ := rest (g_tal F T false F.1 0 0 0 N).2
        have hj := hj _ rfl
        have ev := e5_tally (G := G) (d := d + (10 - F.1)) w1 F.1 0 0 0 N (by omega) (by decide) (by decide) (fun i hi => absurd hi (Nat.not_lt_zero _))
        rw [hg, show d + (10 - F.1) + F.1 + 6 = d + 16 by omega] at ev
        have w2 := mw_n (f := fun i => nI ((g_tal F T false F.1 0 0 0 N).2 i)) w1
        have et := e5_twinOrders (G := G) (d := d + 12) (N := (g_tal F T false F.1 0 0 0 N).2) w2.1 w2.2.1 w2.2.2.1 (fun i _ => by rw [pax_ai])
        refine ⟨h', b_X5_withinWays_16 (z_pu0V rfl) ⟨ht.1.1, _, evb, y_kd F1, y_kd T1, ?_⟩, r1, r2, r3, r4⟩
        rw [y_n F1, y_n T1, y_m F1, y_m T1, if_neg (nI_nlt (by omega) (by omega)), if_neg (nI_nlt (by omega) (by omega))]
        refine ⟨y_kd F1, y_kd T1, ms1.1, _, _, ev, ms1.1, _, _, et, ms1.1, ?_⟩
        rw [n_mul, ← uz]
        exact hj
    obtain ⟨h', hj, r1, r2, r3, r4⟩ := main
    refine ⟨h', en_X5_withinWays (b_X5_withinWays_0 (z_pu0V rfl) ⟨ht.1.1, ?_⟩), r1, r2, r3, r4⟩
    cases o9 : z_or h (L + 21) 9 with
    | none => rw [z_rcn, if_neg (by intro e; cases e)]; exact hj
    | some q0 =>
      rw [z_rcs]
      by_cases c1 : (some q0 : Option Nat) = some q1
      · rw [if_pos c1]
        refine ⟨ht.1.1, ?_⟩
        cases o10 : z_or h (L + 21) 10 with
        | none => rw [z_rcn, if_neg (by intro e; cases e)]; exact hj
        | some q0' =>
          rw [z_rcs, if_neg (fun e => c ⟨o9.trans c1, o10.trans e⟩)]
          exact hj
      · rw [if_neg c1]; exact hj
theorem e5_firstWithin (hV : vM V) (hU : vU V U) (hI : inv V L h) (hL : L + 75 ≤ z_n h) (ht : mtk U L h) (hF : sc_at q1 b1 h F) (hT : sc_at q2 b2 h T) {p : Nat} (hp : p < F.1) : ∃ h', z_Ev G (d + 18) k_X5_firstWithin [.ref (L + 21), .ref q1, .ref q2, .int (nI p)] h (.inl (some (.int (if U.2.2.1 F T = 0 then mI else nI (U.2.2.2 F T p)))), h') ∧ inv V L h' ∧ ex (mX L) 2 16 h h' ∧ mtk U L h' := by
  have n1 := y_n8 hF
  obtain ⟨u0, u1, u2⟩ := hU.2 F T hF.2.1 hT.2.1
  obtain ⟨h', ev, i', e', t', w'⟩ := e5_withinWays (G := G) (d := d) hV hU hI hL ht hF hT
  refine ⟨h', en_X5_firstWithin (b_X5_firstWithin_0 (z_pu0V rfl) ⟨ht.1.1, _, _, ev, ?_⟩), i', e', t'⟩
  by_cases c : U.2.2.1 F T = 0
  · rw [if_pos (by rw [c]), if_pos c]
  · rw [if_neg (fun e => c ((nI_eq u0 (by decide)).mp e)), if_neg c, t'.1.2.2.2.1, z_rcs, nI_clamp (by omega), w' c p hp]
    exact ⟨t'.1.1, t'.1.2.2.2.2.1, by rw [t'.1.2.2.2.2.2]; exact vp_in_nI (by omega) (by decide), rfl⟩
end GH
