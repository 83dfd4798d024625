/-! the matcher: a symmetry by its number; ways within -/
def symS (S : Sc) (od : Nat → Nat) (p : Nat) (st : Nat × Nat × (Nat → Nat)) : Nat × Nat × (Nat → Nat) := (st.1 % (if od (p + 1) < 1 then 1 else od (p + 1)), st.2.1 ||| 2 ^ (g_nmA S S true p st.2.1 (st.1 / (if od (p + 1) < 1 then 1 else od (p + 1))) st.2.2).1, z_u (g_nmA S S true p st.2.1 (st.1 / (if od (p + 1) < 1 then 1 else od (p + 1))) st.2.2).2 p (g_nmA S S true p st.2.1 (st.1 / (if od (p + 1) < 1 then 1 else od (p + 1))) st.2.2).1)
/-- orders, the i-th symmetry, ways within, the first of them -/
abbrev UV : Type := (Sc → Nat → Nat) × (Sc → Nat → Nat → Nat) × (Sc → Sc → Nat) × (Sc → Sc → Nat → Nat)
def vU (V : CV) (U : UV) : Prop := (∀ S, c_sok S → (∀ p, p < 9 → V 8 S p = nI (U.1 S p) ∧ U.1 S p < 2 ^ 31) ∧ ∀ i, i < U.1 S 0 → ∀ N p, p < S.1 → (it (symS S (U.1 S)) (i, 0, N) S.1).2.2 p = U.2.1 S i p) ∧ ∀ F T, c_sok F → c_sok T → U.2.2.1 F T < 2 ^ 31 ∧ (∀ N, U.2.2.1 F T = if T.1 < F.1 ∨ T.2.1 < F.2.1 then 0 else (g_tal F T false F.1 0 0 0 N).1 * g_twO F) ∧ (U.2.2.1 F T ≠ 0 → ∀ N, (g_fin F T false F.1 0 0 0 N).1 = true ∧ ∀ p, p < F.1 → (g_fin F T false F.1 0 0 0 N).2 p = U.2.2.2 F T p)
def sy (U : UV) (L : Nat) (h : z_H) : Prop := ∀ q, z_or h (L + 21) 6 = some q → ∃ b S i, sc_at q b h S ∧ z_oi h (L + 21) 7 = nI i ∧ i < U.1 S 0 ∧ ∀ p, p < S.1 → z_ai h (L + 23) p = nI (U.2.1 S i p)
def wi (U : UV) (L : Nat) (h : z_H) : Prop := ∀ q1 q2, z_or h (L + 21) 9 = some q1 → z_or h (L + 21) 10 = some q2 → ∃ b1 b2 F T, sc_at q1 b1 h F ∧ sc_at q2 b2 h T ∧ z_oi h (L + 21) 11 = nI (U.2.2.1 F T) ∧ (U.2.2.1 F T ≠ 0 → ∀ p, p < F.1 → z_ai h (L + 24) p = nI (U.2.2.2 F T p))
def mtk (U : UV) (L : Nat) (h : z_H) : Prop := ms L h ∧ sy U L h ∧ wi U L h
section GG
variable {V : CV} {U : UV} {G : z_G} {d L mt q b q1 b1 q2 b2 c s : Nat} {h h' h'' : z_H} {S F T : Sc} {X : Nat → Prop}
theorem sy_km (hk : (∀ k, k = 6 → z_or h' (L + 21) k = z_or h (L + 21) k) ∧ (∀ k, k = 7 → z_oi h' (L + 21) k = z_oi h (L + 21) k) ∧ z_ai h' (L + 23) = z_ai h (L + 23)) (hs : ∀ q b S, sc_at q b h S → sc_at q b h' S) (hy : sy U L h) : sy U L h' := by
  intro q hq
  rw [hk.1 6 rfl] at hq
  obtain ⟨b, S, i, s1, s2, s3, s4⟩ := hy q hq
  exact ⟨b, S, i, hs _ _ _ s1, by rw [hk.2.1 7 rfl]; exact s2, s3, fun p hp => by rw [hk.2.2]; exact s4 p hp⟩
theorem wi_km (hk : (∀ k, k = 9 ∨ k = 10 → z_or h' (L + 21) k = z_or h (L + 21) k) ∧ (∀ k, k = 11 → z_oi h' (L + 21) k = z_oi h (L + 21) k) ∧ z_ai h' (L + 24) = z_ai h (L + 24)) (hs : ∀ q b S, sc_at q b h S → sc_at q b h' S) (hy : wi U L h) : wi U L h' := by
  intro q1 q2 hq1 hq2
  rw [hk.1 9 (Or.inl rfl)] at hq1
  rw [hk.1 10 (Or.inr rfl)] at hq2
  obtain ⟨b1, b2, F, T, s1, s2, s3, s4⟩ := hy q1 q2 hq1 hq2
  exact ⟨b1, b2, F, T, hs _ _ _ s1, hs _ _ _ s2, by rw [hk.2.1 11 rfl]; exact s3, fun hn p hp => by rw [hk.2.2]; exact s4 hn p hp⟩
theorem mtk_km (hI : inv V L h) (e : ex (mX L) c s h h') (hm : ms L h') (hk : km L h h') (ht : mtk U L h) : mtk U L h' := ⟨hm, sy_km ⟨fun k hk' => hk.1 k (by omega), fun k hk' => hk.2.1 k (by omega), hk.2.2.1⟩ (fun q b S hA => ex_sc hI (fun _ hx => mX_hl hx) e hA) ht.2.1, wi_km ⟨fun k hk' => hk.1 k (by omega), fun k hk' => hk.2.1 k (by omega), hk.2.2.2⟩ (fun q b S hA => ex_sc hI (fun _ hx => mX_hl hx) e hA) ht.2.2⟩
theorem mtk_ex (hI : inv V L h) (hL : L + 75 ≤ z_n h) (e : ex X c s h h') (hXl : ∀ x, X x → hl L x) (hX : ∀ x, mX L x → ¬ X x) (ht : mtk U L h) : mtk U L h' := by
  obtain ⟨hm, hk⟩ := ms_ex hI hL e hX ht.1
  exact ⟨hm, sy_km ⟨fun k hk' => hk.1 k (by omega), fun k hk' => hk.2.1 k (by omega), hk.2.2.1⟩ (fun q b S hA => ex_sc hI hXl e hA) ht.2.1, wi_km ⟨fun k hk' => hk.1 k (by omega), fun k hk' => hk.2.1 k (by omega), hk.2.2.2⟩ (fun q b S hA => ex_sc hI hXl e hA) ht.2.2⟩
theorem symS_ok {od : Nat → Nat} (hn : S.1 ≤ 8) {i : Nat} (hi : i < 2 ^ 31) (N : Nat → Nat) : ∀ p, p ≤ S.1 → (it (symS S od) (i, 0, N) p).1 < 2 ^ 31 ∧ (it (symS S od) (i, 0, N) p).2.1 < 256 ∧ ∀ j, j < p → (it (symS S od) (i, 0, N) p).2.2 j < 8 := by
  intro p
  induction p with
  | zero => intro _; exact ⟨hi, (by decide : 0 < 256), fun j hj => absurd hj (Nat.not_lt_zero _)⟩
  | succ p ih =>
    intro hp
    obtain ⟨i1, i2, i3⟩ := ih (by omega)
    rw [it_s]
    obtain ⟨st, est⟩ : ∃ st, st = it (symS S od) (i, 0, N) p := ⟨_, rfl⟩
    rw [← est] at i1 i2 i3 ⊢
    have lt : (g_nmA S S true p st.2.1 (st.1 / (if od (p + 1) < 1 then 1 else od (p + 1))) st.2.2).1 < 8 := nmV_lt _ _ _ _ (by omega)
    refine ⟨Nat.lt_of_le_of_lt (Nat.mod_le _ _) i1, or_lt256 i2 (t_pow lt), fun j hj => ?_⟩
    show z_u _ p _ j < 8
    by_cases e : j = p
    · rw [e, u_eq]; exact lt
    · rw [u_ne _ _ e]
      have := nmV_pre (F := S) (T := S) (ex := true) (go := fun u N => g_fin S S true (S.1 - (p + 1)) (p + 1) u 0 N) (p := p) (us := st.2.1) (sk := st.1 / (if od (p + 1) < 1 then 1 else od (p + 1))) (fun u N i hi => fin_pre _ _ _ _ _ i (by omega)) S.1 0 0 st.2.2 j (by omega)
      show (nmV _ S S true p st.2.1 _ S.1 0 0 st.2.2).2 j < 8
      rw [this]
      exact i3 j (by omega)
theorem e5_findSymmetric (hV : vM V) (hI : inv V L h) (hL : L + 75 ≤ z_n h) (hm : ms L h) (hA : sc_at q b h S) {a : Nat} (ha : fr L h a) (ka : z_kd h a = 1) (la : z_ln h a = 9) {od : Nat → Nat} (hod : ∀ p, p < 9 → z_ai h a p = nI (od p) ∧ od p < 2 ^ 31) {i : Nat} (hi : i < 2 ^ 31) : ∃ h' N, z_Ev G (d + 16) k_X5_findSymmetric [.ref (L + 21), .ref q, .ref a, .int (nI i)] h (.inl none, h') ∧ inv V L h' ∧ ex (mX L) 2 16 h h' ∧ ms L h' ∧ ((∀ k, 6 ≤ k → z_or h' (L + 21) k = z_or h (L + 21) k) ∧ (∀ k, k ≠ 4 → z_oi h' (L + 21) k = z_oi h (L + 21) k) ∧ z_ai h' (L + 24) = z_ai h (L + 24)) ∧ ∀ p, p < 8 → z_ai h' (L + 23) p = nI ((it (symS S od) (i, 0, N) S.1).2.2 p) := by
  have hX : ∀ a, mX L a → hl L a := fun _ hx => mX_hl hx
  have n1 := y_n8 hA
  obtain ⟨g, af, at', evb, I1, e1, t1, w1, ffa, ffb⟩ := e5_begin (G := G) (d := d + 8) hI hL hm (hV S hA.2.1).1 (hV S hA.2.1).1 hA hA true
  obtain ⟨N, eN⟩ : ∃ N : Nat → Nat, N = fun i => uN (z_ai g (L + 22) i) := ⟨_, rfl⟩
  have hg : z_pax g (L + 22) (fun i => nI (N i)) = g := by rw [eN, ← row_u, pax_self]
  have ms1 : ms L g := tq_ms hL t1 hm
  have na : a ≠ L + 22 := fun e => ha.2.1 (by rw [e]; unfold hl; omega)
  have ra : ∀ f p, p < 9 → z_ai (z_pax g (L + 22) f) a p = nI (od p) := fun f p hp => by
    rw [show z_ai (z_pax g (L + 22) f) a = z_ai g a from u_ne _ _ na, (t1.2 a ha.1).2.2.1]
    exact (hod p hp).1
  have kaF : ∀ f, z_kd (z_pax g (L + 22) f) a = 1 := fun f => by
    show z_kd g a = 1
    rw [(t1.2 a ha.1).1]; exact ka
  have laF : ∀ f, z_ln (z_pax g (L + 22) f) a = 9 := fun f => by
    show z_ln g a = 9
    rw [(t1.2 a ha.1).2.1]; exact la
  have inv0 := symS_ok (S := S) (od := od) n1.2 hi N
  obtain ⟨g2, eg2⟩ : ∃ g2, g2 = z_pax (z_pax g (L + 22) (fun i_1 => nI ((it (symS S od) (i, 0, N) S.1).2.2 i_1))) (L + 23) (va_cpy (fun i_1 => nI ((it (symS S od) (i, 0, N) S.1).2.2 i_1)) (z_ai g (L + 23)) 0 0 8) := ⟨_, rfl⟩
  have e23 : z_ai g2 (L + 23) = va_cpy (fun i_1 => nI ((it (symS S od) (i, 0, N) S.1).2.2 i_1)) (z_ai g (L + 23)) 0 0 8 := by rw [eg2]; exact pax_ai _ _ _
  have km1 := km_tq hL t1
  refine ⟨g2, N, en_X5_findSymmetric (b_X5_findSymmetric_0 (z_pu0V rfl) ⟨hm.1, _, evb, ?_⟩), ?_, ?_, ?_, ⟨?_, ?_, ?_⟩, fun p hp => ?_⟩
  · have key := z_forH (G := G) (d := d + 16) (μ := m_X5_findSymmetric z_pu0) (r := (.inl none, g2)) (pc := 16) (fun p (st : Nat × Nat × (Nat → Nat)) => [some (.ref (L + 21)), some (.ref q), some (.ref a), none, some (.int (nI st.1)), some (.int (nI st.2.1)), some (.int (nI p)), none, none]) (fun _ st => z_pax g (L + 22) (fun i => nI (st.2.2 i))) (symS S od) (i, 0, N) S.1 ?_ ?_
    · rw [show z_pax g (L + 22) (fun i_1 => nI (((i, 0, N) : Nat × Nat × (Nat → Nat)).2.2 i_1)) = g from hg] at key
      exact key
    · intro p hp hJ
      obtain ⟨i1, i2, i3⟩ := inv0 p (by omega)
      obtain ⟨st, est⟩ : ∃ st, st = it (symS S od) (i, 0, N) p := ⟨_, rfl⟩
      rw [← est] at i1 i2 i3 hJ ⊢
      have Ap : sc_at q b (z_pax g (L + 22) (fun i => nI (st.2.2 i))) S := (mw_n w1).2.1
      have hop := (hod (p + 1) (by omega)).2
      obtain ⟨e, ee⟩ : ∃ e, e = (if od (p + 1) < 1 then 1 else od (p + 1)) := ⟨_, rfl⟩
      have he0 : 0 < e := by rw [ee]; split <;> omega
      have he1 : e < 2 ^ 31 := by rw [ee]; split <;> omega
      have hdiv : st.1 / e < 2 ^ 31 := Nat.lt_of_le_of_lt (Nat.div_le_self _ _) i1
      have en := e5_nameAfter (G := G) (d := d) (N := st.2.2) w1 (p := p) (us := st.2.1) (sk := st.1 / e) hp i2 hdiv i3
      have lt : (g_nmA S S true p st.2.1 (st.1 / e) st.2.2).1 < 8 := nmV_lt _ _ _ _ (by omega)
      refine b_X5_findSymmetric_16 (z_pu0V rfl) ?_
      rw [y_n Ap, if_pos (nI_lt hp (by omega)), nI_add, nI_clamp (show p + 1 < 2 ^ 31 by omega), nI_clamp (show p < 2 ^ 31 by omega), ra _ (p + 1) (by omega)]
      refine ⟨y_kd Ap, kaF _, by rw [laF]; exact vp_in_nI (by omega) (by decide), _, _, e_max, ?_⟩
      rw [show (if nI (od (p + 1)) < nI 1 then nI 1 else nI (od (p + 1))) = nI e by
        rw [ee]
        by_cases c : od (p + 1) < 1
        · rw [if_pos c, if_pos (nI_lt c (by decide))]
        · rw [if_neg c, if_neg (nI_nlt (by omega) (by omega))]]
      refine ⟨fun e0 => by have := (nI_eq he1 (by decide)).mp e0; omega, ms1.1, ?_⟩
      rw [pk_div i1 he0 he1]
      refine ⟨_, _, en, fun e0 => by have := (nI_eq he1 (by decide)).mp e0; omega, ms1.1, ?_⟩
      have or1 : ∀ f, z_or (z_pax g (L + 22) f) (L + 21) 5 = some (L + 22) := fun f => ms1.2.1.1
      rw [or1, z_rcs, pax_pai, nu, ← pk_div i1 he0 he1, pk_rem i1 he0 he1, show nI 1 <<< (nI (g_nmA S S true p st.2.1 (st.1 / e) st.2.2).1 &&& nI 31) = nI (2 ^ (g_nmA S S true p st.2.1 (st.1 / e) st.2.2).1) from n_one (by omega), fa_or]
      refine ⟨ms1.2.1.2.1, ?_, ?_⟩
      · show vp_in (nI p) (z_ln g (L + 22))
        rw [ms1.2.1.2.2]; exact vp_in_nI (by omega) (by decide)
      · unfold symS at hJ
        rw [← ee] at hJ
        exact hJ
    · have Ap : sc_at q b (z_pax g (L + 22) (fun i_1 => nI ((it (symS S od) (i, 0, N) S.1).2.2 i_1))) S := (mw_n w1).2.1
      refine b_X5_findSymmetric_16 (z_pu0V rfl) ?_
      have or1 : ∀ f, z_or (z_pax g (L + 22) f) (L + 21) 5 = some (L + 22) := fun f => ms1.2.1.1
      have or2 : ∀ f, z_or (z_pax g (L + 22) f) (L + 21) 8 = some (L + 23) := fun f => ms1.2.2.1.1
      have r23 : ∀ f, z_ai (z_pax g (L + 22) f) (L + 23) = z_ai g (L + 23) := fun f => u_ne _ _ (by omega)
      rw [y_n Ap, if_neg (nI_nlt (Nat.le_refl _) (by omega)), or1, z_rcs, or2, z_rcs, pax_ai, r23, nI_clamp (show 0 < 2 ^ 31 by decide), nI_clamp (show 8 < 2 ^ 31 by decide)]
      refine ⟨y_kd Ap, ms1.1, ms1.1, ⟨by decide, by decide, by decide, ?_, ?_⟩, Or.inl ⟨ms1.2.1.2.1, ms1.2.2.1.2.1, by rw [eg2]⟩⟩
      · show 8 ≤ z_ln g (L + 22); rw [ms1.2.1.2.2]; decide
      · show 8 ≤ z_ln g (L + 23); rw [ms1.2.2.1.2.2]; decide
  · rw [eg2]; exact inv_xt I1 hX (xt_trans (xt_pax _ ⟨by omega, by omega⟩) (xt_pax _ ⟨by omega, by omega⟩))
  · rw [eg2]; exact ex_px (ex_px e1 (Or.inl ⟨by omega, by omega⟩)) (Or.inl ⟨by omega, by omega⟩)
  · rw [eg2]; exact ms1
  · intro k hk; rw [eg2]; exact km1.1 k hk
  · intro k hk; rw [eg2]; exact km1.2.1 k hk
  · rw [eg2]
    show z_u (z_u (z_ai g) (L + 22) _) (L + 23) _ (L + 24) = _
    rw [u_ne _ _ (by omega), u_ne _ _ (by omega)]; exact km1.2.2.2
  · rw [e23]
    unfold va_cpy
    rw [if_pos ⟨by omega, by omega⟩]
    show nI ((it (symS S od) (i, 0, N) S.1).2.2 (0 + (p - 0))) = _
    rw [Nat.zero_add, Nat.sub_zero]
end GG
