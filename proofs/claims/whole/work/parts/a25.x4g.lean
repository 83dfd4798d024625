/-! THE LEAST ROW: whether a scheme is its least -/
def ilS (S : Sc) (p : Nat) (s : lS) : lS := (s.1, g_ren S p p (lP s), lC s, (g_key S (lP s) p (2 ^ p - 1) p (lE s)).2, lM s, z_u (lB s) p (g_key S (lP s) p (2 ^ p - 1) p (lE s)).1)
def g_isl (S : Sc) (s : lS) : Bool := !(g_des S true S.1 0 0 false (it (ilS S) s S.1)).1
section HU
variable {V : CV} {G : z_G} {d L x q b tw c s : Nat} {h h' h'' g : z_H} {S : Sc} {X : Nat → Prop}
theorem il_ok (hS : c_sok S) {s0 : lS} (h0 : lI S 0 s0) (hs : s0.1 = false) : ∀ p, p ≤ S.1 → lI S p (it (ilS S) s0 p) ∧ (it (ilS S) s0 p).1 = false := by
  have hn := hS.1
  intro p
  induction p with
  | zero => intro _; exact ⟨h0, hs⟩
  | succ p ih =>
    intro hp
    obtain ⟨i1, i2⟩ := ih (by omega)
    rw [it_s]
    obtain ⟨s, es⟩ : ∃ s, s = it (ilS S) s0 p := ⟨_, rfl⟩
    rw [← es] at i1 i2 ⊢
    have kl := key_lt S (lP s) p (2 ^ p - 1) p (lE s)
    have kE := key_E (P := lP s) (E := lE s) (p := p) (us := 2 ^ p - 1) (dp := p) hS.2.1 (top_P hS (by omega) (fun e => by rw [e]) i1 (by omega)) i1.2.1
    have i3 : lI S p (s.1, lP s, lC s, (g_key S (lP s) p (2 ^ p - 1) p (lE s)).2, lM s, z_u (lB s) p (g_key S (lP s) p (2 ^ p - 1) p (lE s)).1) := by
      refine ⟨i1.1, kE, fun i => ⟨(i1.2.2 i).1, ?_⟩⟩
      show z_u (lB s) p _ i < _
      by_cases e : i = p
      · rw [e, u_eq]; exact kl
      · rw [u_ne _ _ e]; exact (i1.2.2 i).2
    exact ⟨ren_I (p := p) hS.2.1 i3 _ rfl, i2⟩
theorem e4_isLeast (hI : inv V L h) (hL : L + 75 ≤ z_n h) (hk : lk L h) (hA : sc_at q b h S) (v13 : ∀ p, p < 8 → V 13 S p = nI (g_twT S p)) : ∃ h' s0, lI S 0 s0 ∧ s0.1 = false ∧ z_Ev G (d + 23) k_X4_isLeast [.ref (L + 25), .ref q] h (.inl (some (.int (nI (g_isl S s0).toNat))), h') ∧ inv V L h' ∧ ex (lX L) 1 8 h h' ∧ lk L h' ∧ lkm L h h' ∧ nkr h h' := by
  have hX : ∀ a, lX L a → hl L a := fun _ hx => lX_hl hx
  have hS := hA.2.1
  have hn := hS.1
  have hm := hS.2.1
  obtain ⟨g, tw, ev, Ig, eg, hw, o1, o5, o4, rws, nkg⟩ := e4_begin (G := G) (d := d + 15) hI hL hk.1 v13 hA true
  have hk' := hk
  obtain ⟨ls, ⟨E, e1, e2⟩, ⟨M, m1, m2⟩, B, b1, b2⟩ := hk'
  have e5 : z_ai g (L + 25 + 5) = fun i => nI (E i) := by rw [(rws 5 (by decide)).1]; exact e1
  have m1' : z_al g (L + 25 + 1) = fun i => k64 (M i) := by rw [(rws 1 (by decide)).2.1]; exact m1
  have b1' : z_al g (L + 25 + 2) = fun i => k64 (B i) := by rw [(rws 2 (by decide)).2.1]; exact b1
  have lg := hw.1
  have ng : z_n h ≤ z_n g := eg.1.1
  obtain ⟨A, eA⟩ : ∃ A : Nat → Nat → Int32, A = fun j => z_ai g (L + 25 + 1 + j) := ⟨_, rfl⟩
  obtain ⟨F, eF⟩ : ∃ F : Nat → Int32, F = z_oi g (L + 25) := ⟨_, rfl⟩
  obtain ⟨P, eP⟩ : ∃ P : Nat → Nat, P = fun i => uN (z_ai g (L + 25 + 3) i) := ⟨_, rfl⟩
  obtain ⟨C, eC⟩ : ∃ C : Nat → Nat, C = fun i => uN (z_ai g (L + 25 + 4) i) := ⟨_, rfl⟩
  have sf : lH g (L + 25) A F P C E M B = g := by rw [eA, eF, eP, eC]; exact lH_self e5 m1' b1'
  have hF4 : z_u F 4 (nI (Bool.toNat false)) = F := by
    have e : F 4 = nI (Bool.toNat false) := by rw [eF]; exact o4
    rw [← e]; exact u_self F 4
  obtain ⟨s0, es0⟩ : ∃ s0 : lS, s0 = (false, P, C, E, M, B) := ⟨_, rfl⟩
  have I0 : lI S 0 s0 := by rw [es0]; exact ⟨fun j i h1 h2 _ => by omega, e2, fun i => ⟨m2 i, b2 i⟩⟩
  have z0 : s0.1 = false := by rw [es0]
  have g0 : lHs g (L + 25) A F s0 = g := by
    rw [es0]
    show lH g (L + 25) A (z_u F 4 (nI (Bool.toNat false))) P C E M B = _
    rw [hF4, sf]
  have ok := il_ok hS I0 z0
  obtain ⟨sN, esN⟩ : ∃ sN, sN = it (ilS S) s0 S.1 := ⟨_, rfl⟩
  have okN := ok S.1 (Nat.le_refl _)
  rw [← esN] at okN
  have IN : lI S 0 sN := ⟨fun j i h1 h2 _ => by omega, okN.1.2.1, okN.1.2.2⟩
  obtain ⟨ev2, kp⟩ := e4_descend (G := G) (d := d + 2 * (8 - S.1)) (A := A) (F := F) hw (u := true) (by rw [eF]; exact o5) S.1 0 0 false sN (by omega) (by decide) (fun _ => rfl) IN
  rw [show d + 2 * (8 - S.1) + 2 * S.1 + 6 = d + 22 by omega] at ev2
  obtain ⟨s1, es1⟩ : ∃ s1, s1 = g_des S true S.1 0 0 false sN := ⟨_, rfl⟩
  rw [← es1] at ev2 kp
  have As : ∀ s, sc_at q b (lHs g (L + 25) A F s) S := fun s => lw_sc hw
  have kds : ∀ s, z_kd (lHs g (L + 25) A F s) (L + 25) = 20 := fun s => lg.1
  have o3 : ∀ s, z_or (lHs g (L + 25) A F s) (L + 25) 3 = some (L + 25 + 2) := fun s => lg.2.2.1.1
  have kB : ∀ s, z_kd (lHs g (L + 25) A F s) (L + 25 + 2) = 2 := fun s => lg.2.2.1.2.1
  have vB : ∀ s p, p < 8 → vp_in (nI p) (z_ln (lHs g (L + 25) A F s) (L + 25 + 2)) := fun s p hp => by
    show vp_in (nI p) (z_ln g (L + 25 + 2)); rw [lg.2.2.1.2.2]; exact vp_in_nI hp (by decide)
  have f4 : z_oi (lHs g (L + 25) A F s1) (L + 25) 4 = nI s1.1.toNat := by unfold lHs; rw [lH_oi, u_eq]
  have rv : g_isl S s0 = !s1.1 := by unfold g_isl; rw [← esN, ← es1]
  obtain ⟨g2, eg2⟩ : ∃ g2, g2 = lHs g (L + 25) A F s1 := ⟨_, rfl⟩
  have t2 : xt (lX L) g g2 := by rw [eg2]; exact lH_xt
  refine ⟨g2, s0, I0, z0, en_X4_isLeast (b_X4_isLeast_0 (z_pu0V rfl) ⟨ls.1, _, ev, ?_⟩), inv_xt Ig hX t2, ?_, ?_, ?_, by rw [eg2]; exact nkg⟩
  · have key := z_forH (G := G) (d := d + 23) (μ := m_X4_isLeast z_pu0) (r := (.inl (some (.int (nI (g_isl S s0).toNat))), g2)) (pc := 8) (fun p (_ : lS) => [some (.ref (L + 25)), some (.ref q), some (.int (nI p))]) (fun _ s => lHs g (L + 25) A F s) (ilS S) s0 S.1 ?_ ?_
    · rw [g0] at key
      exact key
    · intro p hp hJ
      obtain ⟨i1, i2⟩ := ok p (by omega)
      obtain ⟨s, es⟩ : ∃ s, s = it (ilS S) s0 p := ⟨_, rfl⟩
      rw [← es] at i1 i2 hJ ⊢
      have p0 := Nat.two_pow_pos p
      have pl := t_pow (show p < 8 by omega)
      have one : nI 1 <<< (nI p &&& nI 31) = nI (2 ^ p) := n_one (by omega)
      have hky := e4_keyOf (G := G) (d := d + 17) (A := A) (F := z_u F 4 (nI s.1.toNat)) (P := lP s) (C := lC s) (E := lE s) (M := lM s) (B := lB s) hw (p := p) (us := 2 ^ p - 1) (dp := p) (by omega) (by omega) (by omega) (top_P hS (by omega) (fun e => by rw [e]) i1 (by omega)) i1.2.1
      obtain ⟨ky, eky⟩ : ∃ ky, ky = g_key S (lP s) p (2 ^ p - 1) p (lE s) := ⟨_, rfl⟩
      have er := e4_rename (G := G) (d := d + 18) (A := A) (F := z_u F 4 (nI s.1.toNat)) (P := lP s) (C := lC s) (E := ky.2) (M := lM s) (B := z_u (lB s) p ky.1) hw (p := p) (dp := p) (by omega) (by omega)
      rw [← eky] at hky
      have eh : lH g (L + 25) A (z_u F 4 (nI s.1.toNat)) (g_ren S p p (lP s)) (lC s) ky.2 (lM s) (z_u (lB s) p ky.1) = lHs g (L + 25) A F (ilS S p s) := by rw [eky]; rfl
      rw [eh] at er
      refine b_X4_isLeast_8 (z_pu0V rfl) ⟨y_kd (As _), ?_⟩
      rw [y_n (As _), if_pos (nI_lt hp (by omega)), o3, z_rcs, one, q_sub (show 1 ≤ 2 ^ p by omega), nI_add, nI_clamp (show p < 2 ^ 31 by omega)]
      have pB := lH_pB g (L + 25) A (z_u F 4 (nI s.1.toNat)) (lP s) (lC s) ky.2 (lM s) (lB s) p ky.1
      refine ⟨kds s, kds s, _, _, hky, lg.2.2.1.2.1, ?_, lg.1, ?_⟩
      · show vp_in (nI p) (z_ln g (L + 25 + 2)); rw [lg.2.2.1.2.2]; exact vp_in_nI (by omega) (by decide)
      · rw [pB]
        exact ⟨_, er, hJ⟩
    · refine b_X4_isLeast_8 (z_pu0V rfl) ⟨y_kd (As _), ?_⟩
      rw [y_n (As _), if_neg (nI_nlt (Nat.le_refl _) (by omega)), ← esN]
      refine ⟨kds sN, _, ev2, kds s1, ?_⟩
      rw [f4, rv, eg2]
      cases s1.1
      · rw [if_pos (by rfl)]
        exact ⟨Or.inr rfl, rfl⟩
      · rw [if_neg (by decide)]
        exact ⟨Or.inl rfl, rfl⟩
  · exact ex_mono (ex_trans hI Ig hX eg (xt_ex (c := 0) (s := 0) t2 (by rw [eg2]; exact Nat.le_refl _) (by rw [eg2]; exact Nat.le_refl _))) (by omega) (by omega)
  · rw [eg2]; exact lH_lk lg kp.1.2.1 kp.1.2.2
  · refine lkm_t ⟨(rws 6 (by decide)).2.2, (rws 7 (by decide)).1, o1 11 (by decide) (by decide)⟩ ?_
    rw [eg2]
    refine lH_km eA ?_
    rw [u_ne _ _ (by decide), eF]
end HU
