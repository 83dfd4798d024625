/-! a clause -/
theorem p_line_m {T : Nat → Nat} {n i : Nat} {c : Cd} {v : Nat × Nat} (h : p_line T n i c = .inl v) : c.1.2.1 ≠ 12 := fun e => by
  unfold p_line at h
  rw [if_pos e] at h
  cases h
section DG
variable {G : z_G} {d : Nat} {h : z_H} {M : Nat} {A : Nat → Nat → Int32} {T : Nat → Nat} {n : Nat} {F : Nat → Int32} {cl : Nat}
def oClP (G : z_G) (d : Nat) (M : Nat) (h : z_H) (T : Nat → Nat) (n cl : Nat) (F : Nat → Int32) (A : Nat → Nat → Int32) (o : (Cd × Nat) ⊕ pE) (J : z_Res → Prop) : Prop := match o with
    | .inl v => v.2 ≤ n ∧ ∃ F' f, agrF [6, 8, 9, 10, 11, 15] F F' ∧ F' 15 = nI (cl + 1) ∧ tokF T n F' v.2 ∧ (∀ k, k < 30 → f k = rowC v.1 k) ∧ J (.inl none, z_rs h M F' (z_u A 2 f))
    | .inr e => (0 < e.1 ∧ e.1 < 6) ∧ ∃ F' f, errC F F' e.1 e.2 ∧ J (.inl none, z_rs h M F' (z_u A 2 f))
theorem o_tail (hM : z_sh M h) {F0 : Nat → Int32} (h0 : agrF [6, 8, 9, 10, 11] F0 F) (h15 : F0 15 = nI cl) (h12 : F0 12 = nI 0) {j : Nat} (hj : j ≤ n) {f : Nat → Int32} (ht : txt T n F A) (hF : tokF T n F j) (c : Cd) (hf : ∀ k, k < 30 → f k = rowC c k) : oClP G d M h T n cl F0 A (p_tail T n c j) (fun r => z_J G (d + 8) (m_X12_readClause z_puC) r 145 [some (.ref M), none, none, none] [] (z_rs h M F (z_u A 2 f))) := by
  have ht2 : txt T n F (z_u A 2 f) := txt_agr ht rfl (u_ne _ _ (by decide))
  have t := t_145 (G := G) (d := d) (A := z_u A 2 f) hM h0 h15 h12 hj ht2 hF c
  unfold oClP
  cases hp : p_tail T n c j with
  | inl v =>
    rw [hp] at t
    obtain ⟨t1, t2, F', t3, t4, t5, t6⟩ := t
    exact ⟨t2, F', f, t3, t4, t5, by rw [t1]; exact hf, t6⟩
  | inr e =>
    rw [hp] at t
    obtain ⟨t1, F', t2, t3⟩ := t
    exact ⟨t1, F', f, t2, t3⟩
theorem o_mono {F0 : Nat → Int32} {o : (Cd × Nat) ⊕ pE} {J J' : z_Res → Prop} (h1 : oClP G d M h T n cl F0 A o J) (h2 : ∀ r, J r → J' r) : oClP G d M h T n cl F0 A o J' := by
  unfold oClP at h1 ⊢
  cases o with
  | inl v =>
    obtain ⟨t1, F', f, t2, t3, t4, t5, t6⟩ := h1
    exact ⟨t1, F', f, t2, t3, t4, t5, h2 _ t6⟩
  | inr e =>
    obtain ⟨t1, F', f, t2, t3⟩ := h1
    exact ⟨t1, F', f, t2, h2 _ t3⟩
theorem o_err (hM : z_sh M h) {F0 : Nat → Int32} {k pl : Nat} {f : Nat → Int32} (h15 : F0 15 = nI cl) (hk : 0 < k ∧ k < 6) (he : errR F0 F k pl) : oClP G d M h T n cl F0 A (.inr (k, pl)) (fun r => z_J G (d + 8) (m_X12_readClause z_puC) r 145 [some (.ref M), none, none, none] [] (z_rs h M F (z_u A 2 f))) := by
  obtain ⟨t1, t2⟩ := t_err (G := G) (d := d) (A := z_u A 2 f) hM h15 hk he
  exact ⟨hk, _, f, t1, t2⟩
theorem o_at (hM : z_sh M h) {c : Cd} (hc : c_cok c) (hrow : ∀ k, k < 30 → A 2 k = rowC c k) {i : Nat} (hi : i ≤ n) (ht : txt T n F A) (hF : tokF T n F i) (h12 : F 12 = nI 0) {F0 : Nat → Int32} (h0 : agrF [6, 8, 9, 10, 11] F0 F) (h15 : F0 15 = nI cl) : oClP G d M h T n cl F0 A (p_at T n i c) (fun r => ∃ x_6 h_5, z_Ev G (d + 7) k_X12_pointNow [.ref M] (z_rs h M F A) (.inl (some (.int x_6)), h_5) ∧ (z_kd h_5 M = 28 ∧ (if (z_oi h_5 M 12) = nI 0 then (z_kd h_5 M = 28 ∧ ∃ h_7, z_Ev G (d + 7) k_X12_stepOn [.ref M] h_5 (.inl none, h_7) ∧ z_J G (d + 8) (m_X12_readClause z_puC) r 93 [some (.ref M), some (.int x_6), none, none] [] h_7) else z_J G (d + 8) (m_X12_readClause z_puC) r 93 [some (.ref M), some (.int x_6), none, none] [] h_5))) := by
  have hn8 := hc.1.1
  have h20 : A 2 0 = nI c.1.1 := hrow 0 (by omega)
  have ept := e_pointNow (G := G) (d := d + 1) (A := A) (np := c.1.1) hM ht hi hF h12 hn8.2 h20
  have hpt := p_pt_in (T := T) (np := c.1.1) hi
  have g12 : F0 12 = nI 0 := (h0 12 (by decide)).symm.trans h12
  have a2 : A = z_u A 2 (A 2) := (u_self _ _).symm
  -- behind an error, from 103 on
  have e103 : ∀ F1 (p : Int32) (x y : Int32) r, ¬ F1 12 = nI 0 → z_J G (d + 8) (m_X12_readClause z_puC) r 145 [some (.ref M), none, none, none] [] (z_rs h M F1 (z_u A 2 (A 2))) → z_J G (d + 8) (m_X12_readClause z_puC) r 103 [some (.ref M), some (.int p), some (.int x), some (.int y)] [] (z_rs h M F1 A) := by
    intro F1 p x y r hb hJ
    rw [← a2] at hJ
    refine b_X12_readClause_103 z_puCV ⟨sh_kd hM, ?_⟩
    rw [rs_oi, if_neg hb]
    refine b_X12_readClause_120 z_puCV ⟨sh_kd hM, ?_⟩
    rw [rs_oi, if_neg hb]
    exact hJ
  have nz : ∀ {F1 F2 : Nat → Int32} {k pl : Nat}, errR F1 F2 k pl → (0 < k ∧ k < 6) → ¬ F2 12 = nI 0 := fun he hk q => by rw [he.1] at q; have := (nI_eq (by omega) (by omega)).mp q; omega
  have er_tr : ∀ {F1 F2 F3 : Nat → Int32} {k pl : Nat}, agrF [6, 8, 9, 10, 11] F1 F2 → errR F2 F3 k pl → errR F1 F3 k pl := fun q1 q2 => ⟨q2.1, q2.2.1, agrF_tr (agrF_mono q1 (by decide)) q2.2.2⟩
  unfold p_at
  cases hp : p_pt T n i c.1.1 with
  | inr k =>
    rw [hp] at ept
    obtain ⟨p, hp10, ep⟩ := ept
    have hk := hpt.2 k hp
    have er := errF_R (c := k) hF
    refine o_mono (o_err (f := A 2) hM h15 hk (er_tr h0 er)) (fun r hJ => ⟨_, _, ep, sh_kd hM, ?_⟩)
    have hb := nz er hk
    rw [rs_oi, if_neg hb]
    refine b_X12_readClause_93 z_puCV ⟨sh_kd hM, _, _, e_readSgnB hM hb, sh_kd hM, _, _, e_readSgnB hM hb, e103 _ _ _ _ r hb hJ⟩
  | inl v =>
    rw [hp] at ept
    obtain ⟨v1, v2, v3⟩ := hpt.1 v hp
    obtain ⟨F1, g1, g2, g3⟩ := e_stepOn (G := G) (d := d + 3) (A := A) hM ht (i := tk_e T n i) (tk_en hi).2 hF.2.2.1
    rw [← v2] at g2
    have ht1 := txt_agr (A' := A) ht (g1 7 (by decide)) rfl
    have h121 : F1 12 = nI 0 := (g1 12 (by decide)).trans h12
    have enter : ∀ r, z_J G (d + 8) (m_X12_readClause z_puC) r 93 [some (.ref M), some (.int (nI v.1)), none, none] [] (z_rs h M F1 A) → ∃ x_6 h_5, z_Ev G (d + 7) k_X12_pointNow [.ref M] (z_rs h M F A) (.inl (some (.int x_6)), h_5) ∧ (z_kd h_5 M = 28 ∧ (if (z_oi h_5 M 12) = nI 0 then (z_kd h_5 M = 28 ∧ ∃ h_7, z_Ev G (d + 7) k_X12_stepOn [.ref M] h_5 (.inl none, h_7) ∧ z_J G (d + 8) (m_X12_readClause z_puC) r 93 [some (.ref M), some (.int x_6), none, none] [] h_7) else z_J G (d + 8) (m_X12_readClause z_puC) r 93 [some (.ref M), some (.int x_6), none, none] [] h_5)) := by
      intro r hJ
      refine ⟨_, _, ept, sh_kd hM, ?_⟩
      rw [rs_oi, if_pos h12]
      exact ⟨sh_kd hM, _, g3, hJ⟩
    have s1 := e_readSigned (G := G) (d := d) (A := A) hM ht1 v3 g2 h121
    dsimp only
    cases hs : p_sg T n v.2 with
    | inr e =>
      rw [hs] at s1
      obtain ⟨F2, x, er, hk, es⟩ := s1
      have hb := nz er hk
      exact o_mono (o_err (f := A 2) hM h15 hk (er_tr (agrF_tr h0 g1) er)) (fun r hJ => enter r (b_X12_readClause_93 z_puCV ⟨sh_kd hM, _, _, es, sh_kd hM, _, _, e_readSgnB hM hb, e103 _ _ _ _ r hb hJ⟩))
    | inl a =>
      rw [hs] at s1
      obtain ⟨F2, j1, j2, j3, es⟩ := s1
      have ht2 := txt_agr (A' := A) ht1 (j1 7 (by decide)) rfl
      have h122 : F2 12 = nI 0 := (j1 12 (by decide)).trans h121
      have s2 := e_readSigned (G := G) (d := d) (A := A) hM ht2 j3 j2 h122
      dsimp only
      cases hs2 : p_sg T n a.2 with
      | inr e =>
        rw [hs2] at s2
        obtain ⟨F3, x, er, hk, es2⟩ := s2
        have hb := nz er hk
        exact o_mono (o_err (f := A 2) hM h15 hk (er_tr (agrF_tr (agrF_tr h0 g1) j1) er)) (fun r hJ => enter r (b_X12_readClause_93 z_puCV ⟨sh_kd hM, _, _, es, sh_kd hM, _, _, es2, e103 _ _ _ _ r hb hJ⟩))
      | inl b =>
        rw [hs2] at s2
        obtain ⟨F3, k1, k2, k3, es2⟩ := s2
        have ht3 := txt_agr (A' := A) ht2 (k1 7 (by decide)) rfl
        have h123 : F3 12 = nI 0 := (k1 12 (by decide)).trans h122
        refine o_mono (o_tail (f := z_u (z_u (A 2) (14 + v.1) a.1) (22 + v.1) b.1) hM (agrF_tr (agrF_tr (agrF_tr h0 g1) j1) k1) h15 g12 k3 ht3 k2 (op_place c v.1 a.1 b.1) (row_place hrow (by omega) _ _)) (fun r hJ => enter r (b_X12_readClause_93 z_puCV ⟨sh_kd hM, _, _, es, sh_kd hM, _, _, es2, b_X12_readClause_103 z_puCV ⟨sh_kd hM, ?_⟩⟩))
        rw [rs_oi, if_pos h123, show z_or (z_rs h M F3 A) M 2 = some (M + 2) from (sh_read hM).1, z_rcs, nI_add, nI_clamp (by omega)]
        refine ⟨sh_kd hM, (sh_read hM).2.1, by show vp_in (nI (14 + v.1)) (z_ln h (M + 2)); rw [(sh_read hM).2.2]; exact vp_in_nI (by omega) (by omega), ?_⟩
        rw [rs_pai _ _ _ _ (by omega) (by omega)]
        refine b_X12_readClause_120 z_puCV ⟨sh_kd hM, ?_⟩
        rw [rs_oi, if_pos h123, show z_or (z_rs h M F3 (z_u A 2 (z_u (A 2) (14 + v.1) a.1))) M 2 = some (M + 2) from (sh_read hM).1, z_rcs, nI_add, nI_clamp (by omega)]
        refine ⟨sh_kd hM, (sh_read hM).2.1, by show vp_in (nI (22 + v.1)) (z_ln h (M + 2)); rw [(sh_read hM).2.2]; exact vp_in_nI (by omega) (by omega), ?_⟩
        rw [rs_pai _ _ _ _ (by omega) (by omega), u_eq, u_u]
        exact hJ
end DG
