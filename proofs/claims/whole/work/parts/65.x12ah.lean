/-! a clause read -/
section DG
variable {G : z_G} {d : Nat} {h : z_H} {M : Nat} {A : Nat → Nat → Int32} {T : Nat → Nat} {n : Nat} {F : Nat → Int32} {cl : Nat}
theorem e_readClause (hM : z_sh M h) {c : Cd} (hc : c_cok c) (hrow : ∀ k, k < 30 → A 2 k = rowC c k) {i : Nat} (hi : i ≤ n) (ht : txt T n F A) (hF : tokF T n F i) (h12 : F 12 = nI 0) (h15 : F 15 = nI cl) (hcl : cl < 2 ^ 31) : oClP G d M h T n cl F A (p_cl T n i cl c) (fun r => z_Ev G (d + 8) k_X12_readClause [.ref M] (z_rs h M F A) r) := by
  have hm := hc.1.2.1
  have hn8 := hc.1.1
  have a2 : A = z_u A 2 (A 2) := (u_self _ _).symm
  have i3 := e_is (G := G) (d := d + 2) (w := 3) hM ht (Or.inl rfl) hi hF h12
  have i4 := e_is (G := G) (d := d + 2) (w := 4) hM ht (Or.inr (Or.inl rfl)) hi hF h12
  have i5 := e_is (G := G) (d := d + 2) (w := 5) hM ht (Or.inr (Or.inr rfl)) hi hF h12
  obtain ⟨F1, g1, g2, g3⟩ := e_stepOn (G := G) (d := d + 3) (A := A) hM ht (i := tk_e T n i) (tk_en hi).2 hF.2.2.1
  have ht1 := txt_agr (A' := A) ht (g1 7 (by decide)) rfl
  have h121 : F1 12 = nI 0 := (g1 12 (by decide)).trans h12
  have er_tr : ∀ {F1 F2 F3 : Nat → Int32} {k pl : Nat}, agrF [6, 8, 9, 10, 11] F1 F2 → errR F2 F3 k pl → errR F1 F3 k pl := fun q1 q2 => ⟨q2.1, q2.2.1, agrF_tr (agrF_mono q1 (by decide)) q2.2.2⟩
  have num : ∀ F2 F3 (v : Int32) r, z_Ev G (d + 7) k_X12_readNumber [.ref M, .int (nI 1), .int (nI 8)] (z_rs h M F2 A) (.inl (some (.int v)), z_rs h M F3 A) → z_J G (d + 8) (m_X12_readClause z_puC) r 145 [some (.ref M), none, none, none] [] (z_rs h M F3 (z_u A 2 (z_u (A 2) 0 v))) → z_J G (d + 8) (m_X12_readClause z_puC) r 32 [some (.ref M), none, none, none] [] (z_rs h M F2 A) := by
    intro F2 F3 v r he hJ
    refine b_X12_readClause_32 z_puCV ⟨sh_kd hM, ?_⟩
    rw [show z_or (z_rs h M F2 A) M 2 = some (M + 2) from (sh_read hM).1, z_rcs]
    refine ⟨sh_kd hM, _, _, he, (sh_read hM).2.1, by show vp_in (nI 0) (z_ln h (M + 2)); rw [(sh_read hM).2.2]; exact vp_in_nI (by omega) (by omega), ?_⟩
    rw [nI_clamp (show 0 < 2 ^ 31 by decide), rs_pai _ _ _ _ (by omega) (by omega)]
    exact hJ
  unfold p_cl
  cases w3 : c_isw T n i 3
  · rw [w3] at i3
    have to48 : ∀ r, z_J G (d + 8) (m_X12_readClause z_puC) r 48 [some (.ref M), none, none, none] [] (z_rs h M F A) → z_Ev G (d + 8) k_X12_readClause [.ref M] (z_rs h M F A) r := fun r hJ => en_X12_readClause (b_X12_readClause_0 z_puCV ⟨sh_kd hM, _, _, i3, by rw [if_pos (by rfl)]; exact hJ⟩)
    rw [if_neg (by decide)]
    cases w4 : c_isw T n i 4
    · rw [w4] at i4
      have to64 : ∀ r, z_J G (d + 8) (m_X12_readClause z_puC) r 64 [some (.ref M), none, none, none] [] (z_rs h M F A) → z_Ev G (d + 8) k_X12_readClause [.ref M] (z_rs h M F A) r := fun r hJ => to48 r (b_X12_readClause_48 z_puCV ⟨sh_kd hM, _, _, i4, by rw [if_pos (by rfl)]; exact hJ⟩)
      rw [if_neg (by decide)]
      cases w5 : c_isw T n i 5
      · rw [w5] at i5
        rw [if_neg (by decide)]
        refine o_mono (o_err (f := A 2) hM h15 (by decide) (errF_R (c := 1) hF)) (fun r hJ => to64 r (b_X12_readClause_64 z_puCV ⟨sh_kd hM, _, _, i5, ?_⟩))
        rw [if_pos (by rfl)]
        rw [← a2] at hJ
        exact ⟨sh_kd hM, _, e_wrong hM h12 1, hJ⟩
      · rw [w5] at i5
        rw [if_pos rfl]
        refine o_mono (o_at hM hc hrow (tk_en hi).2 ht1 g2 h121 g1 h15) (fun r hJ => to64 r (b_X12_readClause_64 z_puCV ⟨sh_kd hM, _, _, i5, ?_⟩))
        rw [if_neg (by decide)]
        exact ⟨sh_kd hM, _, g3, sh_kd hM, hJ⟩
    · rw [w4] at i4
      rw [if_pos rfl]
      have l := e_readLine (G := G) (d := d) hM hc hrow hi ht hF h12
      have to145 : ∀ r h3, z_Ev G (d + 7) k_X12_readLine [.ref M] (z_rs h M F A) (.inl none, h3) → z_J G (d + 8) (m_X12_readClause z_puC) r 145 [some (.ref M), none, none, none] [] h3 → z_Ev G (d + 8) k_X12_readClause [.ref M] (z_rs h M F A) r := by
        intro r h3 he hJ
        refine to48 r (b_X12_readClause_48 z_puCV ⟨sh_kd hM, _, _, i4, ?_⟩)
        rw [if_neg (by decide)]
        exact ⟨sh_kd hM, _, he, hJ⟩
      unfold p_lnC
      cases hp : p_line T n i c with
      | inr e =>
        rw [hp] at l
        obtain ⟨F2, f, er, hk, el⟩ := l
        exact o_mono (o_err (f := f) hM h15 hk er) (fun r hJ => to145 r _ el hJ)
      | inl v =>
        rw [hp] at l
        obtain ⟨F2, j1, j2, j3, el⟩ := l
        have hm12 := p_line_m hp
        exact o_mono (o_tail hM j1 h15 h12 j3 (txt_agr (A' := A) ht (j1 7 (by decide)) rfl) j2 (op_add c v.1) (row_add hrow (by omega) v.1)) (fun r hJ => to145 r _ el hJ)
  · rw [w3] at i3
    rw [if_pos rfl]
    have to0 : ∀ r, (if 0 < cl then z_J G (d + 8) (m_X12_readClause z_puC) r 32 [some (.ref M), none, none, none] [] (z_rs h M (errF F 4) A) else z_J G (d + 8) (m_X12_readClause z_puC) r 32 [some (.ref M), none, none, none] [] (z_rs h M F1 A)) → z_Ev G (d + 8) k_X12_readClause [.ref M] (z_rs h M F A) r := by
      intro r hr
      refine en_X12_readClause (b_X12_readClause_0 z_puCV ⟨sh_kd hM, _, _, i3, ?_⟩)
      rw [if_neg (by decide), rs_oi, h15, h12, if_pos rfl]
      refine ⟨sh_kd hM, ?_⟩
      by_cases q : 0 < cl
      · rw [if_pos q] at hr
        rw [if_pos (nI_lt q hcl)]
        refine ⟨sh_kd hM, _, e_wrong hM h12 4, sh_kd hM, ?_⟩
        rw [rs_oi, if_neg (errF_12 (by decide) (by decide))]
        exact hr
      · rw [if_neg q] at hr
        rw [if_neg (fun e => q ((nI_ltI (by omega) hcl).mp e))]
        exact ⟨sh_kd hM, sh_kd hM, _, g3, hr⟩
    by_cases q : 0 < cl
    · rw [if_pos q]
      refine o_mono (o_err (f := z_u (A 2) 0 (nI 1)) hM h15 (by decide) (errF_R (c := 4) hF)) (fun r hJ => to0 r ?_)
      rw [if_pos q]
      exact num _ _ _ r (e_readNumB hM (errF_12 (by decide) (by decide))) hJ
    · rw [if_neg q]
      have e1 := e_readNumber (G := G) (d := d + 1) (lo := 1) (hi := 8) hM ht1 (tk_en hi).2 g2 h121 (by omega) (by omega)
      unfold p_pts
      cases hp : p_num T n (tk_e T n i) 1 8 with
      | inr k =>
        rw [hp] at e1
        have hk : 0 < k ∧ k < 6 := by
          unfold p_num at hp
          split at hp
          · split at hp
            · cases hp
            · cases hp; exact ⟨by decide, by decide⟩
          · cases hp; exact ⟨by decide, by decide⟩
        refine o_mono (o_err (f := z_u (A 2) 0 (nI 1)) hM h15 hk (er_tr g1 (errF_R g2))) (fun r hJ => to0 r ?_)
        rw [if_neg q]
        exact num _ _ _ r e1 hJ
      | inl v =>
        rw [hp] at e1
        obtain ⟨F2, j1, j2, e2⟩ := e1
        obtain ⟨n1, n2, n3, n4, n5⟩ := p_num_9 (tk_en hi).2 hp
        refine o_mono (o_tail (f := z_u (A 2) 0 (nI v.1)) hM (agrF_tr g1 j1) h15 h12 (by rw [n4]; exact (tk_en (tk_en hi).2).2) (txt_agr (A' := A) ht1 (j1 7 (by decide)) rfl) j2 ((v.1, c.1.2), c.2) ?_) (fun r hJ => to0 r ?_)
        · intro k hk
          by_cases k0 : k = 0
          · subst k0; rw [u_eq]; rfl
          · rw [u_ne _ _ k0, hrow k hk]
            unfold rowC
            rw [if_neg k0, if_neg k0]
        · rw [if_neg q]
          exact num _ _ _ r e2 hJ
/-- what is read stays in bounds -/
theorem p_cl_ok {T : Nat → Nat} {n i cl : Nat} {c : Cd} (hi : i ≤ n) (hc : c_cok c) (h0 : cl = 0 → c = c_c0) {v : Cd × Nat} (h : p_cl T n i cl c = .inl v) : c_cok v.1 := by
  have ptail : ∀ c' j, p_tail T n c' j = .inl v → v.1 = c' ∧ tk_k T n j = 3 ∧ T (tk_b T n j) = 59 := by
    intro c' j hp
    unfold p_tail at hp
    split at hp
    · rename_i q; cases hp; exact ⟨rfl, q⟩
    · cases hp
  unfold p_cl at h
  split at h
  · split at h
    · cases h
    · rename_i q
      have e := h0 (by omega)
      unfold p_pts at h
      cases hp : p_num T n (tk_e T n i) 1 8 with
      | inr k => rw [hp] at h; cases h
      | inl u =>
        rw [hp] at h
        obtain ⟨n1, n2, n3, n4, n5⟩ := p_num_9 (tk_en hi).2 hp
        rw [(ptail _ _ h).1, e]
        exact ⟨⟨⟨n1, n2⟩, by show 0 ≤ 12; omega, fun l hl => absurd hl (Nat.not_lt_zero _), fun _ _ => rfl, fun _ _ _ hl => absurd hl (Nat.not_lt_zero _)⟩, fun _ _ => ⟨rfl, rfl⟩⟩
  · split at h
    · unfold p_lnC at h
      cases hp : p_line T n i c with
      | inr e => rw [hp] at h; cases h
      | inl u =>
        rw [hp] at h
        obtain ⟨t1, t2⟩ := ptail _ _ h
        have hm := p_line_m hp
        have hm2 := hc.1.2.1
        unfold p_line at hp
        rw [if_neg hm] at hp
        cases hq : p_lnL T n c.1.1 4 0 (tk_e T n i) 0 with
        | inr e => rw [hq] at hp; cases hp
        | inl y =>
          rw [hq] at hp
          have hl := (p_lnL_in (T := T) (n := n) hc.1.1.2 4 0 (tk_e T n i) 0 rfl (tk_en hi).2 (Nat.two_pow_pos _) rfl).1 y hq
          dsimp only at hp
          split at hp
          · cases hp
          · rename_i q
            cases hp
            rw [t1]
            refine cok_add hc hl.1 ⟨hl.2.1, hl.2.2.1⟩ ?_ (by omega)
            cases q2 : c_two c.1 u.1
            · rfl
            · exact absurd ⟨t2, q2⟩ q
    · split at h
      · unfold p_at at h
        cases hp : p_pt T n (tk_e T n i) c.1.1 with
        | inr k => rw [hp] at h; cases h
        | inl u =>
          rw [hp] at h
          dsimp only at h
          cases hs : p_sg T n u.2 with
          | inr e => rw [hs] at h; cases h
          | inl a =>
            rw [hs] at h
            dsimp only at h
            cases hs2 : p_sg T n a.2 with
            | inr e => rw [hs2] at h; cases h
            | inl b =>
              rw [hs2] at h
              rw [(ptail _ _ h).1]
              exact cok_place hc ((p_pt_in (tk_en hi).2).1 u hp).1 _ _
      · cases h
end DG
