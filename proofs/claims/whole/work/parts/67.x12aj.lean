/-! scheme -/
def s_scheme (σ : RSt) (x : Int32) : (Int32 × Int32) × RSt := if c_in x (σ.1.2.1 + 1) then (match p_text σ.1.1 x.toNatClampNeg with
    | .inl c => ((nI 0, nI 0), ((σ.1.1, 0, mI), (c, fun _ => none), [], σ.2.2.2.1, none))
    | .inr e => ((nI e.1, nI 0), ((σ.1.1, 0, nI e.2), σ.2.1, σ.2.2.1, (σ.2.2.2.1.1 + 1, σ.2.2.2.1.2), σ.2.2.2.2)))
  else ((nI 0, nI 1), σ)
theorem phist_nil (P : Nat → Int32) : phist P [] := ⟨by decide, fun i st h => by cases h⟩
section DI
variable {G : z_G} {d : Nat} {h : z_H} {M : Nat} {F : Nat → Int32} {A : Nat → Nat → Int32} {σ : RSt}
def scF (F : Nat → Int32) (n : Nat) : Nat → Int32 := z_u (z_u (z_u (z_u (z_u (z_u (z_u F 0 (nI 0)) 5 (nI 0)) 7 (nI n)) 6 (nI 0)) 12 (nI 0)) 14 mI) 15 (nI 0)
theorem e_schemeP (hM : z_sh M h) (hI : rI F A σ) (x : Int32) : pubR G (d + 9) k_X12_scheme M h [.int x] F A (s_scheme σ x).1.1 (s_scheme σ x).1.2 (s_scheme σ x).2 := by
  obtain ⟨i1, i2, i3, i4, i5, i6, i7, i8⟩ := hI
  have hI : rI F A σ := ⟨i1, i2, i3, i4, i5, i6, i7, i8⟩
  have hfed := i2.2.1
  unfold s_scheme
  cases hx : c_in x (σ.1.2.1 + 1)
  · rw [if_neg (by decide)]
    refine ⟨z_u F 0 (nI 1), A, rI_agr hI (agr_rf i1) (agrF_u agrF_rf (by decide) _), rLk_u rLk_rf _ (by decide), u_eq _ _ _, en_X12_scheme (b_X12_scheme_0 z_puCV ⟨sh_kd hM, ?_⟩)⟩
    have ef := e_fail (G := G) (d := d + 4) (h := z_rs h M (z_u F 0 (nI 0)) A) (M := M) (sh_kd hM) (nI 1)
    rw [rs_poi, u_u] at ef
    rw [rs_poi, rs_oi, u_ne _ _ (by decide), i2.1]
    by_cases x0 : x < nI 0
    · rw [if_pos x0]
      exact ⟨sh_kd hM, _, _, ef, rfl⟩
    · rw [if_neg x0]
      obtain ⟨a, ha, rfl⟩ := nI_of x0
      rw [if_pos]
      · exact ⟨sh_kd hM, sh_kd hM, _, _, ef, rfl⟩
      · refine nI_lt ?_ ha
        have := of_decide_eq_false hx
        rw [nI_clamp ha] at this
        by_cases q : σ.1.2.1 < a
        · exact q
        · exact absurd ⟨x0, by omega⟩ this
  · rw [if_pos rfl]
    obtain ⟨n, hn, hn2, rfl⟩ := c_in_t hx
    rw [nI_clamp hn2]
    have hn4 : n ≤ 400 := by omega
    have kF : agrF [0, 5, 6, 7, 12, 14, 15] F (scF F n) := agrF_u (agrF_u (agrF_u (agrF_u (agrF_u (agrF_u (agrF_u agrF_rf (by decide) _) (by decide) _) (by decide) _) (by decide) _) (by decide) _) (by decide) _) (by decide) _
    -- up to the loop of clauses
    have start : ∃ F2 f, agrF [6, 8, 9, 10, 11] (scF F n) F2 ∧ tokF σ.1.1 n F2 0 ∧ (∀ k, k < 30 → f k = rowC c_c0 k) ∧ ∀ r, z_J G (d + 9) (m_X12_scheme z_puC) r 86 [some (.ref M), none, none] [] (z_rs h M F2 (z_u A 2 f)) → z_Ev G (d + 9) k_X12_scheme [.ref M, .int (nI n)] (z_rs h M F A) r := by
      have hI2 : ∀ k, k < 30 → it (fun l a => z_u a l (nI 0)) (A 2) 30 k = nI 0 := by
        have key : ∀ m k, k < m → it (fun l (a : Nat → Int32) => z_u a l (nI 0)) (A 2) m k = nI 0 := by
          intro m
          induction m with
          | zero => intro k hk; omega
          | succ m ih =>
            intro k hk
            rw [it_s]
            by_cases e : k = m
            · subst e; rw [u_eq]
            · rw [u_ne _ _ e]; exact ih k (by omega)
        exact key 30
      obtain ⟨f0, hf0⟩ : ∃ f0, f0 = it (fun l (a : Nat → Int32) => z_u a l (nI 0)) (A 2) 30 := ⟨_, rfl⟩
      rw [← hf0] at hI2
      have htx : txt σ.1.1 n (scF F n) (z_u A 2 (z_u f0 0 (nI 7))) := by
        refine ⟨?_, hn4, fun i hi => ?_⟩
        · unfold scF
          rw [u_ne _ _ (by decide), u_ne _ _ (by decide), u_ne _ _ (by decide), u_ne _ _ (by decide), u_eq]
        · rw [u_ne _ _ (by decide)]; exact i2.2.2 i (by omega)
      have h6 : scF F n 6 = nI 0 := by
        unfold scF
        rw [u_ne _ _ (by decide), u_ne _ _ (by decide), u_ne _ _ (by decide), u_eq]
      obtain ⟨F2, g1, g2, g3⟩ := e_stepOn (G := G) (d := d + 4) hM htx (Nat.zero_le n) h6
      refine ⟨F2, z_u f0 0 (nI 7), g1, g2, fun k hk => ?_, fun r hJ => en_X12_scheme (b_X12_scheme_0 z_puCV ⟨sh_kd hM, ?_⟩)⟩
      · by_cases k0 : k = 0
        · subst k0; rw [u_eq]; rfl
        · rw [u_ne _ _ k0, hI2 k hk]
          unfold rowC c_c0
          rw [if_neg k0]
          split
          · rfl
          · split
            · rfl
            · split <;> rfl
      · rw [rs_poi, rs_oi, u_ne _ _ (by decide), i2.1, if_neg (nI_nlt (Nat.zero_le _) hn2), if_neg (nI_nlt (show n ≤ σ.1.2.1 by omega) (by omega)), rs_poi, rs_poi, rs_poi, rs_poi, rs_poi, rs_poi]
        refine ⟨sh_kd hM, sh_kd hM, sh_kd hM, sh_kd hM, sh_kd hM, sh_kd hM, sh_kd hM, ?_⟩
        have l := z_forH (G := G) (d := d + 9) (μ := m_X12_scheme z_puC) (r := r) (pc := 55) (fun l _ => [some (.ref M), none, some (.int (nI l))]) (fun _ a => z_rs h M (scF F n) (z_u A 2 a)) (fun l a => z_u a l (nI 0)) (A 2) 30 ?_ ?_
        · rw [u_self] at l
          exact l
        · intro l hl hJ
          refine b_X12_scheme_55 z_puCV ?_
          rw [if_pos (nI_lt hl (by decide)), show z_or (z_rs h M (scF F n) (z_u A 2 (it (fun l (a : Nat → Int32) => z_u a l (nI 0)) (A 2) l))) M 2 = some (M + 2) from (sh_read hM).1, z_rcs, nI_clamp (by omega), rs_pai _ _ _ _ (by omega) (by omega), u_eq, u_u, nI_add]
          exact ⟨sh_kd hM, (sh_read hM).2.1, by show vp_in (nI l) (z_ln h (M + 2)); rw [(sh_read hM).2.2]; exact vp_in_nI (by omega) (by omega), hJ⟩
        · rw [← hf0]
          refine b_X12_scheme_55 z_puCV ?_
          rw [if_neg (nI_nlt (Nat.le_refl _) (by decide)), show z_or (z_rs h M (scF F n) (z_u A 2 f0)) M 2 = some (M + 2) from (sh_read hM).1, z_rcs, nI_clamp (by omega), rs_pai _ _ _ _ (by omega) (by omega), u_eq, u_u]
          exact ⟨sh_kd hM, (sh_read hM).2.1, by show vp_in (nI 0) (z_ln h (M + 2)); rw [(sh_read hM).2.2]; exact vp_in_nI (by omega) (by omega), sh_kd hM, _, g3, hJ⟩
    obtain ⟨F2, f, s1, s2, s3, s4⟩ := start
    have htx2 : txt σ.1.1 n F2 (z_u A 2 f) := by
      refine ⟨?_, hn4, fun i hi => ?_⟩
      · rw [s1 7 (by decide)]
        unfold scF
        rw [u_ne _ _ (by decide), u_ne _ _ (by decide), u_ne _ _ (by decide), u_ne _ _ (by decide), u_eq]
      · rw [u_ne _ _ (by decide)]; exact i2.2.2 i (by omega)
    have h12 : F2 12 = nI 0 := by
      rw [s1 12 (by decide)]
      unfold scF
      rw [u_ne _ _ (by decide), u_ne _ _ (by decide), u_eq]
    have h15 : F2 15 = nI 0 := by
      rw [s1 15 (by decide)]
      unfold scF
      rw [u_eq]
    have h14 : F2 14 = mI := by
      rw [s1 14 (by decide)]
      unfold scF
      rw [u_ne _ _ (by decide), u_eq]
    have h5 : F2 5 = nI 0 := by
      rw [s1 5 (by decide)]
      unfold scF
      rw [u_ne _ _ (by decide), u_ne _ _ (by decide), u_ne _ _ (by decide), u_ne _ _ (by decide), u_ne _ _ (by decide), u_eq]
    have h0 : F2 0 = nI 0 := by
      rw [s1 0 (by decide)]
      unfold scF
      rw [u_ne _ _ (by decide), u_ne _ _ (by decide), u_ne _ _ (by decide), u_ne _ _ (by decide), u_ne _ _ (by decide), u_ne _ _ (by decide), u_eq]
    have lc := l_cls (G := G) (d := d) (T := σ.1.1) hM hn4 (n + 1) 0 0 c_c0 F2 (z_u A 2 f) (by omega) (Nat.zero_le _) (Nat.le_refl _) cok_0 (fun _ => rfl) (by rw [u_eq]; exact s3) htx2 s2 h12 h15
    have kA : agrF [0, 5, 6, 7, 8, 9, 10, 11, 12, 13, 14, 15] F F2 := agrF_tr (agrF_mono kF (by decide)) (agrF_mono s1 (by decide))
    unfold oTx at lc
    unfold p_text
    cases hp : p_cls σ.1.1 n (n + 1) 0 0 c_c0 with
    | inr e =>
      rw [hp] at lc
      obtain ⟨c1, F3, g, c2, c3, c4, c5⟩ := lc
      have kB : agrF [0, 5, 6, 7, 8, 9, 10, 11, 12, 13, 14, 15] F (z_u F3 14 (nI e.2)) := agrF_u (agrF_tr kA (agrF_mono c2 (by decide))) (by decide) _
      have b3 : z_u A 2 g 3 = A 3 := u_ne _ _ (by decide)
      refine ⟨z_u F3 14 (nI e.2), z_u (z_u A 2 g) 3 (z_u (A 3) 0 (nI (σ.2.2.2.1.1 + 1))), ⟨?_, ⟨?_, by show 0 ≤ 400; omega, fun i hi => absurd hi (Nat.not_lt_zero _)⟩, u_eq _ _ _, ?_, ?_, ?_, ⟨?_, ?_⟩, ?_⟩, ⟨?_, ?_, ?_, ?_⟩, ?_, s4 _ (c5 _ (b_X12_scheme_107 z_puCV ⟨sh_kd hM, ?_⟩))⟩
      · rw [u_ne _ _ (by decide), u_ne _ _ (by decide)]; exact i1
      · rw [u_ne _ _ (by decide), c2 5 (by decide)]; exact h5
      · rw [u_ne _ _ (by decide), u_ne _ _ (by decide)]; exact i4
      · rw [kB 25 (by decide)]; exact i5
      · rw [u_ne _ _ (by decide), u_ne _ _ (by decide)]; exact i6
      · rw [u_eq, u_eq]
      · rw [u_eq, u_ne _ _ (by decide)]; exact i7.2
      · unfold rImg at i8 ⊢
        rw [kB 47 (by decide), kB 48 (by decide), u_ne _ _ (by decide), u_ne _ _ (by decide), u_ne _ _ (by decide), u_ne _ _ (by decide), u_ne _ _ (by decide), u_ne _ _ (by decide)]
        exact i8
      · exact kB 27 (by decide)
      · exact kB 28 (by decide)
      · exact kB 29 (by decide)
      · rw [u_ne _ _ (by decide), u_ne _ _ (by decide)]
      · rw [u_ne _ _ (by decide), c2 0 (by decide)]; exact h0
      · rw [rs_oi, if_neg (fun q => by rw [c3] at q; have := (nI_eq (by omega) (by omega)).mp q; omega), u_u, rs_poi, show z_or (z_rs h M (z_u F3 14 (F3 13)) (z_u A 2 g)) M 3 = some (M + 3) from (sh_status hM).1, z_rcs, nI_clamp (by omega), rs_ai _ _ _ _ (by omega) (by omega), rs_pai _ _ _ _ (by omega) (by omega), b3, i7.1, nI_add, rs_oi, u_ne _ _ (by decide), c3, c4]
        have v : vp_in (nI 0) (z_ln h (M + 3)) := by rw [(sh_status hM).2.2]; exact vp_in_nI (by omega) (by omega)
        exact ⟨sh_kd hM, sh_kd hM, sh_kd hM, (sh_status hM).2.1, v, (sh_status hM).2.1, v, sh_kd hM, rfl⟩
    | inl c =>
      rw [hp] at lc
      obtain ⟨c1, F3, g, c2, c3, c4, c5⟩ := lc
      rw [u_u] at c5
      have kB : agrF [0, 5, 6, 7, 8, 9, 10, 11, 12, 13, 14, 15, 25, 47] F (z_u (z_u F3 25 (nI 0)) 47 (nI 0)) := agrF_u (agrF_u (agrF_mono (agrF_tr kA (agrF_mono c2 (by decide))) (by decide)) (by decide) _) (by decide) _
      have key : ∀ m k, k < m → it (fun l (a : Nat → Int32) => z_u a l (if l < 30 then g l else nI 0)) (A 1) m k = if k < 30 then g k else nI 0 := by
        intro m
        induction m with
        | zero => intro k hk; omega
        | succ m ih =>
          intro k hk
          rw [it_s]
          by_cases e : k = m
          · subst e; rw [u_eq]
          · rw [u_ne _ _ e]; exact ih k (by omega)
      obtain ⟨b, hb⟩ : ∃ b, b = it (fun l (a : Nat → Int32) => z_u a l (if l < 30 then g l else nI 0)) (A 1) 154 := ⟨_, rfl⟩
      have hb2 := key 154
      rw [← hb] at hb2
      refine ⟨z_u (z_u F3 25 (nI 0)) 47 (nI 0), z_u (z_u A 2 g) 1 b, ⟨?_, ⟨?_, by show 0 ≤ 400; omega, fun i hi => absurd hi (Nat.not_lt_zero _)⟩, ?_, ⟨c1, ?_, ?_⟩, ?_, phist_nil _, ⟨?_, ?_⟩, u_eq _ _ _⟩, ⟨?_, ?_, ?_, ?_⟩, ?_, s4 _ (c5 _ (b_X12_scheme_107 z_puCV ⟨sh_kd hM, ?_⟩))⟩
      · rw [u_ne _ _ (by decide), u_ne _ _ (by decide)]; exact i1
      · rw [u_ne _ _ (by decide), u_ne _ _ (by decide), c2 5 (by decide)]; exact h5
      · rw [u_ne _ _ (by decide), u_ne _ _ (by decide), c2 14 (by decide)]; exact h14
      · intro k hk
        rw [u_eq, hb2 k (by omega), if_pos hk]; exact c4 k hk
      · intro s hs
        show (z_u (z_u A 2 g) 1 b) 1 (30 + 31 * s) = nI 0
        rw [u_eq, hb2 _ (by omega), if_neg (by omega)]
      · rw [u_ne _ _ (by decide), u_eq]; rfl
      · rw [u_ne _ _ (by decide), u_ne _ _ (by decide)]; exact i7.1
      · rw [u_ne _ _ (by decide), u_ne _ _ (by decide)]; exact i7.2
      · exact kB 27 (by decide)
      · exact kB 28 (by decide)
      · exact kB 29 (by decide)
      · rw [u_ne _ _ (by decide), u_ne _ _ (by decide)]
      · rw [u_ne _ _ (by decide), u_ne _ _ (by decide), c2 0 (by decide)]; exact h0
      · rw [rs_oi, if_pos c3]
        have l := z_forH (G := G) (d := d + 9) (μ := m_X12_scheme z_puC) (r := (.inl (some (.int (nI 0))), z_rs h M (z_u (z_u F3 25 (nI 0)) 47 (nI 0)) (z_u (z_u A 2 g) 1 b))) (pc := 139) (fun l _ => [some (.ref M), none, some (.int (nI l))]) (fun _ a => z_rs h M F3 (z_u (z_u A 2 g) 1 a)) (fun l a => z_u a l (if l < 30 then g l else nI 0)) (A 1) 154 ?_ ?_
        · have e1 : z_u (z_u A 2 g) 1 (A 1) = z_u A 2 g := by
            have := u_self (z_u A 2 g) 1
            rw [u_ne _ _ (by decide)] at this
            exact this
          rw [e1] at l
          exact l
        · intro l hl hJ
          refine b_X12_scheme_139 z_puCV ?_
          have e2 : z_u (z_u A 2 g) 1 (it (fun l (a : Nat → Int32) => z_u a l (if l < 30 then g l else nI 0)) (A 1) l) 2 = g := by rw [u_ne _ _ (by decide), u_eq]
          rw [if_pos (nI_lt hl (by decide)), show z_or (z_rs h M F3 (z_u (z_u A 2 g) 1 (it (fun l (a : Nat → Int32) => z_u a l (if l < 30 then g l else nI 0)) (A 1) l))) M 1 = some (M + 1) from (sh_now hM).1, z_rcs, nI_clamp (by omega), nI_add, show z_or (z_rs h M F3 (z_u (z_u A 2 g) 1 (it (fun l (a : Nat → Int32) => z_u a l (if l < 30 then g l else nI 0)) (A 1) l))) M 2 = some (M + 2) from (sh_read hM).1, z_rcs]
          have v1 : vp_in (nI l) (z_ln h (M + 1)) := by rw [(sh_now hM).2.2]; exact vp_in_nI (by omega) (by omega)
          refine ⟨sh_kd hM, ?_⟩
          by_cases l30 : l < 30
          · rw [if_pos (nI_lt l30 (by decide)), rs_ai _ _ _ _ (by omega) (by omega), rs_pai _ _ _ _ (by omega) (by omega), e2, u_eq, u_u]
            rw [if_pos l30] at hJ
            exact ⟨sh_kd hM, (sh_read hM).2.1, by show vp_in (nI l) (z_ln h (M + 2)); rw [(sh_read hM).2.2]; exact vp_in_nI (by omega) (by omega), (sh_now hM).2.1, v1, hJ⟩
          · rw [if_neg (fun e => l30 ((nI_ltI (by omega) (by omega)).mp e)), rs_pai _ _ _ _ (by omega) (by omega), u_eq, u_u]
            rw [if_neg l30] at hJ
            exact ⟨(sh_now hM).2.1, v1, hJ⟩
        · rw [← hb]
          refine b_X12_scheme_139 z_puCV ?_
          rw [if_neg (nI_nlt (Nat.le_refl _) (by decide)), rs_poi, rs_poi]
          exact ⟨sh_kd hM, sh_kd hM, Or.inl rfl, rfl⟩
end DI
