/-! THE LISTER: sets, game, square, plane, years -/
section C5
variable {G : z_G} {d L r : Nat} {h : z_H} {σ : RSt}
theorem e11_set (hc : cI L r h σ) (x : Int32) : pubC G (d + 16) k_X11_set L r h [.int x] (ans z_NSE z_IAE (some (.int (c_set σ.2.1.1.1 x).1)) (c_set σ.2.1.1.1 x).2) σ := by
  obtain ⟨k, q, b, u, v, ⟨hk, ho⟩, ⟨c1, c2, ⟨x1, x2, x3⟩, ⟨x4, x5, x6⟩, hA, hxy⟩, hcdk, hok⟩ := cI_cd hc
  have hI := hc.1.2.2.1
  have hL := hc.1.2.2.2
  obtain ⟨p1, p2, p3, p4, p5, p6, p7, p8⟩ := hc.1.2.1
  obtain ⟨-, -, -, r10, r11, r12, r13, r14, r15, r16⟩ := hc.1.1
  have n8 := y_n8 hA
  have m12 := y_m12 hA
  have hxq : L + 45 ≠ q := fun e => by
    have := y_kd hA
    rw [← e, p7] at this
    cases this
  have t1 : xt (fun a => a = L + 45) h (spH h (L + 45) (c_sp σ.2.1.1.1)) := xt_trans (xt_poi _ _ rfl) (xt_poi _ _ rfl)
  have e1 : ex (fun a => a = L + 45) 0 0 h (spH h (L + 45) (c_sp σ.2.1.1.1)) := xt_ex t1 (Nat.le_refl _) (Nat.le_refl _)
  have c' : cI L r (spH h (L + 45) (c_sp σ.2.1.1.1)) σ := cI_st hc (inv_xt hI (fun a ha => by unfold hl; omega) t1) e1
  by_cases w0 : x = nI 0
  · subst w0
    have ec : c_set σ.2.1.1.1 (nI 0) = (nI (c_cov σ.2.1.1.1), nI 0) := by
      unfold c_set
      rw [if_pos rfl]
    rw [ec]
    refine pub_id hc (en_X11_set (b_X11_set_0 (z_pu0V rfl) ?_))
    rw [if_pos rfl]
    simp only [r15, ho, c2, z_rcs]
    exact ⟨hk, hk, c1, p7, _, _, e9_cover (d := (d + 10)) hA, rfl⟩
  by_cases w1 : x = nI 1
  · subst w1
    have ec : c_set σ.2.1.1.1 (nI 1) = (nI (c_cap σ.2.1.1.1), nI 0) := by
      unfold c_set
      rw [if_neg (show ¬ nI 1 = nI 0 by decide), if_pos rfl]
    rw [ec]
    refine pub_id hc (en_X11_set (b_X11_set_0 (z_pu0V rfl) ?_))
    rw [if_neg (show ¬ nI 1 = nI 0 by decide), if_pos rfl]
    simp only [r15, ho, c2, z_rcs]
    exact ⟨hk, hk, c1, p7, _, _, e9_cap (d := (d + 10)) hA, rfl⟩
  by_cases w2 : x = nI 2
  · subst w2
    have ec : c_set σ.2.1.1.1 (nI 2) = (nI (c_hv σ.2.1.1.1).1, nI 0) := by
      unfold c_set
      rw [if_neg (show ¬ nI 2 = nI 0 by decide), if_neg (show ¬ nI 2 = nI 1 by decide), if_pos rfl]
    rw [ec]
    refine pub_id hc (en_X11_set (b_X11_set_0 (z_pu0V rfl) ?_))
    rw [if_neg (show ¬ nI 2 = nI 0 by decide), if_neg (show ¬ nI 2 = nI 1 by decide), if_pos rfl]
    simp only [r15, ho, c2, z_rcs]
    exact ⟨hk, hk, c1, p7, _, _, e9_halves (d := (d + 9)) hA, rfl⟩
  by_cases w3 : x = nI 3
  · subst w3
    have ec : c_set σ.2.1.1.1 (nI 3) = ((c_hv σ.2.1.1.1).2, nI 0) := by
      unfold c_set
      rw [if_neg (show ¬ nI 3 = nI 0 by decide), if_neg (show ¬ nI 3 = nI 1 by decide), if_neg (show ¬ nI 3 = nI 2 by decide), if_pos rfl]
    rw [ec]
    refine pub_id hc (en_X11_set (b_X11_set_0 (z_pu0V rfl) ?_))
    rw [if_neg (show ¬ nI 3 = nI 0 by decide), if_neg (show ¬ nI 3 = nI 1 by decide), if_neg (show ¬ nI 3 = nI 2 by decide), if_pos rfl]
    simp only [r15, ho, c2, z_rcs]
    exact ⟨hk, hk, c1, p7, _, _, e9_firstHalf (d := (d + 9)) hA, rfl⟩
  by_cases w4 : x = nI 4
  · subst w4
    have ec : c_set σ.2.1.1.1 (nI 4) = (nI (c_sp σ.2.1.1.1).1, nI 0) := by
      unfold c_set
      rw [if_neg (show ¬ nI 4 = nI 0 by decide), if_neg (show ¬ nI 4 = nI 1 by decide), if_neg (show ¬ nI 4 = nI 2 by decide), if_neg (show ¬ nI 4 = nI 3 by decide), if_pos rfl]
    rw [ec]
    have E := e9_spreads (G := G) (d := d) (sx := L + 45) hA hxq p7
    rw [sp_eq hok.1] at E
    refine pub_mk c' e1 (fun a ha => by unfold cX; omega) (by decide) (by decide) (en_X11_set (b_X11_set_0 (z_pu0V rfl) ?_))
    rw [if_neg (show ¬ nI 4 = nI 0 by decide), if_neg (show ¬ nI 4 = nI 1 by decide), if_neg (show ¬ nI 4 = nI 2 by decide), if_neg (show ¬ nI 4 = nI 3 by decide), if_pos rfl]
    simp only [r15, ho, c2, z_rcs]
    exact ⟨hk, hk, c1, p7, _, _, E, rfl⟩
  by_cases w5 : x = nI 5
  · subst w5
    have ec : c_set σ.2.1.1.1 (nI 5) = ((c_sp σ.2.1.1.1).2, nI 0) := by
      unfold c_set
      rw [if_neg (show ¬ nI 5 = nI 0 by decide), if_neg (show ¬ nI 5 = nI 1 by decide), if_neg (show ¬ nI 5 = nI 2 by decide), if_neg (show ¬ nI 5 = nI 3 by decide), if_neg (show ¬ nI 5 = nI 4 by decide), if_pos rfl]
    rw [ec]
    have E := e9_leastSpread (G := G) (d := d) (sx := L + 45) hA hxq p7
    rw [sp_eq hok.1] at E
    refine pub_mk c' e1 (fun a ha => by unfold cX; omega) (by decide) (by decide) (en_X11_set (b_X11_set_0 (z_pu0V rfl) ?_))
    rw [if_neg (show ¬ nI 5 = nI 0 by decide), if_neg (show ¬ nI 5 = nI 1 by decide), if_neg (show ¬ nI 5 = nI 2 by decide), if_neg (show ¬ nI 5 = nI 3 by decide), if_neg (show ¬ nI 5 = nI 4 by decide), if_pos rfl]
    simp only [r15, ho, c2, z_rcs]
    exact ⟨hk, hk, c1, p7, _, _, E, rfl⟩
  have ec : c_set σ.2.1.1.1 x = (nI 0, nI 1) := by
    unfold c_set
    rw [if_neg w0, if_neg w1, if_neg w2, if_neg w3, if_neg w4, if_neg w5]
  rw [ec]
  refine pub_id hc (en_X11_set (b_X11_set_0 (z_pu0V rfl) ?_))
  rw [if_neg w0, if_neg w1, if_neg w2, if_neg w3, if_neg w4, if_neg w5]
  rfl
theorem i_lt0 {x : Int32} {n : Nat} (h : x < nI 0) (hn : n < 2 ^ 31) : x < nI n := by
  rcases Nat.eq_zero_or_pos n with e | e
  · subst e; exact h
  · exact Int32.lt_trans h (nI_lt e hn)
theorem e11_game (hc : cI L r h σ) (V : Nat → Int32) (x : Int32) : pubC G (d + 21) k_X11_game L r h [.int x] (ans z_NSE z_IAE (some (.int (c_game σ.2.1.1.1 V x).1)) (c_game σ.2.1.1.1 V x).2) σ := by
  obtain ⟨k, q, b, u, v, ⟨hk, ho⟩, ⟨c1, c2, ⟨x1, x2, x3⟩, ⟨x4, x5, x6⟩, hA, hxy⟩, hcdk, hok⟩ := cI_cd hc
  have hI := hc.1.2.2.1
  have hL := hc.1.2.2.2
  obtain ⟨p1, p2, p3, p4, p5, p6, p7, p8⟩ := hc.1.2.1
  obtain ⟨-, -, -, r10, r11, r12, r13, r14, r15, r16⟩ := hc.1.1
  have n8 := y_n8 hA
  have m12 := y_m12 hA
  unfold c_game
  rcases in_cases x (n := 2) (by decide) with ⟨a, ha, rfl, e⟩ | ⟨e, c | ⟨c, c'⟩⟩
  · rw [if_pos e]
    obtain ⟨h1, p, E, I1, e1, k1, o1⟩ := e6_solved (G := G) (d := d) hI hL p6 (v11 σ.2.1.1.1) hA
    have A1 := ex_sc hI (fun a ha => by unfold pX at ha; unfold hl; omega) e1 hA
    have c' : cI L r h1 σ := cI_pl hc I1 e1 k1
    obtain ⟨f1, kd1, ln1, v1⟩ := (inv_k I1 A1).2.2.2.1 11 (Or.inr (Or.inr (Or.inl rfl))) p o1
    have ln1 : z_ln h1 p = 2 := ln1
    refine pub_mk c' e1 (fun a ha => by unfold pX at ha; unfold cX; omega) (by decide) (by decide) (en_X11_game (b_X11_game_0 (z_pu0V rfl) ?_))
    rw [if_neg (nI_nlt (Nat.zero_le _) (by omega)), if_neg (nI_nlt (show a ≤ 1 by omega) (by decide))]
    simp only [r14, ho, c2, z_rcs]
    refine ⟨hk, hk, c1, p6.1.1, some p, h1, E, ?_⟩
    rw [z_rcs, nI_clamp (show a < 2 ^ 31 by omega), v1 a (by show a < 2; exact ha)]
    refine ⟨kd1, by rw [ln1]; exact vp_in_nI ha (by decide), ?_⟩
    have hg := game_eq hok.1 V
    rcases (show a = 0 ∨ a = 1 by omega) with ea | ea
    · subst ea
      rw [if_pos rfl, (v11 σ.2.1.1.1).1, hg.1]
      rfl
    · subst ea
      rw [if_neg (show ¬ nI 1 = nI 0 by decide), (v11 σ.2.1.1.1).2, hg.2.1]
      rfl
  · rw [if_neg (by rw [e]; decide)]
    refine pub_id hc (en_X11_game (b_X11_game_0 (z_pu0V rfl) ?_))
    rw [if_pos c]; rfl
  · rw [if_neg (by rw [e]; decide)]
    refine pub_id hc (en_X11_game (b_X11_game_0 (z_pu0V rfl) ?_))
    obtain ⟨j, hj, rfl⟩ := nI_of c
    have j2 : ¬ j < 2 := fun q => c' (nI_lt q (by decide))
    rw [if_neg c, if_pos (nI_lt (by omega) hj)]
    rfl
theorem e11_square (hc : cI L r h σ) (W P : Nat → Int32) (g x : Int32) : pubC G (d + 12) k_X11_square L r h [.int g, .int x] (ans z_NSE z_IAE (some (.int (c_square σ.2.1.1.1 W P g x).1)) (c_square σ.2.1.1.1 W P g x).2) σ := by
  obtain ⟨k, q, b, u, v, ⟨hk, ho⟩, ⟨c1, c2, ⟨x1, x2, x3⟩, ⟨x4, x5, x6⟩, hA, hxy⟩, hcdk, hok⟩ := cI_cd hc
  have hI := hc.1.2.2.1
  have hL := hc.1.2.2.2
  obtain ⟨p1, p2, p3, p4, p5, p6, p7, p8⟩ := hc.1.2.1
  obtain ⟨-, -, -, r10, r11, r12, r13, r14, r15, r16⟩ := hc.1.1
  have n8 := y_n8 hA
  have m12 := y_m12 hA
  have hN := e11_needPoint (G := G) (d := d + 6) hc x
  unfold c_square
  rcases in_cases x (n := σ.2.1.1.1.1) (by omega) with ⟨a, ha, rfl, e⟩ | ⟨e, -⟩
  · rw [if_pos e]
    by_cases cg : g = nI 2 ∨ g = nI 3 ∨ g = nI 4
    · rw [if_pos cg]
      obtain ⟨i, hi, rfl⟩ : ∃ i, i < 3 ∧ g = nI (i + 2) := by
        rcases cg with e | e | e
        · exact ⟨0, by decide, e⟩
        · exact ⟨1, by decide, e⟩
        · exact ⟨2, by decide, e⟩
      obtain ⟨h1, p, E, I1, e1, k1, f1, kd1, ln1, v1⟩ := e2_onSquare (G := G) (d := d) vD_v hI hL p5 hA hi
      have c' : cI L r h1 σ := cI_dr hc I1 e1 k1
      refine pub_mk c' e1 (fun a ha => by unfold dX at ha; unfold cX; omega) (by decide) (by decide) (en_X11_square (b_X11_square_0 (z_pu0V rfl) ⟨hk, Or.inl ⟨_, hN.1 e, ?_⟩⟩))
      rw [if_neg (nI_nlt (by omega) (by omega)), if_neg (nI_nlt (show i + 2 ≤ 4 by omega) (by decide))]
      simp only [r13, ho, c2, z_rcs]
      refine ⟨hk, hk, c1, p5.1.1, some p, h1, E, ?_⟩
      have hv := v1 (a + 1) (by omega)
      rw [(vD_v σ.2.1.1.1 hok.1).2.1 i hi (a + 1) (by omega), sq_ref hok.1 hi ha W P, show bil i = sq_il (i + 2) from if_pos hi, show d_pl i = (i + 2) * (i + 2) from if_pos hi] at hv
      rw [z_rcs, nI_add, nI_clamp (show a + 1 < 2 ^ 31 by omega), nI_clamp (show a < 2 ^ 31 by omega), nI_clamp (show i + 2 < 2 ^ 31 by omega), hv]
      exact ⟨kd1, by rw [ln1]; exact vp_in_nI (by omega) (by decide), rfl⟩
    · rw [if_neg cg]
      refine pub_id hc (en_X11_square (b_X11_square_0 (z_pu0V rfl) ⟨hk, Or.inl ⟨_, hN.1 e, ?_⟩⟩))
      by_cases c0 : g < nI 2
      · rw [if_pos c0]; rfl
      · rw [if_neg c0]
        obtain ⟨j, hj, rfl⟩ := nI_of (fun q => c0 (i_lt0 q (by decide)) : ¬ g < nI 0)
        have j2 : ¬ j < 2 := fun q => c0 (nI_lt q (by decide))
        have j4 : 4 < j := by
          apply Classical.byContradiction
          intro q
          rcases (show j = 2 ∨ j = 3 ∨ j = 4 by omega) with e | e | e
          · exact cg (Or.inl (by rw [e]))
          · exact cg (Or.inr (Or.inl (by rw [e])))
          · exact cg (Or.inr (Or.inr (by rw [e])))
        rw [if_pos (nI_lt j4 hj)]
        rfl
  · rw [if_neg (by rw [e]; decide)]
    exact pub_id hc (en_X11_square (b_X11_square_0 (z_pu0V rfl) ⟨hk, Or.inr ⟨_, _, hN.2 e, rfl⟩⟩))
theorem e11_plane (hc : cI L r h σ) (W P : Nat → Int32) (g x : Int32) : pubC G (d + 12) k_X11_plane L r h [.int g, .int x] (ans z_NSE z_IAE (some (.int (c_plane σ.2.1.1.1 W P g x).1)) (c_plane σ.2.1.1.1 W P g x).2) σ := by
  obtain ⟨k, q, b, u, v, ⟨hk, ho⟩, ⟨c1, c2, ⟨x1, x2, x3⟩, ⟨x4, x5, x6⟩, hA, hxy⟩, hcdk, hok⟩ := cI_cd hc
  have hI := hc.1.2.2.1
  have hL := hc.1.2.2.2
  obtain ⟨p1, p2, p3, p4, p5, p6, p7, p8⟩ := hc.1.2.1
  obtain ⟨-, -, -, r10, r11, r12, r13, r14, r15, r16⟩ := hc.1.1
  have n8 := y_n8 hA
  have m12 := y_m12 hA
  have hN := e11_needPoint (G := G) (d := d + 6) hc x
  unfold c_plane
  by_cases cx : x = mI
  · rw [if_pos (Or.inl cx)]
    by_cases cg : g = nI 2 ∨ g = nI 3
    · rw [if_pos cg, if_pos cx]
      obtain ⟨i, hi, rfl⟩ : ∃ i, (3 ≤ i ∧ i < 5) ∧ g = nI (i - 1) := by
        rcases cg with e | e
        · exact ⟨3, by decide, e⟩
        · exact ⟨4, by decide, e⟩
      obtain ⟨h1, p, E, I1, e1, k1, f1, kd1, ln1, v1⟩ := e2_inPlane (G := G) (d := d) vD_v hI hL p5 hA hi
      have c' : cI L r h1 σ := cI_dr hc I1 e1 k1
      refine pub_mk c' e1 (fun a ha => by unfold dX at ha; unfold cX; omega) (by decide) (by decide) (en_X11_plane (b_X11_plane_0 (z_pu0V rfl) ?_))
      rw [if_pos cx, if_neg (nI_nlt (by omega) (by omega)), if_neg (nI_nlt (show i - 1 ≤ 3 by omega) (by decide))]
      simp only [r13, ho, c2, z_rcs]
      refine ⟨hk, hk, c1, p5.1.1, some p, h1, E, ?_⟩
      have hv := v1 0 (by omega)
      rw [(vD_v σ.2.1.1.1 hok.1).2.2 i hi 0 (by omega), pn_ref0 hok.1 hi.2 hi.1 W P, show bil i = pl_il (i - 1) from if_neg (by omega), show d_pl i = pl_pm (i - 1) from if_neg (by omega)] at hv
      rw [z_rcs, cx, show mI + nI 1 = nI 0 by decide, nI_clamp (show 0 < 2 ^ 31 by decide), nI_clamp (show i - 1 < 2 ^ 31 by omega), hv]
      exact ⟨kd1, by rw [ln1]; exact vp_in_nI (by decide) (by decide), rfl⟩
    · rw [if_neg cg]
      refine pub_id hc (en_X11_plane (b_X11_plane_0 (z_pu0V rfl) ?_))
      rw [if_pos cx]
      by_cases c0 : g < nI 2
      · rw [if_pos c0]; rfl
      · rw [if_neg c0]
        obtain ⟨j, hj, rfl⟩ := nI_of (fun q => c0 (i_lt0 q (by decide)) : ¬ g < nI 0)
        have j2 : ¬ j < 2 := fun q => c0 (nI_lt q (by decide))
        have j4 : 3 < j := by
          apply Classical.byContradiction
          intro q
          rcases (show j = 2 ∨ j = 3 by omega) with e | e
          · exact cg (Or.inl (by rw [e]))
          · exact cg (Or.inr (by rw [e]))
        rw [if_pos (nI_lt j4 hj)]
        rfl
  rcases in_cases x (n := σ.2.1.1.1.1) (by omega) with ⟨a, ha, rfl, e⟩ | ⟨e, -⟩
  · rw [if_pos (Or.inr e)]
    by_cases cg : g = nI 2 ∨ g = nI 3
    · rw [if_pos cg, if_neg cx]
      obtain ⟨i, hi, rfl⟩ : ∃ i, (3 ≤ i ∧ i < 5) ∧ g = nI (i - 1) := by
        rcases cg with e | e
        · exact ⟨3, by decide, e⟩
        · exact ⟨4, by decide, e⟩
      obtain ⟨h1, p, E, I1, e1, k1, f1, kd1, ln1, v1⟩ := e2_inPlane (G := G) (d := d) vD_v hI hL p5 hA hi
      have c' : cI L r h1 σ := cI_dr hc I1 e1 k1
      refine pub_mk c' e1 (fun a ha => by unfold dX at ha; unfold cX; omega) (by decide) (by decide) (en_X11_plane (b_X11_plane_0 (z_pu0V rfl) ?_))
      rw [if_neg cx]
      refine ⟨hk, Or.inl ⟨_, hN.1 e, ?_⟩⟩
      rw [if_neg (nI_nlt (by omega) (by omega)), if_neg (nI_nlt (show i - 1 ≤ 3 by omega) (by decide))]
      simp only [r13, ho, c2, z_rcs]
      refine ⟨hk, hk, c1, p5.1.1, some p, h1, E, ?_⟩
      have hv := v1 (a + 1) (by omega)
      rw [(vD_v σ.2.1.1.1 hok.1).2.2 i hi (a + 1) (by omega), pn_ref hok.1 hi.2 hi.1 ha W P, show bil i = pl_il (i - 1) from if_neg (by omega), show d_pl i = pl_pm (i - 1) from if_neg (by omega)] at hv
      rw [z_rcs, nI_add, nI_clamp (show a + 1 < 2 ^ 31 by omega), nI_clamp (show a < 2 ^ 31 by omega), nI_clamp (show i - 1 < 2 ^ 31 by omega), hv]
      exact ⟨kd1, by rw [ln1]; exact vp_in_nI (by omega) (by decide), rfl⟩
    · rw [if_neg cg]
      refine pub_id hc (en_X11_plane (b_X11_plane_0 (z_pu0V rfl) ?_))
      rw [if_neg cx]
      refine ⟨hk, Or.inl ⟨_, hN.1 e, ?_⟩⟩
      by_cases c0 : g < nI 2
      · rw [if_pos c0]; rfl
      · rw [if_neg c0]
        obtain ⟨j, hj, rfl⟩ := nI_of (fun q => c0 (i_lt0 q (by decide)) : ¬ g < nI 0)
        have j2 : ¬ j < 2 := fun q => c0 (nI_lt q (by decide))
        have j4 : 3 < j := by
          apply Classical.byContradiction
          intro q
          rcases (show j = 2 ∨ j = 3 by omega) with e | e
          · exact cg (Or.inl (by rw [e]))
          · exact cg (Or.inr (by rw [e]))
        rw [if_pos (nI_lt j4 hj)]
        rfl
  · rw [if_neg (fun q => q.elim cx (fun q => by rw [e] at q; cases q))]
    refine pub_id hc (en_X11_plane (b_X11_plane_0 (z_pu0V rfl) ?_))
    rw [if_neg cx]
    exact ⟨hk, Or.inr ⟨_, _, hN.2 e, rfl⟩⟩
theorem gt_of {x : Int32} {n : Nat} (c : ¬ x < nI 0) (c' : ¬ x < nI (n + 1)) (hn : n + 1 < 2 ^ 31) : nI n < x := by
  obtain ⟨j, hj, rfl⟩ := nI_of c
  have : ¬ j < n + 1 := fun q => c' (nI_lt q hn)
  exact nI_lt (by omega) hj
theorem e11_years (hc : cI L r h σ) (sd n w : Int32) : pubC G (d + 7) k_X11_years L r h [.int sd, .int n, .int w] (ans z_NSE z_IAE (some (.int (c_years σ.2.1.1 sd n w).1)) (c_years σ.2.1.1 sd n w).2) σ := by
  obtain ⟨k, q, b, u, v, ⟨hk, ho⟩, ⟨c1, c2, ⟨x1, x2, x3⟩, ⟨x4, x5, x6⟩, hA, hxy⟩, hcdk, hok⟩ := cI_cd hc
  have hI := hc.1.2.2.1
  have hL := hc.1.2.2.2
  obtain ⟨p1, p2, p3, p4, p5, p6, p7, p8⟩ := hc.1.2.1
  obtain ⟨-, -, -, r10, r11, r12, r13, r14, r15, r16⟩ := hc.1.1
  have n8 := y_n8 hA
  have m12 := y_m12 hA
  unfold c_years
  rcases in_cases w (n := 3) (by decide) with ⟨a, ha, rfl, e⟩ | ⟨e, c | ⟨c, c'⟩⟩
  · rw [if_pos e]
    rcases in_cases n (n := 61) (by decide) with ⟨m, hm, rfl, e'⟩ | ⟨e', c | ⟨c, c'⟩⟩
    · rw [if_pos e']
      have hxq : L + 46 ≠ q := fun e => by
        have := y_kd hA
        rw [← e, p8.1] at this
        cases this
      have kk := inv_k hI hA
      have hr : L + 46 + 1 < b ∨ b + 8 ≤ L + 46 + 1 := by
        apply Classical.byContradiction
        intro qn
        have := kk.2.1.1
        exact kk.2.1.2.2.2 (L + 46 + 1) (by omega) (by omega) (by unfold hl; omega)
      obtain ⟨F, A, hy, E⟩ := e10_run (G := G) (d := d) p8 hA hxq hr hok rfl sd (n := m) (by omega)
      obtain ⟨y, ey⟩ : ∃ y, y = c_yA σ.2.1.1 sd m := ⟨_, rfl⟩
      rw [← ey] at hy
      have t1 : xt (fun a => L + 46 ≤ a ∧ a < L + 48) h (z_hb h (L + 46) 1 F A) := xt_hb (fun a h1 h2 => ⟨h1, by omega⟩)
      have e1 : ex (fun a => L + 46 ≤ a ∧ a < L + 48) 0 0 h (z_hb h (L + 46) 1 F A) := xt_ex t1 (Nat.le_refl _) (Nat.le_refl _)
      have c' : cI L r (z_hb h (L + 46) 1 F A) σ := cI_ys hc (inv_xt hI (fun a ha => by unfold hl; omega) t1) e1 p8
      obtain ⟨h1, eh1⟩ : ∃ h1, h1 = z_hb h (L + 46) 1 F A := ⟨_, rfl⟩
      have oF : z_oi h1 (L + 46) = F := by rw [eh1]; exact hb_oi _ _ _ _ _
      have aF : z_ai h1 (L + 46 + 1) = A 0 := by rw [eh1]; exact hb_ai _ _ _ _ _ (j := 0) (by decide)
      have hk1 : z_kd h1 = z_kd h ∧ z_ln h1 = z_ln h ∧ z_or h1 = z_or h := by rw [eh1]; exact ⟨rfl, rfl, rfl⟩
      rw [← eh1] at E c' e1
      refine pub_mk c' e1 (fun a ha => by unfold cX; omega) (by decide) (by decide) (en_X11_years (b_X11_years_0 (z_pu0V rfl) ?_))
      rw [if_neg (nI_nlt (Nat.zero_le _) (by omega)), if_neg (nI_nlt (show a ≤ 2 by omega) (by decide)), if_neg (nI_nlt (Nat.zero_le _) (by omega)), if_neg (nI_nlt (show m ≤ 60 by omega) (by decide))]
      rw [nI_clamp (show m < 2 ^ 31 by omega), nI_clamp (show a < 2 ^ 31 by omega), ← ey]
      simp only [r16, ho, c2, z_rcs]
      refine ⟨hk, hk, c1, p8.1, h1, E, ?_⟩
      unfold c_yV
      rcases (show a = 0 ∨ a = 1 ∨ a = 2 by omega) with ea | ea | ea <;> subst ea
      · rw [if_pos rfl, if_pos rfl, hk1.2.2, r16, z_rcs, oF, hy.2.1, hk1.1]
        exact ⟨hk, p8.1, rfl⟩
      · rw [if_neg (show ¬ nI 1 = nI 0 by decide), if_pos rfl, if_neg (show ¬ (1 : Nat) = 0 by decide), if_pos rfl, hk1.2.2, hk1.1]
        simp only [r16, z_rcs, p8.2.1, oF, hy.2.1]
        have hyo := hy.2.2.2.2.1
        refine ⟨hk, p8.1, hk, p8.1, nI (c_tris y.2.1.1), h1, ?_, rfl⟩
        rw [← tris_eq hyo]
        exact e8_trianglesOf (d := d + 1) (by rw [hk1.1]; exact p8.2.2.1) (by rw [hk1.2.1, p8.2.2.2]; exact hyo.2.1) (by rw [hk1.2.1, p8.2.2.2]; decide) hyo.2.1 (fun l hl => ⟨by rw [aF]; exact hy.2.2.2.1 l hl, sok_256 hyo l⟩)
      · rw [if_neg (show ¬ nI 2 = nI 0 by decide), if_neg (show ¬ nI 2 = nI 1 by decide), if_neg (show ¬ (2 : Nat) = 0 by decide), if_neg (show ¬ (2 : Nat) = 1 by decide), hk1.2.2, r16, z_rcs, oF, hy.2.2.1, hk1.1]
        exact ⟨hk, p8.1, rfl⟩
    · rw [if_neg (by rw [e']; decide)]
      refine pub_id hc (en_X11_years (b_X11_years_0 (z_pu0V rfl) ?_))
      rw [if_neg (nI_nlt (Nat.zero_le _) (by omega)), if_neg (nI_nlt (show a ≤ 2 by omega) (by decide)), if_pos c]
      rfl
    · rw [if_neg (by rw [e']; decide)]
      refine pub_id hc (en_X11_years (b_X11_years_0 (z_pu0V rfl) ?_))
      rw [if_neg (nI_nlt (Nat.zero_le _) (by omega)), if_neg (nI_nlt (show a ≤ 2 by omega) (by decide)), if_neg c, if_pos (gt_of (n := 60) c c' (by decide))]
      rfl
  · rw [if_neg (by rw [e]; decide)]
    refine pub_id hc (en_X11_years (b_X11_years_0 (z_pu0V rfl) ?_))
    rw [if_pos c]
    rfl
  · rw [if_neg (by rw [e]; decide)]
    refine pub_id hc (en_X11_years (b_X11_years_0 (z_pu0V rfl) ?_))
    rw [if_neg c, if_pos (gt_of (n := 2) c c' (by decide))]
    rfl
end C5
