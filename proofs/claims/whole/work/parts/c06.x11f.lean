/-! THE LISTER: count, point -/
theorem l3_cg {R R' : Nat → Int32} (h : ∀ k, k < 30 → R k = R' k) {a b c : Nat} (ha : a < 8) (hb : b < 8) (hc : c < 8) : c_l3 R a b c = c_l3 R' a b c := by
  unfold c_l3
  rw [h (14 + a) (by omega), h (14 + b) (by omega), h (14 + c) (by omega), h (22 + a) (by omega), h (22 + b) (by omega), h (22 + c) (by omega)]
theorem p2_cg {R R' : Nat → Int32} (h : ∀ k, k < 30 → R k = R' k) {a b : Nat} (ha : a < 8) (hb : b < 8) : c_p2 R a b = c_p2 R' a b := by
  unfold c_p2
  rw [h (14 + a) (by omega), h (14 + b) (by omega), h (22 + a) (by omega), h (22 + b) (by omega)]
theorem slips_cg {S : Sc} {R R' : Nat → Int32} (hn : S.1 ≤ 8) (h : ∀ k, k < 30 → R k = R' k) : c_slips S R = c_slips S R' := by
  unfold c_slips
  refine it_congr _ (fun l n _ => ?_)
  have : c_slip S.1 R (S.2.2 l) = c_slip S.1 R' (S.2.2 l) := any_cg (fun a ha => any_cg (fun b hb => by
    unfold c_slB
    rw [p2_cg h (by omega) (by omega)]
    have : c_any (c_slC R (S.2.2 l) a b) b = c_any (c_slC R' (S.2.2 l) a b) b := any_cg (fun c hc => by
      unfold c_slC
      rw [l3_cg h (by omega) (by omega) (by omega)])
    rw [this]))
  rw [this]
theorem strays_cg {S : Sc} {R R' : Nat → Int32} (hn : S.1 ≤ 8) (h : ∀ k, k < 30 → R k = R' k) : c_strays S R = c_strays S R' := by
  unfold c_strays
  refine it_congr _ (fun a n ha => it_congr _ (fun b n hb => it_congr _ (fun c n hc => ?_)))
  unfold c_stray
  rw [l3_cg h (by omega) (by omega) (by omega)]
theorem orb_v {S : Sc} (hS : c_sok S) : nI (it (fun p n => n + (decide (vV 9 S p = nI p)).toNat) 0 S.1) = nI (c_orb S) := by
  congr 1
  unfold c_orb
  refine it_congr _ (fun p n hp => ?_)
  rw [v9, orb_ref hS (fun _ _ => rfl) hp]
  have n8 := hS.1.2
  have l : n_tz ((c_syA S).2 p) < 2 ^ 31 := by
    rw [← orb_ref hS (N := fun i => i) (O := fun i => i) (fun _ _ => rfl) hp]
    have := (mea_ord hS (N := fun i => i) (O := fun i => i) (fun _ _ => rfl)).2.2 p hp
    have := rl_lt hp this.1
    omega
  have : (nI (n_tz ((c_syA S).2 p)) = nI p) = (n_tz ((c_syA S).2 p) = p) := q_eq l (by omega)
  congr 2
  exact decide_eq_decide.mpr (by rw [this])
theorem dua_v {S : Sc} (hS : c_sok S) (N : Nat → Nat) : g_dua vV S N = nI (c_dual S false) := by
  rw [dual_ref hS]
  unfold g_dua
  cases ht : c_td S with
  | none => rfl
  | some t =>
    show (if S.1 = S.2.1 then g_like vV S (dS S t) N else nI 0) = nI (if S.1 = S.2.1 then c_likes (dS S t) S else 0)
    rw [like_ref hS (dS_sok hS ht) N]
    unfold g_like
    rw [v8]
    by_cases a1 : S.1 = S.2.1
    · rw [if_pos a1, if_pos a1]
      by_cases a2 : S.1 = (dS S t).1 ∧ S.2.1 = (dS S t).2.1
      · rw [if_pos a2, if_pos a2]
        cases (g_fin S (dS S t) true S.1 0 0 0 N).1 <;> rfl
      · rw [if_neg a2, if_neg a2]
    · rw [if_neg a1, if_neg a1]
section C6
variable {G : z_G} {d L r : Nat} {h : z_H} {σ : RSt}
theorem e11_count (hc : cI L r h σ) {R : Nat → Int32} (hρ : rho R σ.2.1) (x : Int32) : pubC G (d + 19) k_X11_count L r h [.int x] (ans z_NSE z_IAE (some (.int (c_count σ.2.1.1.1 R σ.2.2.1.length σ.1.2.1 σ.2.2.2.1.1 σ.2.2.2.1.2 x).1)) (c_count σ.2.1.1.1 R σ.2.2.1.length σ.1.2.1 σ.2.2.2.1.1 σ.2.2.2.1.2 x).2) σ := by
  obtain ⟨k, q, b, u, v, ⟨hk, ho⟩, ⟨c1, c2, ⟨x1, x2, x3⟩, ⟨x4, x5, x6⟩, hA, hxy⟩, hcdk, hok⟩ := cI_cd hc
  have hI := hc.1.2.2.1
  have hL := hc.1.2.2.2
  obtain ⟨p1, p2, p3, p4, p5, p6, p7, p8⟩ := hc.1.2.1
  obtain ⟨-, -, -, r10, r11, r12, r13, r14, r15, r16⟩ := hc.1.1
  have n8 := y_n8 hA
  have m12 := y_m12 hA
  have hC : cd_at k q b u v h σ.2.1.1 := ⟨c1, c2, ⟨x1, x2, x3⟩, ⟨x4, x5, x6⟩, hA, hxy⟩
  have hT := hc.2
  by_cases w0 : x = nI 0
  · subst w0
    have ec : c_count σ.2.1.1.1 R σ.2.2.1.length σ.1.2.1 σ.2.2.2.1.1 σ.2.2.2.1.2 (nI 0) = (nI σ.2.1.1.1.1, nI 0) := by
      unfold c_count
      rw [if_pos rfl]
    rw [ec]
    refine pub_id hc (en_X11_count (b_X11_count_0 (z_pu0V rfl) ⟨hk, ?_⟩))
    rw [ho, z_rcs, c2, z_rcs]
    refine ⟨c1, ?_⟩
    rw [if_pos rfl]
    exact ⟨y_kd hA, by rw [y_n hA]; rfl⟩
  by_cases w1 : x = nI 1
  · subst w1
    have ec : c_count σ.2.1.1.1 R σ.2.2.1.length σ.1.2.1 σ.2.2.2.1.1 σ.2.2.2.1.2 (nI 1) = (nI σ.2.1.1.1.2.1, nI 0) := by
      unfold c_count
      rw [if_neg (show ¬ nI 1 = nI 0 by decide), if_pos rfl]
    rw [ec]
    refine pub_id hc (en_X11_count (b_X11_count_0 (z_pu0V rfl) ⟨hk, ?_⟩))
    rw [ho, z_rcs, c2, z_rcs]
    refine ⟨c1, ?_⟩
    rw [if_neg (show ¬ nI 1 = nI 0 by decide), if_pos rfl]
    exact ⟨y_kd hA, by rw [y_m hA]; rfl⟩
  by_cases w2 : x = nI 2
  · subst w2
    have ec : c_count σ.2.1.1.1 R σ.2.2.1.length σ.1.2.1 σ.2.2.2.1.1 σ.2.2.2.1.2 (nI 2) = (nI (c_flags σ.2.1.1.1), nI 0) := by
      unfold c_count
      rw [if_neg (show ¬ nI 2 = nI 0 by decide), if_neg (show ¬ nI 2 = nI 1 by decide), if_pos rfl]
    rw [ec]
    refine pub_id hc (en_X11_count (b_X11_count_0 (z_pu0V rfl) ⟨hk, ?_⟩))
    rw [ho, z_rcs, c2, z_rcs]
    refine ⟨c1, ?_⟩
    rw [if_neg (show ¬ nI 2 = nI 0 by decide), if_neg (show ¬ nI 2 = nI 1 by decide), if_pos rfl]
    exact ⟨y_kd hA, _, _, e8_flags (d := d + 14) hA, rfl⟩
  by_cases w3 : x = nI 3
  · subst w3
    have ec : c_count σ.2.1.1.1 R σ.2.2.1.length σ.1.2.1 σ.2.2.2.1.1 σ.2.2.2.1.2 (nI 3) = (nI (c_isReg σ.2.1.1.1).toNat, nI 0) := by
      unfold c_count
      rw [if_neg (show ¬ nI 3 = nI 0 by decide), if_neg (show ¬ nI 3 = nI 1 by decide), if_neg (show ¬ nI 3 = nI 2 by decide), if_pos rfl]
    rw [ec]
    refine pub_id hc (en_X11_count (b_X11_count_0 (z_pu0V rfl) ⟨hk, ?_⟩))
    rw [ho, z_rcs, c2, z_rcs]
    refine ⟨c1, ?_⟩
    rw [if_neg (show ¬ nI 3 = nI 0 by decide), if_neg (show ¬ nI 3 = nI 1 by decide), if_neg (show ¬ nI 3 = nI 2 by decide), if_pos rfl]
    have E := e8_isRegular (G := G) (d := d + 14) hA
    rw [(reg_eq (S := σ.2.1.1.1)).1] at E
    refine ⟨y_kd hA, _, _, E, ?_⟩
    cases c_isReg σ.2.1.1.1
    · rfl
    · rfl
  by_cases w4 : x = nI 4
  · subst w4
    have ec : c_count σ.2.1.1.1 R σ.2.2.1.length σ.1.2.1 σ.2.2.2.1.1 σ.2.2.2.1.2 (nI 4) = ((if c_isReg σ.2.1.1.1 then c_regR σ.2.1.1.1 else mI), nI 0) := by
      unfold c_count
      rw [if_neg (show ¬ nI 4 = nI 0 by decide), if_neg (show ¬ nI 4 = nI 1 by decide), if_neg (show ¬ nI 4 = nI 2 by decide), if_neg (show ¬ nI 4 = nI 3 by decide), if_pos rfl]
    rw [ec]
    refine pub_id hc (en_X11_count (b_X11_count_0 (z_pu0V rfl) ⟨hk, ?_⟩))
    rw [ho, z_rcs, c2, z_rcs]
    refine ⟨c1, ?_⟩
    rw [if_neg (show ¬ nI 4 = nI 0 by decide), if_neg (show ¬ nI 4 = nI 1 by decide), if_neg (show ¬ nI 4 = nI 2 by decide), if_neg (show ¬ nI 4 = nI 3 by decide), if_pos rfl]
    have E := e8_isRegular (G := G) (d := d + 14) hA
    have hr := reg_eq (S := σ.2.1.1.1)
    rw [hr.1] at E hr
    refine ⟨y_kd hA, _, _, E, ?_⟩
    cases cr : c_isReg σ.2.1.1.1
    · rfl
    · rw [if_neg (show ¬ nI true.toNat = nI 0 by decide), (y_deg hA).1, z_rcs, nI_clamp (show 0 < 2 ^ 31 by decide), y_Dg hA (show 0 < 8 by decide), ← (hr.2 cr).1]
      exact ⟨y_kd hA, (y_deg hA).2.1, by rw [(y_deg hA).2.2]; exact vp_in_nI (by decide) (by decide), rfl⟩
  by_cases w5 : x = nI 5
  · subst w5
    have ec : c_count σ.2.1.1.1 R σ.2.2.1.length σ.1.2.1 σ.2.2.2.1.1 σ.2.2.2.1.2 (nI 5) = ((if c_isReg σ.2.1.1.1 then c_regK σ.2.1.1.1 else mI), nI 0) := by
      unfold c_count
      rw [if_neg (show ¬ nI 5 = nI 0 by decide), if_neg (show ¬ nI 5 = nI 1 by decide), if_neg (show ¬ nI 5 = nI 2 by decide), if_neg (show ¬ nI 5 = nI 3 by decide), if_neg (show ¬ nI 5 = nI 4 by decide), if_pos rfl]
    rw [ec]
    refine pub_id hc (en_X11_count (b_X11_count_0 (z_pu0V rfl) ⟨hk, ?_⟩))
    rw [ho, z_rcs, c2, z_rcs]
    refine ⟨c1, ?_⟩
    rw [if_neg (show ¬ nI 5 = nI 0 by decide), if_neg (show ¬ nI 5 = nI 1 by decide), if_neg (show ¬ nI 5 = nI 2 by decide), if_neg (show ¬ nI 5 = nI 3 by decide), if_neg (show ¬ nI 5 = nI 4 by decide), if_pos rfl]
    have E := e8_isRegular (G := G) (d := d + 14) hA
    have hr := reg_eq (S := σ.2.1.1.1)
    rw [hr.1] at E hr
    refine ⟨y_kd hA, _, _, E, ?_⟩
    cases cr : c_isReg σ.2.1.1.1
    · rfl
    · rw [if_neg (show ¬ nI true.toNat = nI 0 by decide), if_pos rfl, (hr.2 cr).2]
      exact ⟨y_kd hA, _, _, e8_firstSize (d := d + 14) hA, rfl⟩
  by_cases w6 : x = nI 6
  · subst w6
    have ec : c_count σ.2.1.1.1 R σ.2.2.1.length σ.1.2.1 σ.2.2.2.1.1 σ.2.2.2.1.2 (nI 6) = (nI (c_pairs σ.2.1.1.1), nI 0) := by
      unfold c_count
      rw [if_neg (show ¬ nI 6 = nI 0 by decide), if_neg (show ¬ nI 6 = nI 1 by decide), if_neg (show ¬ nI 6 = nI 2 by decide), if_neg (show ¬ nI 6 = nI 3 by decide), if_neg (show ¬ nI 6 = nI 4 by decide), if_neg (show ¬ nI 6 = nI 5 by decide), if_pos rfl]
    rw [ec]
    refine pub_id hc (en_X11_count (b_X11_count_0 (z_pu0V rfl) ⟨hk, ?_⟩))
    rw [ho, z_rcs, c2, z_rcs]
    refine ⟨c1, ?_⟩
    rw [if_neg (show ¬ nI 6 = nI 0 by decide), if_neg (show ¬ nI 6 = nI 1 by decide), if_neg (show ¬ nI 6 = nI 2 by decide), if_neg (show ¬ nI 6 = nI 3 by decide), if_neg (show ¬ nI 6 = nI 4 by decide), if_neg (show ¬ nI 6 = nI 5 by decide), if_pos rfl]
    rw [← pairs_eq hok.1]
    exact ⟨y_kd hA, _, _, e8_joinedPairs (d := d + 14) hA, rfl⟩
  by_cases w7 : x = nI 7
  · subst w7
    have ec : c_count σ.2.1.1.1 R σ.2.2.1.length σ.1.2.1 σ.2.2.2.1.1 σ.2.2.2.1.2 (nI 7) = (nI (c_tris σ.2.1.1.1), nI 0) := by
      unfold c_count
      rw [if_neg (show ¬ nI 7 = nI 0 by decide), if_neg (show ¬ nI 7 = nI 1 by decide), if_neg (show ¬ nI 7 = nI 2 by decide), if_neg (show ¬ nI 7 = nI 3 by decide), if_neg (show ¬ nI 7 = nI 4 by decide), if_neg (show ¬ nI 7 = nI 5 by decide), if_neg (show ¬ nI 7 = nI 6 by decide), if_pos rfl]
    rw [ec]
    refine pub_id hc (en_X11_count (b_X11_count_0 (z_pu0V rfl) ⟨hk, ?_⟩))
    rw [ho, z_rcs, c2, z_rcs]
    refine ⟨c1, ?_⟩
    rw [if_neg (show ¬ nI 7 = nI 0 by decide), if_neg (show ¬ nI 7 = nI 1 by decide), if_neg (show ¬ nI 7 = nI 2 by decide), if_neg (show ¬ nI 7 = nI 3 by decide), if_neg (show ¬ nI 7 = nI 4 by decide), if_neg (show ¬ nI 7 = nI 5 by decide), if_neg (show ¬ nI 7 = nI 6 by decide), if_pos rfl]
    rw [← tris_eq hok.1]
    exact ⟨y_kd hA, _, _, e8_triangles (d := d + 12) hA, rfl⟩
  by_cases w8 : x = nI 8
  · subst w8
    have ec : c_count σ.2.1.1.1 R σ.2.2.1.length σ.1.2.1 σ.2.2.2.1.1 σ.2.2.2.1.2 (nI 8) = (nI (c_pieces σ.2.1.1.1), nI 0) := by
      unfold c_count
      rw [if_neg (show ¬ nI 8 = nI 0 by decide), if_neg (show ¬ nI 8 = nI 1 by decide), if_neg (show ¬ nI 8 = nI 2 by decide), if_neg (show ¬ nI 8 = nI 3 by decide), if_neg (show ¬ nI 8 = nI 4 by decide), if_neg (show ¬ nI 8 = nI 5 by decide), if_neg (show ¬ nI 8 = nI 6 by decide), if_neg (show ¬ nI 8 = nI 7 by decide), if_pos rfl]
    rw [ec]
    refine pub_id hc (en_X11_count (b_X11_count_0 (z_pu0V rfl) ⟨hk, ?_⟩))
    rw [ho, z_rcs, c2, z_rcs]
    refine ⟨c1, ?_⟩
    rw [if_neg (show ¬ nI 8 = nI 0 by decide), if_neg (show ¬ nI 8 = nI 1 by decide), if_neg (show ¬ nI 8 = nI 2 by decide), if_neg (show ¬ nI 8 = nI 3 by decide), if_neg (show ¬ nI 8 = nI 4 by decide), if_neg (show ¬ nI 8 = nI 5 by decide), if_neg (show ¬ nI 8 = nI 6 by decide), if_neg (show ¬ nI 8 = nI 7 by decide), if_pos rfl]
    rw [← pieces_eq hok.1]
    exact ⟨y_kd hA, _, _, e8_pieces (d := d + 12) hA, rfl⟩
  by_cases w9 : x = nI 9
  · subst w9
    have ec : c_count σ.2.1.1.1 R σ.2.2.1.length σ.1.2.1 σ.2.2.2.1.1 σ.2.2.2.1.2 (nI 9) = (nI (c_syA σ.2.1.1.1).1, nI 0) := by
      unfold c_count
      rw [if_neg (show ¬ nI 9 = nI 0 by decide), if_neg (show ¬ nI 9 = nI 1 by decide), if_neg (show ¬ nI 9 = nI 2 by decide), if_neg (show ¬ nI 9 = nI 3 by decide), if_neg (show ¬ nI 9 = nI 4 by decide), if_neg (show ¬ nI 9 = nI 5 by decide), if_neg (show ¬ nI 9 = nI 6 by decide), if_neg (show ¬ nI 9 = nI 7 by decide), if_neg (show ¬ nI 9 = nI 8 by decide), if_pos rfl]
    rw [ec]
    have hM := vM_v σ.2.1.1.1 hok.1
    obtain ⟨h1, p, E, I1, e1, m1, km1, o1⟩ := e5_measured (G := G) (d := d + 2) hI hL p2.1 hM.1 hM.2.1 hM.2.2 hA
    have A1 := ex_sc hI (fun a ha => mX_hl ha) e1 hA
    have t1 := mtk_km hI e1 m1 km1 p2
    have c' : cI L r h1 σ := cI_mt hc I1 e1 t1
    obtain ⟨f1, kd1, ln1, v1⟩ := (inv_k I1 A1).2.2.2.1 8 (Or.inl rfl) p o1
    have ln1 : z_ln h1 p = 9 := ln1
    have v0 : z_ai h1 p 0 = nI (ordS σ.2.1.1.1 0) := v1 0 (by show 0 < 9; decide)
    rw [syA_ord hok.1, ← v0]
    refine pub_mk c' e1 (fun a ha => by unfold mX at ha; unfold cX; omega) (by decide) (by decide) (en_X11_count (b_X11_count_0 (z_pu0V rfl) ⟨hk, ?_⟩))
    rw [ho, z_rcs, c2, z_rcs]
    refine ⟨c1, ?_⟩
    rw [if_neg (show ¬ nI 9 = nI 0 by decide), if_neg (show ¬ nI 9 = nI 1 by decide), if_neg (show ¬ nI 9 = nI 2 by decide), if_neg (show ¬ nI 9 = nI 3 by decide), if_neg (show ¬ nI 9 = nI 4 by decide), if_neg (show ¬ nI 9 = nI 5 by decide), if_neg (show ¬ nI 9 = nI 6 by decide), if_neg (show ¬ nI 9 = nI 7 by decide), if_neg (show ¬ nI 9 = nI 8 by decide), if_pos rfl, r11, z_rcs]
    refine ⟨hk, p2.1.1, some p, h1, E, ?_⟩
    rw [z_rcs, nI_clamp (show 0 < 2 ^ 31 by decide)]
    exact ⟨kd1, by rw [ln1]; exact vp_in_nI (by decide) (by decide), rfl⟩
  by_cases w10 : x = nI 10
  · subst w10
    have ec : c_count σ.2.1.1.1 R σ.2.2.1.length σ.1.2.1 σ.2.2.2.1.1 σ.2.2.2.1.2 (nI 10) = (nI (c_orb σ.2.1.1.1), nI 0) := by
      unfold c_count
      rw [if_neg (show ¬ nI 10 = nI 0 by decide), if_neg (show ¬ nI 10 = nI 1 by decide), if_neg (show ¬ nI 10 = nI 2 by decide), if_neg (show ¬ nI 10 = nI 3 by decide), if_neg (show ¬ nI 10 = nI 4 by decide), if_neg (show ¬ nI 10 = nI 5 by decide), if_neg (show ¬ nI 10 = nI 6 by decide), if_neg (show ¬ nI 10 = nI 7 by decide), if_neg (show ¬ nI 10 = nI 8 by decide), if_neg (show ¬ nI 10 = nI 9 by decide), if_pos rfl]
    rw [ec]
    obtain ⟨h1, E, I1, e1, m1, km1⟩ := e5_orbits (G := G) (d := d) vM_v hI hL p2.1 hA
    have c' : cI L r h1 σ := cI_mt hc I1 e1 (mtk_km hI e1 m1 km1 p2)
    rw [← orb_v hok.1]
    refine pub_mk c' e1 (fun a ha => by unfold mX at ha; unfold cX; omega) (by decide) (by decide) (en_X11_count (b_X11_count_0 (z_pu0V rfl) ⟨hk, ?_⟩))
    rw [ho, z_rcs, c2, z_rcs]
    refine ⟨c1, ?_⟩
    rw [if_neg (show ¬ nI 10 = nI 0 by decide), if_neg (show ¬ nI 10 = nI 1 by decide), if_neg (show ¬ nI 10 = nI 2 by decide), if_neg (show ¬ nI 10 = nI 3 by decide), if_neg (show ¬ nI 10 = nI 4 by decide), if_neg (show ¬ nI 10 = nI 5 by decide), if_neg (show ¬ nI 10 = nI 6 by decide), if_neg (show ¬ nI 10 = nI 7 by decide), if_neg (show ¬ nI 10 = nI 8 by decide), if_neg (show ¬ nI 10 = nI 9 by decide), if_pos rfl, r11, z_rcs]
    exact ⟨hk, p2.1.1, _, _, E, rfl⟩
  by_cases w11 : x = nI 11
  · subst w11
    have ec : c_count σ.2.1.1.1 R σ.2.2.1.length σ.1.2.1 σ.2.2.2.1.1 σ.2.2.2.1.2 (nI 11) = (nI (c_dual σ.2.1.1.1 false), nI 0) := by
      unfold c_count
      rw [if_neg (show ¬ nI 11 = nI 0 by decide), if_neg (show ¬ nI 11 = nI 1 by decide), if_neg (show ¬ nI 11 = nI 2 by decide), if_neg (show ¬ nI 11 = nI 3 by decide), if_neg (show ¬ nI 11 = nI 4 by decide), if_neg (show ¬ nI 11 = nI 5 by decide), if_neg (show ¬ nI 11 = nI 6 by decide), if_neg (show ¬ nI 11 = nI 7 by decide), if_neg (show ¬ nI 11 = nI 8 by decide), if_neg (show ¬ nI 11 = nI 9 by decide), if_neg (show ¬ nI 11 = nI 10 by decide), if_pos rfl]
    rw [ec]
    obtain ⟨h1, N, E, I1, e1, m1, km1⟩ := e5_dualities (G := G) (d := d) vM_v hI hL p2.1 hA
    have c' : cI L r h1 σ := cI_mt hc I1 e1 (mtk_km hI e1 m1 km1 p2)
    rw [← dua_v hok.1 N]
    refine pub_mk c' e1 (fun a ha => by unfold mX at ha; unfold cX; omega) (by decide) (by decide) (en_X11_count (b_X11_count_0 (z_pu0V rfl) ⟨hk, ?_⟩))
    rw [ho, z_rcs, c2, z_rcs]
    refine ⟨c1, ?_⟩
    rw [if_neg (show ¬ nI 11 = nI 0 by decide), if_neg (show ¬ nI 11 = nI 1 by decide), if_neg (show ¬ nI 11 = nI 2 by decide), if_neg (show ¬ nI 11 = nI 3 by decide), if_neg (show ¬ nI 11 = nI 4 by decide), if_neg (show ¬ nI 11 = nI 5 by decide), if_neg (show ¬ nI 11 = nI 6 by decide), if_neg (show ¬ nI 11 = nI 7 by decide), if_neg (show ¬ nI 11 = nI 8 by decide), if_neg (show ¬ nI 11 = nI 9 by decide), if_neg (show ¬ nI 11 = nI 10 by decide), if_pos rfl, r11, z_rcs]
    exact ⟨hk, p2.1.1, _, _, E, rfl⟩
  by_cases w12 : x = nI 12
  · subst w12
    have ec : c_count σ.2.1.1.1 R σ.2.2.1.length σ.1.2.1 σ.2.2.2.1.1 σ.2.2.2.1.2 (nI 12) = (nI (c_dual σ.2.1.1.1 true), nI 0) := by
      unfold c_count
      rw [if_neg (show ¬ nI 12 = nI 0 by decide), if_neg (show ¬ nI 12 = nI 1 by decide), if_neg (show ¬ nI 12 = nI 2 by decide), if_neg (show ¬ nI 12 = nI 3 by decide), if_neg (show ¬ nI 12 = nI 4 by decide), if_neg (show ¬ nI 12 = nI 5 by decide), if_neg (show ¬ nI 12 = nI 6 by decide), if_neg (show ¬ nI 12 = nI 7 by decide), if_neg (show ¬ nI 12 = nI 8 by decide), if_neg (show ¬ nI 12 = nI 9 by decide), if_neg (show ¬ nI 12 = nI 10 by decide), if_neg (show ¬ nI 12 = nI 11 by decide), if_pos rfl]
    rw [ec]
    obtain ⟨h1, N, E, I1, e1, m1, km1⟩ := e5_polarities (G := G) (d := d) vM_v hI hL p2.1 hA
    have c' : cI L r h1 σ := cI_mt hc I1 e1 (mtk_km hI e1 m1 km1 p2)
    rw [pol_ref hok.1 N]
    refine pub_mk c' e1 (fun a ha => by unfold mX at ha; unfold cX; omega) (by decide) (by decide) (en_X11_count (b_X11_count_0 (z_pu0V rfl) ⟨hk, ?_⟩))
    rw [ho, z_rcs, c2, z_rcs]
    refine ⟨c1, ?_⟩
    rw [if_neg (show ¬ nI 12 = nI 0 by decide), if_neg (show ¬ nI 12 = nI 1 by decide), if_neg (show ¬ nI 12 = nI 2 by decide), if_neg (show ¬ nI 12 = nI 3 by decide), if_neg (show ¬ nI 12 = nI 4 by decide), if_neg (show ¬ nI 12 = nI 5 by decide), if_neg (show ¬ nI 12 = nI 6 by decide), if_neg (show ¬ nI 12 = nI 7 by decide), if_neg (show ¬ nI 12 = nI 8 by decide), if_neg (show ¬ nI 12 = nI 9 by decide), if_neg (show ¬ nI 12 = nI 10 by decide), if_neg (show ¬ nI 12 = nI 11 by decide), if_pos rfl, r11, z_rcs]
    exact ⟨hk, p2.1.1, _, _, E, rfl⟩
  by_cases w13 : x = nI 13
  · subst w13
    have ec : c_count σ.2.1.1.1 R σ.2.2.1.length σ.1.2.1 σ.2.2.2.1.1 σ.2.2.2.1.2 (nI 13) = (nI (c_slips σ.2.1.1.1 R), nI 0) := by
      unfold c_count
      rw [if_neg (show ¬ nI 13 = nI 0 by decide), if_neg (show ¬ nI 13 = nI 1 by decide), if_neg (show ¬ nI 13 = nI 2 by decide), if_neg (show ¬ nI 13 = nI 3 by decide), if_neg (show ¬ nI 13 = nI 4 by decide), if_neg (show ¬ nI 13 = nI 5 by decide), if_neg (show ¬ nI 13 = nI 6 by decide), if_neg (show ¬ nI 13 = nI 7 by decide), if_neg (show ¬ nI 13 = nI 8 by decide), if_neg (show ¬ nI 13 = nI 9 by decide), if_neg (show ¬ nI 13 = nI 10 by decide), if_neg (show ¬ nI 13 = nI 11 by decide), if_neg (show ¬ nI 13 = nI 12 by decide), if_pos rfl]
    rw [ec]
    refine pub_id hc (en_X11_count (b_X11_count_0 (z_pu0V rfl) ⟨hk, ?_⟩))
    rw [ho, z_rcs, c2, z_rcs]
    refine ⟨c1, ?_⟩
    rw [if_neg (show ¬ nI 13 = nI 0 by decide), if_neg (show ¬ nI 13 = nI 1 by decide), if_neg (show ¬ nI 13 = nI 2 by decide), if_neg (show ¬ nI 13 = nI 3 by decide), if_neg (show ¬ nI 13 = nI 4 by decide), if_neg (show ¬ nI 13 = nI 5 by decide), if_neg (show ¬ nI 13 = nI 6 by decide), if_neg (show ¬ nI 13 = nI 7 by decide), if_neg (show ¬ nI 13 = nI 8 by decide), if_neg (show ¬ nI 13 = nI 9 by decide), if_neg (show ¬ nI 13 = nI 10 by decide), if_neg (show ¬ nI 13 = nI 11 by decide), if_neg (show ¬ nI 13 = nI 12 by decide), if_pos rfl, z_rcs]
    rw [slips_cg n8.2 (R' := rowC σ.2.1.1) hρ.2.1]
    exact ⟨hk, c1, _, _, e1_slips (d := d + 11) hC, rfl⟩
  by_cases w14 : x = nI 14
  · subst w14
    have ec : c_count σ.2.1.1.1 R σ.2.2.1.length σ.1.2.1 σ.2.2.2.1.1 σ.2.2.2.1.2 (nI 14) = (nI (c_strays σ.2.1.1.1 R), nI 0) := by
      unfold c_count
      rw [if_neg (show ¬ nI 14 = nI 0 by decide), if_neg (show ¬ nI 14 = nI 1 by decide), if_neg (show ¬ nI 14 = nI 2 by decide), if_neg (show ¬ nI 14 = nI 3 by decide), if_neg (show ¬ nI 14 = nI 4 by decide), if_neg (show ¬ nI 14 = nI 5 by decide), if_neg (show ¬ nI 14 = nI 6 by decide), if_neg (show ¬ nI 14 = nI 7 by decide), if_neg (show ¬ nI 14 = nI 8 by decide), if_neg (show ¬ nI 14 = nI 9 by decide), if_neg (show ¬ nI 14 = nI 10 by decide), if_neg (show ¬ nI 14 = nI 11 by decide), if_neg (show ¬ nI 14 = nI 12 by decide), if_neg (show ¬ nI 14 = nI 13 by decide), if_pos rfl]
    rw [ec]
    refine pub_id hc (en_X11_count (b_X11_count_0 (z_pu0V rfl) ⟨hk, ?_⟩))
    rw [ho, z_rcs, c2, z_rcs]
    refine ⟨c1, ?_⟩
    rw [if_neg (show ¬ nI 14 = nI 0 by decide), if_neg (show ¬ nI 14 = nI 1 by decide), if_neg (show ¬ nI 14 = nI 2 by decide), if_neg (show ¬ nI 14 = nI 3 by decide), if_neg (show ¬ nI 14 = nI 4 by decide), if_neg (show ¬ nI 14 = nI 5 by decide), if_neg (show ¬ nI 14 = nI 6 by decide), if_neg (show ¬ nI 14 = nI 7 by decide), if_neg (show ¬ nI 14 = nI 8 by decide), if_neg (show ¬ nI 14 = nI 9 by decide), if_neg (show ¬ nI 14 = nI 10 by decide), if_neg (show ¬ nI 14 = nI 11 by decide), if_neg (show ¬ nI 14 = nI 12 by decide), if_neg (show ¬ nI 14 = nI 13 by decide), if_pos rfl, z_rcs]
    rw [strays_cg n8.2 (R' := rowC σ.2.1.1) hρ.2.1, ← strays_eq hok.1]
    exact ⟨hk, c1, _, _, e1_strays (d := d + 13) hC, rfl⟩
  by_cases w15 : x = nI 15
  · subst w15
    have ec : c_count σ.2.1.1.1 R σ.2.2.1.length σ.1.2.1 σ.2.2.2.1.1 σ.2.2.2.1.2 (nI 15) = (c_girth σ.2.1.1.1, nI 0) := by
      unfold c_count
      rw [if_neg (show ¬ nI 15 = nI 0 by decide), if_neg (show ¬ nI 15 = nI 1 by decide), if_neg (show ¬ nI 15 = nI 2 by decide), if_neg (show ¬ nI 15 = nI 3 by decide), if_neg (show ¬ nI 15 = nI 4 by decide), if_neg (show ¬ nI 15 = nI 5 by decide), if_neg (show ¬ nI 15 = nI 6 by decide), if_neg (show ¬ nI 15 = nI 7 by decide), if_neg (show ¬ nI 15 = nI 8 by decide), if_neg (show ¬ nI 15 = nI 9 by decide), if_neg (show ¬ nI 15 = nI 10 by decide), if_neg (show ¬ nI 15 = nI 11 by decide), if_neg (show ¬ nI 15 = nI 12 by decide), if_neg (show ¬ nI 15 = nI 13 by decide), if_neg (show ¬ nI 15 = nI 14 by decide), if_pos rfl]
    rw [ec]
    refine pub_id hc (en_X11_count (b_X11_count_0 (z_pu0V rfl) ⟨hk, ?_⟩))
    rw [ho, z_rcs, c2, z_rcs]
    refine ⟨c1, ?_⟩
    rw [if_neg (show ¬ nI 15 = nI 0 by decide), if_neg (show ¬ nI 15 = nI 1 by decide), if_neg (show ¬ nI 15 = nI 2 by decide), if_neg (show ¬ nI 15 = nI 3 by decide), if_neg (show ¬ nI 15 = nI 4 by decide), if_neg (show ¬ nI 15 = nI 5 by decide), if_neg (show ¬ nI 15 = nI 6 by decide), if_neg (show ¬ nI 15 = nI 7 by decide), if_neg (show ¬ nI 15 = nI 8 by decide), if_neg (show ¬ nI 15 = nI 9 by decide), if_neg (show ¬ nI 15 = nI 10 by decide), if_neg (show ¬ nI 15 = nI 11 by decide), if_neg (show ¬ nI 15 = nI 12 by decide), if_neg (show ¬ nI 15 = nI 13 by decide), if_neg (show ¬ nI 15 = nI 14 by decide), if_pos rfl]
    rw [← girth_eq hok.1]
    exact ⟨y_kd hA, _, _, e8_girth (d := d + 12) hA, rfl⟩
  by_cases w16 : x = nI 16
  · subst w16
    have ec : c_count σ.2.1.1.1 R σ.2.2.1.length σ.1.2.1 σ.2.2.2.1.1 σ.2.2.2.1.2 (nI 16) = (nI σ.2.2.1.length, nI 0) := by
      unfold c_count
      rw [if_neg (show ¬ nI 16 = nI 0 by decide), if_neg (show ¬ nI 16 = nI 1 by decide), if_neg (show ¬ nI 16 = nI 2 by decide), if_neg (show ¬ nI 16 = nI 3 by decide), if_neg (show ¬ nI 16 = nI 4 by decide), if_neg (show ¬ nI 16 = nI 5 by decide), if_neg (show ¬ nI 16 = nI 6 by decide), if_neg (show ¬ nI 16 = nI 7 by decide), if_neg (show ¬ nI 16 = nI 8 by decide), if_neg (show ¬ nI 16 = nI 9 by decide), if_neg (show ¬ nI 16 = nI 10 by decide), if_neg (show ¬ nI 16 = nI 11 by decide), if_neg (show ¬ nI 16 = nI 12 by decide), if_neg (show ¬ nI 16 = nI 13 by decide), if_neg (show ¬ nI 16 = nI 14 by decide), if_neg (show ¬ nI 16 = nI 15 by decide), if_pos rfl]
    rw [ec]
    refine pub_id hc (en_X11_count (b_X11_count_0 (z_pu0V rfl) ⟨hk, ?_⟩))
    rw [ho, z_rcs, c2, z_rcs]
    refine ⟨c1, ?_⟩
    rw [if_neg (show ¬ nI 16 = nI 0 by decide), if_neg (show ¬ nI 16 = nI 1 by decide), if_neg (show ¬ nI 16 = nI 2 by decide), if_neg (show ¬ nI 16 = nI 3 by decide), if_neg (show ¬ nI 16 = nI 4 by decide), if_neg (show ¬ nI 16 = nI 5 by decide), if_neg (show ¬ nI 16 = nI 6 by decide), if_neg (show ¬ nI 16 = nI 7 by decide), if_neg (show ¬ nI 16 = nI 8 by decide), if_neg (show ¬ nI 16 = nI 9 by decide), if_neg (show ¬ nI 16 = nI 10 by decide), if_neg (show ¬ nI 16 = nI 11 by decide), if_neg (show ¬ nI 16 = nI 12 by decide), if_neg (show ¬ nI 16 = nI 13 by decide), if_neg (show ¬ nI 16 = nI 14 by decide), if_neg (show ¬ nI 16 = nI 15 by decide), if_pos rfl]
    exact ⟨hk, by rw [hT.2.2.2.2.2.1]; rfl⟩
  by_cases w17 : x = nI 17
  · subst w17
    have ec : c_count σ.2.1.1.1 R σ.2.2.1.length σ.1.2.1 σ.2.2.2.1.1 σ.2.2.2.1.2 (nI 17) = (nI σ.1.2.1, nI 0) := by
      unfold c_count
      rw [if_neg (show ¬ nI 17 = nI 0 by decide), if_neg (show ¬ nI 17 = nI 1 by decide), if_neg (show ¬ nI 17 = nI 2 by decide), if_neg (show ¬ nI 17 = nI 3 by decide), if_neg (show ¬ nI 17 = nI 4 by decide), if_neg (show ¬ nI 17 = nI 5 by decide), if_neg (show ¬ nI 17 = nI 6 by decide), if_neg (show ¬ nI 17 = nI 7 by decide), if_neg (show ¬ nI 17 = nI 8 by decide), if_neg (show ¬ nI 17 = nI 9 by decide), if_neg (show ¬ nI 17 = nI 10 by decide), if_neg (show ¬ nI 17 = nI 11 by decide), if_neg (show ¬ nI 17 = nI 12 by decide), if_neg (show ¬ nI 17 = nI 13 by decide), if_neg (show ¬ nI 17 = nI 14 by decide), if_neg (show ¬ nI 17 = nI 15 by decide), if_neg (show ¬ nI 17 = nI 16 by decide), if_pos rfl]
    rw [ec]
    refine pub_id hc (en_X11_count (b_X11_count_0 (z_pu0V rfl) ⟨hk, ?_⟩))
    rw [ho, z_rcs, c2, z_rcs]
    refine ⟨c1, ?_⟩
    rw [if_neg (show ¬ nI 17 = nI 0 by decide), if_neg (show ¬ nI 17 = nI 1 by decide), if_neg (show ¬ nI 17 = nI 2 by decide), if_neg (show ¬ nI 17 = nI 3 by decide), if_neg (show ¬ nI 17 = nI 4 by decide), if_neg (show ¬ nI 17 = nI 5 by decide), if_neg (show ¬ nI 17 = nI 6 by decide), if_neg (show ¬ nI 17 = nI 7 by decide), if_neg (show ¬ nI 17 = nI 8 by decide), if_neg (show ¬ nI 17 = nI 9 by decide), if_neg (show ¬ nI 17 = nI 10 by decide), if_neg (show ¬ nI 17 = nI 11 by decide), if_neg (show ¬ nI 17 = nI 12 by decide), if_neg (show ¬ nI 17 = nI 13 by decide), if_neg (show ¬ nI 17 = nI 14 by decide), if_neg (show ¬ nI 17 = nI 15 by decide), if_neg (show ¬ nI 17 = nI 16 by decide), if_pos rfl]
    exact ⟨hk, by rw [hT.1.1]; rfl⟩
  by_cases w18 : x = nI 18
  · subst w18
    have ec : c_count σ.2.1.1.1 R σ.2.2.1.length σ.1.2.1 σ.2.2.2.1.1 σ.2.2.2.1.2 (nI 18) = (nI σ.2.2.2.1.1, nI 0) := by
      unfold c_count
      rw [if_neg (show ¬ nI 18 = nI 0 by decide), if_neg (show ¬ nI 18 = nI 1 by decide), if_neg (show ¬ nI 18 = nI 2 by decide), if_neg (show ¬ nI 18 = nI 3 by decide), if_neg (show ¬ nI 18 = nI 4 by decide), if_neg (show ¬ nI 18 = nI 5 by decide), if_neg (show ¬ nI 18 = nI 6 by decide), if_neg (show ¬ nI 18 = nI 7 by decide), if_neg (show ¬ nI 18 = nI 8 by decide), if_neg (show ¬ nI 18 = nI 9 by decide), if_neg (show ¬ nI 18 = nI 10 by decide), if_neg (show ¬ nI 18 = nI 11 by decide), if_neg (show ¬ nI 18 = nI 12 by decide), if_neg (show ¬ nI 18 = nI 13 by decide), if_neg (show ¬ nI 18 = nI 14 by decide), if_neg (show ¬ nI 18 = nI 15 by decide), if_neg (show ¬ nI 18 = nI 16 by decide), if_neg (show ¬ nI 18 = nI 17 by decide), if_pos rfl]
    rw [ec]
    refine pub_id hc (en_X11_count (b_X11_count_0 (z_pu0V rfl) ⟨hk, ?_⟩))
    rw [ho, z_rcs, c2, z_rcs]
    refine ⟨c1, ?_⟩
    rw [if_neg (show ¬ nI 18 = nI 0 by decide), if_neg (show ¬ nI 18 = nI 1 by decide), if_neg (show ¬ nI 18 = nI 2 by decide), if_neg (show ¬ nI 18 = nI 3 by decide), if_neg (show ¬ nI 18 = nI 4 by decide), if_neg (show ¬ nI 18 = nI 5 by decide), if_neg (show ¬ nI 18 = nI 6 by decide), if_neg (show ¬ nI 18 = nI 7 by decide), if_neg (show ¬ nI 18 = nI 8 by decide), if_neg (show ¬ nI 18 = nI 9 by decide), if_neg (show ¬ nI 18 = nI 10 by decide), if_neg (show ¬ nI 18 = nI 11 by decide), if_neg (show ¬ nI 18 = nI 12 by decide), if_neg (show ¬ nI 18 = nI 13 by decide), if_neg (show ¬ nI 18 = nI 14 by decide), if_neg (show ¬ nI 18 = nI 15 by decide), if_neg (show ¬ nI 18 = nI 16 by decide), if_neg (show ¬ nI 18 = nI 17 by decide), if_pos rfl]
    exact ⟨hk, by rw [hT.2.2.2.2.2.2.1.1]; rfl⟩
  by_cases w19 : x = nI 19
  · subst w19
    have ec : c_count σ.2.1.1.1 R σ.2.2.1.length σ.1.2.1 σ.2.2.2.1.1 σ.2.2.2.1.2 (nI 19) = (nI σ.2.2.2.1.2, nI 0) := by
      unfold c_count
      rw [if_neg (show ¬ nI 19 = nI 0 by decide), if_neg (show ¬ nI 19 = nI 1 by decide), if_neg (show ¬ nI 19 = nI 2 by decide), if_neg (show ¬ nI 19 = nI 3 by decide), if_neg (show ¬ nI 19 = nI 4 by decide), if_neg (show ¬ nI 19 = nI 5 by decide), if_neg (show ¬ nI 19 = nI 6 by decide), if_neg (show ¬ nI 19 = nI 7 by decide), if_neg (show ¬ nI 19 = nI 8 by decide), if_neg (show ¬ nI 19 = nI 9 by decide), if_neg (show ¬ nI 19 = nI 10 by decide), if_neg (show ¬ nI 19 = nI 11 by decide), if_neg (show ¬ nI 19 = nI 12 by decide), if_neg (show ¬ nI 19 = nI 13 by decide), if_neg (show ¬ nI 19 = nI 14 by decide), if_neg (show ¬ nI 19 = nI 15 by decide), if_neg (show ¬ nI 19 = nI 16 by decide), if_neg (show ¬ nI 19 = nI 17 by decide), if_neg (show ¬ nI 19 = nI 18 by decide), if_pos rfl]
    rw [ec]
    refine pub_id hc (en_X11_count (b_X11_count_0 (z_pu0V rfl) ⟨hk, ?_⟩))
    rw [ho, z_rcs, c2, z_rcs]
    refine ⟨c1, ?_⟩
    rw [if_neg (show ¬ nI 19 = nI 0 by decide), if_neg (show ¬ nI 19 = nI 1 by decide), if_neg (show ¬ nI 19 = nI 2 by decide), if_neg (show ¬ nI 19 = nI 3 by decide), if_neg (show ¬ nI 19 = nI 4 by decide), if_neg (show ¬ nI 19 = nI 5 by decide), if_neg (show ¬ nI 19 = nI 6 by decide), if_neg (show ¬ nI 19 = nI 7 by decide), if_neg (show ¬ nI 19 = nI 8 by decide), if_neg (show ¬ nI 19 = nI 9 by decide), if_neg (show ¬ nI 19 = nI 10 by decide), if_neg (show ¬ nI 19 = nI 11 by decide), if_neg (show ¬ nI 19 = nI 12 by decide), if_neg (show ¬ nI 19 = nI 13 by decide), if_neg (show ¬ nI 19 = nI 14 by decide), if_neg (show ¬ nI 19 = nI 15 by decide), if_neg (show ¬ nI 19 = nI 16 by decide), if_neg (show ¬ nI 19 = nI 17 by decide), if_neg (show ¬ nI 19 = nI 18 by decide), if_pos rfl]
    exact ⟨hk, by rw [hT.2.2.2.2.2.2.1.2]; rfl⟩
  by_cases w20 : x = nI 20
  · subst w20
    have ec : c_count σ.2.1.1.1 R σ.2.2.1.length σ.1.2.1 σ.2.2.2.1.1 σ.2.2.2.1.2 (nI 20) = (nI (c_fours σ.2.1.1.1), nI 0) := by
      unfold c_count
      rw [if_neg (show ¬ nI 20 = nI 0 by decide), if_neg (show ¬ nI 20 = nI 1 by decide), if_neg (show ¬ nI 20 = nI 2 by decide), if_neg (show ¬ nI 20 = nI 3 by decide), if_neg (show ¬ nI 20 = nI 4 by decide), if_neg (show ¬ nI 20 = nI 5 by decide), if_neg (show ¬ nI 20 = nI 6 by decide), if_neg (show ¬ nI 20 = nI 7 by decide), if_neg (show ¬ nI 20 = nI 8 by decide), if_neg (show ¬ nI 20 = nI 9 by decide), if_neg (show ¬ nI 20 = nI 10 by decide), if_neg (show ¬ nI 20 = nI 11 by decide), if_neg (show ¬ nI 20 = nI 12 by decide), if_neg (show ¬ nI 20 = nI 13 by decide), if_neg (show ¬ nI 20 = nI 14 by decide), if_neg (show ¬ nI 20 = nI 15 by decide), if_neg (show ¬ nI 20 = nI 16 by decide), if_neg (show ¬ nI 20 = nI 17 by decide), if_neg (show ¬ nI 20 = nI 18 by decide), if_neg (show ¬ nI 20 = nI 19 by decide), if_pos rfl]
    rw [ec]
    refine pub_id hc (en_X11_count (b_X11_count_0 (z_pu0V rfl) ⟨hk, ?_⟩))
    rw [ho, z_rcs, c2, z_rcs]
    refine ⟨c1, ?_⟩
    rw [if_neg (show ¬ nI 20 = nI 0 by decide), if_neg (show ¬ nI 20 = nI 1 by decide), if_neg (show ¬ nI 20 = nI 2 by decide), if_neg (show ¬ nI 20 = nI 3 by decide), if_neg (show ¬ nI 20 = nI 4 by decide), if_neg (show ¬ nI 20 = nI 5 by decide), if_neg (show ¬ nI 20 = nI 6 by decide), if_neg (show ¬ nI 20 = nI 7 by decide), if_neg (show ¬ nI 20 = nI 8 by decide), if_neg (show ¬ nI 20 = nI 9 by decide), if_neg (show ¬ nI 20 = nI 10 by decide), if_neg (show ¬ nI 20 = nI 11 by decide), if_neg (show ¬ nI 20 = nI 12 by decide), if_neg (show ¬ nI 20 = nI 13 by decide), if_neg (show ¬ nI 20 = nI 14 by decide), if_neg (show ¬ nI 20 = nI 15 by decide), if_neg (show ¬ nI 20 = nI 16 by decide), if_neg (show ¬ nI 20 = nI 17 by decide), if_neg (show ¬ nI 20 = nI 18 by decide), if_neg (show ¬ nI 20 = nI 19 by decide), if_pos rfl]
    rw [← fours_eq hok.1]
    exact ⟨y_kd hA, _, _, e8_fours (d := d + 12) hA, rfl⟩
  by_cases w21 : x = nI 21
  · subst w21
    have ec : c_count σ.2.1.1.1 R σ.2.2.1.length σ.1.2.1 σ.2.2.2.1.1 σ.2.2.2.1.2 (nI 21) = (nI (c_apart σ.2.1.1.1), nI 0) := by
      unfold c_count
      rw [if_neg (show ¬ nI 21 = nI 0 by decide), if_neg (show ¬ nI 21 = nI 1 by decide), if_neg (show ¬ nI 21 = nI 2 by decide), if_neg (show ¬ nI 21 = nI 3 by decide), if_neg (show ¬ nI 21 = nI 4 by decide), if_neg (show ¬ nI 21 = nI 5 by decide), if_neg (show ¬ nI 21 = nI 6 by decide), if_neg (show ¬ nI 21 = nI 7 by decide), if_neg (show ¬ nI 21 = nI 8 by decide), if_neg (show ¬ nI 21 = nI 9 by decide), if_neg (show ¬ nI 21 = nI 10 by decide), if_neg (show ¬ nI 21 = nI 11 by decide), if_neg (show ¬ nI 21 = nI 12 by decide), if_neg (show ¬ nI 21 = nI 13 by decide), if_neg (show ¬ nI 21 = nI 14 by decide), if_neg (show ¬ nI 21 = nI 15 by decide), if_neg (show ¬ nI 21 = nI 16 by decide), if_neg (show ¬ nI 21 = nI 17 by decide), if_neg (show ¬ nI 21 = nI 18 by decide), if_neg (show ¬ nI 21 = nI 19 by decide), if_neg (show ¬ nI 21 = nI 20 by decide), if_pos rfl]
    rw [ec]
    refine pub_id hc (en_X11_count (b_X11_count_0 (z_pu0V rfl) ⟨hk, ?_⟩))
    rw [ho, z_rcs, c2, z_rcs]
    refine ⟨c1, ?_⟩
    rw [if_neg (show ¬ nI 21 = nI 0 by decide), if_neg (show ¬ nI 21 = nI 1 by decide), if_neg (show ¬ nI 21 = nI 2 by decide), if_neg (show ¬ nI 21 = nI 3 by decide), if_neg (show ¬ nI 21 = nI 4 by decide), if_neg (show ¬ nI 21 = nI 5 by decide), if_neg (show ¬ nI 21 = nI 6 by decide), if_neg (show ¬ nI 21 = nI 7 by decide), if_neg (show ¬ nI 21 = nI 8 by decide), if_neg (show ¬ nI 21 = nI 9 by decide), if_neg (show ¬ nI 21 = nI 10 by decide), if_neg (show ¬ nI 21 = nI 11 by decide), if_neg (show ¬ nI 21 = nI 12 by decide), if_neg (show ¬ nI 21 = nI 13 by decide), if_neg (show ¬ nI 21 = nI 14 by decide), if_neg (show ¬ nI 21 = nI 15 by decide), if_neg (show ¬ nI 21 = nI 16 by decide), if_neg (show ¬ nI 21 = nI 17 by decide), if_neg (show ¬ nI 21 = nI 18 by decide), if_neg (show ¬ nI 21 = nI 19 by decide), if_neg (show ¬ nI 21 = nI 20 by decide), if_pos rfl]
    exact ⟨y_kd hA, _, _, e8_apart (d := d + 14) hA, rfl⟩
  have ec : c_count σ.2.1.1.1 R σ.2.2.1.length σ.1.2.1 σ.2.2.2.1.1 σ.2.2.2.1.2 x = (nI 0, nI 1) := by
    unfold c_count
    rw [if_neg w0, if_neg w1, if_neg w2, if_neg w3, if_neg w4, if_neg w5, if_neg w6, if_neg w7, if_neg w8, if_neg w9, if_neg w10, if_neg w11, if_neg w12, if_neg w13, if_neg w14, if_neg w15, if_neg w16, if_neg w17, if_neg w18, if_neg w19, if_neg w20, if_neg w21]
  rw [ec]
  refine pub_id hc (en_X11_count (b_X11_count_0 (z_pu0V rfl) ⟨hk, ?_⟩))
  rw [ho, z_rcs, c2, z_rcs]
  refine ⟨c1, ?_⟩
  rw [if_neg w0, if_neg w1, if_neg w2, if_neg w3, if_neg w4, if_neg w5, if_neg w6, if_neg w7, if_neg w8, if_neg w9, if_neg w10, if_neg w11, if_neg w12, if_neg w13, if_neg w14, if_neg w15, if_neg w16, if_neg w17, if_neg w18, if_neg w19, if_neg w20, if_neg w21]
  rfl
theorem e11_point (hc : cI L r h σ) {R : Nat → Int32} (hρ : rho R σ.2.1) (x w : Int32) : pubC G (d + 18) k_X11_point L r h [.int x, .int w] (ans z_NSE z_IAE (some (.int (c_point σ.2.1.1.1 R x w).1)) (c_point σ.2.1.1.1 R x w).2) σ := by
  obtain ⟨k, q, b, u, v, ⟨hk, ho⟩, ⟨c1, c2, ⟨x1, x2, x3⟩, ⟨x4, x5, x6⟩, hA, hxy⟩, hcdk, hok⟩ := cI_cd hc
  have hI := hc.1.2.2.1
  have hL := hc.1.2.2.2
  obtain ⟨p1, p2, p3, p4, p5, p6, p7, p8⟩ := hc.1.2.1
  obtain ⟨-, -, -, r10, r11, r12, r13, r14, r15, r16⟩ := hc.1.1
  have n8 := y_n8 hA
  have m12 := y_m12 hA
  have hN := e11_needPoint (G := G) (d := d + 12) hc x
  unfold c_point
  rcases in_cases x (n := σ.2.1.1.1.1) (by omega) with ⟨a, ha, rfl, e⟩ | ⟨e, -⟩
  · rw [if_pos e]
    rw [nI_clamp (show a < 2 ^ 31 by omega)]
    by_cases w0 : w = nI 0
    · subst w0
      rw [if_pos rfl]
      refine pub_id hc (en_X11_point (b_X11_point_0 (z_pu0V rfl) ⟨hk, Or.inl ⟨_, hN.1 e, ?_⟩⟩))
      rw [if_pos rfl, ho, z_rcs, c2, z_rcs, (y_on hA).1, z_rcs, nI_clamp (show a < 2 ^ 31 by omega), y_On hA (by omega)]
      exact ⟨hk, c1, y_kd hA, (y_on hA).2.1, by rw [(y_on hA).2.2]; exact vp_in_nI (by omega) (by decide), rfl⟩
    rw [if_neg w0]
    by_cases w1 : w = nI 1
    · subst w1
      rw [if_pos rfl]
      refine pub_id hc (en_X11_point (b_X11_point_0 (z_pu0V rfl) ⟨hk, Or.inl ⟨_, hN.1 e, ?_⟩⟩))
      rw [if_neg w0, if_pos rfl, ho, z_rcs, x1, z_rcs, nI_clamp (show a < 2 ^ 31 by omega), (hxy a (by omega)).1, hρ.2.1 (14 + a) (by omega)]
      refine ⟨hk, c1, x2, by rw [x3]; exact vp_in_nI (by omega) (by decide), ?_⟩
      unfold rowC
      rw [if_neg (by omega), if_neg (by omega), if_neg (by omega), if_pos (by omega), Nat.add_sub_cancel_left]
      rfl
    rw [if_neg w1]
    by_cases w2 : w = nI 2
    · subst w2
      rw [if_pos rfl]
      refine pub_id hc (en_X11_point (b_X11_point_0 (z_pu0V rfl) ⟨hk, Or.inl ⟨_, hN.1 e, ?_⟩⟩))
      rw [if_neg w0, if_neg w1, if_pos rfl, ho, z_rcs, x4, z_rcs, nI_clamp (show a < 2 ^ 31 by omega), (hxy a (by omega)).2, hρ.2.1 (22 + a) (by omega)]
      refine ⟨hk, c1, x5, by rw [x6]; exact vp_in_nI (by omega) (by decide), ?_⟩
      unfold rowC
      rw [if_neg (by omega), if_neg (by omega), if_neg (by omega), if_neg (by omega), Nat.add_sub_cancel_left]
      rfl
    rw [if_neg w2]
    by_cases w3 : w = nI 3
    · subst w3
      obtain ⟨h1, E, I1, e1, m1, km1, v1⟩ := e5_orbitsOf (G := G) (d := d) vM_v hI hL p2.1 hA
      have c' : cI L r h1 σ := cI_mt hc I1 e1 (mtk_km hI e1 m1 km1 p2)
      have hv := v1 a (by omega)
      rw [v9, orb_ref hok.1 (fun _ _ => rfl) ha] at hv
      have po := ord_pos hok.1 0
      rw [← syA_ord hok.1] at po
      rw [if_pos rfl, if_pos po]
      have kk := inv_k hI hA
      refine pub_mk c' e1 (fun a ha => by unfold mX at ha; unfold cX; omega) (by decide) (by decide) (en_X11_point (b_X11_point_0 (z_pu0V rfl) ⟨hk, Or.inl ⟨_, hN.1 e, ?_⟩⟩))
      rw [if_neg w0, if_neg w1, if_neg w2, if_pos rfl]
      simp only [r11, ho, c2, z_rcs]
      refine ⟨hk, hk, c1, p2.1.1, some (b + 3), h1, E, ?_⟩
      have A1 := ex_sc hI (fun a ha => mX_hl ha) e1 hA
      rw [z_rcs, nI_clamp (show a < 2 ^ 31 by omega), hv]
      exact ⟨(y_orb A1).2.1, by rw [(y_orb A1).2.2]; exact vp_in_nI (by omega) (by decide), rfl⟩
    rw [if_neg w3]
    by_cases w4 : w = nI 4
    · subst w4
      rw [if_pos rfl]
      refine pub_id hc (en_X11_point (b_X11_point_0 (z_pu0V rfl) ⟨hk, Or.inl ⟨_, hN.1 e, ?_⟩⟩))
      rw [if_neg w0, if_neg w1, if_neg w2, if_neg w3, if_pos rfl, ho, z_rcs, c2, z_rcs]
      have E := e8_piece (G := G) (d := d + 12) hA (p := a) (by omega)
      rw [piece_eq hok.1 ha] at E
      have pl := (pce hok.1 ha).1
      have pl2 : c_piece σ.2.1.1.1 a < 4096 := Nat.lt_of_lt_of_le pl (Nat.le_trans (Nat.pow_le_pow_right (by decide) n8.2) (show 2 ^ 8 ≤ 4096 by decide))
      exact ⟨hk, c1, y_kd hA, _, _, E, _, _, e_ntz pl2, rfl⟩
    rw [if_neg w4]
    refine pub_id hc (en_X11_point (b_X11_point_0 (z_pu0V rfl) ⟨hk, Or.inl ⟨_, hN.1 e, ?_⟩⟩))
    rw [if_neg w0, if_neg w1, if_neg w2, if_neg w3, if_neg w4]
    rfl
  · rw [if_neg (by rw [e]; decide)]
    exact pub_id hc (en_X11_point (b_X11_point_0 (z_pu0V rfl) ⟨hk, Or.inr ⟨_, _, hN.2 e, rfl⟩⟩))
end C6
