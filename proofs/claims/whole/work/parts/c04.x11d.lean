/-! THE LISTER: questions that a helper answers -/
section C4
variable {G : z_G} {d L r : Nat} {h : z_H} {σ : RSt}
theorem cd_keep {X : Nat → Prop} {c s : Nat} {h1 : z_H} (hc : cI L r h σ) (e : ex X c s h h1) (hX : ∀ a, X a → L + 16 ≤ a ∧ a < L + 75) {k : Nat} (ho : z_or h L 3 = some k) (hcd : cdk L h k σ.2.1.1) : z_kd h1 L = 27 ∧ z_or h1 L 3 = some k ∧ z_kd h1 k = z_kd h k ∧ z_or h1 k 0 = z_or h k 0 ∧ z_or h1 L 11 = some (L + 21) := by
  obtain ⟨l1, l2, l3, l4, l5⟩ := liB_ex hc.1.2.2.1 hc.1.2.2.2 e hX hc.1.1
  obtain ⟨q, b, u, v, ⟨c1, -⟩, fk, -, -⟩ := hcd
  have f := ex_fr hc.1.2.2.1 (fun a ha => by have := hX a ha; unfold hl; omega) e fk
  exact ⟨l1.1, by rw [l3]; exact ho, f.2.1, by rw [f.2.2.2.2.1 (by rw [c1]; decide)], l1.2.2.2.2.1⟩
theorem tl_cg {S : Sc} (hS : c_sok S) (f g f' g' : Nat → Int32) {i : Nat} (hi : i < S.2.1) : (c_tl S f g).2.2 i = (c_tl S f' g').2.2 i := by
  rw [(tl_eq hS f g (P := fun _ => 0) (C := fun _ => 0) (E := fun _ => 0) (M := fun _ => 0) (B := fun _ => 0) (fun _ _ => rfl) i hi).1, (tl_eq hS f' g' (P := fun _ => 0) (C := fun _ => 0) (E := fun _ => 0) (M := fun _ => 0) (B := fun _ => 0) (fun _ _ => rfl) i hi).1]
theorem e11_normal (hc : cI L r h σ) (f g : Nat → Int32) (x : Int32) : pubC G (d + 24) k_X11_normal L r h [.int x] (ans z_NSE z_IAE (some (.int (c_normal σ.2.1.1.1 f g x).1)) (c_normal σ.2.1.1.1 f g x).2) σ := by
  obtain ⟨k, q, b, u, v, ⟨hk, ho⟩, ⟨c1, c2, ⟨x1, x2, x3⟩, ⟨x4, x5, x6⟩, hA, hxy⟩, hcdk, hok⟩ := cI_cd hc
  have hI := hc.1.2.2.1
  have hL := hc.1.2.2.2
  obtain ⟨p1, p2, p3, p4, p5, p6, p7, p8⟩ := hc.1.2.1
  obtain ⟨-, -, -, r10, r11, r12, r13, r14, r15, r16⟩ := hc.1.1
  have n8 := y_n8 hA
  have m12 := y_m12 hA
  have hN := e11_needLine (G := G) (d := d + 18) hc x
  unfold c_normal
  rcases in_cases x (n := σ.2.1.1.1.2.1) (by omega) with ⟨a, ha, rfl, e⟩ | ⟨e, -⟩
  · rw [if_pos e]
    obtain ⟨h1, p, E, I1, e1, k1, km1, f1, kd1, ln1, v1⟩ := e4_leastRow (G := G) (d := d) vL_v hI hL p3 hA
    have c' : cI L r h1 σ := cI_ls hc I1 e1 ⟨k1, lst_km hI (fun a ha => lX_hl ha) e1 km1 p4⟩
    refine pub_mk c' e1 (fun a ha => by unfold lX at ha; unfold cX; omega) (by decide) (by decide) (en_X11_normal (b_X11_normal_0 (z_pu0V rfl) ⟨hk, Or.inl ⟨_, hN.1 e, hk, ?_⟩⟩))
    simp only [r12, ho, c2, z_rcs]
    refine ⟨hk, c1, p3.1.1, some p, h1, E, ?_⟩
    rw [z_rcs, nI_clamp (show a < 2 ^ 31 by omega), v1 a ha, v10, tl_cg hok.1 (fun _ => nI 0) (fun _ => nI 0) f g ha]
    exact ⟨kd1, by rw [ln1]; exact vp_in_nI ha (by omega), rfl⟩
  · rw [if_neg (by rw [e]; decide)]
    exact pub_id hc (en_X11_normal (b_X11_normal_0 (z_pu0V rfl) ⟨hk, Or.inr ⟨_, _, hN.2 e, rfl⟩⟩))
theorem e11_symmetry (hc : cI L r h σ) (x y : Int32) : pubC G (d + 18) k_X11_symmetry L r h [.int x, .int y] (ans z_NSE z_IAE (some (.int (c_symmetry σ.2.1.1.1 x y).1)) (c_symmetry σ.2.1.1.1 x y).2) σ := by
  obtain ⟨k, q, b, u, v, ⟨hk, ho⟩, ⟨c1, c2, ⟨x1, x2, x3⟩, ⟨x4, x5, x6⟩, hA, hxy⟩, hcdk, hok⟩ := cI_cd hc
  have hI := hc.1.2.2.1
  have hL := hc.1.2.2.2
  obtain ⟨p1, p2, p3, p4, p5, p6, p7, p8⟩ := hc.1.2.1
  obtain ⟨-, -, -, r10, r11, r12, r13, r14, r15, r16⟩ := hc.1.1
  have n8 := y_n8 hA
  have m12 := y_m12 hA
  have hN := e11_needPoint (G := G) (d := d + 12) hc y
  unfold c_symmetry
  rcases in_cases y (n := σ.2.1.1.1.1) (by omega) with ⟨a, ha, rfl, e⟩ | ⟨e, -⟩
  · rw [if_pos e]
    by_cases c0 : x < nI 0
    · rw [if_pos c0]
      refine pub_id hc (en_X11_symmetry (b_X11_symmetry_0 (z_pu0V rfl) ⟨hk, Or.inl ⟨_, hN.1 e, ?_⟩⟩))
      rw [if_pos c0]
      rfl
    · rw [if_neg c0]
      obtain ⟨i, hi, rfl⟩ := nI_of c0
      have hM := vM_v σ.2.1.1.1 hok.1
      obtain ⟨h1, p, E, I1, e1, m1, km1, o1⟩ := e5_measured (G := G) (d := d + 1) hI hL p2.1 hM.1 hM.2.1 hM.2.2 hA
      have A1 := ex_sc hI (fun a ha => mX_hl ha) e1 hA
      have t1 := mtk_km hI e1 m1 km1 p2
      have c' : cI L r h1 σ := cI_mt hc I1 e1 t1
      obtain ⟨f1, kd1, ln1, v1⟩ := (inv_k I1 A1).2.2.2.1 8 (Or.inl rfl) p o1
      have ln1 : z_ln h1 p = 9 := ln1
      have v0 : z_ai h1 p 0 = nI (ordS σ.2.1.1.1 0) := v1 0 (by show 0 < 9; decide)
      obtain ⟨hk', ho', c1', c2', r11'⟩ := cd_keep hc e1 (fun a ha => by unfold mX at ha; omega) ho hcdk
      rw [c1] at c1'
      rw [c2] at c2'
      rw [symR_ref hok.1 hi]
      have sl : (sq σ.2.1.1.1 σ.2.1.1.1 true 0 (fun i => i)).length = ordS σ.2.1.1.1 0 := (ord_sq hok.1 (Nat.zero_le _)).symm
      have ol := ord_lt hok.1 0
      by_cases ci : i < ordS σ.2.1.1.1 0
      · obtain ⟨h2, E2, I2, e2, t2⟩ := e5_symmetric (G := G) (d := d) vM_v vU_v I1 (Nat.le_trans hL e1.1.1) t1 A1 ci ha
        have c2'' : cI L r h2 σ := cI_mt c' I2 e2 t2
        have e12 := ex_trans hI I1 (fun a ha => mX_hl ha) e1 e2
        refine pub_mk c2'' e12 (fun a ha => by unfold mX at ha; unfold cX; omega) (by decide) (by decide) (en_X11_symmetry (b_X11_symmetry_0 (z_pu0V rfl) ⟨hk, Or.inl ⟨_, hN.1 e, ?_⟩⟩))
        rw [if_neg c0]
        simp only [r11, ho, c2, z_rcs]
        refine ⟨hk, hk, c1, p2.1.1, some p, h1, E, ?_⟩
        rw [z_rcs]
        refine ⟨kd1, by rw [ln1]; exact vp_in_nI (by decide) (by decide), ?_⟩
        rw [nI_clamp (show 0 < 2 ^ 31 by decide), v0, if_pos (nI_lt ci ol)]
        simp only [r11', ho', c2', z_rcs]
        refine ⟨hk', hk', c1', t1.1.1, _, h2, E2, ?_⟩
        obtain ⟨M, eM⟩ : ∃ M, (sq σ.2.1.1.1 σ.2.1.1.1 true 0 (fun i => i))[i]? = some M := ⟨_, List.getElem?_eq_getElem (by rw [sl]; exact ci)⟩
        have eU : uU.2.1 σ.2.1.1.1 i a = M a := by
          show (match (sq σ.2.1.1.1 σ.2.1.1.1 true 0 (fun i => i))[i]? with
            | some M => M a
            | none => 0) = _
          rw [eM]
        rw [eM, eU, nI_clamp (show a < 2 ^ 31 by omega)]
        rfl
      · refine pub_mk c' e1 (fun a ha => by unfold mX at ha; unfold cX; omega) (by decide) (by decide) (en_X11_symmetry (b_X11_symmetry_0 (z_pu0V rfl) ⟨hk, Or.inl ⟨_, hN.1 e, ?_⟩⟩))
        rw [if_neg c0]
        simp only [r11, ho, c2, z_rcs]
        refine ⟨hk, hk, c1, p2.1.1, some p, h1, E, ?_⟩
        rw [z_rcs]
        refine ⟨kd1, by rw [ln1]; exact vp_in_nI (by decide) (by decide), ?_⟩
        rw [nI_clamp (show 0 < 2 ^ 31 by decide), v0, if_neg (nI_nlt (by omega) (by omega)), List.getElem?_eq_none (by rw [sl]; omega)]
        rfl
  · rw [if_neg (by rw [e]; decide)]
    exact pub_id hc (en_X11_symmetry (b_X11_symmetry_0 (z_pu0V rfl) ⟨hk, Or.inr ⟨_, _, hN.2 e, rfl⟩⟩))
theorem e11_dual (hc : cI L r h σ) (x : Int32) : pubC G (d + 8) k_X11_dual L r h [.int x] (ans z_NSE z_IAE (some (.int (c_dualI σ.2.1.1.1 x).1)) (c_dualI σ.2.1.1.1 x).2) σ := by
  obtain ⟨k, q, b, u, v, ⟨hk, ho⟩, ⟨c1, c2, ⟨x1, x2, x3⟩, ⟨x4, x5, x6⟩, hA, hxy⟩, hcdk, hok⟩ := cI_cd hc
  have hI := hc.1.2.2.1
  have hL := hc.1.2.2.2
  obtain ⟨p1, p2, p3, p4, p5, p6, p7, p8⟩ := hc.1.2.1
  obtain ⟨-, -, -, r10, r11, r12, r13, r14, r15, r16⟩ := hc.1.1
  have n8 := y_n8 hA
  have m12 := y_m12 hA
  obtain ⟨h1, I1, e1, E0, E1⟩ := e8_turned (G := G) (d := d) (X := fun _ => False) (fun _ f => f.elim) hI hL hA
  have c' : cI L r h1 σ := cI_no hc I1 e1
  refine pub_mk c' e1 (fun _ f => f.elim) (by decide) (by decide) (en_X11_dual (b_X11_dual_0 (z_pu0V rfl) ⟨hk, ?_⟩))
  rw [ho, z_rcs, c2, z_rcs]
  refine ⟨c1, y_kd hA, ?_⟩
  unfold c_dualI c_tdI
  cases ht : c_td σ.2.1.1.1 with
  | none =>
    refine ⟨none, h1, E0 ht, ?_⟩
    rw [z_rcn]
    by_cases cx : x = mI
    · rw [if_pos cx, if_pos cx]; rfl
    · rw [if_neg cx, if_neg cx]; rfl
  | some t =>
    obtain ⟨q', b', E, A'⟩ := E1 t ht
    have m12' := y_m12 A'
    have em : z_oi h1 q' 1 = nI t.1 := y_m A'
    have m12' : t.1 ≤ 12 := m12'
    refine ⟨some q', h1, E, ?_⟩
    rw [z_rcs]
    by_cases cx : x = mI
    · rw [if_pos cx, if_pos cx, em]
      exact ⟨y_kd A', rfl⟩
    · rw [if_neg cx, if_neg cx, em]
      show _
      rcases in_cases x (n := t.1) (by omega) with ⟨a, ha, rfl, e⟩ | ⟨e, c | ⟨c, c'⟩⟩
      · rw [if_neg (nI_nlt (Nat.zero_le _) (by omega)), if_pos (nI_lt ha (by omega)), (y_row A').1, z_rcs, nI_clamp (show a < 2 ^ 31 by omega)]
        have hl := y_Ln A' (l := a) ha
        have hl2 : (dS σ.2.1.1.1 t).2.2 a = t.2 a := if_pos ha
        rw [hl2] at hl
        have hln : z_ln h1 (b' + 5) = t.1 := (y_row A').2.2
        refine ⟨y_kd A', y_kd A', (y_row A').2.1, by rw [hln]; exact vp_in_nI ha (by omega), ?_⟩
        rw [hl]
        show (ans z_NSE z_IAE (some (.int (if c_in (nI a) t.1 = true then (nI (t.2 a), nI 0) else (nI 0, nI 1)).1)) (if c_in (nI a) t.1 = true then (nI (t.2 a), nI 0) else (nI 0, nI 1)).2, h1) = _
        rw [if_pos e]
        rfl
      · rw [if_pos c]
        show (ans z_NSE z_IAE (some (.int (if c_in x t.1 = true then (nI (t.2 x.toNatClampNeg), nI 0) else (nI 0, nI 1)).1)) (if c_in x t.1 = true then (nI (t.2 x.toNatClampNeg), nI 0) else (nI 0, nI 1)).2, h1) = _
        rw [if_neg (by rw [e]; decide)]
        rfl
      · rw [if_neg c, if_neg c']
        refine ⟨y_kd A', ?_⟩
        show (ans z_NSE z_IAE (some (.int (if c_in x t.1 = true then (nI (t.2 x.toNatClampNeg), nI 0) else (nI 0, nI 1)).1)) (if c_in x t.1 = true then (nI (t.2 x.toNatClampNeg), nI 0) else (nI 0, nI 1)).2, h1) = _
        rw [if_neg (by rw [e]; decide)]
        rfl
end C4
