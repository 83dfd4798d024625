/-! THE LISTER: scheme, image -/
section C13
variable {G : z_G} {d L r c s : Nat} {h h1 : z_H} {σ : RSt}
theorem e11_scheme (hc : cI L r h σ) (x : Int32) : pubC G (d + 11) k_X11_scheme L r h [.int x] (ans z_IAE z_IAE (some (.int (s_scheme σ x).1.1)) (s_scheme σ x).1.2) (s_scheme σ x).2 := by
  have hc0 := hc
  obtain ⟨hb, hT⟩ := hc
  have hk := hb.1.1
  have hT' := hT
  obtain ⟨⟨t1, t1b, t1c⟩, t2, t3, t4, t5, t6, t7, t8⟩ := hT'
  have hI := hb.2.2.1
  have hL := hb.2.2.2
  obtain ⟨b0, ⟨b1, b2, b3⟩, ⟨b4, b5, b6⟩, r10, -⟩ := hb.1
  have rs := hb.2.1.1
  have hX : ∀ a, cY L a → hl L a := fun _ q => cY_hl q
  unfold s_scheme
  rcases in_cases x (n := σ.1.2.1 + 1) (by omega) with ⟨n, hn, rfl, e⟩ | ⟨e, c | ⟨c, c'⟩⟩
  · rw [if_pos e, nI_clamp (show n < 2 ^ 31 by omega)]
    obtain ⟨F, A, v, E, hm⟩ := e7_read (G := G) (d := d) rs (T := σ.1.1) (n := n) ⟨by omega, fun i hi => t1c i (by omega)⟩
    have tr : xt (fun a => L + 16 ≤ a ∧ a < L + 21) h (z_hb (z_por h (L + 16) 0 (some (L + 1))) (L + 16) 4 F A) := xt_trans (xt_por _ _ ⟨by omega, by omega⟩) (xt_hb (fun a h1 h2 => ⟨h1, by omega⟩))
    have er : ex (fun a => L + 16 ≤ a ∧ a < L + 21) 0 0 h (z_hb (z_por h (L + 16) 0 (some (L + 1))) (L + 16) 4 F A) := xt_ex tr (Nat.le_refl _) (Nat.le_refl _)
    have Ig : inv vV L (z_hb (z_por h (L + 16) 0 (some (L + 1))) (L + 16) 4 F A) := inv_xt hI (fun a ha => by unfold hl; omega) tr
    have og : ∀ j, j ≠ 0 → z_or (z_hb (z_por h (L + 16) 0 (some (L + 1))) (L + 16) 4 F A) (L + 16) j = z_or h (L + 16) j := fun j hj => by
      show z_u (z_or h) (L + 16) (z_u (z_or h (L + 16)) 0 (some (L + 1))) (L + 16) j = _
      rw [u_eq, u_ne _ _ hj]
    have rsg : rsh0 (L + 16) (L + 1) (z_hb (z_por h (L + 16) 0 (some (L + 1))) (L + 16) 4 F A) := by
      obtain ⟨s1, s2, s3, ⟨s4, s5⟩, ⟨s6, s7⟩, ⟨s8, s9⟩, s10⟩ := rs
      exact ⟨s1, s2, s3, ⟨(og 9 (by decide)).trans s4, s5⟩, ⟨(og 10 (by decide)).trans s6, s7⟩, ⟨(og 11 (by decide)).trans s8, s9⟩, s10⟩
    have oF : z_oi (z_hb (z_por h (L + 16) 0 (some (L + 1))) (L + 16) 4 F A) (L + 16) = F := hb_oi _ _ _ _ _
    have aF : ∀ j, j < 4 → z_ai (z_hb (z_por h (L + 16) 0 (some (L + 1))) (L + 16) 4 F A) (L + 16 + 1 + j) = A j := fun j hj => hb_ai _ _ _ _ _ hj
    obtain ⟨g, eg⟩ : ∃ g, g = z_hb (z_por h (L + 16) 0 (some (L + 1))) (L + 16) 4 F A := ⟨_, rfl⟩
    rw [← eg] at E er Ig rsg oF aF
    have cg : cI L r g σ := cI_hlp hc0 Ig er (fun a ha => by omega) (hps_ex hI hL er (fun a ha => by unfold hl; omega) hb.2.1 (Or.inr rsg) (Or.inl (fun a m q => by unfold mX at m; omega)) (Or.inl ⟨rfl, fun a m q => by unfold lX at m; omega⟩) (Or.inl (fun a m q => by unfold dX at m; omega)) (Or.inl (fun a m q => by unfold pX at m; omega)) (Or.inl (fun a _ _ q => by omega)))
    obtain ⟨bg, hTg⟩ := cg
    have hkg := bg.1.1
    obtain ⟨l1, l2, l3, l4, l5⟩ := liB_ex hI hL er (fun a ha => by omega) hb.1
    have r10g : z_or g L 10 = some (L + 16) := by rw [l3]; exact r10
    have erX : ex (cX L) 0 0 h g := ex_X er (fun a ha => by unfold cX; omega)
    cases hp : p_text σ.1.1 n with
    | inr ee =>
      rw [hp] at hm
      have hm : v = nI ee.1 ∧ F 13 = nI ee.2 := hm
      have ec := text_er hp
      obtain ⟨p1, e1⟩ := bs_poi bg 1 (nI 0)
      obtain ⟨p2, e2⟩ := bs_poi p1 2 (nI ee.2)
      obtain ⟨p3, e3⟩ := bs_poi p2 7 (nI (σ.2.2.2.1.1 + 1))
      have e13 := exY_t bg p2 (exY_t bg p1 e1 e2) e3
      have c' : cI L r (z_poi (z_poi (z_poi g L 1 (nI 0)) L 2 (nI ee.2)) L 7 (nI (σ.2.2.2.1.1 + 1))) ((σ.1.1, 0, nI ee.2), σ.2.1, σ.2.2.1, (σ.2.2.2.1.1 + 1, σ.2.2.2.1.2), σ.2.2.2.2) := by
        refine ⟨p3, ?_⟩
        obtain ⟨w1, w2, w3, w4, w5, w6, w7, w8⟩ := sV_ex bg.2.2.1 hX e13 hTg
        show sV L _ (z_u (z_u (z_u (z_oi g) L (z_u (z_oi g L) 1 (nI 0))) L (z_u (z_u (z_oi g) L (z_u (z_oi g L) 1 (nI 0)) L) 2 (nI ee.2))) L (z_u (z_u (z_u (z_oi g) L (z_u (z_oi g L) 1 (nI 0))) L (z_u (z_u (z_oi g) L (z_u (z_oi g L) 1 (nI 0)) L) 2 (nI ee.2)) L) 7 (nI (σ.2.2.2.1.1 + 1))) L) (z_or g L) (z_ai g (L + 1)) (z_ar g (L + 15)) _
        rw [u_eq, u_eq, u_eq]
        refine ⟨⟨?_, by show 0 ≤ 400; decide, fun i hi => absurd hi (Nat.not_lt_zero _)⟩, ?_, w3, w4, w5, ?_, ⟨?_, ?_⟩, w8⟩
        · rw [u_ne _ _ (by decide), u_ne _ _ (by decide), u_eq]
        · rw [u_ne _ _ (by decide), u_eq]
        · rw [u_ne _ _ (by decide), u_ne _ _ (by decide), u_ne _ _ (by decide)]; exact w6
        · rw [u_eq]
        · rw [u_ne _ _ (by decide), u_ne _ _ (by decide), u_ne _ _ (by decide)]; exact w7.2
      refine pub_mk c' (ex_trans hI bg.2.2.1 (fun _ q => cX_hl q) erX (ex_X e13 (fun _ q => cY_cX q))) (fun _ q => q) (by decide) (by decide) (en_X11_scheme (b_X11_scheme_0 (z_pu0V rfl) ?_))
      rw [if_neg (nI_nlt (Nat.zero_le _) (by omega)), t1, if_neg (nI_nlt (by omega) (by omega)), r10, z_rcs, b1, z_rcs]
      refine ⟨hk, hk, hk, rs.1, v, g, E, hkg, ?_⟩
      have q13 : z_oi (z_poi g L 1 (nI 0)) (L + 16) 13 = nI ee.2 := by
        show z_u (z_oi g) L _ (L + 16) 13 = _
        rw [u_ne _ _ (by omega), oF]; exact hm.2
      have q10 : z_or (z_poi g L 1 (nI 0)) L 10 = some (L + 16) := r10g
      have q7 : z_oi (z_poi (z_poi g L 1 (nI 0)) L 2 (nI ee.2)) L 7 = nI σ.2.2.2.1.1 := by
        show z_u (z_u (z_oi g) L (z_u (z_oi g L) 1 (nI 0))) L (z_u (z_u (z_oi g) L (z_u (z_oi g L) 1 (nI 0)) L) 2 (nI ee.2)) L 7 = _
        rw [u_eq, u_ne _ _ (by decide), u_eq, u_ne _ _ (by decide)]
        exact hTg.2.2.2.2.2.2.1.1
      rw [if_neg (by rw [hm.1]; exact fun q => by have := (nI_eq (by omega) (by decide)).mp q; omega), q10, z_rcs, q13, q7, nI_add, hm.1]
      exact ⟨hkg, rsg.1, hkg, hkg, hkg, rfl⟩
    | inl cd =>
      rw [hp] at hm
      have hm : v = nI 0 ∧ rdC F A cd := hm
      obtain ⟨p1, e1⟩ := bs_poi bg 1 (nI 0)
      obtain ⟨p2, e2⟩ := bs_poi p1 2 mI
      have e12 := exY_t bg p1 e1 e2
      obtain ⟨g2, eg2⟩ : ∃ g2, g2 = z_poi (z_poi g L 1 (nI 0)) L 2 mI := ⟨_, rfl⟩
      have o2 : z_oi g2 (L + 16) = F := by
        rw [eg2]
        show z_u (z_u (z_oi g) L _) L _ (L + 16) = _
        rw [u_ne _ _ (by omega), u_ne _ _ (by omega)]; exact oF
      have oL2 : z_oi g2 L = z_u (z_u (z_oi g L) 1 (nI 0)) 2 mI := by
        rw [eg2]
        show z_u (z_u (z_oi g) L (z_u (z_oi g L) 1 (nI 0))) L (z_u (z_u (z_oi g) L (z_u (z_oi g L) 1 (nI 0)) L) 2 mI) L = _
        rw [u_eq, u_eq]
      have k2 : z_kd g2 = z_kd g ∧ z_ln g2 = z_ln g ∧ z_or g2 = z_or g ∧ z_ai g2 = z_ai g := by rw [eg2]; exact ⟨rfl, rfl, rfl, rfl⟩
      rw [← eg2] at p2 e12
      have rs2 := p2.2.1.1
      have hrd : rdC (z_oi g2 (L + 16)) (fun j => z_ai g2 (L + 16 + 1 + j)) cd := by
        obtain ⟨d1, d2, d3, d4, d5⟩ := hm.2
        rw [o2, k2.2.2.2]
        exact ⟨d1, d2, fun l hl => (congrFun (aF 1 (by decide)) l).trans (d3 l hl), fun p hp => ⟨(congrFun (aF 2 (by decide)) p).trans (d4 p hp).1, (congrFun (aF 3 (by decide)) p).trans (d4 p hp).2⟩, d5⟩
      obtain ⟨h3, k, E3, I3, e3, cd3⟩ := e7_told (V := vV) (G := G) (d := d + 4) (X := fun _ => False) no_hl p2.2.2.1 p2.2.2.2 rs2.1 rs2.2.2.2.1 rs2.2.2.2.2.1 rs2.2.2.2.2.2.1 hrd
      have cok := hm.2.2.2.2.2
      -- the lister behind told
      obtain ⟨m1, m2, m3, m4, m5⟩ := liB_ex p2.2.2.1 p2.2.2.2 e3 (fun _ f => f.elim) p2.1
      have p3 : bs L r h3 := bs_ex p2 I3 e3 (fun _ f => f.elim) m1
      obtain ⟨p4, e4⟩ := bs_por p3 (k := 3) (by decide) (some k)
      obtain ⟨g4, eg4⟩ : ∃ g4, g4 = z_por h3 L 3 (some k) := ⟨_, rfl⟩
      have oL4 : z_or g4 L = z_u (z_or h3 L) 3 (some k) := by
        rw [eg4]
        show z_u (z_or h3) L (z_u (z_or h3 L) 3 (some k)) L = _
        rw [u_eq]
      have k4 : z_oi g4 = z_oi h3 ∧ z_ai g4 = z_ai h3 := by rw [eg4]; exact ⟨rfl, rfl⟩
      rw [← eg4] at p4 e4
      have wk := wsh_ok p4 (fun _ => none)
      obtain ⟨p5, e5, ⟨w1, w2, w3, w4, w5⟩, w6, w7⟩ := wk 4
      obtain ⟨g5, eg5⟩ : ∃ g5, g5 = wsh L (fun _ => none) g4 4 := ⟨_, rfl⟩
      rw [← eg5] at p5 e5 w1 w2 w3 w4 w5 w6 w7
      obtain ⟨p6, e6⟩ := bs_por p5 (k := 5) (by decide) none
      obtain ⟨p7, e7⟩ := bs_poi p6 6 (nI 0)
      obtain ⟨p8, e8⟩ := bs_por p7 (k := 9) (by decide) none
      have e23 : ex (cY L) (0 + 0 + 12) (0 + 0 + 163) g h3 := ex_trans bg.2.2.1 p2.2.2.1 hX e12 (ex_X e3 (fun _ f => f.elim))
      have e38 : ex (cY L) (0 + 0 + 0 + 0 + 0) (0 + 0 + 0 + 0 + 0) h3 _ := exY_t p3 p7 (exY_t p3 p6 (exY_t p3 p5 (exY_t p3 p4 e4 e5) e6) e7) e8
      have e28 := exY_t bg p3 e23 e38
      have c' : cI L r (z_por (z_poi (z_por g5 L 5 none) L 6 (nI 0)) L 9 none) ((σ.1.1, 0, mI), (cd, fun _ => none), [], σ.2.2.2.1, none) := by
        refine ⟨p8, ?_⟩
        show sV L _ (z_u (z_oi g5) L (z_u (z_oi g5 L) 6 (nI 0)) L) (z_u (z_u (z_or g5) L (z_u (z_or g5 L) 5 none)) L (z_u (z_u (z_or g5) L (z_u (z_or g5 L) 5 none) L) 9 none) L) (z_ai g5 (L + 1)) (z_ar g5 (L + 15)) _
        rw [u_eq, u_eq, u_eq, w3, w4, k4.1, oL4, m2, oL2]
        refine ⟨⟨?_, by show 0 ≤ 400; decide, fun i hi => absurd hi (Nat.not_lt_zero _)⟩, ?_, ⟨k, ?_, cdk_ex p3.2.2.1 hX e38 cd3, cok⟩, fun s hs => w7 s hs, trivial, ?_, ⟨?_, ?_⟩, ?_⟩
        · rw [u_ne _ _ (by decide), u_ne _ _ (by decide), u_eq]
        · rw [u_ne _ _ (by decide), u_eq]
        · rw [u_ne _ _ (by decide), u_ne _ _ (by decide), u_eq]
        · rw [u_eq]; rfl
        · rw [u_ne _ _ (by decide), u_ne _ _ (by decide), u_ne _ _ (by decide)]; exact hTg.2.2.2.2.2.2.1.1
        · rw [u_ne _ _ (by decide), u_ne _ _ (by decide), u_ne _ _ (by decide)]; exact hTg.2.2.2.2.2.2.1.2
        · show z_u (z_u (z_u (z_or h3 L) 3 (some k)) 5 none) 9 none 9 = none
          rw [u_eq]
      refine pub_mk c' (ex_trans hI bg.2.2.1 (fun _ q => cX_hl q) erX (ex_X e28 (fun _ q => cY_cX q))) (fun _ q => q) (by decide) (by decide) (en_X11_scheme (b_X11_scheme_0 (z_pu0V rfl) ?_))
      rw [if_neg (nI_nlt (Nat.zero_le _) (by omega)), t1, if_neg (nI_nlt (by omega) (by omega)), r10, z_rcs, b1, z_rcs]
      refine ⟨hk, hk, hk, rs.1, v, g, E, hkg, ?_⟩
      rw [if_pos hm.1, ← eg2]
      have r10g2 : z_or g2 L 10 = some (L + 16) := by rw [k2.2.2.1]; exact r10g
      rw [r10g2, z_rcs]
      refine ⟨hkg, p2.1.1, rs2.1, _, _, E3, ?_⟩
      rw [z_rcs, ← eg4]
      refine ⟨p3.1.1, ?_⟩
      refine z_forI (fun l g => [some (.ref L), none, none, some (.int (nI l))]) (fun l g => g) (fun l g => g = wsh L (fun _ => none) g4 l) (fun l g => z_par g (L + 15) l none) g4 4 rfl (fun l g hl hg => ⟨by rw [hg]; rfl, fun hJ => b_X11_scheme_83 (z_pu0V rfl) ?_⟩) (fun hg => ?_)
      · obtain ⟨bl, -⟩ := wk l
        rw [← hg] at bl
        obtain ⟨b4', b5', b6'⟩ := bl.1.2.2.1
        rw [if_pos (nI_lt hl (by decide)), b4', z_rcs, nI_clamp (show l < 2 ^ 31 by omega), nI_add]
        exact ⟨bl.1.1, Or.inl ⟨b5', trivial⟩, by rw [b6']; exact vp_in_nI hl (by decide), hJ⟩
      · rw [hg, ← eg5]
        refine b_X11_scheme_83 (z_pu0V rfl) ?_
        rw [if_neg (show ¬ nI 4 < nI 4 by decide)]
        exact ⟨p5.1.1, p5.1.1, p5.1.1, rfl⟩
  · rw [if_neg (by rw [e]; decide)]
    refine pub_id hc0 (en_X11_scheme (b_X11_scheme_0 (z_pu0V rfl) ?_))
    rw [if_pos c]
    rfl
  · rw [if_neg (by rw [e]; decide)]
    refine pub_id hc0 (en_X11_scheme (b_X11_scheme_0 (z_pu0V rfl) ?_))
    rw [if_neg c, t1, if_pos (gt_of c c' (by omega))]
    exact ⟨hk, rfl⟩
end C13
