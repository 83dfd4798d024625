/-! THE LISTER: image -/
def wpr (n0 : Nat) (W : Nat → Option Nat) (h : z_H) (n : Nat) : z_H := it (fun l g => z_par g n0 l (W l)) h n
def im1 (h : z_H) (a k : Nat) : z_H := z_por (z_por (z_nwr h 5 4) a 1 (some (z_n h))) a 0 (some k)
def im3 (h : z_H) (a k sh : Nat) (o : Option Nat) (x4 x5 x6 : Int32) : z_H := z_poi (z_poi (z_poi (z_por (wpr (z_n h) (z_ar h sh) (im1 h a k) 4) a 2 o) a 3 x4) a 4 x5) a 5 x6
theorem wpr_ok (n0 : Nat) (W : Nat → Option Nat) (h : z_H) : ∀ n, (z_kd (wpr n0 W h n) = z_kd h ∧ z_ln (wpr n0 W h n) = z_ln h ∧ z_oi (wpr n0 W h n) = z_oi h ∧ z_or (wpr n0 W h n) = z_or h ∧ z_ai (wpr n0 W h n) = z_ai h) ∧ (∀ a, a ≠ n0 → z_ar (wpr n0 W h n) a = z_ar h a) ∧ ∀ i, i < n → z_ar (wpr n0 W h n) n0 i = W i := by
  intro n
  induction n with
  | zero => exact ⟨⟨rfl, rfl, rfl, rfl, rfl⟩, fun _ _ => rfl, fun _ h => absurd h (Nat.not_lt_zero _)⟩
  | succ n ih =>
    obtain ⟨i1, i8, i9⟩ := ih
    have e : wpr n0 W h (n + 1) = z_par (wpr n0 W h n) n0 n (W n) := rfl
    rw [e]
    refine ⟨i1, fun a ha => (u_ne _ _ ha).trans (i8 a ha), fun i hi => ?_⟩
    show z_u (z_ar (wpr n0 W h n)) n0 (z_u (z_ar (wpr n0 W h n) n0) n (W n)) n0 i = W i
    rw [u_eq]
    by_cases c : i = n
    · rw [c, u_eq]
    · rw [u_ne _ _ c]; exact i9 i (by omega)
theorem im1_L (h : z_H) (a k : Nat) : z_or (im1 h a k) a = z_u (z_u (z_or h a) 1 (some (z_n h))) 0 (some k) := by
  show z_u (z_u (z_or h) a (z_u (z_or h a) 1 (some (z_n h)))) a (z_u (z_u (z_or h) a (z_u (z_or h a) 1 (some (z_n h))) a) 0 (some k)) a = _
  rw [u_eq, u_eq]
theorem im1_1 (h : z_H) (a k : Nat) : z_or (im1 h a k) a 1 = some (z_n h) := by rw [im1_L, u_ne _ _ (by decide), u_eq]
section C14
variable {G : z_G} {d L r a k sh : Nat} {h : z_H} {σ : RSt}
theorem e3_init (ha : z_kd h a = 19) (an : a < z_n h) (ks : z_kd h sh = 5) (ls : z_ln h sh = 4) (hs : sh ≠ z_n h) (hy : ∀ l, l < 4 → ∀ y, z_ar h sh l = some y → z_kd h y = 17 ∧ y < z_n h) (o : Option Nat) (x4 x5 x6 : Int32) : z_Ev G (d + 4) k_X3_init [.ref a, .ref k, .ref sh, va_rf o, .int x4, .int x5, .int x6] h (.inl none, im3 h a k sh o x4 x5 x6) := by
  have kd1 : z_kd (z_nwr h 5 4) a = 19 := (u_ne _ _ (by omega)).trans ha
  obtain ⟨w, ew⟩ : ∃ w, w = wpr (z_n h) (z_ar h sh) (im1 h a k) 4 := ⟨_, rfl⟩
  have ei : im3 h a k sh o x4 x5 x6 = z_poi (z_poi (z_poi (z_por w a 2 o) a 3 x4) a 4 x5) a 5 x6 := by unfold im3; rw [← ew]
  have kw : z_kd w a = 19 := by rw [ew, (wpr_ok (z_n h) (z_ar h sh) (im1 h a k) 4).1.1]; exact kd1
  rw [ei]
  cases o with
  | none =>
    refine en_X3_init___n___ (b_X3_init_0b (z_pu0V rfl) ⟨by decide, by decide, kd1, kd1, ?_⟩)
    refine z_forI (fun l g => [some (.ref a), none, some (.ref sh), some (.null), some (.int x4), some (.int x5), some (.int x6), some (.int (nI l))]) (fun l g => g) (fun l g => g = wpr (z_n h) (z_ar h sh) (im1 h a k) l) (fun l g => z_par g (z_n h) l (z_ar h sh l)) (im1 h a k) 4 rfl (fun l g hl hg => ⟨by rw [hg]; rfl, fun hJ => b_X3_init_20b (z_pu0V rfl) ?_⟩) (fun hg => ?_)
    · obtain ⟨⟨v1, v2, v3, v4, v5⟩, v6, v7⟩ := wpr_ok (z_n h) (z_ar h sh) (im1 h a k) l
      rw [← hg] at v1 v2 v3 v4 v5 v6 v7
      have ka' : z_kd g a = 19 := by rw [v1]; exact kd1
      have ks' : z_kd g sh = 5 ∧ z_ln g sh = 4 := by
        rw [v1, v2]
        exact ⟨(u_ne _ _ hs).trans ks, (u_ne _ _ hs).trans ls⟩
      have kn : z_kd g (z_n h) = 5 ∧ z_ln g (z_n h) = 4 := by
        rw [v1, v2]
        exact ⟨u_eq _ _ _, u_eq _ _ _⟩
      have o1 : z_or g a 1 = some (z_n h) := by rw [v4]; exact im1_1 h a k
      have ar : z_ar g sh l = z_ar h sh l := by
        rw [v6 sh hs]
        exact congrFun (u_ne _ _ hs : z_u (z_ar h) (z_n h) (fun _ => none) sh = z_ar h sh) l
      rw [if_pos (nI_lt hl (by decide)), o1, z_rcs, nI_clamp (show l < 2 ^ 31 by omega), ar, nI_add]
      have vi : vp_in (nI l) (z_ln g sh) := by rw [ks'.2]; exact vp_in_nI hl (by decide)
      have vi' : vp_in (nI l) (z_ln g (z_n h)) := by rw [kn.2]; exact vp_in_nI hl (by decide)
      cases ea : z_ar h sh l with
      | none =>
        rw [ea] at hJ
        rw [z_rcn]
        exact ⟨ka', Or.inl ks'.1, vi, Or.inl ⟨kn.1, trivial⟩, vi', hJ⟩
      | some y =>
        rw [ea] at hJ
        rw [z_rcs]
        refine ⟨ka', Or.inl ks'.1, vi, Or.inl ⟨kn.1, ?_⟩, vi', hJ⟩
        show z_kd g y = 17
        obtain ⟨y1, y2⟩ := hy l hl y ea
        rw [v1]
        exact (u_ne _ _ (by omega)).trans y1
    · rw [hg, ← ew]
      refine b_X3_init_20b (z_pu0V rfl) ?_
      rw [if_neg (show ¬ nI 4 < nI 4 by decide)]
      exact ⟨kw, kw, kw, kw, rfl⟩
  | some y0 =>
    refine en_X3_init (b_X3_init_0 (z_pu0V rfl) ⟨by decide, by decide, kd1, kd1, ?_⟩)
    refine z_forI (fun l g => [some (.ref a), none, some (.ref sh), some (.ref y0), some (.int x4), some (.int x5), some (.int x6), some (.int (nI l))]) (fun l g => g) (fun l g => g = wpr (z_n h) (z_ar h sh) (im1 h a k) l) (fun l g => z_par g (z_n h) l (z_ar h sh l)) (im1 h a k) 4 rfl (fun l g hl hg => ⟨by rw [hg]; rfl, fun hJ => b_X3_init_20 (z_pu0V rfl) ?_⟩) (fun hg => ?_)
    · obtain ⟨⟨v1, v2, v3, v4, v5⟩, v6, v7⟩ := wpr_ok (z_n h) (z_ar h sh) (im1 h a k) l
      rw [← hg] at v1 v2 v3 v4 v5 v6 v7
      have ka' : z_kd g a = 19 := by rw [v1]; exact kd1
      have ks' : z_kd g sh = 5 ∧ z_ln g sh = 4 := by
        rw [v1, v2]
        exact ⟨(u_ne _ _ hs).trans ks, (u_ne _ _ hs).trans ls⟩
      have kn : z_kd g (z_n h) = 5 ∧ z_ln g (z_n h) = 4 := by
        rw [v1, v2]
        exact ⟨u_eq _ _ _, u_eq _ _ _⟩
      have o1 : z_or g a 1 = some (z_n h) := by rw [v4]; exact im1_1 h a k
      have ar : z_ar g sh l = z_ar h sh l := by
        rw [v6 sh hs]
        exact congrFun (u_ne _ _ hs : z_u (z_ar h) (z_n h) (fun _ => none) sh = z_ar h sh) l
      rw [if_pos (nI_lt hl (by decide)), o1, z_rcs, nI_clamp (show l < 2 ^ 31 by omega), ar, nI_add]
      have vi : vp_in (nI l) (z_ln g sh) := by rw [ks'.2]; exact vp_in_nI hl (by decide)
      have vi' : vp_in (nI l) (z_ln g (z_n h)) := by rw [kn.2]; exact vp_in_nI hl (by decide)
      cases ea : z_ar h sh l with
      | none =>
        rw [ea] at hJ
        rw [z_rcn]
        exact ⟨ka', Or.inl ks'.1, vi, Or.inl ⟨kn.1, trivial⟩, vi', hJ⟩
      | some y =>
        rw [ea] at hJ
        rw [z_rcs]
        refine ⟨ka', Or.inl ks'.1, vi, Or.inl ⟨kn.1, ?_⟩, vi', hJ⟩
        show z_kd g y = 17
        obtain ⟨y1, y2⟩ := hy l hl y ea
        rw [v1]
        exact (u_ne _ _ (by omega)).trans y1
    · rw [hg, ← ew]
      refine b_X3_init_20 (z_pu0V rfl) ?_
      rw [if_neg (show ¬ nI 4 < nI 4 by decide)]
      exact ⟨kw, kw, kw, kw, rfl⟩
theorem nwr_k {V : CV} (hI : inv V L h) (hL : L + 75 ≤ z_n h) (X : Nat → Prop) : inv V L (z_nwr h 5 4) ∧ ex X 1 4 h (z_nwr h 5 4) ∧ fr L (z_nwr h 5 4) (z_n h) := by
  have e : ∀ X : Nat → Prop, ex X 1 4 h (z_nwr h 5 4) := fun X => xt_ex (xt_nwr 5 4 (by decide)) (Nat.le_refl _) (Nat.le_refl _)
  refine ⟨inv_xt (X := fun _ => False) hI (fun _ f => f.elim) (xt_nwr 5 4 (by decide)), e X, ⟨Nat.lt_succ_self _, fun hh => by unfold hl at hh; omega, fun q' b' hb => ?_⟩⟩
  rcases ex_bl (X := fun _ => False) hI (fun _ f => f.elim) (e _) hb with c | c
  · obtain ⟨S', k'⟩ := inv_b hI c
    right; exact k'.2.1.2.1
  · have := inv_n hI c
    have hb1 := hb.1
    by_cases e : q' = z_n h
    · rw [e] at hb1
      have : z_kd (z_nwr h 5 4) (z_n h) = 5 := u_eq _ _ _
      omega
    · have : z_kd (z_nwr h 5 4) q' = z_kd h q' := u_ne _ _ e
      omega
theorem inv_wpr {V : CV} {n0 : Nat} {W : Nat → Option Nat} (hI : inv V L h) (hn : z_kd h n0 ≠ 6) : ∀ n, inv V L (wpr n0 W h n)
  | 0 => hI
  | n + 1 => by
    have := wpr_ok n0 W h n
    exact inv_war (inv_wpr hI hn n) (show z_kd (wpr n0 W h n) n0 ≠ 6 by rw [this.1.1]; exact hn)
theorem ex_wpr {X : Nat → Prop} {c s n0 : Nat} {W : Nat → Option Nat} {h0 : z_H} (e : ex X c s h0 h) (hn : z_n h0 ≤ n0) : ∀ n, ex X c s h0 (wpr n0 W h n)
  | 0 => e
  | n + 1 => ex_war (ex_wpr e hn n) hn
theorem e11_image (hc : cI L r h σ) : ∃ h' r', cI L r' h' (s_image σ) ∧ cst r r' h h' ∧ ex (cX L) (z_c h' - z_c h) (z_s h' - z_s h) h h' ∧ z_Ev G (d + 5) k_X11_image [.ref L] h (.inl none, h') := by
  have hc0 := hc
  obtain ⟨hb, hT⟩ := hc
  have hk := hb.1.1
  obtain ⟨⟨t1, t1b, t1c⟩, t2, ⟨kc, kc1, kc2, kc3⟩, t4, t5, t6, t7, t8⟩ := hT
  have hI := hb.2.2.1
  have hL := hb.2.2.2
  obtain ⟨b4, b5, b6⟩ := hb.1.2.2.1
  have hX : ∀ a, cY L a → hl L a := fun _ q => cY_hl q
  -- the object
  obtain ⟨I0, e0, f0, k0⟩ := nwo_k (ci := 3) (N := 6) hI hL (by decide) (fun _ => False)
  obtain ⟨h0, eh0⟩ : ∃ h0, h0 = z_nwo h 3 6 := ⟨_, rfl⟩
  have n0 : z_n h0 = z_n h + 1 := by rw [eh0]; rfl
  have od : ∀ a, a < z_n h → z_kd h0 a = z_kd h a ∧ z_oi h0 a = z_oi h a ∧ z_or h0 a = z_or h a := fun a ha => by rw [eh0]; exact nwo_old ha
  have ar0 : z_ar h0 = z_ar h ∧ z_ln h0 = z_ln h ∧ z_ai h0 = z_ai h := by rw [eh0]; exact ⟨rfl, rfl, rfl⟩
  rw [← eh0] at I0 e0 f0 k0
  have hL0 : L + 75 ≤ z_n h0 := by omega
  -- its row
  obtain ⟨I1, e1, f1⟩ := nwr_k I0 hL0 (fun _ => False)
  have fa1 := ex_fr I0 no_hl e1 f0
  have ka1 : z_kd (z_nwr h0 5 4) (z_n h) = 19 := fa1.2.1.trans k0
  have n24 : z_kd (z_nwr h0 5 4) (z_n h) ≠ 24 := by rw [ka1]; decide
  obtain ⟨g1, eg1⟩ : ∃ g1, g1 = im1 h0 (z_n h) kc := ⟨_, rfl⟩
  have Ig1 : inv vV L g1 := by rw [eg1]; exact inv_wor (inv_wor I1 n24) n24
  have eg01 : ex (fun _ => False) (1 + 1) (6 + 4) h g1 := by
    rw [eg1]
    exact ex_wor (ex_wor (ex_trans hI I0 no_hl e0 e1) (Nat.le_refl _)) (Nat.le_refl _)
  have fg1 : fr L g1 (z_n h) ∧ fr L g1 (z_n h0) := by
    rw [eg1]
    exact ⟨fr_wor n24 (fr_wor (h := z_nwr h0 5 4) n24 fa1.1), fr_wor n24 (fr_wor (h := z_nwr h0 5 4) n24 f1)⟩
  have kg1 : z_kd g1 (z_n h) = 19 ∧ z_kd g1 (z_n h0) = 5 ∧ z_ln g1 (z_n h0) = 4 := by
    rw [eg1]
    exact ⟨ka1, u_eq _ _ _, u_eq _ _ _⟩
  have or1 : z_or g1 (z_n h) = z_u (z_u (z_or h0 (z_n h)) 1 (some (z_n h0))) 0 (some kc) := by rw [eg1]; exact im1_L _ _ _
  obtain ⟨g2, eg2⟩ : ∃ g2, g2 = wpr (z_n h0) (z_ar h0 (L + 15)) g1 4 := ⟨_, rfl⟩
  obtain ⟨⟨v1, v2, v3, v4, v5⟩, v6, v7⟩ := wpr_ok (z_n h0) (z_ar h0 (L + 15)) g1 4
  have Ig2 : inv vV L g2 := by rw [eg2]; exact inv_wpr Ig1 (by rw [kg1.2.1]; decide) 4
  have eg02 : ex (fun _ => False) (1 + 1) (6 + 4) h g2 := by rw [eg2]; exact ex_wpr eg01 (by omega) 4
  rw [← eg2] at v1 v2 v3 v4 v5 v6 v7
  have frk : ∀ a, fr L g1 a → fr L g2 a := fun a ha => by
    refine ⟨?_, ha.2.1, fun q b hb => ha.2.2 q b ⟨by rw [← v1]; exact hb.1, by rw [← v4]; exact hb.2⟩⟩
    rw [eg2]
    exact ha.1
  -- its fields
  obtain ⟨g3, eg3⟩ : ∃ g3, g3 = im3 h0 (z_n h) kc (L + 15) (z_or h L 5) (z_oi h L 6) (z_oi h L 7) (z_oi h L 8) := ⟨_, rfl⟩
  have eg3' : g3 = z_poi (z_poi (z_poi (z_por g2 (z_n h) 2 (z_or h L 5)) (z_n h) 3 (z_oi h L 6)) (z_n h) 4 (z_oi h L 7)) (z_n h) 5 (z_oi h L 8) := by rw [eg3, eg2, eg1]; rfl
  have n24' : z_kd g2 (z_n h) ≠ 24 := by rw [v1, kg1.1]; decide
  have Ig3 : inv vV L g3 := by rw [eg3']; exact inv_woi (inv_woi (inv_woi (inv_wor Ig2 n24') n24') n24') n24'
  have eg03 : ex (fun _ => False) (1 + 1) (6 + 4) h g3 := by
    rw [eg3']
    exact ex_woi (ex_woi (ex_woi (ex_wor eg02 (Nat.le_refl _)) (Nat.le_refl _)) (Nat.le_refl _)) (Nat.le_refl _)
  have fg3 : fr L g3 (z_n h) ∧ fr L g3 (z_n h0) := by
    rw [eg3']
    exact ⟨fr_wor n24' (frk _ fg1.1), fr_wor n24' (frk _ fg1.2)⟩
  have kg3 : z_kd g3 (z_n h) = 19 ∧ z_kd g3 (z_n h0) = 5 ∧ z_ln g3 (z_n h0) = 4 := by
    rw [eg3']
    show z_kd g2 (z_n h) = 19 ∧ z_kd g2 (z_n h0) = 5 ∧ z_ln g2 (z_n h0) = 4
    rw [v1, v2]
    exact kg1
  have or3 : z_or g3 (z_n h) = z_u (z_u (z_u (z_or h0 (z_n h)) 1 (some (z_n h0))) 0 (some kc)) 2 (z_or h L 5) := by
    rw [eg3']
    show z_u (z_or g2) (z_n h) (z_u (z_or g2 (z_n h)) 2 (z_or h L 5)) (z_n h) = _
    rw [u_eq, v4, or1]
  have oi3 : z_oi g3 (z_n h) = z_u (z_u (z_u (z_oi g2 (z_n h)) 3 (z_oi h L 6)) 4 (z_oi h L 7)) 5 (z_oi h L 8) := by
    rw [eg3']
    show z_u (z_u (z_u (z_oi g2) (z_n h) (z_u (z_oi g2 (z_n h)) 3 _)) (z_n h) (z_u (z_u (z_oi g2) (z_n h) (z_u (z_oi g2 (z_n h)) 3 _) (z_n h)) 4 _)) (z_n h) (z_u (z_u (z_u (z_oi g2) (z_n h) (z_u (z_oi g2 (z_n h)) 3 _)) (z_n h) (z_u (z_u (z_oi g2) (z_n h) (z_u (z_oi g2 (z_n h)) 3 _) (z_n h)) 4 _) (z_n h)) 5 _) (z_n h) = _
    rw [u_eq, u_eq, u_eq]
  have ar3 : ∀ s, s < 4 → z_ar g3 (z_n h0) s = z_ar h (L + 15) s := fun s hs => by
    rw [eg3']
    show z_ar g2 (z_n h0) s = _
    rw [v7 s hs, ar0.1]
  obtain ⟨l1, l2, l3, l4, l5⟩ := liB_ex hI hL eg03 (fun _ f => f.elim) hb.1
  have p3 : bs L r g3 := bs_ex hb Ig3 eg03 (fun _ f => f.elim) l1
  obtain ⟨p4, e4⟩ := bs_por p3 (k := 9) (by decide) (some (z_n h))
  have e34 := exY_t hb p3 (ex_X eg03 (fun _ f => f.elim)) e4
  have nL : z_n h ≠ L := by omega
  obtain ⟨g4, eg4⟩ : ∃ g4, g4 = z_por g3 L 9 (some (z_n h)) := ⟨_, rfl⟩
  have or4 : z_or g4 L = z_u (z_or h L) 9 (some (z_n h)) := by
    rw [eg4]
    show z_u (z_or g3) L (z_u (z_or g3 L) 9 (some (z_n h))) L = _
    rw [u_eq, l3]
  have oi4 : z_oi g4 L = z_oi h L ∧ z_ai g4 (L + 1) = z_ai h (L + 1) ∧ z_ar g4 (L + 15) = z_ar h (L + 15) := by
    rw [eg4]
    exact ⟨l2, l4, l5⟩
  have or4n : z_or g4 (z_n h) = z_or g3 (z_n h) := by rw [eg4]; exact u_ne _ _ nL
  have oi4n : z_oi g4 = z_oi g3 ∧ z_ar g4 = z_ar g3 ∧ z_kd g4 = z_kd g3 ∧ z_ln g4 = z_ln g3 := by rw [eg4]; exact ⟨rfl, rfl, rfl, rfl⟩
  have fg4 : fr L g4 (z_n h) ∧ fr L g4 (z_n h0) := by
    rw [eg4]
    exact ⟨fr_wor (by rw [p3.1.1]; decide) fg3.1, fr_wor (by rw [p3.1.1]; decide) fg3.2⟩
  rw [← eg4] at p4 e34
  have c' : cI L r g4 (s_image σ) := by
    refine ⟨p4, ?_⟩
    unfold sT
    rw [or4, oi4.1, oi4.2.1, oi4.2.2]
    have t3' : oc L g4 (some kc) (some σ.2.1.1) := ⟨kc, rfl, cdk_ex hI hX e34 kc2, kc3⟩
    refine ⟨⟨t1, t1b, t1c⟩, t2, ?_, fun s hs => oc_ex hI hX e34 (t4 s hs), ?_, t6, t7, ?_⟩
    · rw [u_ne _ _ (by decide), kc1]; exact t3'
    · rw [u_ne _ _ (by decide)]; exact acR_ex hI hX e34 _ _ _ t5
    · rw [u_eq]
      refine ⟨z_n h, z_n h0, rfl, fg4.1, by rw [oi4n.2.2.1]; exact kg3.1, ?_, ⟨?_, fg4.2, by rw [oi4n.2.2.1]; exact kg3.2.1, by rw [oi4n.2.2.2]; exact kg3.2.2, fun s hs => ?_⟩, ?_, ?_, ?_, ?_⟩
      · rw [or4n, or3, u_ne _ _ (by decide), u_eq]; exact t3'
      · rw [or4n, or3, u_ne _ _ (by decide), u_ne _ _ (by decide), u_eq]
      · rw [oi4n.2.1, ar3 s hs]; exact oc_ex hI hX e34 (t4 s hs)
      · rw [or4n, or3, u_eq]; exact acR_ex hI hX e34 _ _ _ t5
      · rw [oi4n.1, oi3, u_ne _ _ (by decide), u_ne _ _ (by decide), u_eq]; exact t6
      · rw [oi4n.1, oi3, u_ne _ _ (by decide), u_eq]; exact t7.1
      · rw [oi4n.1, oi3, u_eq]; exact t7.2
  have hk0 : z_kd h0 L = 27 := (od L (by omega)).1.trans hk
  have E3 := e3_init (G := G) (d := d) (k := kc) (sh := L + 15) k0 (by omega) (by rw [(od _ (by omega)).1]; exact b5) (by rw [ar0.2.1]; exact b6) (by omega) (fun l hl y hy => by
    rw [ar0.1] at hy
    have ocl := t4 l hl
    have k17 := oc_kd ocl y hy
    have ylt : y < z_n h := by
      cases hm : σ.2.1.2 l with
      | none => rw [hm] at ocl; rw [show z_ar h (L + 15) l = none from ocl] at hy; cases hy
      | some cd =>
        rw [hm] at ocl
        obtain ⟨k', k1', ⟨_, _, _, _, _, fk, -⟩, -⟩ := ocl
        rw [k1'] at hy
        cases hy
        exact fk.1
    exact ⟨(od y ylt).1.trans k17, by omega⟩) (z_or h L 5) (z_oi h L 6) (z_oi h L 7) (z_oi h L 8)
  rw [← eg3] at E3
  have e34' := e34.1
  refine ⟨g4, r, c', ⟨Nat.le_refl _, by omega, by omega⟩, ex_X ⟨⟨e34'.1, by omega, by omega⟩, e34.2⟩ (fun _ q => cY_cX q), en_X11_image (b_X11_image_0 (z_pu0V rfl) ?_)⟩
  rw [← eh0]
  have q3 : z_or h0 L = z_or h L ∧ z_oi h0 L = z_oi h L := ⟨(od L (by omega)).2.2, (od L (by omega)).2.1⟩
  rw [q3.1, q3.2, kc1, z_rcs, b4, z_rcs]
  refine ⟨hk0, hk0, hk0, ?_⟩
  cases e5 : z_or h L 5 with
  | none =>
    rw [e5] at E3
    rw [z_rcn]
    exact ⟨hk0, hk0, hk0, g3, E3, p3.1.1, by rw [eg4]⟩
  | some y =>
    rw [e5] at E3
    rw [z_rcs]
    exact ⟨hk0, hk0, hk0, g3, E3, p3.1.1, by rw [eg4]⟩
end C14
