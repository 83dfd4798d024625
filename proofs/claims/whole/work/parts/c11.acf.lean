/-! THE LISTER: undo, restore, image -/
/-- the shelves written -/
def wsh (L : Nat) (W : Nat → Option Nat) (h : z_H) (n : Nat) : z_H := it (fun l g => z_par g (L + 15) l (W l)) h n
section C11
variable {G : z_G} {d L r c s : Nat} {h h1 : z_H} {σ : RSt}
theorem wsh_ok (hb : bs L r h) (W : Nat → Option Nat) : ∀ n, bs L r (wsh L W h n) ∧ ex (cY L) 0 0 h (wsh L W h n) ∧ (z_kd (wsh L W h n) = z_kd h ∧ z_ln (wsh L W h n) = z_ln h ∧ z_oi (wsh L W h n) = z_oi h ∧ z_or (wsh L W h n) = z_or h ∧ z_ai (wsh L W h n) = z_ai h) ∧ (∀ a, a ≠ L + 15 → z_ar (wsh L W h n) a = z_ar h a) ∧ ∀ i, i < n → z_ar (wsh L W h n) (L + 15) i = W i := by
  intro n
  induction n with
  | zero => exact ⟨hb, ex_refl h, ⟨rfl, rfl, rfl, rfl, rfl⟩, fun _ _ => rfl, fun _ h => absurd h (Nat.not_lt_zero _)⟩
  | succ n ih =>
    obtain ⟨i1, i2, ⟨i3, i4, i5, i6, i7⟩, i8, i9⟩ := ih
    obtain ⟨b2, e2⟩ := bs_par i1 n (W n)
    have e : wsh L W h (n + 1) = z_par (wsh L W h n) (L + 15) n (W n) := rfl
    rw [e]
    refine ⟨b2, exY_t hb i1 i2 e2, ⟨i3, i4, i5, i6, i7⟩, fun a ha => (u_ne _ _ ha).trans (i8 a ha), fun i hi => ?_⟩
    show z_u (z_ar (wsh L W h n)) (L + 15) (z_u (z_ar (wsh L W h n) (L + 15)) n (W n)) (L + 15) i = W i
    rw [u_eq]
    by_cases c : i = n
    · rw [c, u_eq]
    · rw [u_ne _ _ c]; exact i9 i (by omega)
theorem e11_undo (hc : cI L r h σ) (h40 : σ.2.2.1.length ≤ 40) : pubC G (d + 4) k_X11_undo L r h [] (.inl (some (.int (s_undo σ).1))) (s_undo σ).2 := by
  obtain ⟨hb, hT⟩ := hc
  have hk := hb.1.1
  have hT' := hT
  obtain ⟨t1, t2, t3, t4, t5, t6, t7, t8⟩ := hT'
  have hI := hb.2.2.1
  have hX : ∀ a, cY L a → hl L a := fun _ q => cY_hl q
  unfold s_undo
  cases hh : σ.2.2.1 with
  | nil =>
    rw [hh] at t6
    refine pub_id ⟨hb, hT⟩ (en_X11_undo (b_X11_undo_0 (z_pu0V rfl) ⟨hk, ?_⟩))
    rw [t6, if_neg (show ¬ nI 0 < nI ([] : List Sta).length by decide)]
  | cons st hs =>
    rw [hh] at t5 t6 h40
    rw [List.length_cons] at t6 h40
    obtain ⟨a, a1, a2, a3, a4, a5⟩ := t5
    have aL : a ≠ L := fun e => by rw [e, hk] at a3; cases a3
    have t6s : nI (hs.length + 1) - nI 1 = nI hs.length := by rw [n_sub (by omega), Nat.add_sub_cancel]
    rcases a4 with ⟨s1, ⟨k, k1, k2, k3⟩, s3⟩ | ⟨m, m4, s1, s2, s3⟩
    · -- the card goes back
      obtain ⟨b1, e1⟩ := bs_por hb (k := 3) (by decide) (some k)
      obtain ⟨b2, e2⟩ := bs_por b1 (k := 5) (by decide) (z_or h a 0)
      obtain ⟨b3, e3⟩ := bs_poi b2 6 (nI hs.length)
      have e13 := exY_t hb b2 (exY_t hb b1 e1 e2) e3
      have p1 : ∀ o, z_or (z_por h L 3 o) L 5 = some a := fun o => by
        show z_u (z_or h) L (z_u (z_or h L) 3 o) L 5 = _
        rw [u_eq, u_ne _ _ (by decide)]; exact a1
      have p2 : ∀ o, z_or (z_por h L 3 o) a 0 = z_or h a 0 := fun o => by
        show z_u (z_or h) L (z_u (z_or h L) 3 o) a 0 = _
        rw [u_ne _ _ aL]
      have c' : cI L r (z_poi (z_por (z_por h L 3 (some k)) L 5 (z_or h a 0)) L 6 (nI hs.length)) (σ.1, st, hs, σ.2.2.2) := by
        refine ⟨b3, ?_⟩
        show sV L _ (z_u (z_oi h) L (z_u (z_oi h L) 6 (nI hs.length)) L) (z_u (z_u (z_or h) L (z_u (z_or h L) 3 (some k))) L (z_u (z_u (z_or h) L (z_u (z_or h L) 3 (some k)) L) 5 (z_or h a 0)) L) (z_ai h (L + 1)) (z_ar h (L + 15)) _
        rw [u_eq, u_eq, u_eq]
        refine ⟨⟨(u_ne _ _ (by decide)).trans t1.1, t1.2⟩, (u_ne _ _ (by decide)).trans t2, ⟨k, ?_, cdk_ex hI hX e13 k2, k3⟩, fun s hs => ?_, ?_, u_eq _ _ _, ⟨(u_ne _ _ (by decide)).trans t7.1, (u_ne _ _ (by decide)).trans t7.2⟩, ?_⟩
        · rw [u_ne _ _ (by decide), u_eq]
        · show oc L _ _ (st.2 s)
          rw [s3]
          exact oc_ex hI hX e13 (t4 s hs)
        · rw [u_eq]
          exact acR_ex hI hX e13 _ _ _ a5
        · rw [u_ne _ _ (by decide), u_ne _ _ (by decide)]
          exact imR_ex hI hX e13 t8
      refine pub_mk c' e13 (fun _ q => cY_cX q) (by decide) (by decide) (en_X11_undo (b_X11_undo_0 (z_pu0V rfl) ⟨hk, ?_⟩))
      have q6 : ∀ o o', z_oi (z_por (z_por h L 3 o) L 5 o') L 6 = nI (hs.length + 1) := fun _ _ => t6
      have q6' : ∀ g v, z_oi (z_poi g L 6 v) L 6 = v := fun g v => by
        show z_u (z_oi g) L (z_u (z_oi g L) 6 v) L 6 = v
        rw [u_eq, u_eq]
      rw [t6, if_pos (nI_lt (Nat.succ_pos _) (by omega)), a1, z_rcs, z_rcs, if_pos s1, z_rcs, k1, z_rcs, p1, z_rcs, p2]
      cases e0 : z_or h a 0 with
      | none =>
        rw [z_rcn, q6, t6s, q6']
        exact ⟨hk, hk, a3, hk, a3, hk, hk, a3, hk, hk, hk, hk, rfl⟩
      | some w =>
        rw [z_rcs, q6, t6s, q6']
        exact ⟨hk, hk, a3, hk, a3, hk, hk, a3, hk, hk, hk, hk, rfl⟩
    · -- a shelf goes back
      obtain ⟨b4, b5, b6⟩ := hb.1.2.2.1
      obtain ⟨b1, e1⟩ := bs_par hb m (z_or h a 2)
      obtain ⟨b2, e2⟩ := bs_por b1 (k := 5) (by decide) (z_or h a 0)
      obtain ⟨b3, e3⟩ := bs_poi b2 6 (nI hs.length)
      have e13 := exY_t hb b2 (exY_t hb b1 e1 e2) e3
      have c' : cI L r (z_poi (z_por (z_par h (L + 15) m (z_or h a 2)) L 5 (z_or h a 0)) L 6 (nI hs.length)) (σ.1, st, hs, σ.2.2.2) := by
        refine ⟨b3, ?_⟩
        show sV L _ (z_u (z_oi h) L (z_u (z_oi h L) 6 (nI hs.length)) L) (z_u (z_or h) L (z_u (z_or h L) 5 (z_or h a 0)) L) (z_ai h (L + 1)) (z_u (z_ar h) (L + 15) (z_u (z_ar h (L + 15)) m (z_or h a 2)) (L + 15)) _
        rw [u_eq, u_eq, u_eq]
        have es1 : st.1 = σ.2.1.1 := by rw [s3]
        have es2 : st.2 = z_u σ.2.1.2 m (st.2 m) := congrArg Prod.snd s3
        refine ⟨⟨(u_ne _ _ (by decide)).trans t1.1, t1.2⟩, (u_ne _ _ (by decide)).trans t2, ?_, fun s hs => ?_, ?_, u_eq _ _ _, ⟨(u_ne _ _ (by decide)).trans t7.1, (u_ne _ _ (by decide)).trans t7.2⟩, ?_⟩
        · show oc L _ _ (some st.1)
          rw [es1, u_ne _ _ (by decide)]
          exact oc_ex hI hX e13 t3
        · show oc L _ _ (st.2 s)
          by_cases c : s = m
          · rw [c, u_eq]
            exact oc_ex hI hX e13 s2
          · rw [u_ne _ _ c, es2, u_ne _ _ c]
            exact oc_ex hI hX e13 (t4 s hs)
        · rw [u_eq]
          exact acR_ex hI hX e13 _ _ _ a5
        · rw [u_ne _ _ (by decide)]
          exact imR_ex hI hX e13 t8
      refine pub_mk c' e13 (fun _ q => cY_cX q) (by decide) (by decide) (en_X11_undo (b_X11_undo_0 (z_pu0V rfl) ⟨hk, ?_⟩))
      have q5 : ∀ o, z_or (z_par h (L + 15) m o) L 5 = some a := fun o => a1
      have q0 : ∀ o, z_or (z_par h (L + 15) m o) a 0 = z_or h a 0 := fun o => rfl
      have q6 : ∀ o o', z_oi (z_por (z_par h (L + 15) m o) L 5 o') L 6 = nI (hs.length + 1) := fun _ _ => t6
      have q6' : ∀ g v, z_oi (z_poi g L 6 v) L 6 = v := fun g v => by
        show z_u (z_oi g) L (z_u (z_oi g L) 6 v) L 6 = v
        rw [u_eq, u_eq]
      have vi : vp_in (nI m) (z_ln h (L + 15)) := by rw [b6]; exact vp_in_nI m4 (by decide)
      rw [t6, if_pos (nI_lt (Nat.succ_pos _) (by omega)), a1, z_rcs, z_rcs, s1, if_neg (show ¬ nI m = mI from t_ne1 (by omega)), b4, z_rcs, z_rcs, s1, z_rcs, nI_clamp (show m < 2 ^ 31 by omega)]
      cases e2' : z_or h a 2 with
      | none =>
        rw [z_rcn, q5, z_rcs, q0]
        cases e0 : z_or h a 0 with
        | none =>
          rw [z_rcn, q6, t6s, q6']
          exact ⟨hk, hk, a3, hk, hk, a3, hk, a3, Or.inl ⟨b5, trivial⟩, vi, hk, a3, hk, hk, hk, hk, rfl⟩
        | some w =>
          rw [z_rcs, q6, t6s, q6']
          exact ⟨hk, hk, a3, hk, hk, a3, hk, a3, Or.inl ⟨b5, trivial⟩, vi, hk, a3, hk, hk, hk, hk, rfl⟩
      | some y =>
        have ky : z_kd h y = 17 := by
          rw [e2'] at s2
          cases es : st.2 m with
          | none => rw [es] at s2; cases s2
          | some cd =>
            rw [es] at s2
            obtain ⟨k, k1, ⟨_, _, _, _, ⟨w, -⟩, -⟩, k3⟩ := s2
            cases k1
            exact w
        simp only [z_rcs, q5, q0]
        cases e0 : z_or h a 0 with
        | none =>
          rw [z_rcn, q6, t6s, q6']
          exact ⟨hk, hk, a3, hk, hk, a3, hk, a3, Or.inl ⟨b5, ky⟩, vi, hk, a3, hk, hk, hk, hk, rfl⟩
        | some w =>
          rw [z_rcs, q6, t6s, q6']
          exact ⟨hk, hk, a3, hk, hk, a3, hk, a3, Or.inl ⟨b5, ky⟩, vi, hk, a3, hk, hk, hk, hk, rfl⟩
theorem oc_kd {o : Option Nat} {m : Option Cd} (h1 : oc L h o m) : ∀ y, o = some y → z_kd h y = 17 := by
  intro y hy
  cases m with
  | none =>
    have h1 : o = none := h1
    rw [h1] at hy; cases hy
  | some cd =>
    obtain ⟨k, k1, ⟨_, _, _, _, ⟨w, -⟩, -⟩, k3⟩ := h1
    rw [k1] at hy
    cases hy
    exact w
theorem e11_restore (hc : cI L r h σ) : pubC G (d + 4) k_X11_restore L r h [] (.inl (some (.int (s_restore σ).1))) (s_restore σ).2 := by
  obtain ⟨hb, hT⟩ := hc
  have hk := hb.1.1
  have hT' := hT
  obtain ⟨t1, t2, t3, t4, t5, t6, t7, t8⟩ := hT'
  have hI := hb.2.2.1
  have hX : ∀ a, cY L a → hl L a := fun _ q => cY_hl q
  obtain ⟨b4, b5, b6⟩ := hb.1.2.2.1
  unfold s_restore
  cases hh : σ.2.2.2.2 with
  | none =>
    rw [hh] at t8
    have t8 : z_or h L 9 = none := t8
    refine pub_id ⟨hb, hT⟩ (en_X11_restore (b_X11_restore_0 (z_pu0V rfl) ⟨hk, ?_⟩))
    rw [t8, z_rcn]
    exact ⟨Or.inl rfl, rfl⟩
  | some im =>
    rw [hh] at t8
    have t8' := t8
    obtain ⟨k, sh, k1, k2, k3, ⟨kc, kc1, kc2, kc3⟩, ⟨k5, k6, k7, k8, k9⟩, k10, k11, k12, k13⟩ := t8'
    have kL : k ≠ L := fun e => by rw [e, hk] at k3; cases k3
    have sL : sh ≠ L + 15 := fun e => k6.2.1 (by rw [e]; unfold hl; omega)
    obtain ⟨b1, e1⟩ := bs_por hb (k := 3) (by decide) (some kc)
    obtain ⟨g1, eg1⟩ : ∃ g1, g1 = z_por h L 3 (some kc) := ⟨_, rfl⟩
    have g1k : z_kd g1 = z_kd h ∧ z_ln g1 = z_ln h ∧ z_oi g1 = z_oi h ∧ z_ar g1 = z_ar h ∧ z_ai g1 = z_ai h := by rw [eg1]; exact ⟨rfl, rfl, rfl, rfl, rfl⟩
    have g1L : z_or g1 L = z_u (z_or h L) 3 (some kc) := by
      rw [eg1]
      show z_u (z_or h) L (z_u (z_or h L) 3 (some kc)) L = _
      rw [u_eq]
    have g1o : ∀ a, a ≠ L → z_or g1 a = z_or h a := fun a ha => by rw [eg1]; exact u_ne _ _ ha
    rw [← eg1] at b1 e1
    have wk := wsh_ok b1 (z_ar h sh)
    obtain ⟨b2, e2, ⟨w1, w2, w3, w4, w5⟩, w6, w7⟩ := wk 4
    obtain ⟨g2, eg2⟩ : ∃ g2, g2 = wsh L (z_ar h sh) g1 4 := ⟨_, rfl⟩
    rw [← eg2] at b2 e2 w1 w2 w3 w4 w5 w6 w7
    obtain ⟨b3, e3⟩ := bs_por b2 (k := 5) (by decide) (z_or h k 2)
    obtain ⟨b3a, e3a⟩ := bs_poi b3 6 (nI im.2.1.length)
    obtain ⟨b3b, e3b⟩ := bs_poi b3a 7 (nI im.2.2.1)
    obtain ⟨b3c, e3c⟩ := bs_poi b3b 8 (nI im.2.2.2)
    have e13 := exY_t hb b3b (exY_t hb b3a (exY_t hb b3 (exY_t hb b2 (exY_t hb b1 e1 e2) e3) e3a) e3b) e3c
    obtain ⟨g3, eg3⟩ : ∃ g3, g3 = z_poi (z_poi (z_poi (z_por g2 L 5 (z_or h k 2)) L 6 (nI im.2.1.length)) L 7 (nI im.2.2.1)) L 8 (nI im.2.2.2) := ⟨_, rfl⟩
    have g3oi : z_oi g3 L = z_u (z_u (z_u (z_oi h L) 6 (nI im.2.1.length)) 7 (nI im.2.2.1)) 8 (nI im.2.2.2) := by
      rw [eg3]
      show z_u (z_u (z_u (z_oi g2) L (z_u (z_oi g2 L) 6 _)) L (z_u (z_u (z_oi g2) L (z_u (z_oi g2 L) 6 _) L) 7 _)) L (z_u (z_u (z_u (z_oi g2) L (z_u (z_oi g2 L) 6 _)) L (z_u (z_u (z_oi g2) L (z_u (z_oi g2 L) 6 _) L) 7 _) L) 8 _) L = _
      rw [u_eq, u_eq, u_eq, w3, g1k.2.2.1]
    have g3or : z_or g3 L = z_u (z_u (z_or h L) 3 (some kc)) 5 (z_or h k 2) := by
      rw [eg3]
      show z_u (z_or g2) L (z_u (z_or g2 L) 5 _) L = _
      rw [u_eq, w4, g1L]
    have g3ai : z_ai g3 (L + 1) = z_ai h (L + 1) := by
      rw [eg3]
      show z_ai g2 (L + 1) = _
      rw [w5, g1k.2.2.2.2]
    have g3ar : ∀ s, s < 4 → z_ar g3 (L + 15) s = z_ar h sh s := fun s hs => by
      rw [eg3]
      exact w7 s hs
    rw [← eg3] at e13 b3c
    have c' : cI L r g3 (σ.1, im.1, im.2.1, (im.2.2.1, im.2.2.2), some im) := by
      refine ⟨b3c, ?_⟩
      unfold sT
      rw [g3oi, g3or, g3ai]
      refine ⟨⟨?_, t1.2⟩, ?_, ⟨kc, ?_, cdk_ex hI hX e13 kc2, kc3⟩, fun s hs => ?_, ?_, ?_, ⟨?_, ?_⟩, ?_⟩
      · rw [u_ne _ _ (by decide), u_ne _ _ (by decide), u_ne _ _ (by decide)]; exact t1.1
      · rw [u_ne _ _ (by decide), u_ne _ _ (by decide), u_ne _ _ (by decide)]; exact t2
      · rw [u_ne _ _ (by decide), u_eq]
      · rw [g3ar s hs]; exact oc_ex hI hX e13 (k9 s hs)
      · rw [u_eq]; exact acR_ex hI hX e13 _ _ _ k10
      · rw [u_ne _ _ (by decide), u_ne _ _ (by decide), u_eq]
      · rw [u_ne _ _ (by decide), u_eq]
      · rw [u_eq]
      · rw [u_ne _ _ (by decide), u_ne _ _ (by decide)]; exact imR_ex hI hX e13 t8
    refine pub_mk c' e13 (fun _ q => cY_cX q) (by decide) (by decide) (en_X11_restore (b_X11_restore_0 (z_pu0V rfl) ⟨hk, ?_⟩))
    rw [k1, z_rcs, z_rcs, kc1, z_rcs]
    refine ⟨hk, k3, hk, ?_⟩
    rw [← eg1]
    refine z_forI (fun l g => [some (.ref L), some (.int (nI l))]) (fun l g => g) (fun l g => g = wsh L (z_ar h sh) g1 l) (fun l g => z_par g (L + 15) l (z_ar h sh l)) g1 4 rfl (fun l g hl hg => ⟨by rw [hg]; rfl, fun hJ => b_X11_restore_22 (z_pu0V rfl) ?_⟩) (fun hg => ?_)
    · obtain ⟨bl, -, ⟨v1, v2, v3, v4, v5⟩, v6, v7⟩ := wk l
      rw [← hg] at bl v1 v2 v3 v4 v5 v6 v7
      have hkg := bl.1.1
      obtain ⟨b4', b5', b6'⟩ := bl.1.2.2.1
      have o9 : z_or g L 9 = some k := by rw [v4, g1L, u_ne _ _ (by decide)]; exact k1
      have k1g : z_or g k 1 = some sh := by rw [v4, g1o k kL]; exact k5
      have kk : z_kd g k = 19 ∧ z_kd g sh = 5 ∧ z_ln g sh = 4 := by rw [v1, v2, g1k.1, g1k.2.1]; exact ⟨k3, k7, k8⟩
      have ar : z_ar g sh l = z_ar h sh l := by rw [v6 sh sL, g1k.2.2.2.1]
      have vi : vp_in (nI l) (z_ln g sh) := by rw [kk.2.2]; exact vp_in_nI hl (by decide)
      have vi' : vp_in (nI l) (z_ln g (L + 15)) := by rw [b6']; exact vp_in_nI hl (by decide)
      rw [if_pos (nI_lt hl (by decide)), b4', z_rcs, o9, z_rcs, k1g, z_rcs, nI_clamp (show l < 2 ^ 31 by omega), ar, nI_add]
      have okd := oc_kd (k9 l hl)
      cases ea : z_ar h sh l with
      | none =>
        rw [ea] at hJ
        rw [z_rcn]
        exact ⟨hkg, hkg, kk.1, Or.inl kk.2.1, vi, Or.inl ⟨b5', trivial⟩, vi', hJ⟩
      | some y =>
        rw [ea] at hJ
        rw [z_rcs]
        refine ⟨hkg, hkg, kk.1, Or.inl kk.2.1, vi, Or.inl ⟨b5', ?_⟩, vi', hJ⟩
        show z_kd g y = 17
        rw [v1, g1k.1]; exact okd y ea
    · rw [hg, ← eg2]
      refine b_X11_restore_22 (z_pu0V rfl) ?_
      have hkg := b2.1.1
      have o9 : z_or g2 L 9 = some k := by rw [w4, g1L, u_ne _ _ (by decide)]; exact k1
      have k2g : z_or g2 k 2 = z_or h k 2 := by rw [w4, g1o k kL]
      have kk : z_kd g2 k = 19 := by rw [w1, g1k.1]; exact k3
      have o9' : ∀ o, z_or (z_por g2 L 5 o) L 9 = some k := fun o => by
        show z_u (z_or g2) L (z_u (z_or g2 L) 5 o) L 9 = _
        rw [u_eq, u_ne _ _ (by decide)]; exact o9
      have o9a : ∀ o v, z_or (z_poi (z_por g2 L 5 o) L 6 v) L 9 = some k := fun o v => o9' o
      have o9b : ∀ o v v', z_or (z_poi (z_poi (z_por g2 L 5 o) L 6 v) L 7 v') L 9 = some k := fun o v v' => o9' o
      have i3 : ∀ o, z_oi (z_por g2 L 5 o) k 3 = nI im.2.1.length := fun o => by
        show z_oi g2 k 3 = _
        rw [w3, g1k.2.2.1]; exact k11
      have i4 : ∀ o v, z_oi (z_poi (z_por g2 L 5 o) L 6 v) k 4 = nI im.2.2.1 := fun o v => by
        show z_u (z_oi g2) L _ k 4 = _
        rw [u_ne _ _ kL, w3, g1k.2.2.1]; exact k12
      have i5 : ∀ o v v', z_oi (z_poi (z_poi (z_por g2 L 5 o) L 6 v) L 7 v') k 5 = nI im.2.2.2 := fun o v v' => by
        show z_u (z_u (z_oi g2) L _) L _ k 5 = _
        rw [u_ne _ _ kL, u_ne _ _ kL, w3, g1k.2.2.1]; exact k13
      rw [if_neg (show ¬ nI 4 < nI 4 by decide), o9, z_rcs, k2g]
      rw [eg3]
      cases e0 : z_or h k 2 with
      | none =>
        rw [z_rcn, o9', z_rcs, i3, o9a, z_rcs, i4, o9b, z_rcs, i5]
        exact ⟨hkg, kk, hkg, hkg, kk, hkg, hkg, kk, hkg, hkg, kk, hkg, Or.inr rfl, rfl⟩
      | some y =>
        rw [z_rcs, o9', z_rcs, i3, o9a, z_rcs, i4, o9b, z_rcs, i5]
        exact ⟨hkg, kk, hkg, hkg, kk, hkg, hkg, kk, hkg, hkg, kk, hkg, Or.inr rfl, rfl⟩
end C11
