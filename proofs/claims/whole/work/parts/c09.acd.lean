/-! THE LISTER: acts that change the card -/
section C9
variable {G : z_G} {d L r c s : Nat} {h h1 : z_H} {σ : RSt}
theorem no_hl {L : Nat} : ∀ a, (fun _ : Nat => False) a → hl L a := fun _ f => f.elim
theorem chg (hc : cI L r h σ) (h40 : σ.2.2.1.length ≤ 40) (I1 : inv vV L h1) (e1 : ex (fun _ => False) c s h h1) {k : Nat} {cd : Cd} (hcd : cdk L h1 k cd) (hok : c_cok cd) : ∃ h', z_Ev G (d + 6) k_X11_change [.ref L, .ref k] h1 (.inl none, h') ∧ cI L r h' (sAct σ (cd, σ.2.1.2)) ∧ ex (cY L) (c + 1) (s + 3) h h' ∧ z_kd h1 L = 27 ∧ z_or h' L 3 = some k ∧ ex (cY L) 1 3 h1 h' := by
  have c1 := cI_no hc I1 e1
  obtain ⟨h', E, c', e', o'⟩ := e11_change (G := G) (d := d) c1 h40 hcd hok
  exact ⟨h', E, c', ex_trans hc.1.2.2.1 I1 (fun _ q => cY_hl q) (ex_X e1 (fun _ f => f.elim)) e', c1.1.1.1, o', e'⟩
theorem nwo_old {a ci N : Nat} (ha : a < z_n h) : z_kd (z_nwo h ci N) a = z_kd h a ∧ z_oi (z_nwo h ci N) a = z_oi h a ∧ z_or (z_nwo h ci N) a = z_or h a := ⟨u_ne _ _ (by omega), u_ne _ _ (by omega), u_ne _ _ (by omega)⟩
theorem e11_add (hc : cI L r h σ) (h40 : σ.2.2.1.length ≤ 40) (x : Int32) : pubC G (d + 7) k_X11_add L r h [.int x] (.inl (some (.int (s_add σ x).1))) (s_add σ x).2 := by
  obtain ⟨k, q, b, u, v, ⟨hk, ho⟩, ⟨c1, c2, ⟨x1, x2, x3⟩, ⟨x4, x5, x6⟩, hA, hxy⟩, hcdk, hok⟩ := cI_cd hc
  have hI := hc.1.2.2.1
  have hL := hc.1.2.2.2
  obtain ⟨p1, p2, p3, p4, p5, p6, p7, p8⟩ := hc.1.2.1
  obtain ⟨-, -, -, r10, r11, r12, r13, r14, r15, r16⟩ := hc.1.1
  have n8 := y_n8 hA
  have m12 := y_m12 hA
  have E0 := e8_canTake (G := G) (d := d + 1) hA x
  unfold s_add
  cases hca : c_canAdd σ.2.1.1.1 x
  · rw [hca] at E0
    rw [if_neg (show ¬ (false = true) by decide)]
    refine pub_rf (d := d + 2) hc (fun E => en_X11_add (b_X11_add_0 (z_pu0V rfl) ⟨hk, ?_⟩))
    rw [ho, z_rcs, c2, z_rcs]
    refine ⟨c1, y_kd hA, _, _, E0, ?_⟩
    rw [if_pos (show nI false.toNat = nI 0 from rfl)]
    exact ⟨hk, _, _, E, rfl⟩
  · rw [hca] at E0
    rw [if_pos rfl]
    unfold c_canAdd at hca
    simp only [Bool.and_eq_true, Bool.not_eq_true', decide_eq_true_eq] at hca
    obtain ⟨g1, g2, g3, g4⟩ := hca
    obtain ⟨a, ha, ha2, rfl⟩ := c_in_t g1
    rw [nI_clamp ha2] at g2 g3
    rw [nI_clamp ha2]
    have hcok := cok_add hok ha g2 g3 g4
    have kk := (inv_k hI hA).2.1
    have kk2 := kk.2.1
    obtain ⟨f, f1, f2, Ec⟩ := e_copyOf (G := G) (d := d + 3) (a := b + 5) (y_row hA).2.1 (y_row hA).2.2 (by omega) (m := σ.2.1.1.1.2.1 + 1) (by omega) (by omega)
    obtain ⟨g, eg⟩ : ∃ g, g = z_u f σ.2.1.1.1.2.1 (nI a) := ⟨_, rfl⟩
    obtain ⟨I8, e8⟩ := nw_k hI (σ.2.1.1.1.2.1 + 1) f (fun _ => False)
    have A8 := ex_sc hI no_hl e8 hA
    have c8 := cI_no hc I8 e8
    obtain ⟨I1, e1⟩ := nw_k hI (σ.2.1.1.1.2.1 + 1) g (fun _ => False)
    have cc1 := cI_no hc I1 e1
    have A1 := ex_sc hI no_hl e1 hA
    have cd1 := cdk_ex hI no_hl e1 hcdk
    obtain ⟨h1, eh1⟩ : ∃ h1, h1 = z_nwi h 1 (σ.2.1.1.1.2.1 + 1) g := ⟨_, rfl⟩
    have n1 : z_n h1 = z_n h + 1 := by rw [eh1]; rfl
    have k1 : z_kd h1 (z_n h) = 1 ∧ z_ln h1 (z_n h) = σ.2.1.1.1.2.1 + 1 ∧ z_ai h1 (z_n h) = g := by rw [eh1]; exact ⟨nwi_kd _ _ _ _, nwi_ln _ _ _ _, nwi_ai _ _ _ _⟩
    have o1 : z_or h1 L 3 = some k := by rw [eh1]; exact ho
    have hp : z_pai (z_nwi h 1 (σ.2.1.1.1.2.1 + 1) f) (z_n h) σ.2.1.1.1.2.1 (nI a) = h1 := by rw [nwi_pai, eh1, eg]
    rw [← eh1] at I1 e1 A1 cc1 cd1
    have hL1 : L + 75 ≤ z_n h1 := by omega
    have bq := (inv_k hI hA).2.1
    obtain ⟨h2, E2, I2, e2, A2, -⟩ := mk_sc (V := vV) (G := G) (d := d + 1) (X := fun _ => False) (S := (op_add σ.2.1.1 a).1) I1 hL1 hcok.1 (a := z_n h) (La := σ.2.1.1.1.2.1 + 1) (by omega) k1.1 k1.2.1 (by omega) (Nat.le_refl _) (fun l hl => by
      have hl : l < σ.2.1.1.1.2.1 + 1 := hl
      rw [k1.2.2, eg]
      show z_u f σ.2.1.1.1.2.1 (nI a) l = nI (z_u σ.2.1.1.1.2.2 σ.2.1.1.1.2.1 a l)
      by_cases c : l = σ.2.1.1.1.2.1
      · rw [c, u_eq, u_eq]
      · rw [u_ne _ _ c, u_ne _ _ c, f1 l (by omega) (by omega), y_Ln hA (by omega)])
    have cd2 := cdk_ex I1 no_hl e2 cd1
    obtain ⟨h3, E3, I3, e3, cd3⟩ := e1_with (V := vV) (G := G) (d := d + 1) (X := fun _ => False) no_hl I2 (Nat.le_trans hL1 e2.1.1) cd2 A2
    have e13 := ex_trans hI I2 no_hl (ex_trans hI I1 no_hl e1 e2) e3
    obtain ⟨h4, E4, c4, e4, k4, -, e34⟩ := chg (G := G) (d := d) hc h40 I3 e13 cd3 hcok
    have A4 := ex_sc I3 (fun _ q => cY_hl q) e34 (ex_sc I2 no_hl e3 (ex_sc I1 no_hl e2 A1))
    refine pub_mk c4 e4 (fun _ q => cY_cX q) (by omega) (by omega) (en_X11_add (b_X11_add_0 (z_pu0V rfl) ⟨hk, ?_⟩))
    rw [ho, z_rcs, c2, z_rcs]
    refine ⟨c1, y_kd hA, _, _, E0, ?_⟩
    rw [if_neg (show ¬ nI true.toNat = nI 0 by decide), (y_row hA).1, z_rcs, y_m hA, nI_add]
    refine ⟨y_kd hA, y_kd hA, _, _, Ec, ?_⟩
    rw [z_rcs, y_m A8, nI_clamp (show σ.2.1.1.1.2.1 < 2 ^ 31 by omega), hp, o1, z_rcs]
    have qlt : q < z_n h1 := by have := bq.1; have := bq.2.1; omega
    obtain ⟨w1, w2, w3⟩ := nwo_old (ci := 8) (N := 15) qlt
    rw [w1, w2, y_n A1, y_m A1, nI_add]
    refine ⟨y_kd A8, nwi_kd _ _ _ _, by rw [nwi_ln]; exact vp_in_nI (Nat.lt_succ_self _) (by omega), cc1.1.1.1, y_kd A1, y_kd A1, h2, E2, ?_, _, _, E3, ?_⟩
    · obtain ⟨_, _, _, _, ⟨w, -⟩, -⟩ := cd2; exact w
    · rw [z_rcs]
      refine ⟨k4, h4, E4, y_kd A4, ?_⟩
      rw [y_m A4]
theorem e11_swap (hc : cI L r h σ) (h40 : σ.2.2.1.length ≤ 40) (x y : Int32) : pubC G (d + 7) k_X11_swap L r h [.int x, .int y] (.inl (some (.int (s_swap σ x y).1))) (s_swap σ x y).2 := by
  obtain ⟨k, q, b, u, v, ⟨hk, ho⟩, ⟨c1, c2, ⟨x1, x2, x3⟩, ⟨x4, x5, x6⟩, hA, hxy⟩, hcdk, hok⟩ := cI_cd hc
  have hI := hc.1.2.2.1
  have hL := hc.1.2.2.2
  obtain ⟨p1, p2, p3, p4, p5, p6, p7, p8⟩ := hc.1.2.1
  obtain ⟨-, -, -, r10, r11, r12, r13, r14, r15, r16⟩ := hc.1.1
  have n8 := y_n8 hA
  have m12 := y_m12 hA
  have E1 := e11_isPoint (G := G) (d := d + 2) hc x
  have E2 := e11_isPoint (G := G) (d := d + 2) hc y
  unfold s_swap
  rcases in_cases x (n := σ.2.1.1.1.1) (by omega) with ⟨a, ha, rfl, e⟩ | ⟨e, -⟩
  · rw [e] at E1
    rcases in_cases y (n := σ.2.1.1.1.1) (by omega) with ⟨a', ha', rfl, e'⟩ | ⟨e', -⟩
    · rw [e'] at E2
      by_cases c : nI a = nI a'
      · rw [if_neg (by rw [e, e', decide_eq_true c]; decide)]
        refine pub_rf (d := d + 2) hc (fun E => en_X11_swap (b_X11_swap_0 (z_pu0V rfl) ⟨hk, _, _, E1, ?_⟩))
        rw [if_neg (show ¬ nI true.toNat = nI 0 by decide)]
        refine ⟨hk, _, _, E2, ?_⟩
        rw [if_neg (show ¬ nI true.toNat = nI 0 by decide), if_pos c]
        exact ⟨hk, _, _, E, Or.inl rfl, rfl⟩
      · rw [if_pos (by rw [e, e', decide_eq_false c]; rfl), nI_clamp (show a < 2 ^ 31 by omega), nI_clamp (show a' < 2 ^ 31 by omega)]
        have hne : a ≠ a' := fun q => c (by rw [q])
        obtain ⟨h1, k', E3, I1, e1, cd1⟩ := e1_swapped (V := vV) (G := G) (d := d) (X := fun _ => False) no_hl hI hL hcdk hok ha ha' hne
        obtain ⟨h4, E4, c4, e4, k4, -, -⟩ := chg (G := G) (d := d) hc h40 I1 e1 cd1 (cok_swap hok ha ha')
        refine pub_mk c4 e4 (fun _ q => cY_cX q) (by decide) (by decide) (en_X11_swap (b_X11_swap_0 (z_pu0V rfl) ⟨hk, _, _, E1, ?_⟩))
        rw [if_neg (show ¬ nI true.toNat = nI 0 by decide)]
        refine ⟨hk, _, _, E2, ?_⟩
        rw [if_neg (show ¬ nI true.toNat = nI 0 by decide), if_neg c, ho, z_rcs]
        refine ⟨hk, c1, _, _, E3, ?_⟩
        rw [z_rcs]
        exact ⟨k4, h4, E4, Or.inr rfl, rfl⟩
    · rw [e'] at E2
      rw [if_neg (by rw [e']; simp)]
      refine pub_rf (d := d + 2) hc (fun E => en_X11_swap (b_X11_swap_0 (z_pu0V rfl) ⟨hk, _, _, E1, ?_⟩))
      rw [if_neg (show ¬ nI true.toNat = nI 0 by decide)]
      refine ⟨hk, _, _, E2, ?_⟩
      rw [if_pos (show nI false.toNat = nI 0 from rfl)]
      exact ⟨hk, _, _, E, Or.inl rfl, rfl⟩
  · rw [e] at E1
    rw [if_neg (by rw [e]; simp)]
    refine pub_rf (d := d + 2) hc (fun E => en_X11_swap (b_X11_swap_0 (z_pu0V rfl) ⟨hk, _, _, E1, ?_⟩))
    rw [if_pos (show nI false.toNat = nI 0 from rfl)]
    exact ⟨hk, _, _, E, Or.inl rfl, rfl⟩
theorem e11_isPlace (x : Int32) : z_Ev G (d + 4) k_X11_isPlace [.int x] h (.inl (some (.int (nI (c_pl x).toNat))), h) := by
  refine en_X11_isPlace (b_X11_isPlace_0 (z_pu0V rfl) ?_)
  unfold c_pl
  by_cases c : x < -(nI 9)
  · rw [if_pos c, decide_eq_false (fun q => q.1 c)]
    exact ⟨Or.inl rfl, rfl⟩
  · rw [if_neg c]
    by_cases c' : nI 9 < x
    · rw [if_pos c', decide_eq_false (fun q => q.2 c')]
      exact ⟨Or.inl rfl, rfl⟩
    · rw [if_neg c', decide_eq_true ⟨c, c'⟩]
      exact ⟨Or.inr rfl, rfl⟩
theorem e11_place (hc : cI L r h σ) (h40 : σ.2.2.1.length ≤ 40) (p x y : Int32) : pubC G (d + 7) k_X11_place L r h [.int p, .int x, .int y] (.inl (some (.int (s_place σ p x y).1))) (s_place σ p x y).2 := by
  obtain ⟨k, q, b, u, v, ⟨hk, ho⟩, ⟨c1, c2, ⟨x1, x2, x3⟩, ⟨x4, x5, x6⟩, hA, hxy⟩, hcdk, hok⟩ := cI_cd hc
  have hI := hc.1.2.2.1
  have hL := hc.1.2.2.2
  obtain ⟨p1, p2, p3, p4, p5, p6, p7, p8⟩ := hc.1.2.1
  obtain ⟨-, -, -, r10, r11, r12, r13, r14, r15, r16⟩ := hc.1.1
  have n8 := y_n8 hA
  have m12 := y_m12 hA
  have E1 := e11_isPoint (G := G) (d := d + 2) hc p
  have E2 := e11_isPlace (G := G) (d := d + 2) (h := h) x
  have E3 := e11_isPlace (G := G) (d := d + 2) (h := h) y
  unfold s_place
  rcases in_cases p (n := σ.2.1.1.1.1) (by omega) with ⟨a, ha, rfl, e⟩ | ⟨e, -⟩
  · rw [e] at E1
    cases ex' : c_pl x
    · rw [ex'] at E2
      rw [if_neg (by simp)]
      refine pub_rf (d := d + 2) hc (fun E => en_X11_place (b_X11_place_0 (z_pu0V rfl) ⟨hk, _, _, E1, ?_⟩))
      rw [if_neg (show ¬ nI true.toNat = nI 0 by decide)]
      refine ⟨_, _, E2, ?_⟩
      rw [if_pos (show nI false.toNat = nI 0 from rfl)]
      exact ⟨hk, _, _, E, Or.inl rfl, rfl⟩
    · rw [ex'] at E2
      cases ey : c_pl y
      · rw [ey] at E3
        rw [if_neg (by simp)]
        refine pub_rf (d := d + 2) hc (fun E => en_X11_place (b_X11_place_0 (z_pu0V rfl) ⟨hk, _, _, E1, ?_⟩))
        rw [if_neg (show ¬ nI true.toNat = nI 0 by decide)]
        refine ⟨_, _, E2, ?_⟩
        rw [if_neg (show ¬ nI true.toNat = nI 0 by decide)]
        refine ⟨_, _, E3, ?_⟩
        rw [if_pos (show nI false.toNat = nI 0 from rfl)]
        exact ⟨hk, _, _, E, Or.inl rfl, rfl⟩
      · rw [ey] at E3
        rw [if_pos (by rw [e]; rfl), nI_clamp (show a < 2 ^ 31 by omega)]
        obtain ⟨h1, k', E4, I1, e1, cd1⟩ := e1_placed (V := vV) (G := G) (d := d + 1) (X := fun _ => False) no_hl hI hL hcdk (p := a) (by omega) x y
        obtain ⟨h4, E5, c4, e4, k4, -, -⟩ := chg (G := G) (d := d) hc h40 I1 e1 cd1 (cok_place hok ha x y)
        refine pub_mk c4 e4 (fun _ q => cY_cX q) (by decide) (by decide) (en_X11_place (b_X11_place_0 (z_pu0V rfl) ⟨hk, _, _, E1, ?_⟩))
        rw [if_neg (show ¬ nI true.toNat = nI 0 by decide)]
        refine ⟨_, _, E2, ?_⟩
        rw [if_neg (show ¬ nI true.toNat = nI 0 by decide)]
        refine ⟨_, _, E3, ?_⟩
        rw [if_neg (show ¬ nI true.toNat = nI 0 by decide), ho, z_rcs]
        refine ⟨hk, c1, _, _, E4, ?_⟩
        rw [z_rcs]
        exact ⟨k4, h4, E5, Or.inr rfl, rfl⟩
  · rw [e] at E1
    rw [if_neg (by rw [e]; simp)]
    refine pub_rf (d := d + 2) hc (fun E => en_X11_place (b_X11_place_0 (z_pu0V rfl) ⟨hk, _, _, E1, ?_⟩))
    rw [if_pos (show nI false.toNat = nI 0 from rfl)]
    exact ⟨hk, _, _, E, Or.inl rfl, rfl⟩
theorem e11_take (hc : cI L r h σ) (h40 : σ.2.2.1.length ≤ 40) (x : Int32) : pubC G (d + 7) k_X11_take L r h [.int x] (.inl (some (.int (s_take σ x).1))) (s_take σ x).2 := by
  have hk := hc.1.1.1
  have hI := hc.1.2.2.1
  obtain ⟨b4, b5, b6⟩ := hc.1.1.2.2.1
  unfold s_take
  rcases in_cases x (n := 4) (by decide) with ⟨a, ha, rfl, e⟩ | ⟨e, c | ⟨c, c'⟩⟩
  · have hsh := hc.2.2.2.2.1 a ha
    rw [if_pos e, nI_clamp (show a < 2 ^ 31 by omega)]
    have vi : vp_in (nI a) (z_ln h (L + 15)) := by rw [b6]; exact vp_in_nI ha (by decide)
    cases hs : σ.2.1.2 a with
    | none =>
      rw [hs] at hsh
      have hsh : z_ar h (L + 15) a = none := hsh
      refine pub_rf (d := d + 2) hc (fun E => en_X11_take (b_X11_take_0 (z_pu0V rfl) ?_))
      rw [if_neg (nI_nlt (Nat.zero_le _) (by omega)), if_pos (nI_lt ha (by decide)), b4, z_rcs, nI_clamp (show a < 2 ^ 31 by omega), hsh, z_rcn]
      exact ⟨hk, Or.inl b5, vi, hk, _, _, E, rfl⟩
    | some cd =>
      rw [hs] at hsh
      obtain ⟨k, k1, k2, k3⟩ := hsh
      obtain ⟨h4, E4, c4, e4, o4⟩ := e11_change (G := G) (d := d) hc h40 k2 k3
      have hX : ∀ a, cY L a → hl L a := fun _ q => cY_hl q
      obtain ⟨q, b, u, v, ⟨w1, w2, -, -, w5, -⟩, -⟩ := cdk_ex hI hX e4 k2
      refine pub_mk c4 e4 (fun _ q => cY_cX q) (by decide) (by decide) (en_X11_take (b_X11_take_0 (z_pu0V rfl) ?_))
      rw [if_neg (nI_nlt (Nat.zero_le _) (by omega)), if_pos (nI_lt ha (by decide)), b4, z_rcs, nI_clamp (show a < 2 ^ 31 by omega), k1, z_rcs, z_rcs, k1, z_rcs]
      refine ⟨hk, Or.inl b5, vi, hk, Or.inl b5, vi, hk, h4, E4, c4.1.1.1, ?_⟩
      rw [o4, z_rcs, w2, z_rcs, y_n w5]
      exact ⟨w1, y_kd w5, rfl⟩
  · rw [if_neg (by rw [e]; decide)]
    refine pub_rf (d := d + 2) hc (fun E => en_X11_take (b_X11_take_0 (z_pu0V rfl) ?_))
    rw [if_pos c]
    exact ⟨hk, _, _, E, rfl⟩
  · rw [if_neg (by rw [e]; decide)]
    refine pub_rf (d := d + 2) hc (fun E => en_X11_take (b_X11_take_0 (z_pu0V rfl) ?_))
    rw [if_neg c, if_neg c']
    exact ⟨hk, _, _, E, rfl⟩
theorem e11_grow (hc : cI L r h σ) (h40 : σ.2.2.1.length ≤ 40) (w : Bool) : pubC G (d + 7) k_X11_grow L r h [.int (nI w.toNat)] (.inl (some (.int (s_grow σ w).1))) (s_grow σ w).2 := by
  obtain ⟨k, q, b, u, v, ⟨hk, ho⟩, ⟨c1, c2, ⟨x1, x2, x3⟩, ⟨x4, x5, x6⟩, hA, hxy⟩, hcdk, hok⟩ := cI_cd hc
  have hI := hc.1.2.2.1
  have hL := hc.1.2.2.2
  obtain ⟨p1, p2, p3, p4, p5, p6, p7, p8⟩ := hc.1.2.1
  obtain ⟨-, -, -, r10, r11, r12, r13, r14, r15, r16⟩ := hc.1.1
  have n8 := y_n8 hA
  have m12 := y_m12 hA
  unfold s_grow
  cases w
  · show pubC G (d + 7) k_X11_grow L r h [.int (nI 0)] (.inl (some (.int (if σ.2.1.1.1.1 = 1 then (mI, sRef σ) else (nI (σ.2.1.1.1.1 - 1), sAct σ (op_less σ.2.1.1, σ.2.1.2))).1))) (if σ.2.1.1.1.1 = 1 then (mI, sRef σ) else (nI (σ.2.1.1.1.1 - 1), sAct σ (op_less σ.2.1.1, σ.2.1.2))).2
    have em : nI σ.2.1.1.1.1 + mI = nI (σ.2.1.1.1.1 - 1) := by
      obtain ⟨m, hm⟩ : ∃ m, σ.2.1.1.1.1 = m + 1 := ⟨σ.2.1.1.1.1 - 1, by omega⟩
      rw [hm, q_pred, Nat.add_sub_cancel]
    by_cases c : σ.2.1.1.1.1 = 1
    · rw [if_pos c]
      refine pub_rf (d := d + 2) hc (fun E => en_X11_grow (b_X11_grow_0 (z_pu0V rfl) ⟨hk, ?_⟩))
      rw [ho, z_rcs, c2, z_rcs, y_n hA]
      refine ⟨c1, y_kd hA, b_X11_grow_10 (z_pu0V rfl) ?_⟩
      rw [if_pos rfl, em]
      refine b_X11_grow_21 (z_pu0V rfl) ?_
      rw [if_pos (nI_lt (by omega) (by decide))]
      exact ⟨hk, _, _, E, rfl⟩
    · rw [if_neg c]
      obtain ⟨h1, k', E3, I1, e1, cd1⟩ := e1_shrunk (V := vV) (G := G) (d := d) (X := fun _ => False) no_hl hI hL hcdk hok (by omega)
      obtain ⟨h4, E4, c4, e4, k4, -, -⟩ := chg (G := G) (d := d) hc h40 I1 e1 cd1 (cok_less hok (by omega))
      refine pub_mk c4 e4 (fun _ q => cY_cX q) (by decide) (by decide) (en_X11_grow (b_X11_grow_0 (z_pu0V rfl) ⟨hk, ?_⟩))
      rw [ho, z_rcs, c2, z_rcs, y_n hA]
      refine ⟨c1, y_kd hA, b_X11_grow_10 (z_pu0V rfl) ?_⟩
      rw [if_pos rfl, em]
      refine b_X11_grow_21 (z_pu0V rfl) ?_
      rw [if_neg (nI_nlt (by omega) (by omega)), if_neg (nI_nlt (by omega) (by decide))]
      refine b_X11_grow_37 (z_pu0V rfl) ?_
      rw [if_pos rfl, ho, z_rcs]
      refine ⟨hk, c1, _, _, E3, ?_⟩
      rw [z_rcs]
      exact ⟨k4, h4, E4, rfl⟩
  · show pubC G (d + 7) k_X11_grow L r h [.int (nI 1)] (.inl (some (.int (if σ.2.1.1.1.1 = 8 then (mI, sRef σ) else (nI (σ.2.1.1.1.1 + 1), sAct σ (op_more σ.2.1.1, σ.2.1.2))).1))) (if σ.2.1.1.1.1 = 8 then (mI, sRef σ) else (nI (σ.2.1.1.1.1 + 1), sAct σ (op_more σ.2.1.1, σ.2.1.2))).2
    have n10 : ¬ nI 1 = nI 0 := by decide
    by_cases c : σ.2.1.1.1.1 = 8
    · rw [if_pos c]
      refine pub_rf (d := d + 2) hc (fun E => en_X11_grow (b_X11_grow_0 (z_pu0V rfl) ⟨hk, ?_⟩))
      rw [ho, z_rcs, c2, z_rcs, y_n hA]
      refine ⟨c1, y_kd hA, b_X11_grow_10 (z_pu0V rfl) ?_⟩
      rw [if_neg n10, nI_add]
      refine b_X11_grow_21 (z_pu0V rfl) ?_
      rw [if_neg (nI_nlt (by omega) (by omega)), if_pos (nI_lt (by omega) (by omega))]
      exact ⟨hk, _, _, E, rfl⟩
    · rw [if_neg c]
      have hcok := cok_more hok (by omega)
      obtain ⟨h2, E2, I2, e2, A2⟩ := e8_withPoints (V := vV) (G := G) (d := d) (X := fun _ => False) hI hL hA (n := σ.2.1.1.1.1 + 1) hcok.1
      have cd2 := cdk_ex hI no_hl e2 hcdk
      obtain ⟨h3, E3, I3, e3, cd3⟩ := e1_with (V := vV) (G := G) (d := d + 1) (X := fun _ => False) no_hl I2 (Nat.le_trans hL e2.1.1) cd2 A2
      have e13 := ex_trans hI I2 no_hl e2 e3
      obtain ⟨h4, E4, c4, e4, k4, -, -⟩ := chg (G := G) (d := d) hc h40 I3 e13 cd3 hcok
      refine pub_mk c4 e4 (fun _ q => cY_cX q) (by decide) (by decide) (en_X11_grow (b_X11_grow_0 (z_pu0V rfl) ⟨hk, ?_⟩))
      rw [ho, z_rcs, c2, z_rcs, y_n hA]
      refine ⟨c1, y_kd hA, b_X11_grow_10 (z_pu0V rfl) ?_⟩
      rw [if_neg n10, nI_add]
      refine b_X11_grow_21 (z_pu0V rfl) ?_
      rw [if_neg (nI_nlt (by omega) (by omega)), if_neg (nI_nlt (by omega) (by decide))]
      refine b_X11_grow_37 (z_pu0V rfl) ?_
      rw [if_neg n10, ho, z_rcs, z_rcs, c2, z_rcs]
      refine ⟨hk, hk, c1, y_kd hA, _, _, E2, ?_⟩
      rw [z_rcs]
      refine ⟨?_, _, _, E3, ?_⟩
      · obtain ⟨_, _, _, _, ⟨w, -⟩, -⟩ := cd2; exact w
      · rw [z_rcs]
        exact ⟨k4, h4, E4, rfl⟩
end C9
