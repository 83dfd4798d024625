/-! THE LISTER: drop, turn, put, undo -/
section C10
variable {G : z_G} {d L r c s : Nat} {h h1 : z_H} {σ : RSt}
theorem e11_drop (hc : cI L r h σ) (h40 : σ.2.2.1.length ≤ 40) (x : Int32) : pubC G (d + 7) k_X11_drop L r h [.int x] (.inl (some (.int (s_drop σ x).1))) (s_drop σ x).2 := by
  obtain ⟨k, q, b, u, v, ⟨hk, ho⟩, ⟨c1, c2, ⟨x1, x2, x3⟩, ⟨x4, x5, x6⟩, hA, hxy⟩, hcdk, hok⟩ := cI_cd hc
  have hI := hc.1.2.2.1
  have hL := hc.1.2.2.2
  obtain ⟨p1, p2, p3, p4, p5, p6, p7, p8⟩ := hc.1.2.1
  obtain ⟨-, -, -, r10, r11, r12, r13, r14, r15, r16⟩ := hc.1.1
  have n8 := y_n8 hA
  have m12 := y_m12 hA
  unfold s_drop
  rcases in_cases x (n := σ.2.1.1.1.2.1) (by omega) with ⟨a, ha, rfl, e⟩ | ⟨e, c | ⟨c, c'⟩⟩
  · rw [if_pos e, nI_clamp (show a < 2 ^ 31 by omega)]
    have hcok := cok_drop hok ha
    have kk := (inv_k hI hA).2.1
    have kk1 := kk.1
    have kk2 := kk.2.1
    have qlt : q < z_n h := by omega
    obtain ⟨R, eR⟩ : ∃ R, R = σ.2.1.1.1.2.2 := ⟨_, rfl⟩
    obtain ⟨m, em⟩ : ∃ m, m = σ.2.1.1.1.2.1 := ⟨_, rfl⟩
    rw [← em] at ha m12
    have Ag : ∀ g, sc_at q b (z_nwi h 1 m g) σ.2.1.1.1 := fun g => ex_sc hI no_hl (nw_k hI m g (fun _ => False)).2 hA
    have rm : ∀ g, z_oi (z_nwi h 1 m g) q 1 = nI m := fun g => (y_m (Ag g)).trans (by rw [em])
    have rl : ∀ g l, l < m → z_ai (z_nwi h 1 m g) (b + 5) l = nI (R l) := fun g l hl => by rw [eR]; exact y_Ln (Ag g) (by omega)
    have rln : ∀ g, z_ln (z_nwi h 1 m g) (b + 5) = m := fun g => (y_row (Ag g)).2.2.trans em.symm
    -- the end: the row at hand
    have fin : ∀ g : Nat → Int32, (∀ i, i < m → g i = nI (if i < a then R i else if i < a + (m - 1 - a) then R (i + 1) else R i)) → ∃ h4, cI L r h4 (sAct σ (op_drop σ.2.1.1 a, σ.2.1.2)) ∧ ex (cY L) (1 + 9 + 1 + 1) (m + 144 + 3 + 3) h h4 ∧ z_J G (d + 7) (m_X11_drop z_pu0) (.inl (some (.int (nI (R a)))), h4) 47 [some (.ref L), none, some (.ref q), some (.int (nI (R a))), some (.ref (z_n h)), some (.int (nI (a + (m - 1 - a))))] [] (z_nwi h 1 m g) := fun g hg => by
      obtain ⟨I1, e1⟩ := nw_k hI m g (fun _ => False)
      have cc1 := cI_no hc I1 e1
      have A1 := ex_sc hI no_hl e1 hA
      have cd1 := cdk_ex hI no_hl e1 hcdk
      have rm1 := rm g
      obtain ⟨h1, eh1⟩ : ∃ h1, h1 = z_nwi h 1 m g := ⟨_, rfl⟩
      have n1 : z_n h1 = z_n h + 1 := by rw [eh1]; rfl
      have k1 : z_kd h1 (z_n h) = 1 ∧ z_ln h1 (z_n h) = m ∧ z_ai h1 (z_n h) = g := by rw [eh1]; exact ⟨nwi_kd _ _ _ _, nwi_ln _ _ _ _, nwi_ai _ _ _ _⟩
      have o1 : z_or h1 L 3 = some k := by rw [eh1]; exact ho
      rw [← eh1] at I1 e1 A1 cc1 cd1 rm1 ⊢
      have hL1 : L + 75 ≤ z_n h1 := by omega
      have em1 : (op_drop σ.2.1.1 a).1.2.1 = m - 1 := by rw [em]; rfl
      obtain ⟨h2, E2, I2, e2, A2, -⟩ := mk_sc (V := vV) (G := G) (d := d + 1) (X := fun _ => False) (S := (op_drop σ.2.1.1 a).1) I1 hL1 hcok.1 (a := z_n h) (La := m) (by omega) k1.1 k1.2.1 (by omega) (by rw [em1]; omega) (fun l hl => by
        rw [em1] at hl
        rw [k1.2.2, hg l (by omega)]
        show _ = nI (if l < a then σ.2.1.1.1.2.2 l else if l + 1 < σ.2.1.1.1.2.1 then σ.2.1.1.1.2.2 (l + 1) else 0)
        rw [← eR, ← em]
        by_cases c1 : l < a
        · rw [if_pos c1, if_pos c1]
        · rw [if_neg c1, if_neg c1, if_pos (by omega), if_pos (by omega)])
      have cd2 := cdk_ex I1 no_hl e2 cd1
      obtain ⟨h3, E3, I3, e3, cd3⟩ := e1_with (V := vV) (G := G) (d := d + 1) (X := fun _ => False) no_hl I2 (Nat.le_trans hL1 e2.1.1) cd2 A2
      have e13 := ex_trans hI I2 no_hl (ex_trans hI I1 no_hl e1 e2) e3
      obtain ⟨h4, E4, c4, e4, k4, -, e34⟩ := chg (G := G) (d := d) hc h40 I3 e13 cd3 hcok
      refine ⟨h4, c4, e4, b_X11_drop_47 (z_pu0V rfl) ⟨y_kd A1, ?_⟩⟩
      have qlt1 : q < z_n h1 := by omega
      obtain ⟨w1, w2, w3⟩ := nwo_old (ci := 8) (N := 15) qlt1
      rw [rm1, nI_add, if_neg (nI_nlt (by omega) (by omega)), o1, z_rcs, w1, w2, y_n A1, rm1, n_sub (by omega)]
      rw [em1] at E2
      refine ⟨cc1.1.1.1, y_kd A1, y_kd A1, h2, E2, ?_, _, _, E3, ?_⟩
      · obtain ⟨_, _, _, _, ⟨w, -⟩, -⟩ := cd2; exact w
      · rw [z_rcs]
        exact ⟨k4, h4, E4, rfl⟩
    obtain ⟨h4, c4, e4, J4⟩ := fin (it (fun l g => z_u g (a + l) (nI (R (a + l + 1)))) (z_ai h (b + 5)) (m - 1 - a)) (by
      have key : ∀ t, t ≤ m - 1 - a → ∀ i, i < m → it (fun l g => z_u g (a + l) (nI (R (a + l + 1)))) (z_ai h (b + 5)) t i = nI (if i < a then R i else if i < a + t then R (i + 1) else R i) := by
        intro t
        induction t with
        | zero =>
          intro _ i hi
          show z_ai h (b + 5) i = _
          rw [y_Ln hA (by omega), ← eR]
          by_cases c : i < a
          · rw [if_pos c]
          · rw [if_neg c, if_neg (by omega)]
        | succ t ih =>
          intro ht i hi
          rw [it_s]
          by_cases c : i = a + t
          · rw [c, u_eq, if_neg (by omega), if_pos (by omega)]
          · rw [u_ne _ _ c, ih (by omega) i hi]
            by_cases c1 : i < a
            · rw [if_pos c1, if_pos c1]
            · rw [if_neg c1, if_neg c1]
              by_cases c2 : i < a + t
              · rw [if_pos c2, if_pos (by omega)]
              · rw [if_neg c2, if_neg (by omega)]
      exact key _ (Nat.le_refl _))
    refine pub_mk c4 e4 (fun _ q => cY_cX q) (by decide) (by omega) (en_X11_drop (b_X11_drop_0 (z_pu0V rfl) ⟨hk, ?_⟩))
    rw [ho, z_rcs, c2, z_rcs]
    refine ⟨c1, ?_⟩
    have rk := (y_row hA).2.1
    have rn : z_ln h (b + 5) = m := by rw [em]; exact (y_row hA).2.2
    have ra : z_ai h (b + 5) a = nI (R a) := by rw [eR]; exact y_Ln hA (by omega)
    have rm0 : z_oi h q 1 = nI m := by rw [em]; exact y_m hA
    rw [if_neg (nI_nlt (Nat.zero_le _) (by omega)), rm0, if_pos (nI_lt ha (by omega)), (y_row hA).1, z_rcs, z_rcs, rn, nI_clamp (show a < 2 ^ 31 by omega), ra, ← eR]
    refine ⟨y_kd hA, y_kd hA, rk, vp_in_nI ha (by omega), y_kd hA, rk, nwi_kd _ _ _ _, ?_⟩
    refine z_forI (fun l g => [some (.ref L), none, some (.ref q), some (.int (nI (R a))), some (.ref (z_n h)), some (.int (nI (a + l)))]) (fun l g => z_nwi h 1 m g) (fun _ _ => True) (fun l g => z_u g (a + l) (nI (R (a + l + 1)))) (z_ai h (b + 5)) (m - 1 - a) trivial (fun l g hl _ => ⟨trivial, fun hJ => b_X11_drop_47 (z_pu0V rfl) ⟨y_kd (Ag g), ?_⟩⟩) (fun _ => J4)
    rw [rm g, nI_add, if_pos (nI_lt (by omega) (by omega)), (y_row (Ag g)).1, z_rcs, rln g, nI_clamp (show a + l + 1 < 2 ^ 31 by omega), nI_clamp (show a + l < 2 ^ 31 by omega), nwi_pai, rl g _ (by omega)]
    exact ⟨y_kd (Ag g), (y_row (Ag g)).2.1, vp_in_nI (by omega) (by omega), nwi_kd _ _ _ _, by rw [nwi_ln]; exact vp_in_nI (by omega) (by omega), hJ⟩
  · rw [if_neg (by rw [e]; decide)]
    refine pub_rf (d := d + 2) hc (fun E => en_X11_drop (b_X11_drop_0 (z_pu0V rfl) ⟨hk, ?_⟩))
    rw [ho, z_rcs, c2, z_rcs, if_pos c]
    exact ⟨c1, hk, _, _, E, rfl⟩
  · rw [if_neg (by rw [e]; decide)]
    refine pub_rf (d := d + 2) hc (fun E => en_X11_drop (b_X11_drop_0 (z_pu0V rfl) ⟨hk, ?_⟩))
    rw [ho, z_rcs, c2, z_rcs, if_neg c, y_m hA, if_neg c']
    exact ⟨c1, y_kd hA, hk, _, _, E, rfl⟩
theorem e11_turn (hc : cI L r h σ) (h40 : σ.2.2.1.length ≤ 40) : pubC G (d + 8) k_X11_turn L r h [] (.inl (some (.int (s_turn σ).1))) (s_turn σ).2 := by
  obtain ⟨k, q, b, u, v, ⟨hk, ho⟩, ⟨c1, c2, ⟨x1, x2, x3⟩, ⟨x4, x5, x6⟩, hA, hxy⟩, hcdk, hok⟩ := cI_cd hc
  have hI := hc.1.2.2.1
  have hL := hc.1.2.2.2
  obtain ⟨p1, p2, p3, p4, p5, p6, p7, p8⟩ := hc.1.2.1
  obtain ⟨-, -, -, r10, r11, r12, r13, r14, r15, r16⟩ := hc.1.1
  have n8 := y_n8 hA
  have m12 := y_m12 hA
  obtain ⟨h1, I1, e1, E0, E1⟩ := e8_turned (G := G) (d := d) (X := fun _ => False) (fun _ f => f.elim) hI hL hA
  have cc1 := cI_no hc I1 e1
  have hL1 := cc1.1.2.2.2
  unfold s_turn
  cases ht : c_td σ.2.1.1.1 with
  | none =>
    obtain ⟨E, c', e⟩ := e11_refuse (G := G) (d := d + 3) cc1
    have e2 := ex_trans hI I1 (fun _ q => cY_hl q) (ex_X e1 (fun _ f => f.elim)) e
    refine pub_mk c' e2 (fun _ q => cY_cX q) (by decide) (by decide) (en_X11_turn (b_X11_turn_0 (z_pu0V rfl) ⟨hk, ?_⟩))
    rw [ho, z_rcs, c2, z_rcs]
    refine ⟨c1, y_kd hA, none, h1, E0 ht, ?_⟩
    rw [z_rcn]
    exact ⟨cc1.1.1.1, _, _, E, rfl⟩
  | some t =>
    obtain ⟨q', b', Et, A'⟩ := E1 t ht
    obtain ⟨Ia, ea, fa, ka⟩ := nwo_k (ci := 1) (N := 3) I1 hL1 (by decide) (fun _ => False)
    have hLa : L + 75 ≤ z_n (z_nwo h1 1 3) := Nat.le_trans hL1 ea.1.1
    obtain ⟨Ib, eb⟩ := nw_k Ia 8 (fun _ => 0) (fun _ => False)
    have fb := nw_fr Ia hLa 8 (fun _ => 0)
    have hLb := Nat.le_trans hLa eb.1.1
    obtain ⟨Ic, ec⟩ := nw_k Ib 8 (fun _ => 0) (fun _ => False)
    have fc := nw_fr Ib hLb 8 (fun _ => 0)
    have fab := ex_fr Ia no_hl eb fa
    have fac := ex_fr Ib no_hl ec fab.1
    have fbc := ex_fr Ib no_hl ec fb
    have Ac := ex_sc Ib no_hl ec (ex_sc Ia no_hl eb (ex_sc I1 no_hl ea A'))
    have e0c := ex_trans I1 Ib no_hl (ex_trans I1 Ia no_hl ea eb) ec
    obtain ⟨g, eg⟩ : ∃ g, g = z_nwi (z_nwi (z_nwo h1 1 3) 1 8 (fun _ => 0)) 1 8 (fun _ => 0) := ⟨_, rfl⟩
    have kc : z_kd g (z_n h1) = 17 := by rw [eg, fac.2.1, fab.2.1]; exact ka
    have ku : (z_kd g (z_n h1 + 1) = 1 ∧ z_ln g (z_n h1 + 1) = 8) ∧ z_ai g (z_n h1 + 1) = fun _ => 0 := by
      rw [eg]
      exact ⟨⟨fbc.2.1.trans (nwi_kd _ _ _ _), fbc.2.2.1.trans (nwi_ln _ _ _ _)⟩, fbc.2.2.2.2.2.1.trans (nwi_ai _ _ _ _)⟩
    have kv : (z_kd g (z_n h1 + 2) = 1 ∧ z_ln g (z_n h1 + 2) = 8) ∧ z_ai g (z_n h1 + 2) = fun _ => 0 := by
      rw [eg]
      exact ⟨⟨nwi_kd _ _ _ _, nwi_ln _ _ _ _⟩, nwi_ai _ _ _ _⟩
    have fcc : fr L g (z_n h1) := by rw [eg]; exact fac.1
    have fcu : fr L g (z_n h1 + 1) := by rw [eg]; exact fbc.1
    have fcv : fr L g (z_n h1 + 2) := by rw [eg]; exact fc
    rw [← eg] at Ic Ac e0c
    obtain ⟨I2, cd2⟩ := crd_k (V := vV) (cd := op_turn σ.2.1.1 t) (u := z_n h1 + 1) (v := z_n h1 + 2) Ic kc fcc fcu fcv ku.1 kv.1 Ac (fun p _ => ⟨by rw [ku.2]; rfl, by rw [kv.2]; rfl⟩)
    have e02 := crd_ex (q := q') (u := z_n h1 + 1) (v := z_n h1 + 2) e0c (Nat.le_refl _)
    have e2 := ex_trans hI I1 no_hl e1 e02
    obtain ⟨h4, E4, c4, e4, k4, -, e34⟩ := chg (G := G) (d := d + 1) hc h40 I2 e2 cd2 (cok_turn hok ht)
    have A4 := ex_sc I2 (fun _ q => cY_hl q) e34 (ex_sc I1 no_hl e02 A')
    refine pub_mk c4 e4 (fun _ q => cY_cX q) (by decide) (by decide) (en_X11_turn (b_X11_turn_0 (z_pu0V rfl) ⟨hk, ?_⟩))
    rw [ho, z_rcs, c2, z_rcs]
    refine ⟨c1, y_kd hA, some q', h1, Et, ?_⟩
    rw [z_rcs]
    refine ⟨by decide, by decide, by decide, by decide, crd g (z_n h1) q' (z_n h1 + 1) (z_n h1 + 2), ?_, k4, h4, E4, y_kd A4, ?_⟩
    · have := e1_init (G := G) (d := d + 3) (q := q') (u := z_n h1 + 1) (v := z_n h1 + 2) kc
      rw [eg] at this ⊢
      exact this
    · rw [y_m A4]
      rfl
theorem e11_putS (hc : cI L r h σ) (h40 : σ.2.2.1.length ≤ 40) {a : Nat} (ha : a < 4) : cI L r (z_par (rem L h (nI a) (z_ar h (L + 15) a)) (L + 15) a (z_or h L 3)) (sAct σ (σ.2.1.1, z_u σ.2.1.2 a (some σ.2.1.1))) ∧ ex (cY L) 1 3 h (z_par (rem L h (nI a) (z_ar h (L + 15) a)) (L + 15) a (z_or h L 3)) := by
  obtain ⟨hb, hT⟩ := hc
  obtain ⟨t1, t2, t3, t4, t5, t6, t7, t8⟩ := hT
  obtain ⟨b1, e1, ⟨f1, f2, f3, f4, f5⟩, v1, v2, v3, v4⟩ := rem_ok hb (nI a) (z_ar h (L + 15) a)
  obtain ⟨g, eg⟩ : ∃ g, g = rem L h (nI a) (z_ar h (L + 15) a) := ⟨_, rfl⟩
  rw [← eg] at b1 e1 f1 f2 f3 f4 f5 v1 v2 v3 v4 ⊢
  obtain ⟨b2, e2⟩ := bs_par b1 a (z_or h L 3)
  have e12 := exY_t hb b1 e1 e2
  have hI := hb.2.2.1
  have hX : ∀ a, cY L a → hl L a := fun _ q => cY_hl q
  obtain ⟨fa1, fa2, -, fa4, fa5, -⟩ := ex_fr b1.2.2.1 hX e2 f1
  have fa5 := fa5 (by rw [f2]; decide)
  refine ⟨⟨b2, ?_⟩, e12⟩
  show sV L (z_par g (L + 15) a (z_or h L 3)) (z_oi g L) (z_or g L) (z_ai g (L + 1)) (z_u (z_ar g) (L + 15) (z_u (z_ar g (L + 15)) a (z_or h L 3)) (L + 15)) _
  rw [u_eq, v1, v2, v3, v4]
  have t3' := oc_ex hI hX e12 t3
  refine ⟨⟨(u_ne _ _ (by decide)).trans t1.1, t1.2⟩, (u_ne _ _ (by decide)).trans t2, ?_, fun s hs => ?_, ?_, ?_, ⟨(u_ne _ _ (by decide)).trans t7.1, (u_ne _ _ (by decide)).trans t7.2⟩, ?_⟩
  · rw [u_ne _ _ (by decide)]; exact t3'
  · show oc L _ _ (z_u σ.2.1.2 a (some σ.2.1.1) s)
    by_cases c : s = a
    · rw [c, u_eq, u_eq]; exact t3'
    · rw [u_ne _ _ c, u_ne _ _ c]; exact oc_ex hI hX e12 (t4 s hs)
  · rw [u_eq]
    refine acR_take 0 40 _ _ _ ⟨z_n h, rfl, fa1, by rw [fa2]; exact f2, Or.inr ⟨a, ha, by rw [fa4]; exact f3, ?_, ?_⟩, ?_⟩
    · rw [fa5, f5]; exact oc_ex hI hX e12 (t4 a ha)
    · show σ.2.1 = (σ.2.1.1, z_u (z_u σ.2.1.2 a (some σ.2.1.1)) a (σ.2.1.2 a))
      rw [u_u, u_self]
    · rw [fa5, f4]; exact acR_ex hI hX e12 _ _ _ t5
  · rw [u_eq, t6]
    exact kmin_e h40 rfl
  · rw [u_ne _ _ (by decide)]
    exact imR_ex hI hX e12 t8
theorem e11_put (hc : cI L r h σ) (h40 : σ.2.2.1.length ≤ 40) (x : Int32) : pubC G (d + 7) k_X11_put L r h [.int x] (.inl (some (.int (s_put σ x).1))) (s_put σ x).2 := by
  have hk := hc.1.1.1
  obtain ⟨b4, b5, b6⟩ := hc.1.1.2.2.1
  unfold s_put
  rcases in_cases x (n := 4) (by decide) with ⟨a, ha, rfl, e⟩ | ⟨e, c | ⟨c, c'⟩⟩
  · rw [if_pos e, nI_clamp (show a < 2 ^ 31 by omega)]
    obtain ⟨c', e'⟩ := e11_putS hc h40 ha
    have E := e11_remember (G := G) (d := d + 1) hc.1 (nI a) (z_ar h (L + 15) a)
    obtain ⟨b1, e1, -, v1, v2, v3, v4⟩ := rem_ok hc.1 (nI a) (z_ar h (L + 15) a)
    obtain ⟨k, q, b, u, v, ⟨-, ho⟩, ⟨w1, -⟩, hcdk, -⟩ := cI_cd hc
    have hsh := hc.2.2.2.2.1 a ha
    have vi : vp_in (nI a) (z_ln h (L + 15)) := by rw [b6]; exact vp_in_nI ha (by decide)
    obtain ⟨g, eg⟩ : ∃ g, g = rem L h (nI a) (z_ar h (L + 15) a) := ⟨_, rfl⟩
    rw [← eg] at E b1 e1 v1 v2 v3 v4 c' e'
    have o3 : z_or g L 3 = some k := by rw [v2, u_ne _ _ (by decide)]; exact ho
    obtain ⟨b4', b5', b6'⟩ := b1.1.2.2.1
    have vi' : vp_in (nI a) (z_ln g (L + 15)) := by rw [b6']; exact vp_in_nI ha (by decide)
    have kg : z_kd g k = 17 := by
      obtain ⟨_, _, _, _, ⟨w, -⟩, -⟩ := cdk_ex hc.1.2.2.1 (fun _ q => cY_hl q) e1 hcdk
      exact w
    refine pub_mk c' e' (fun _ q => cY_cX q) (by decide) (by decide) (en_X11_put (b_X11_put_0 (z_pu0V rfl) ?_))
    rw [if_neg (nI_nlt (Nat.zero_le _) (by omega)), if_pos (nI_lt ha (by decide)), b4, z_rcs, nI_clamp (show a < 2 ^ 31 by omega), ho]
    cases hs : σ.2.1.2 a with
    | none =>
      rw [hs] at hsh
      have hsh : z_ar h (L + 15) a = none := hsh
      rw [hsh] at E
      rw [hsh, z_rcn, z_rcs, hsh, z_rcn]
      refine ⟨hk, Or.inl b5, vi, hk, Or.inl b5, vi, hk, g, E, b1.1.1, ?_⟩
      rw [b4', z_rcs, o3, z_rcs]
      exact ⟨b1.1.1, Or.inl ⟨b5', kg⟩, vi', rfl⟩
    | some cd =>
      rw [hs] at hsh
      obtain ⟨k2, k21, k22, k23⟩ := hsh
      rw [k21] at E
      rw [k21, z_rcs, z_rcs, k21, z_rcs]
      refine ⟨hk, Or.inl b5, vi, hk, Or.inl b5, vi, hk, g, E, b1.1.1, ?_⟩
      rw [b4', z_rcs, o3, z_rcs]
      exact ⟨b1.1.1, Or.inl ⟨b5', kg⟩, vi', rfl⟩
  · rw [if_neg (by rw [e]; decide)]
    refine pub_rf (d := d + 2) hc (fun E => en_X11_put (b_X11_put_0 (z_pu0V rfl) ?_))
    rw [if_pos c]
    exact ⟨hk, _, _, E, rfl⟩
  · rw [if_neg (by rw [e]; decide)]
    refine pub_rf (d := d + 2) hc (fun E => en_X11_put (b_X11_put_0 (z_pu0V rfl) ?_))
    rw [if_neg c, if_neg c']
    exact ⟨hk, _, _, E, rfl⟩
end C10
