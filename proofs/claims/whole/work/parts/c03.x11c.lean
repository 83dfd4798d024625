/-! THE LISTER: its questions -/
section C3
variable {G : z_G} {d L r c s : Nat} {h h' : z_H} {σ : RSt} {X : Nat → Prop}
theorem cI_mt (hc : cI L r h σ) (hI' : inv vV L h') (e : ex (mX L) c s h h') (hm : mtk uU L h') : cI L r h' σ :=
  cI_hlp hc hI' e (fun a ha => by unfold mX at ha; omega) (hps_ex hc.1.2.2.1 hc.1.2.2.2 e (fun a ha => mX_hl ha) hc.1.2.1 (Or.inl (fun a _ _ q => by unfold mX at q; omega)) (Or.inr hm) (Or.inl ⟨rfl, fun a m q => by unfold mX at q; unfold lX at m; omega⟩) (Or.inl (fun a m q => by unfold mX at q; unfold dX at m; omega)) (Or.inl (fun a m q => by unfold mX at q; unfold pX at m; omega)) (Or.inl (fun a _ _ q => by unfold mX at q; omega)))
theorem cI_ls {r' : Nat} (hc : cI L r h σ) (hI' : inv vV L h') (e : ex (lX L) c s h h') (hm : lk L h' ∧ lst Nn Wn L r' h') : cI L r' h' σ :=
  cI_hlp hc hI' e (fun a ha => by unfold lX at ha; omega) (hps_ex hc.1.2.2.1 hc.1.2.2.2 e (fun a ha => lX_hl ha) hc.1.2.1 (Or.inl (fun a _ _ q => by unfold lX at q; omega)) (Or.inl (fun a m q => by unfold mX at m; unfold lX at q; omega)) (Or.inr hm) (Or.inl (fun a m q => by unfold lX at q; unfold dX at m; omega)) (Or.inl (fun a m q => by unfold lX at q; unfold pX at m; omega)) (Or.inl (fun a _ _ q => by unfold lX at q; omega)))
theorem cI_dr (hc : cI L r h σ) (hI' : inv vV L h') (e : ex (dX L) c s h h') (hm : dk L h') : cI L r h' σ :=
  cI_hlp hc hI' e (fun a ha => by unfold dX at ha; omega) (hps_ex hc.1.2.2.1 hc.1.2.2.2 e (fun a ha => by unfold dX at ha; unfold hl; omega) hc.1.2.1 (Or.inl (fun a _ _ q => by unfold dX at q; omega)) (Or.inl (fun a m q => by unfold mX at m; unfold dX at q; omega)) (Or.inl ⟨rfl, fun a m q => by unfold dX at q; unfold lX at m; omega⟩) (Or.inr hm) (Or.inl (fun a m q => by unfold dX at q; unfold pX at m; omega)) (Or.inl (fun a _ _ q => by unfold dX at q; omega)))
theorem cI_pl (hc : cI L r h σ) (hI' : inv vV L h') (e : ex (pX L) c s h h') (hm : psk L h') : cI L r h' σ :=
  cI_hlp hc hI' e (fun a ha => by unfold pX at ha; omega) (hps_ex hc.1.2.2.1 hc.1.2.2.2 e (fun a ha => by unfold pX at ha; unfold hl; omega) hc.1.2.1 (Or.inl (fun a _ _ q => by unfold pX at q; omega)) (Or.inl (fun a m q => by unfold mX at m; unfold pX at q; omega)) (Or.inl ⟨rfl, fun a m q => by unfold pX at q; unfold lX at m; omega⟩) (Or.inl (fun a m q => by unfold pX at q; unfold dX at m; omega)) (Or.inr hm) (Or.inl (fun a _ _ q => by unfold pX at q; omega)))
theorem cI_st (hc : cI L r h σ) (hI' : inv vV L h') (e : ex (fun a => a = L + 45) c s h h') : cI L r h' σ :=
  cI_hlp hc hI' e (fun a ha => by omega) (hps_ex hc.1.2.2.1 hc.1.2.2.2 e (fun a ha => by unfold hl; omega) hc.1.2.1 (Or.inl (fun a _ _ q => by omega)) (Or.inl (fun a m q => by unfold mX at m; omega)) (Or.inl ⟨rfl, fun a m q => by unfold lX at m; omega⟩) (Or.inl (fun a m q => by unfold dX at m; omega)) (Or.inl (fun a m q => by unfold pX at m; omega)) (Or.inl (fun a _ _ q => by omega)))
theorem cI_ys (hc : cI L r h σ) (hI' : inv vV L h') (e : ex (fun a => L + 46 ≤ a ∧ a < L + 48) c s h h') (hm : ysh (L + 46) h') : cI L r h' σ :=
  cI_hlp hc hI' e (fun a ha => by omega) (hps_ex hc.1.2.2.1 hc.1.2.2.2 e (fun a ha => by unfold hl; omega) hc.1.2.1 (Or.inl (fun a _ _ q => by omega)) (Or.inl (fun a m q => by unfold mX at m; omega)) (Or.inl ⟨rfl, fun a m q => by unfold lX at m; omega⟩) (Or.inl (fun a m q => by unfold dX at m; omega)) (Or.inl (fun a m q => by unfold pX at m; omega)) (Or.inr hm))
/-- nothing of the lister's is written -/
theorem cI_no (hc : cI L r h σ) (hI' : inv vV L h') (e : ex (fun _ => False) c s h h') : cI L r h' σ := cI_ref hc hI' e (fun _ f => f.elim)
theorem pub_mk {κ : z_Key} {As : List Value} {o : Option Value ⊕ String} {σ' : RSt} (hc : cI L r h' σ') (e : ex X c s h h') (hX : ∀ a, X a → cX L a) (hcc : c ≤ 40) (hs : s ≤ 800) (hE : z_Ev G d κ (.ref L :: As) h (o, h')) : pubC G d κ L r h As o σ' := by
  have e1 := e.1
  exact ⟨h', r, hc, ⟨Nat.le_refl _, by omega, by omega⟩, ex_X ⟨⟨e1.1, by omega, by omega⟩, e.2⟩ hX, hE⟩
theorem pub_id {κ : z_Key} {As : List Value} {o : Option Value ⊕ String} (hc : cI L r h σ) (hE : z_Ev G d κ (.ref L :: As) h (o, h)) : pubC G d κ L r h As o σ := pub_mk hc (ex_refl (X := fun _ => False) h) (fun _ f => f.elim) (by decide) (by decide) hE
theorem ans_0 {x1 x2 : String} {v : Option Value} : ans x1 x2 v (nI 0) = .inl v := rfl
theorem ans_1 {x1 x2 : String} {v : Option Value} : ans x1 x2 v (nI 1) = .inr x1 := rfl
theorem ans_2 {x1 x2 : String} {v : Option Value} : ans x1 x2 v (nI 2) = .inr x2 := rfl
theorem in_cases (v : Int32) {n : Nat} (hn : n < 2 ^ 31) : (∃ a, a < n ∧ v = nI a ∧ c_in v n = true) ∨ (c_in v n = false ∧ (v < nI 0 ∨ (¬ v < nI 0 ∧ ¬ v < nI n))) := by
  cases e : c_in v n
  · refine Or.inr ⟨rfl, ?_⟩
    by_cases c : v < nI 0
    · exact Or.inl c
    · refine Or.inr ⟨c, fun q => ?_⟩
      obtain ⟨j, hj, rfl⟩ := nI_of c
      have : j < n := (nI_ltI hj hn).mp q
      have : c_in (nI j) n = true := decide_eq_true ⟨c, by rw [nI_clamp hj]; exact this⟩
      rw [this] at e
      cases e
  · obtain ⟨a, a1, a2, a3⟩ := c_in_t e
    exact Or.inl ⟨a, a1, a3, rfl⟩
theorem cI_cd (hc : cI L r h σ) : ∃ k q b u v, (z_kd h L = 27 ∧ z_or h L 3 = some k) ∧ cd_at k q b u v h σ.2.1.1 ∧ cdk L h k σ.2.1.1 ∧ c_cok σ.2.1.1 := by
  obtain ⟨k, k1, k2, k3⟩ := hc.2.2.2.1
  have k2' := k2
  obtain ⟨q, b, u, v, hC, _⟩ := k2'
  exact ⟨k, q, b, u, v, ⟨hc.1.1.1, k1⟩, hC, k2, k3⟩
theorem e11_isPoint (hc : cI L r h σ) (x : Int32) : z_Ev G (d + 4) k_X11_isPoint [.ref L, .int x] h (.inl (some (.int (nI (c_in x σ.2.1.1.1.1).toNat))), h) := by
  obtain ⟨k, q, b, u, v, ⟨hk, ho⟩, ⟨c1, c2, -, -, hA, -⟩, -, -⟩ := cI_cd hc
  have n8 := y_n8 hA
  refine en_X11_isPoint (b_X11_isPoint_0 (z_pu0V rfl) ?_)
  rcases in_cases x (n := σ.2.1.1.1.1) (by omega) with ⟨a, ha, rfl, e⟩ | ⟨e, c | ⟨c, c'⟩⟩
  · rw [e, if_neg (nI_nlt (Nat.zero_le _) (by omega)), ho, z_rcs, c2, z_rcs, y_n hA, if_pos (nI_lt ha (by omega))]
    exact ⟨hk, c1, y_kd hA, Or.inr rfl, rfl⟩
  · rw [e, if_pos c]
    exact ⟨Or.inl rfl, rfl⟩
  · rw [e, if_neg c, ho, z_rcs, c2, z_rcs, y_n hA, if_neg c']
    exact ⟨hk, c1, y_kd hA, Or.inl rfl, rfl⟩
theorem e11_needPoint (hc : cI L r h σ) (x : Int32) : (c_in x σ.2.1.1.1.1 = true → z_Ev G (d + 5) k_X11_needPoint [.ref L, .int x] h (.inl none, h)) ∧ (c_in x σ.2.1.1.1.1 = false → z_Ev G (d + 5) k_X11_needPoint [.ref L, .int x] h (.inr z_NSE, h)) := by
  have hk := hc.1.1.1
  have hp := e11_isPoint (G := G) (d := d) hc x
  constructor
  · intro e
    rw [e] at hp
    exact en_X11_needPoint (b_X11_needPoint_0 (z_pu0V rfl) ⟨hk, _, _, hp, rfl⟩)
  · intro e
    rw [e] at hp
    exact en_X11_needPoint (b_X11_needPoint_0 (z_pu0V rfl) ⟨hk, _, _, hp, rfl⟩)
theorem e11_needLine (hc : cI L r h σ) (x : Int32) : (c_in x σ.2.1.1.1.2.1 = true → z_Ev G (d + 5) k_X11_needLine [.ref L, .int x] h (.inl none, h)) ∧ (c_in x σ.2.1.1.1.2.1 = false → z_Ev G (d + 5) k_X11_needLine [.ref L, .int x] h (.inr z_NSE, h)) := by
  obtain ⟨k, q, b, u, v, ⟨hk, ho⟩, ⟨c1, c2, -, -, hA, -⟩, -, -⟩ := cI_cd hc
  have n8 := y_m12 hA
  constructor
  · intro e
    rcases in_cases x (n := σ.2.1.1.1.2.1) (by omega) with ⟨a, ha, rfl, e'⟩ | ⟨e', c | ⟨c, c'⟩⟩
    · refine en_X11_needLine (b_X11_needLine_0 (z_pu0V rfl) ?_)
      rw [if_neg (nI_nlt (Nat.zero_le _) (by omega)), ho, z_rcs, c2, z_rcs, y_m hA, if_pos (nI_lt ha (by omega))]
      exact ⟨hk, c1, y_kd hA, rfl⟩
    · rw [e] at e'; cases e'
    · rw [e] at e'; cases e'
  · intro e
    rcases in_cases x (n := σ.2.1.1.1.2.1) (by omega) with ⟨a, ha, rfl, e'⟩ | ⟨e', c | ⟨c, c'⟩⟩
    · rw [e] at e'; cases e'
    · refine en_X11_needLine (b_X11_needLine_0 (z_pu0V rfl) ?_)
      rw [if_pos c]; rfl
    · refine en_X11_needLine (b_X11_needLine_0 (z_pu0V rfl) ?_)
      rw [if_neg c, ho, z_rcs, c2, z_rcs, y_m hA, if_neg c']
      exact ⟨hk, c1, y_kd hA, rfl⟩
theorem e11_needUnlike (x y : Int32) : (¬ x = y → z_Ev G (d + 4) k_X11_needUnlike [.int x, .int y] h (.inl none, h)) ∧ (x = y → z_Ev G (d + 4) k_X11_needUnlike [.int x, .int y] h (.inr z_IAE, h)) := by
  constructor
  · intro c
    refine en_X11_needUnlike (b_X11_needUnlike_0 (z_pu0V rfl) ?_)
    rw [if_neg c]
  · intro c
    refine en_X11_needUnlike (b_X11_needUnlike_0 (z_pu0V rfl) ?_)
    rw [if_pos c]; rfl
theorem e11_fault (hc : cI L r h σ) : pubC G (d + 4) k_X11_fault L r h [] (.inl (some (.int σ.1.2.2))) σ := by
  refine pub_id hc (en_X11_fault (b_X11_fault_0 (z_pu0V rfl) ⟨hc.1.1.1, ?_⟩))
  rw [hc.2.2.1]
theorem e11_line (hc : cI L r h σ) (x : Int32) : pubC G (d + 6) k_X11_line L r h [.int x] (ans z_NSE z_IAE (some (.int (c_line σ.2.1.1.1 x).1)) (c_line σ.2.1.1.1 x).2) σ := by
  obtain ⟨k, q, b, u, v, ⟨hk, ho⟩, ⟨c1, c2, -, -, hA, -⟩, -, -⟩ := cI_cd hc
  have n8 := y_m12 hA
  refine pub_id hc (en_X11_line (b_X11_line_0 (z_pu0V rfl) ⟨hk, ?_⟩))
  have hN := e11_needLine (G := G) (d := d) hc x
  unfold c_line
  rcases in_cases x (n := σ.2.1.1.1.2.1) (by omega) with ⟨a, ha, rfl, e⟩ | ⟨e, -⟩
  · rw [if_pos e]
    refine Or.inl ⟨_, hN.1 e, hk, ?_⟩
    simp (disch := omega) only [l0, l1, l2, l3, l4, l5, l6, l7, l8, l9, l10, l11, l12, l13, l14, l15, l16, l18, l20, l22, l24, l30, l31, l39, l40, l48, l60, l154, l255, l256, l400, l2000, l6160, l14000, lm1, q_lt, q_le, q_eq, q_mI, q_mI', q_ltmI, q_in, q_bz0, q_bz1, q_bzn0, q_bzn1, q_bzb, q_bn0, q_bn1, q_shr, q_shl, q_1s, b_one, b_two, fa_and, fa_or, nI_add, n_mul, nI_clamp, z_rcs, true_and, and_true, if_true, if_false, y_kd hA, y_n hA, y_m hA, (y_row hA).1, (y_row hA).2.1, (y_row hA).2.2, (y_size hA).1, (y_size hA).2.1, (y_size hA).2.2, (y_first hA).1, (y_first hA).2.1, (y_first hA).2.2, (y_deg hA).1, (y_deg hA).2.1, (y_deg hA).2.2, (y_on hA).1, (y_on hA).2.1, (y_on hA).2.2, (y_join hA).1, (y_join hA).2.1, (y_join hA).2.2, y_Ln hA, y_Sz hA, y_Ft hA, y_Dg hA, y_On hA, ho, c1, c2, ha]
    rfl
  · rw [if_neg (by rw [e]; decide)]
    exact Or.inr ⟨_, _, hN.2 e, rfl⟩
theorem e11_joined (hc : cI L r h σ) (x y : Int32) : pubC G (d + 6) k_X11_joined L r h [.int x, .int y] (ans z_NSE z_IAE (some (.int (c_joined σ.2.1.1.1 x y).1)) (c_joined σ.2.1.1.1 x y).2) σ := by
  obtain ⟨k, q, b, u, v, ⟨hk, ho⟩, ⟨c1, c2, -, -, hA, -⟩, -, -⟩ := cI_cd hc
  have n8 := y_n8 hA
  refine pub_id hc (en_X11_joined (b_X11_joined_0 (z_pu0V rfl) ⟨hk, ?_⟩))
  have hN := fun x => e11_needPoint (G := G) (d := d) hc x
  unfold c_joined
  rcases in_cases x (n := σ.2.1.1.1.1) (by omega) with ⟨a, ha, rfl, e⟩ | ⟨e, -⟩
  · refine Or.inl ⟨_, (hN _).1 e, hk, ?_⟩
    rcases in_cases y (n := σ.2.1.1.1.1) (by omega) with ⟨a', ha', rfl, e'⟩ | ⟨e', -⟩
    · rw [if_pos (by rw [e, e']; rfl)]
      refine Or.inl ⟨_, (hN _).1 e', ?_⟩
      by_cases c : nI a = nI a'
      · rw [if_pos c]
        exact Or.inr ⟨_, _, (e11_needUnlike (d := d + 1) _ _).2 c, rfl⟩
      · rw [if_neg c]
        refine Or.inl ⟨_, (e11_needUnlike (d := d + 1) _ _).1 c, hk, ?_⟩
        have hj := hA.2.2.2.2.2.2 a a' (by omega) (by omega)
        rw [if_neg (fun e => c (by rw [e])), Nat.mul_comm] at hj
        have hv : a * 8 + a' < 64 := by omega
        simp (disch := omega) only [l0, l1, l2, l3, l4, l5, l6, l7, l8, l9, l10, l11, l12, l13, l14, l15, l16, l18, l20, l22, l24, l30, l31, l39, l40, l48, l60, l154, l255, l256, l400, l2000, l6160, l14000, lm1, q_lt, q_le, q_eq, q_mI, q_mI', q_ltmI, q_in, q_bz0, q_bz1, q_bzn0, q_bzn1, q_bzb, q_bn0, q_bn1, q_shr, q_shl, q_1s, b_one, b_two, fa_and, fa_or, nI_add, n_mul, nI_clamp, z_rcs, true_and, and_true, if_true, if_false, y_kd hA, y_n hA, y_m hA, (y_row hA).1, (y_row hA).2.1, (y_row hA).2.2, (y_size hA).1, (y_size hA).2.1, (y_size hA).2.2, (y_first hA).1, (y_first hA).2.1, (y_first hA).2.2, (y_deg hA).1, (y_deg hA).2.1, (y_deg hA).2.2, (y_on hA).1, (y_on hA).2.1, (y_on hA).2.2, (y_join hA).1, (y_join hA).2.1, (y_join hA).2.2, y_Ln hA, y_Sz hA, y_Ft hA, y_Dg hA, y_On hA, ho, c1, c2, hj, hv]
        rfl
    · rw [if_neg (by rw [e, e']; decide)]
      exact Or.inr ⟨_, _, (hN _).2 e', rfl⟩
  · rw [if_neg (by rw [e]; simp)]
    exact Or.inr ⟨_, _, (hN _).2 e, rfl⟩
theorem e11_meet (hc : cI L r h σ) (x y : Int32) : pubC G (d + 6) k_X11_meet L r h [.int x, .int y] (ans z_NSE z_IAE (some (.int (c_meet σ.2.1.1.1 x y).1)) (c_meet σ.2.1.1.1 x y).2) σ := by
  obtain ⟨k, q, b, u, v, ⟨hk, ho⟩, ⟨c1, c2, -, -, hA, -⟩, -, -⟩ := cI_cd hc
  have n8 := y_m12 hA
  refine pub_id hc (en_X11_meet (b_X11_meet_0 (z_pu0V rfl) ⟨hk, ?_⟩))
  have hN := fun x => e11_needLine (G := G) (d := d) hc x
  unfold c_meet
  rcases in_cases x (n := σ.2.1.1.1.2.1) (by omega) with ⟨a, ha, rfl, e⟩ | ⟨e, -⟩
  · refine Or.inl ⟨_, (hN _).1 e, hk, ?_⟩
    rcases in_cases y (n := σ.2.1.1.1.2.1) (by omega) with ⟨a', ha', rfl, e'⟩ | ⟨e', -⟩
    · rw [if_pos (by rw [e, e']; rfl)]
      refine Or.inl ⟨_, (hN _).1 e', ?_⟩
      by_cases c : nI a = nI a'
      · rw [if_pos c]
        exact Or.inr ⟨_, _, (e11_needUnlike (d := d + 1) _ _).2 c, rfl⟩
      · rw [if_neg c]
        refine Or.inl ⟨_, (e11_needUnlike (d := d + 1) _ _).1 c, hk, ?_⟩
        have l1 := y_256 hA a
        have l2 := and_lt256 (b := σ.2.1.1.1.2.2 a') l1
        by_cases c0 : σ.2.1.1.1.2.2 a &&& σ.2.1.1.1.2.2 a' = 0
        · simp (disch := omega) only [l0, l1, l2, l3, l4, l5, l6, l7, l8, l9, l10, l11, l12, l13, l14, l15, l16, l18, l20, l22, l24, l30, l31, l39, l40, l48, l60, l154, l255, l256, l400, l2000, l6160, l14000, lm1, q_lt, q_le, q_eq, q_mI, q_mI', q_ltmI, q_in, q_bz0, q_bz1, q_bzn0, q_bzn1, q_bzb, q_bn0, q_bn1, q_shr, q_shl, q_1s, b_one, b_two, fa_and, fa_or, nI_add, n_mul, nI_clamp, z_rcs, true_and, and_true, if_true, if_false, y_kd hA, y_n hA, y_m hA, (y_row hA).1, (y_row hA).2.1, (y_row hA).2.2, (y_size hA).1, (y_size hA).2.1, (y_size hA).2.2, (y_first hA).1, (y_first hA).2.1, (y_first hA).2.2, (y_deg hA).1, (y_deg hA).2.1, (y_deg hA).2.2, (y_on hA).1, (y_on hA).2.1, (y_on hA).2.2, (y_join hA).1, (y_join hA).2.1, (y_join hA).2.2, y_Ln hA, y_Sz hA, y_Ft hA, y_Dg hA, y_On hA, ho, c1, c2, ha, ha', c0]
          exact ⟨hk, rfl⟩
        · simp (disch := omega) only [l0, l1, l2, l3, l4, l5, l6, l7, l8, l9, l10, l11, l12, l13, l14, l15, l16, l18, l20, l22, l24, l30, l31, l39, l40, l48, l60, l154, l255, l256, l400, l2000, l6160, l14000, lm1, q_lt, q_le, q_eq, q_mI, q_mI', q_ltmI, q_in, q_bz0, q_bz1, q_bzn0, q_bzn1, q_bzb, q_bn0, q_bn1, q_shr, q_shl, q_1s, b_one, b_two, fa_and, fa_or, nI_add, n_mul, nI_clamp, z_rcs, true_and, and_true, if_true, if_false, y_kd hA, y_n hA, y_m hA, (y_row hA).1, (y_row hA).2.1, (y_row hA).2.2, (y_size hA).1, (y_size hA).2.1, (y_size hA).2.2, (y_first hA).1, (y_first hA).2.1, (y_first hA).2.2, (y_deg hA).1, (y_deg hA).2.1, (y_deg hA).2.2, (y_on hA).1, (y_on hA).2.1, (y_on hA).2.2, (y_join hA).1, (y_join hA).2.1, (y_join hA).2.2, y_Ln hA, y_Sz hA, y_Ft hA, y_Dg hA, y_On hA, ho, c1, c2, ha, ha', c0]
          exact ⟨hk, _, _, e_ntz (show σ.2.1.1.1.2.2 a &&& σ.2.1.1.1.2.2 a' < 4096 by omega), rfl⟩
    · rw [if_neg (by rw [e, e']; decide)]
      exact Or.inr ⟨_, _, (hN _).2 e', rfl⟩
  · rw [if_neg (by rw [e]; simp)]
    exact Or.inr ⟨_, _, (hN _).2 e, rfl⟩
theorem e11_far (hc : cI L r h σ) (x y : Int32) : pubC G (d + 6) k_X11_far L r h [.int x, .int y] (ans z_NSE z_IAE (some (.int (c_far σ.2.1.1.1 x y).1)) (c_far σ.2.1.1.1 x y).2) σ := by
  obtain ⟨k, q, b, u, v, ⟨hk, ho⟩, ⟨c1, c2, -, -, hA, -⟩, -, hok⟩ := cI_cd hc
  have n8 := y_n8 hA
  refine pub_id hc (en_X11_far (b_X11_far_0 (z_pu0V rfl) ⟨hk, ?_⟩))
  have hN := fun x => e11_needPoint (G := G) (d := d) hc x
  unfold c_far
  rcases in_cases x (n := σ.2.1.1.1.1) (by omega) with ⟨a, ha, rfl, e⟩ | ⟨e, -⟩
  · refine Or.inl ⟨_, (hN _).1 e, hk, ?_⟩
    rcases in_cases y (n := σ.2.1.1.1.1) (by omega) with ⟨a', ha', rfl, e'⟩ | ⟨e', -⟩
    · rw [if_pos (by rw [e, e']; rfl)]
      refine Or.inl ⟨_, (hN _).1 e', hk, ?_⟩
      have hs := e8_steps (G := G) (d := d) hA (bar := none) (fun _ h => (by cases h)) (x := 2 ^ a) (w := 2 ^ a') (t_pow (by omega))
      rw [far_eq hok.1 ha ha'] at hs
      have hs : z_Ev G (d + 5) k_X8_steps [.ref q, .int (nI (2 ^ a)), .int (nI (2 ^ a')), .int mI] h (.inl (some (.int (c_farN σ.2.1.1.1 a a'))), h) := hs
      rw [ho, z_rcs, c2, z_rcs]
      refine ⟨c1, y_kd hA, c_farN σ.2.1.1.1 a a', h, ?_, ?_⟩
      · simp (disch := omega) only [l0, l1, l2, l3, l4, l5, l6, l7, l8, l9, l10, l11, l12, l13, l14, l15, l16, l18, l20, l22, l24, l30, l31, l39, l40, l48, l60, l154, l255, l256, l400, l2000, l6160, l14000, lm1, q_lt, q_le, q_eq, q_mI, q_mI', q_ltmI, q_in, q_bz0, q_bz1, q_bzn0, q_bzn1, q_bzb, q_bn0, q_bn1, q_shr, q_shl, q_1s, b_one, b_two, fa_and, fa_or, nI_add, n_mul, nI_clamp, z_rcs, true_and, and_true, if_true, if_false]
        exact hs
      · simp (disch := omega) only [l0, l1, l2, l3, l4, l5, l6, l7, l8, l9, l10, l11, l12, l13, l14, l15, l16, l18, l20, l22, l24, l30, l31, l39, l40, l48, l60, l154, l255, l256, l400, l2000, l6160, l14000, lm1, q_lt, q_le, q_eq, q_mI, q_mI', q_ltmI, q_in, q_bz0, q_bz1, q_bzn0, q_bzn1, q_bzb, q_bn0, q_bn1, q_shr, q_shl, q_1s, b_one, b_two, fa_and, fa_or, nI_add, n_mul, nI_clamp, z_rcs, true_and, and_true, if_true, if_false]
        rfl
    · rw [if_neg (by rw [e, e']; decide)]
      exact Or.inr ⟨_, _, (hN _).2 e', rfl⟩
  · rw [if_neg (by rw [e]; simp)]
    exact Or.inr ⟨_, _, (hN _).2 e, rfl⟩
end C3
