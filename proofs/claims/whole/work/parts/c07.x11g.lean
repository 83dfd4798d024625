/-! THE LISTER: shelf, way, list -/
section C7
variable {G : z_G} {d L r : Nat} {h : z_H} {σ : RSt}
theorem e11_shY (hc : cI L r h σ) {a : Nat} (ha : a < 4) {cd : Cd} (hs : σ.2.1.2 a = some cd) : ∃ q b, sc_at q b h cd.1 ∧ c_sok cd.1 ∧ z_Ev G (d + 4) k_X11_needShelved [.ref L, .int (nI a)] h (.inl (some (va_rf (some q))), h) := by
  have hk := hc.1.1.1
  obtain ⟨b4, b5, b6⟩ := hc.1.1.2.2.1
  have hsh := hc.2.2.2.2.1 a ha
  rw [hs] at hsh
  obtain ⟨k, k1, ⟨q, b, u, v, ⟨c1, c2, -, -, hA, -⟩, -⟩, k3⟩ := hsh
  refine ⟨q, b, hA, k3.1, en_X11_needShelved (b_X11_needShelved_0 (z_pu0V rfl) ?_)⟩
  rw [if_neg (nI_nlt (Nat.zero_le _) (by omega)), if_pos (nI_lt ha (by decide)), b4, z_rcs, nI_clamp (show a < 2 ^ 31 by omega), k1, z_rcs, z_rcs, k1, z_rcs, c2, z_rcs]
  have vi : vp_in (nI a) (z_ln h (L + 15)) := by rw [b6]; exact vp_in_nI ha (by decide)
  exact ⟨hk, Or.inl b5, vi, hk, Or.inl b5, vi, c1, rfl⟩
theorem e11_shN (hc : cI L r h σ) (x : Int32) (hx : c_in x 4 = false ∨ ∃ a, a < 4 ∧ x = nI a ∧ σ.2.1.2 a = none) : z_Ev G (d + 4) k_X11_needShelved [.ref L, .int x] h (.inr z_NSE, h) := by
  have hk := hc.1.1.1
  obtain ⟨b4, b5, b6⟩ := hc.1.1.2.2.1
  refine en_X11_needShelved (b_X11_needShelved_0 (z_pu0V rfl) ?_)
  rcases hx with e | ⟨a, ha, rfl, hs⟩
  · rcases in_cases x (n := 4) (by decide) with ⟨a, ha, rfl, e'⟩ | ⟨-, c | ⟨c, c'⟩⟩
    · rw [e] at e'; cases e'
    · rw [if_pos c]; rfl
    · rw [if_neg c, if_neg c']; rfl
  · have hsh := hc.2.2.2.2.1 a ha
    rw [hs] at hsh
    have hsh : z_ar h (L + 15) a = none := hsh
    rw [if_neg (nI_nlt (Nat.zero_le _) (by omega)), if_pos (nI_lt ha (by decide)), b4, z_rcs, nI_clamp (show a < 2 ^ 31 by omega), hsh, z_rcn]
    exact ⟨hk, Or.inl b5, by rw [b6]; exact vp_in_nI ha (by decide), rfl⟩
theorem hs_cases {R : Nat → Int32} {st : Sta} (hρ : rho R st) (x : Int32) : (∃ a cd, a < 4 ∧ x = nI a ∧ st.2 a = some cd ∧ c_hs R x = true ∧ r_S (c_shR R a) = cd.1) ∨ (c_hs R x = false ∧ (c_in x 4 = false ∨ ∃ a, a < 4 ∧ x = nI a ∧ st.2 a = none)) := by
  rcases in_cases x (n := 4) (by decide) with ⟨a, ha, rfl, e⟩ | ⟨e, -⟩
  · have h2 := hρ.2.2 a ha
    cases hq : st.2 a with
    | none =>
      rw [hq] at h2
      have h2 : R (30 + 31 * a) = nI 0 := h2
      refine Or.inr ⟨?_, Or.inr ⟨a, ha, rfl, hq⟩⟩
      unfold c_hs
      rw [nI_clamp (show a < 2 ^ 31 by omega), h2, e]
      rfl
    | some cd =>
      have h3 := h2
      rw [hq] at h3
      have h3 : R (30 + 31 * a) = nI 1 := h3.1
      obtain ⟨c, c1, c2, c3, c4⟩ := rho_shf hρ ha h3
      rw [hq] at c1
      cases c1
      refine Or.inl ⟨a, cd, ha, rfl, hq, ?_, c4⟩
      unfold c_hs
      rw [nI_clamp (show a < 2 ^ 31 by omega), h3, e]
      rfl
  · refine Or.inr ⟨?_, Or.inl e⟩
    unfold c_hs
    rw [e]
    rfl
theorem e11_shelf (hc : cI L r h σ) {R : Nat → Int32} (hρ : rho R σ.2.1) (W f : Nat → Int32) (x w : Int32) : pubC G (d + 18) k_X11_shelf L r h [.int x, .int w] (ans z_NSE z_IAE (some (.int (c_shelf σ.2.1.1.1 R W f x w).1)) (c_shelf σ.2.1.1.1 R W f x w).2) σ := by
  obtain ⟨k, q, b, u, v, ⟨hk, ho⟩, ⟨c1, c2, ⟨x1, x2, x3⟩, ⟨x4, x5, x6⟩, hA, hxy⟩, hcdk, hok⟩ := cI_cd hc
  have hI := hc.1.2.2.1
  have hL := hc.1.2.2.2
  obtain ⟨p1, p2, p3, p4, p5, p6, p7, p8⟩ := hc.1.2.1
  obtain ⟨-, -, -, r10, r11, r12, r13, r14, r15, r16⟩ := hc.1.1
  have n8 := y_n8 hA
  have m12 := y_m12 hA
  unfold c_shelf
  rcases hs_cases hρ x with ⟨a, cd, ha, rfl, hs, e, er⟩ | ⟨e, hn⟩
  · obtain ⟨q1, b1, hF, hF0, hN⟩ := e11_shY (G := G) (d := d + 13) hc ha hs
    rw [nI_clamp (show a < 2 ^ 31 by omega), er]
    by_cases w0 : w = nI 0
    · subst w0
      rw [if_pos (by rw [e]; rfl)]
      obtain ⟨h1, N, E, I1, e1, m1, km1⟩ := e5_likeWays (G := G) (d := d) vM_v hI hL p2.1 hF hA
      have c' : cI L r h1 σ := cI_mt hc I1 e1 (mtk_km hI e1 m1 km1 p2)
      have ev : g_like vV cd.1 σ.2.1.1.1 N = nI (c_shelfN σ.2.1.1.1 cd.1 W f (nI 0).toNatClampNeg) := by
        rw [nI_clamp (show 0 < 2 ^ 31 by decide)]
        unfold c_shelfN g_like
        rw [if_pos rfl, like_ref hF0 hok.1 N, v8]
        by_cases a2 : cd.1.1 = σ.2.1.1.1.1 ∧ cd.1.2.1 = σ.2.1.1.1.2.1
        · rw [if_pos a2, if_pos a2]
          cases (g_fin cd.1 σ.2.1.1.1 true cd.1.1 0 0 0 N).1 <;> rfl
        · rw [if_neg a2, if_neg a2]
      rw [← ev]
      refine pub_mk c' e1 (fun a ha => by unfold mX at ha; unfold cX; omega) (by decide) (by decide) (en_X11_shelf (b_X11_shelf_0 (z_pu0V rfl) ⟨hk, Or.inl ⟨_, _, hN, ?_⟩⟩))
      rw [z_rcs, if_pos rfl]
      simp only [r11, ho, c2, z_rcs]
      exact ⟨hk, hk, c1, p2.1.1, _, _, E, rfl⟩
    by_cases w1 : w = nI 1
    · subst w1
      rw [if_pos (by rw [e]; rfl)]
      obtain ⟨h1, E, I1, e1, m1, -⟩ := e5_withinWays (G := G) (d := d) vM_v vU_v hI hL p2 hF hA
      have c' : cI L r h1 σ := cI_mt hc I1 e1 m1
      have ev : uU.2.2.1 cd.1 σ.2.1.1.1 = c_shelfN σ.2.1.1.1 cd.1 W f (nI 1).toNatClampNeg := by
        rw [nI_clamp (show 1 < 2 ^ 31 by decide)]
        unfold c_shelfN
        rw [if_neg (by decide), if_pos rfl, (wys_ref hF0 hok.1 W f (fun i => i)).1]
        rfl
      rw [← ev]
      refine pub_mk c' e1 (fun a ha => by unfold mX at ha; unfold cX; omega) (by decide) (by decide) (en_X11_shelf (b_X11_shelf_0 (z_pu0V rfl) ⟨hk, Or.inl ⟨_, _, hN, ?_⟩⟩))
      rw [z_rcs, if_neg w0, if_pos rfl]
      simp only [r11, ho, c2, z_rcs]
      exact ⟨hk, hk, c1, p2.1.1, _, _, E, rfl⟩
    by_cases w2 : w = nI 2
    · subst w2
      rw [if_pos (by rw [e]; rfl)]
      refine pub_id hc (en_X11_shelf (b_X11_shelf_0 (z_pu0V rfl) ⟨hk, Or.inl ⟨_, _, hN, ?_⟩⟩))
      rw [z_rcs, if_neg w0, if_neg w1, if_pos rfl, y_n hF]
      exact ⟨y_kd hF, rfl⟩
    by_cases w3 : w = nI 3
    · subst w3
      rw [if_pos (by rw [e]; rfl)]
      refine pub_id hc (en_X11_shelf (b_X11_shelf_0 (z_pu0V rfl) ⟨hk, Or.inl ⟨_, _, hN, ?_⟩⟩))
      rw [z_rcs, if_neg w0, if_neg w1, if_neg w2, if_pos rfl, y_m hF]
      exact ⟨y_kd hF, rfl⟩
    have cw : c_in w 4 = false := by
      rcases in_cases w (n := 4) (by decide) with ⟨j, hj, rfl, -⟩ | ⟨e', -⟩
      · rcases (show j = 0 ∨ j = 1 ∨ j = 2 ∨ j = 3 by omega) with ej | ej | ej | ej <;> subst ej
        · exact absurd rfl w0
        · exact absurd rfl w1
        · exact absurd rfl w2
        · exact absurd rfl w3
      · exact e'
    rw [if_neg (by rw [cw]; simp)]
    refine pub_id hc (en_X11_shelf (b_X11_shelf_0 (z_pu0V rfl) ⟨hk, Or.inl ⟨_, _, hN, ?_⟩⟩))
    rw [z_rcs, if_neg w0, if_neg w1, if_neg w2, if_neg w3]
    rfl
  · rw [if_neg (by rw [e]; simp)]
    exact pub_id hc (en_X11_shelf (b_X11_shelf_0 (z_pu0V rfl) ⟨hk, Or.inr ⟨_, _, e11_shN (d := d + 13) hc x hn, rfl⟩⟩))
theorem e11_way (hc : cI L r h σ) {R : Nat → Int32} (hρ : rho R σ.2.1) (W f : Nat → Int32) (x y : Int32) : pubC G (d + 19) k_X11_way L r h [.int x, .int y] (ans z_NSE z_IAE (some (.int (c_way σ.2.1.1.1 R W f x y).1)) (c_way σ.2.1.1.1 R W f x y).2) σ := by
  obtain ⟨k, q, b, u, v, ⟨hk, ho⟩, ⟨c1, c2, ⟨x1, x2, x3⟩, ⟨x4, x5, x6⟩, hA, hxy⟩, hcdk, hok⟩ := cI_cd hc
  have hI := hc.1.2.2.1
  have hL := hc.1.2.2.2
  obtain ⟨p1, p2, p3, p4, p5, p6, p7, p8⟩ := hc.1.2.1
  obtain ⟨-, -, -, r10, r11, r12, r13, r14, r15, r16⟩ := hc.1.1
  have n8 := y_n8 hA
  have m12 := y_m12 hA
  unfold c_way
  rcases hs_cases hρ x with ⟨a, cd, ha, rfl, hs, e, er⟩ | ⟨e, hn⟩
  · obtain ⟨q1, b1, hF, hF0, hN⟩ := e11_shY (G := G) (d := d + 14) hc ha hs
    rw [nI_clamp (show a < 2 ^ 31 by omega), er]
    have n1 := y_n8 hF
    rcases in_cases y (n := cd.1.1) (by omega) with ⟨p, hp, rfl, e'⟩ | ⟨e', c | ⟨c, c'⟩⟩
    · rw [if_pos (by rw [e, e']; rfl)]
      obtain ⟨h1, E, I1, e1, m1⟩ := e5_firstWithin (G := G) (d := d) vM_v vU_v hI hL p2 hF hA hp
      have c' : cI L r h1 σ := cI_mt hc I1 e1 m1
      have hw := wys_ref hF0 hok.1 W f (fun i => i)
      have ev : (if uU.2.2.1 cd.1 σ.2.1.1.1 = 0 then mI else nI (uU.2.2.2 cd.1 σ.2.1.1.1 p)) = (if (c_wys σ.2.1.1.1 cd.1 W f).1 = 0 then mI else (c_wys σ.2.1.1.1 cd.1 W f).2.1 (nI p).toNatClampNeg) := by
        rw [nI_clamp (show p < 2 ^ 31 by omega), hw.1, hw.2 p hp]
        show (if (sq cd.1 σ.2.1.1.1 false 0 (fun i => i)).length = 0 then mI else nI (match (sq cd.1 σ.2.1.1.1 false 0 (fun i => i)).head? with
          | some M => M p
          | none => 0)) = _
        unfold hdv
        rw [if_pos rfl]
        cases sq cd.1 σ.2.1.1.1 false 0 (fun i => i) with
        | nil => rfl
        | cons M l => rfl
      rw [← ev]
      refine pub_mk c' e1 (fun a ha => by unfold mX at ha; unfold cX; omega) (by decide) (by decide) (en_X11_way (b_X11_way_0 (z_pu0V rfl) ⟨hk, Or.inl ⟨_, _, hN, ?_⟩⟩))
      rw [z_rcs, if_neg (nI_nlt (Nat.zero_le _) (by omega)), y_n hF, if_pos (nI_lt hp (by omega))]
      simp only [r11, ho, c2, z_rcs]
      exact ⟨y_kd hF, hk, hk, c1, p2.1.1, _, _, E, rfl⟩
    · rw [if_neg (by rw [e']; simp)]
      refine pub_id hc (en_X11_way (b_X11_way_0 (z_pu0V rfl) ⟨hk, Or.inl ⟨_, _, hN, ?_⟩⟩))
      rw [z_rcs, if_pos c]
      rfl
    · rw [if_neg (by rw [e']; simp)]
      refine pub_id hc (en_X11_way (b_X11_way_0 (z_pu0V rfl) ⟨hk, Or.inl ⟨_, _, hN, ?_⟩⟩))
      rw [z_rcs, if_neg c, y_n hF, if_neg c']
      exact ⟨y_kd hF, rfl⟩
  · rw [if_neg (by rw [e]; simp)]
    exact pub_id hc (en_X11_way (b_X11_way_0 (z_pu0V rfl) ⟨hk, Or.inr ⟨_, _, e11_shN (d := d + 14) hc x hn, rfl⟩⟩))
/-- the lists made ready: what it costs -/
theorem pc_le (n : Nat) (hn : n ≤ 7) : ∀ t r, r + t = n + 1 → pcC Nn t r ≤ 5000 * t ∧ pcS Nn t r ≤ 240000 * t := by
  intro t
  induction t with
  | zero => intro r _; exact ⟨Nat.le_refl _, Nat.le_refl _⟩
  | succ t ih =>
    intro r hr
    obtain ⟨i1, i2⟩ := ih (r + 1) (by omega)
    have := Nn_le (m := r - 1) (by omega)
    constructor
    · show (2 + 1408 * Nn (r - 1)) + pcC Nn t (r + 1) ≤ 5000 * (t + 1)
      omega
    · show (7 + 76800 * Nn (r - 1)) + pcS Nn t (r + 1) ≤ 240000 * (t + 1)
      omega
theorem e11_prep (hc : cI L r h σ) {m : Nat} (hm : m ≤ 7) : ∃ h1 r1, z_Ev G (d + 25) k_X4_prepare [.ref (L + 25), .int (nI m)] h (.inl none, h1) ∧ cI L r1 h1 σ ∧ m < r1 ∧ cst r r1 h h1 ∧ ex (lX L) (z_c h1 - z_c h) (z_s h1 - z_s h) h h1 := by
  have hI := hc.1.2.2.1
  have hL := hc.1.2.2.2
  obtain ⟨p1, p2, p3, p4, p5, p6, p7, p8⟩ := hc.1.2.1
  have r8 := p4.1
  by_cases c : m < r
  · refine ⟨h, r, en_X4_prepare (b_X4_prepare_0 (z_pu0V rfl) ⟨p3.1.1, ?_⟩), hc, c, ⟨Nat.le_refl _, by omega, by omega⟩, ⟨⟨Nat.le_refl _, by omega, by omega⟩, (ex_refl (X := lX L) h).2⟩⟩
    rw [p4.2.1]
    refine b_X4_prepare_7 (z_pu0V rfl) ?_
    rw [if_pos (nI_lt c (by omega))]
  · obtain ⟨h1, r1, E, I1, e1, k1, hr1, l1⟩ := e4_prepare (G := G) (d := d) vI_v vN_n vW_n hI hL p3 p4 hm
    have pc := pc_le m hm (m + 1 - r) r (by omega)
    have r18 := l1.1
    have e11 := e1.1
    refine ⟨h1, r1, E, cI_ls hc I1 e1 ⟨k1, l1⟩, hr1, ⟨by omega, ?_, ?_⟩, ⟨⟨e11.1, by omega, by omega⟩, e1.2⟩⟩
    · have : 5000 * (m + 1 - r) + 5000 * (8 - r1) ≤ 5000 * (8 - r) := by
        rw [← Nat.mul_add]
        exact Nat.mul_le_mul_left _ (by omega)
      omega
    · have : 240000 * (m + 1 - r) + 240000 * (8 - r1) ≤ 240000 * (8 - r) := by
        rw [← Nat.mul_add]
        exact Nat.mul_le_mul_left _ (by omega)
      omega
theorem sta_in {n m : Nat} {i : Int32} (n3 : 3 ≤ n) (n7 : n ≤ 7) (hm : m ≤ 7) : (∃ a g, a < (c_lst n m).length ∧ i = nI a ∧ (c_lst n m)[a]? = some g) ∨ (c_in i (c_lst n m).length = false ∧ ∀ f, f < (c_lst n m).length → i ≠ nI f) := by
  have hb := lst_hB n m n3 n7 hm
  rcases in_cases i (n := (c_lst n m).length) (by omega) with ⟨a, ha, rfl, e⟩ | ⟨e, c⟩
  · exact Or.inl ⟨a, _, ha, rfl, List.getElem?_eq_getElem ha⟩
  · refine Or.inr ⟨e, fun f hf q => ?_⟩
    subst q
    rcases c with c | ⟨c, c'⟩
    · exact nI_nlt (Nat.zero_le _) (show f < 2 ^ 31 by omega) c
    · exact c' (nI_lt hf (by omega))
theorem pub_pr {κ : z_Key} {As : List Value} {o : Option Value ⊕ String} {h1 : z_H} {r1 : Nat} (hc : cI L r1 h1 σ) (hs : cst r r1 h h1) (e : ex (lX L) (z_c h1 - z_c h) (z_s h1 - z_s h) h h1) (hE : z_Ev G d κ (.ref L :: As) h (o, h1)) : pubC G d κ L r h As o σ := ⟨h1, r1, hc, hs, ex_X e (fun a ha => by unfold lX at ha; unfold cX; omega), hE⟩
theorem e11_list (hc : cI L r h σ) (n m i j : Int32) : pubC G (d + 26) k_X11_list L r h [.int n, .int m, .int i, .int j] (ans z_IAE z_NSE (some (.int (c_list n m i j).1)) (c_list n m i j).2) σ := by
  have hk := hc.1.1.1
  have r12 := hc.1.1.2.2.2.2.2.1
  have hpk := hc.1.2.1.2.2.1.1.1
  unfold c_list
  by_cases cn : n = nI 3 ∨ n = nI 4 ∨ n = nI 5 ∨ n = nI 6 ∨ n = nI 7
  · obtain ⟨N, N3, N7, rfl⟩ : ∃ N, 3 ≤ N ∧ N ≤ 7 ∧ n = nI N := by
      rcases cn with e | e | e | e | e
      · exact ⟨3, by decide, by decide, e⟩
      · exact ⟨4, by decide, by decide, e⟩
      · exact ⟨5, by decide, by decide, e⟩
      · exact ⟨6, by decide, by decide, e⟩
      · exact ⟨7, by decide, by decide, e⟩
    have g1 : ¬ nI N < nI 3 := nI_nlt N3 (by omega)
    have g2 : ¬ nI 7 < nI N := nI_nlt N7 (by decide)
    rcases in_cases m (n := 8) (by decide) with ⟨M, hM, rfl, e⟩ | ⟨e, c | ⟨c, c'⟩⟩
    · rw [if_pos ⟨cn, e⟩, nI_clamp (show N < 2 ^ 31 by omega), nI_clamp (show M < 2 ^ 31 by omega)]
      have g3 : ¬ nI M < nI 0 := nI_nlt (Nat.zero_le _) (by omega)
      have g4 : ¬ nI 7 < nI M := nI_nlt (show M ≤ 7 by omega) (by decide)
      obtain ⟨h1, r1, E, c1, hr1, hs1, e1⟩ := e11_prep (G := G) (d := d) hc (m := M) (by omega)
      have hk1 := c1.1.1.1
      have r12' := c1.1.1.2.2.2.2.2.1
      have l1 := c1.1.2.1.2.2.2.1
      have k1 := c1.1.2.1.2.2.1
      have hb := lst_hB N M N3 N7 (by omega)
      by_cases ci : i = mI
      · subst ci
        rw [if_pos rfl]
        have E2 := e4_listed (G := G) (d := d + 22) k1.1 vN_n l1 (n := N) (m := M) (by omega) hr1
        rw [lid_n N3 N7 (by omega)] at E2
        refine pub_pr c1 hs1 e1 (en_X11_list (b_X11_list_0 (z_pu0V rfl) ?_))
        rw [if_neg g1, if_neg g2, if_neg g3, if_neg g4, r12, z_rcs]
        refine ⟨hk, hpk, h1, E, ?_⟩
        rw [if_pos rfl, r12', z_rcs]
        exact ⟨hk1, k1.1.1, _, _, E2, rfl⟩
      · rw [if_neg ci]
        rcases in_cases j (n := M) (by omega) with ⟨J, hJ, rfl, ej⟩ | ⟨ej, c | ⟨c, c'⟩⟩
        · have sN := sta_n N3 N7 (show M ≤ 7 by omega) i
          have E2 := e4_startOf (G := G) (d := d + 22) k1.1 vN_n l1 (n := N) (m := M) (by omega) hr1 i
          rcases sta_in (i := i) N3 N7 (show M ≤ 7 by omega) with ⟨a, g, ha, rfl, hg⟩ | ⟨ei, hi⟩
          · obtain ⟨k', hk', eg, es⟩ := sN.1 a g hg rfl
            rw [es] at E2
            have hb2 := lst_b vN_n (m := M) (k := k') (j := J) (by omega) hk' hJ
            have E3 := e4_listedNumber (G := G) (d := d + 24) k1.1 l1 hr1 hb2.1 hb2.2
            rw [Wn_at hJ, eg] at E3
            have ci' : c_in (nI a) (c_lst N M).length = true := decide_eq_true ⟨nI_nlt (Nat.zero_le _) (by omega), by rw [nI_clamp (by omega)]; exact ha⟩
            rw [if_pos ⟨ci', ej⟩, nI_clamp (show a < 2 ^ 31 by omega), nI_clamp (show J < 2 ^ 31 by omega), hg]
            refine pub_pr c1 hs1 e1 (en_X11_list (b_X11_list_0 (z_pu0V rfl) ?_))
            rw [if_neg g1, if_neg g2, if_neg g3, if_neg g4, r12, z_rcs]
            refine ⟨hk, hpk, h1, E, ?_⟩
            rw [if_neg ci, if_neg (nI_nlt (Nat.zero_le _) (by omega)), if_pos (nI_lt hJ (by omega)), r12', z_rcs]
            refine ⟨hk1, k1.1.1, _, _, E2, ?_⟩
            have km : k' * M < 2 ^ 31 := by have := hb2.1; have := hb2.2; omega
            rw [if_neg (show ¬ nI (k' * M) = mI from t_ne1 km), nI_add, r12', z_rcs]
            exact ⟨hk1, k1.1.1, _, _, E3, rfl⟩
          · rw [sN.2 hi] at E2
            rw [if_neg (fun q => by rw [ei] at q; cases q.1)]
            refine pub_pr c1 hs1 e1 (en_X11_list (b_X11_list_0 (z_pu0V rfl) ?_))
            rw [if_neg g1, if_neg g2, if_neg g3, if_neg g4, r12, z_rcs]
            refine ⟨hk, hpk, h1, E, ?_⟩
            rw [if_neg ci, if_neg (nI_nlt (Nat.zero_le _) (by omega)), if_pos (nI_lt hJ (by omega)), r12', z_rcs]
            refine ⟨hk1, k1.1.1, _, _, E2, ?_⟩
            rw [if_pos rfl]
            rfl
        · rw [if_neg (fun q => by rw [ej] at q; cases q.2)]
          refine pub_pr c1 hs1 e1 (en_X11_list (b_X11_list_0 (z_pu0V rfl) ?_))
          rw [if_neg g1, if_neg g2, if_neg g3, if_neg g4, r12, z_rcs]
          refine ⟨hk, hpk, h1, E, ?_⟩
          rw [if_neg ci, if_pos c, if_pos rfl]
          rfl
        · rw [if_neg (fun q => by rw [ej] at q; cases q.2)]
          refine pub_pr c1 hs1 e1 (en_X11_list (b_X11_list_0 (z_pu0V rfl) ?_))
          rw [if_neg g1, if_neg g2, if_neg g3, if_neg g4, r12, z_rcs]
          refine ⟨hk, hpk, h1, E, ?_⟩
          rw [if_neg ci, if_neg c, if_neg c', if_pos rfl]
          rfl
    · rw [if_neg (fun q => by rw [e] at q; cases q.2)]
      refine pub_id hc (en_X11_list (b_X11_list_0 (z_pu0V rfl) ?_))
      rw [if_neg g1, if_neg g2, if_pos c]
      rfl
    · rw [if_neg (fun q => by rw [e] at q; cases q.2)]
      refine pub_id hc (en_X11_list (b_X11_list_0 (z_pu0V rfl) ?_))
      rw [if_neg g1, if_neg g2, if_neg c, if_pos (gt_of (n := 7) c c' (by decide))]
      rfl
  · rw [if_neg (fun q => cn q.1)]
    refine pub_id hc (en_X11_list (b_X11_list_0 (z_pu0V rfl) ?_))
    by_cases c0 : n < nI 3
    · rw [if_pos c0]; rfl
    · rw [if_neg c0]
      obtain ⟨a, ha, rfl⟩ := nI_of (fun q => c0 (i_lt0 q (by decide)) : ¬ n < nI 0)
      have j2 : ¬ a < 3 := fun q => c0 (nI_lt q (by decide))
      have j7 : 7 < a := by
        apply Classical.byContradiction
        intro q
        rcases (show a = 3 ∨ a = 4 ∨ a = 5 ∨ a = 6 ∨ a = 7 by omega) with e | e | e | e | e
        · exact cn (Or.inl (by rw [e]))
        · exact cn (Or.inr (Or.inl (by rw [e])))
        · exact cn (Or.inr (Or.inr (Or.inl (by rw [e]))))
        · exact cn (Or.inr (Or.inr (Or.inr (Or.inl (by rw [e])))))
        · exact cn (Or.inr (Or.inr (Or.inr (Or.inr (by rw [e])))))
      rw [if_pos (nI_lt j7 ha)]
      rfl
end C7
