/-! THE READER: lines, places, clauses -/
/-- what is told so far -/
def rdC (F : Nat → Int32) (A : Nat → Nat → Int32) (c : Cd) : Prop := F 7 = nI c.1.1 ∧ F 8 = nI c.1.2.1 ∧ (∀ l, l < c.1.2.1 → A 1 l = nI (c.1.2.2 l)) ∧ (∀ p, p < 8 → A 2 p = c.2.1 p ∧ A 3 p = c.2.2 p) ∧ c_cok c
section HI
variable {G : z_G} {d x tp n : Nat} {h : z_H} {T : Nat → Nat}
theorem rdC_ag {K : List Nat} {F F' : Nat → Int32} {A : Nat → Nat → Int32} {c : Cd} (hc : rdC F A c) (ag : agrF K F F') (h7 : 7 ∉ K) (h8 : 8 ∉ K) : rdC F' A c := ⟨by rw [ag 7 h7]; exact hc.1, by rw [ag 8 h8]; exact hc.2.1, hc.2.2⟩
theorem e7_keepLine (hs : rsh x tp h) {F : Nat → Int32} {A : Nat → Nat → Int32} {c : Cd} (hc : rdC F A c) {w pl : Nat} (hw : w < 2 ^ c.1.1) (h2 : 2 ≤ n_pc w ∧ n_pc w ≤ 4) (hm : c.1.2.1 < 12) (h4 : F 4 = nI pl) : rOut Cd G (d + 5) x h k_X7_keepLine [.int (nI w)] F A (if c_two c.1 w = true then .inr (5, pl) else .inl (op_add c w)) (fun c' F' A' => rdC F' A' c' ∧ agrF [8] F F') := by
  obtain ⟨c7, c8, cr, cx, hok⟩ := hc
  have w256 : w < 256 := Nat.lt_of_lt_of_le hw (p2_9 hok.1.1.2)
  have rows : z_ai (z_hb h x 4 F A) (x + 2) = A 1 := hb_ai h x 4 F A (j := 1) (by decide)
  have ka := e8_keepsApart (G := G) (d := d) (h := z_hb h x 4 F A) (a0 := x + 2) (m := c.1.2.1) (L := c.1.2.2) hs.2.2.2.2.1.2.1 (by rw [hb_ln, hs.2.2.2.2.1.2.2]; omega) (by rw [hb_ln, hs.2.2.2.2.1.2.2]; decide) (fun l hl => by rw [rows]; exact cr l hl) w256
  rw [← two_any] at ka
  cases ct : c_two c.1 w
  · rw [ct] at ka
    rw [if_neg (by decide)]
    have hp : z_pai (z_hb h x 4 F A) (x + 2) c.1.2.1 (nI w) = z_hb h x 4 F (z_u A 1 (z_u (A 1) c.1.2.1 (nI w))) := hb_pai h x 4 F A (j := 1) (by decide) _ _
    refine r_yes rfl (F' := z_u F 8 (nI (c.1.2.1 + 1))) (A' := z_u A 1 (z_u (A 1) c.1.2.1 (nI w))) (en_X7_keepLine (b_X7_keepLine_0 (z_pu0V rfl) ⟨hs.1, ?_⟩)) ⟨⟨?_, ?_, fun l hl => ?_, fun p hp8 => ?_, cok_add hok hw h2 ct hm⟩, agF_u (agr_0 _ _) (by decide)⟩
    · rw [hb_or, hs.2.2.2.2.1.1, z_rcs, hb_oi, c8]
      refine ⟨hs.1, _, _, ka, ?_⟩
      rw [if_neg (by decide), hb_or, hs.2.2.2.2.1.1, z_rcs, hb_oi, c8, nI_clamp (by omega), hp, hb_oi, c8, nI_add, hb_poi]
      exact ⟨hs.1, hs.1, hs.2.2.2.2.1.2.1, by rw [hb_ln, hs.2.2.2.2.1.2.2]; exact vp_in_nI hm (by decide), hs.1, hs.1, Or.inr rfl, rfl⟩
    · rw [u_ne _ _ (by decide)]; exact c7
    · rw [u_eq]; rfl
    · have hl' : l < c.1.2.1 + 1 := hl
      rw [u_eq]
      show z_u (A 1) c.1.2.1 (nI w) l = nI (z_u c.1.2.2 c.1.2.1 w l)
      by_cases e : l = c.1.2.1
      · rw [e, u_eq, u_eq]
      · rw [u_ne _ _ e, u_ne _ _ e]; exact cr l (by omega)
    · rw [u_ne _ _ (by decide), u_ne _ _ (by decide)]; exact cx p hp8
  · rw [ct] at ka
    rw [if_pos rfl]
    refine r_no rfl (F' := z_u (z_u F 12 (nI 5)) 13 (F 4)) (A' := A) (en_X7_keepLine (b_X7_keepLine_0 (z_pu0V rfl) ⟨hs.1, ?_⟩)) (by rw [u_ne _ _ (by decide), u_eq]) (by rw [u_eq, h4])
    rw [hb_or, hs.2.2.2.2.1.1, z_rcs, hb_oi, c8]
    refine ⟨hs.1, _, _, ka, ?_⟩
    rw [if_pos (by rfl)]
    exact ⟨hs.1, _, _, e7_fail hs 5, Or.inl rfl, rfl⟩
theorem pc_add1 : ∀ y, y < 256 → ∀ j, j < 8 → y.testBit j = false → n_pc (y ||| 2 ^ j) = n_pc y + 1 := by decide +kernel
/-- a line's end: what p_line and p_lnC say from a token on, the numbers of the line read -/
def lnT (T : Nat → Nat) (n : Nat) (c : Cd) (o : (Nat × Nat) ⊕ pE) : (Cd × Nat) ⊕ pE := match (match o with
    | .inr e => (.inr e : (Nat × Nat) ⊕ pE)
    | .inl v => if (tk_k T n v.2 = 3 ∧ T (tk_b T n v.2) = 59) ∧ c_two c.1 v.1 = true then .inr (5, tk_b T n v.2) else .inl v) with
  | .inr e => .inr e
  | .inl v => p_tail T n (op_add c v.1) v.2
theorem lnT_end (c : Cd) (v : Nat × Nat) : lnT T n c (.inl v) = if tk_k T n v.2 = 3 ∧ T (tk_b T n v.2) = 59 then (if c_two c.1 v.1 = true then .inr (5, tk_b T n v.2) else .inl (op_add c v.1, tk_e T n v.2)) else .inr (1, tk_b T n v.2) := by
  unfold lnT
  dsimp only
  by_cases c1 : tk_k T n v.2 = 3 ∧ T (tk_b T n v.2) = 59
  · rw [if_pos c1]
    by_cases c2 : c_two c.1 v.1 = true
    · rw [if_pos ⟨c1, c2⟩, if_pos c2]
    · rw [if_neg (fun e => c2 e.2), if_neg c2]
      unfold p_tail
      dsimp only
      rw [if_pos c1]
  · rw [if_neg c1, if_neg (fun e => c1 e.1)]
    unfold p_tail
    dsimp only
    rw [if_neg c1]
theorem lnT_c (i : Nat) (c : Cd) : p_lnC T n i c = if c.1.2.1 = 12 then .inr (2, tk_b T n i) else lnT T n c (p_lnL T n c.1.1 4 0 (tk_e T n i) 0) := by
  unfold p_lnC p_line
  by_cases e : c.1.2.1 = 12
  · rw [if_pos e, if_pos e]
  · rw [if_neg e, if_neg e]; rfl
theorem e7_readLine (hs : rsh x tp h) (ht : rtx tp T n h) {F : Nat → Int32} {A : Nat → Nat → Int32} {i : Nat} {c : Cd} (hi : i ≤ n) (hc : rdC F A c) (tc : tokC T n i F) : rOut (Cd × Nat) G (d + 8) x h k_X7_readLine [] F A (p_lnC T n i c) (fun v F' A' => rdC F' A' v.1 ∧ rS n v.2 F' ∧ agrF [2, 3, 4, 5, 8] F F') := by
  have hok := hc.2.2.2.2
  have hn8 := hok.1.1
  have hm12 := hok.1.2.1
  rw [lnT_c]
  by_cases e12 : c.1.2.1 = 12
  · rw [if_pos e12]
    refine r_no rfl (F' := z_u (z_u F 12 (nI 2)) 13 (F 4)) (A' := A) (en_X7_readLine (b_X7_readLine_0 (z_pu0V rfl) ⟨hs.1, ?_⟩)) (by rw [u_ne _ _ (by decide), u_eq]) (by rw [u_eq, tc.2.2.2.1])
    rw [hb_oi, hc.2.1, if_neg (nI_nlt (by omega) (by omega))]
    exact ⟨hs.1, _, _, e7_fail hs 2, Or.inl rfl, rfl⟩
  rw [if_neg e12]
  -- the end of a line, the closing token read
  have close : ∀ {F1 : Nat → Int32} {w j : Nat} (R : z_Res → Prop), rdC F1 A c → tokC T n j F1 → j ≤ n → tk_k T n j = 3 ∧ T (tk_b T n j) = 59 → w < 2 ^ c.1.1 → 2 ≤ n_pc w ∧ n_pc w ≤ 4 → agrF [2, 3, 4, 5] F F1 → (∀ y h3, z_bz y → z_Ev G (d + 7) k_X7_keepLine [.ref x, .int (nI w)] (z_hb h x 4 F1 A) (.inl (some (.int y)), h3) → R (.inl (some (.int y)), h3)) → (c_two c.1 w = true → ∃ F' A', R (.inl (some (.int (nI 0))), z_hb h x 4 F' A') ∧ F' 12 = nI 5 ∧ F' 13 = nI (tk_b T n j)) ∧ (c_two c.1 w = false → ∃ F' A', R (.inl (some (.int (nI 1))), z_hb h x 4 F' A') ∧ rdC F' A' (op_add c w) ∧ rS n (tk_e T n j) F' ∧ agrF [2, 3, 4, 5, 8] F F') := by
    intro F1 w j R hc1 tc1 hj hcl hw h2 ag hR
    have kl := e7_keepLine (G := G) (d := d + 2) hs hc1 hw h2 (by omega) tc1.2.2.2.1
    constructor
    · intro ct
      rw [if_pos ct] at kl
      obtain ⟨F', A', ev, q12, q13⟩ := kl
      exact ⟨F', A', hR _ _ (Or.inl rfl) ev, q12, q13⟩
    · intro ct
      rw [if_neg (by rw [ct]; decide)] at kl
      obtain ⟨F', A', ev, hrd, ag'⟩ := kl
      exact ⟨F', A', hR _ _ (Or.inr rfl) ev, hrd, ⟨by rw [ag' 1 (by decide)]; exact tc1.1, by rw [ag' 2 (by decide)]; exact tc1.2.1, (tk_en hj).2⟩, agrF_tr (agrF_mono ag (by decide)) (agrF_mono ag' (by decide))⟩
  -- the numbers
  have loop : ∀ f k j w F1, k + f = 4 → rdC F1 A c → rS n j F1 → w < 2 ^ c.1.1 → n_pc w = k → agrF [2, 3, 4, 5] F F1 → match lnT T n c (p_lnL T n c.1.1 f k j w) with
      | .inl v => ∃ F' A', z_J G (d + 8) (m_X7_readLine z_pu0) (.inl (some (.int (nI 1))), z_hb h x 4 F' A') 19 [some (.ref x), some (.int (nI w)), some (.int (nI k))] [] (z_hb h x 4 F1 A) ∧ rdC F' A' v.1 ∧ rS n v.2 F' ∧ agrF [2, 3, 4, 5, 8] F F'
      | .inr e => ∃ F' A', z_J G (d + 8) (m_X7_readLine z_pu0) (.inl (some (.int (nI 0))), z_hb h x 4 F' A') 19 [some (.ref x), some (.int (nI w)), some (.int (nI k))] [] (z_hb h x 4 F1 A) ∧ F' 12 = nI e.1 ∧ F' 13 = nI e.2 := by
    intro f
    induction f with
    | zero =>
      intro k j w F1 hk hc1 hr hw hpc ag
      have e0 : p_lnL T n c.1.1 0 k j w = .inl (w, j) := rfl
      rw [e0, lnT_end]
      dsimp only
      have rc := e7_readClose (G := G) (d := d) (A := A) hs ht hr
      by_cases cl : tk_k T n j = 3 ∧ T (tk_b T n j) = 59
      · rw [if_pos cl] at rc ⊢
        obtain ⟨F2, A2, ev, tc2, hr2, ag2, eA⟩ := rc
        subst eA
        have fin := close (F1 := F2) (w := w) (j := j) (fun r => z_J G (d + 8) (m_X7_readLine z_pu0) r 19 [some (.ref x), some (.int (nI w)), some (.int (nI k))] [] (z_hb h x 4 F1 A2)) (rdC_ag hc1 ag2 (by decide) (by decide)) tc2 hr.2.2 cl hw ⟨by omega, by omega⟩ (agrF_tr ag ag2) (fun y h3 hy ev3 => by
          refine b_X7_readLine_19 (z_pu0V rfl) ?_
          rw [if_neg (nI_nlt (by omega) (by omega))]
          refine ⟨hs.1, _, _, ev, ?_⟩
          rw [if_neg (by decide)]
          refine ⟨hs.1, _, _, ev3, ?_⟩
          rcases hy with rfl | rfl
          · rw [if_pos (show (0 : Int32) = nI 0 from rfl)]; exact ⟨Or.inl rfl, rfl⟩
          · rw [if_neg (by decide)]; exact ⟨Or.inr rfl, rfl⟩)
        cases ct : c_two c.1 w
        · rw [if_neg (by decide)]; exact fin.2 ct
        · rw [if_pos rfl]; exact fin.1 ct
      · rw [if_neg cl] at rc ⊢
        obtain ⟨F2, A2, ev, q12, q13⟩ := rc
        refine ⟨F2, A2, b_X7_readLine_19 (z_pu0V rfl) ?_, q12, q13⟩
        rw [if_neg (nI_nlt (by omega) (by omega))]
        refine ⟨hs.1, _, _, ev, ?_⟩
        rw [if_pos rfl]
        exact ⟨Or.inl rfl, rfl⟩
    | succ f ih =>
      intro k j w F1 hk hc1 hr hw hpc ag
      obtain ⟨F2, e2, tc2, ag2⟩ := e7_step (G := G) (d := d + 1) (A := A) hs ht hr.1 hr.2.2 hr.2.1
      have hc2 := rdC_ag hc1 ag2 (by decide) (by decide)
      have hen := (tk_en (T := T) hr.2.2).2
      -- a number comes, or is missed
      have num : ∀ (P : z_Res → Prop), (∀ r, (z_kd (z_hb h x 4 F2 A) x = 23 ∧ ∃ x_3 h_2, z_Ev G (d + 7) k_X7_isNumber [.ref x] (z_hb h x 4 F2 A) (.inl (some (.int x_3)), h_2) ∧ (if x_3 = nI 0 then (z_bz (nI 0) ∧ r = (.inl (some (.int (nI 0))), h_2)) else (z_kd h_2 x = 23 ∧ ∃ x_5 h_4, z_Ev G (d + 7) k_X7_isPointThere [.ref x] h_2 (.inl (some (.int x_5)), h_4) ∧ (if x_5 = nI 0 then (z_bz (nI 0) ∧ r = (.inl (some (.int (nI 0))), h_4)) else (z_kd h_4 x = 23 ∧ (if ((nI w >>> ((z_oi h_4 x 5) &&& nI 31)) &&& nI 1) = nI 0 then (z_kd h_4 x = 23 ∧ z_J G (d + 8) (m_X7_readLine z_pu0) r 19 [some (.ref x), some (.int (nI w ||| (nI 1 <<< ((z_oi h_4 x 5) &&& nI 31)))), some (.int (nI k + nI 1))] [] h_4) else (z_kd h_4 x = 23 ∧ ∃ x_7 h_6, z_Ev G (d + 7) k_X7_fail [.ref x, .int (nI 5)] h_4 (.inl (some (.int x_7)), h_6) ∧ (z_bz x_7 ∧ r = (.inl (some (.int x_7)), h_6))))))))) → P r) → match lnT T n c (match p_pt T n j c.1.1 with
            | .inl v => if w.testBit v.1 then (.inr (5, tk_b T n j) : (Nat × Nat) ⊕ pE) else p_lnL T n c.1.1 f (k + 1) v.2 (w ||| 2 ^ v.1)
            | .inr e => .inr (e, tk_b T n j)) with
          | .inl v => ∃ F' A', P (.inl (some (.int (nI 1))), z_hb h x 4 F' A') ∧ rdC F' A' v.1 ∧ rS n v.2 F' ∧ agrF [2, 3, 4, 5, 8] F F'
          | .inr e => ∃ F' A', P (.inl (some (.int (nI 0))), z_hb h x 4 F' A') ∧ F' 12 = nI e.1 ∧ F' 13 = nI e.2 := by
        intro P hP
        have hnum := e7_isNumber (G := G) (d := d + 2) (A := A) hs tc2 ht hr.2.2
        cases hp : p_num T n j 0 9 with
        | inr e =>
          rw [hp] at hnum
          obtain ⟨F', A', ev, q12, q13⟩ := hnum
          have ept : p_pt T n j c.1.1 = .inr e := by unfold p_pt; rw [hp]
          rw [ept]
          refine ⟨F', A', hP _ ⟨hs.1, _, _, ev, ?_⟩, q12, q13⟩
          rw [if_pos rfl]
          exact ⟨Or.inl rfl, rfl⟩
        | inl v =>
          rw [hp] at hnum
          obtain ⟨F', A', ev, hF, hA, f5, f2, v9⟩ := hnum
          subst hF; subst hA
          have hv := p_num_9 hr.2.2 hp
          have pt := e7_isPointThere (G := G) (d := d + 2) (A := A') hs f5 v9 hc2.1 hn8.2
          by_cases cv : v.1 < c.1.1
          · rw [if_pos cv] at pt
            have ept : p_pt T n j c.1.1 = .inl v := by unfold p_pt; rw [hp]; dsimp only; rw [if_pos cv]
            rw [ept]
            dsimp only
            have w256 : w < 256 := Nat.lt_of_lt_of_le hw (p2_9 hn8.2)
            have hbit : (nI w >>> (nI v.1 &&& nI 31)) &&& nI 1 = nI (w.testBit v.1).toNat := n_bit (by omega) (by omega)
            have hone : nI 1 <<< (nI v.1 &&& nI 31) = nI (2 ^ v.1) := n_one (by omega)
            cases cb : w.testBit v.1
            · rw [if_neg (by decide)]
              have ih' := ih (k + 1) v.2 (w ||| 2 ^ v.1) F' (by omega) hc2 ⟨tc2.1, f2, by rw [hv.2.2.2.1]; exact hen⟩ (Nat.or_lt_two_pow hw (Nat.pow_lt_pow_right (by decide) cv)) (by rw [pc_add1 w w256 v.1 (by omega) cb, hpc]) (agrF_tr ag ag2)
              have conv : ∀ r, z_J G (d + 8) (m_X7_readLine z_pu0) r 19 [some (.ref x), some (.int (nI (w ||| 2 ^ v.1))), some (.int (nI (k + 1)))] [] (z_hb h x 4 F' A') → P r := fun r hJ => hP r ⟨hs.1, _, _, ev, by
                rw [if_neg (by decide)]
                refine ⟨hs.1, _, _, pt, ?_⟩
                rw [if_neg (by decide), hb_oi, f5, hbit, cb, if_pos (by rfl), hone, fa_or, nI_add]
                exact ⟨hs.1, hs.1, hJ⟩⟩
              revert ih'
              cases lnT T n c (p_lnL T n c.1.1 f (k + 1) v.2 (w ||| 2 ^ v.1)) with
              | inl u =>
                rintro ⟨G1, B1, j1, j2⟩
                exact ⟨G1, B1, conv _ j1, j2⟩
              | inr e =>
                rintro ⟨G1, B1, j1, j2⟩
                exact ⟨G1, B1, conv _ j1, j2⟩
            · rw [if_pos rfl]
              refine ⟨z_u (z_u F' 12 (nI 5)) 13 (F' 4), A', hP _ ⟨hs.1, _, _, ev, ?_⟩, by rw [u_ne _ _ (by decide), u_eq], by rw [u_eq, tc2.2.2.2.1]⟩
              rw [if_neg (by decide)]
              refine ⟨hs.1, _, _, pt, ?_⟩
              rw [if_neg (by decide), hb_oi, f5, hbit, cb, if_neg (by decide)]
              exact ⟨hs.1, hs.1, _, _, e7_fail hs 5, Or.inl rfl, rfl⟩
          · rw [if_neg cv] at pt
            have ept : p_pt T n j c.1.1 = .inr 3 := by unfold p_pt; rw [hp]; dsimp only; rw [if_neg cv]
            rw [ept]
            refine ⟨z_u (z_u F' 12 (nI 3)) 13 (F' 4), A', hP _ ⟨hs.1, _, _, ev, ?_⟩, by rw [u_ne _ _ (by decide), u_eq], by rw [u_eq, tc2.2.2.2.1]⟩
            rw [if_neg (by decide)]
            refine ⟨hs.1, _, _, pt, ?_⟩
            rw [if_pos rfl]
            exact ⟨Or.inl rfl, rfl⟩
      have es : p_lnL T n c.1.1 (f + 1) k j w = if k < 2 ∨ tk_k T n j = 2 then (match p_pt T n j c.1.1 with
          | .inl v => if w.testBit v.1 then .inr (5, tk_b T n j) else p_lnL T n c.1.1 f (k + 1) v.2 (w ||| 2 ^ v.1)
          | .inr e => .inr (e, tk_b T n j)) else .inl (w, j) := rfl
      rw [es]
      by_cases c1 : k < 2
      · rw [if_pos (Or.inl c1)]
        refine num (fun r => z_J G (d + 8) (m_X7_readLine z_pu0) r 19 [some (.ref x), some (.int (nI w)), some (.int (nI k))] [] (z_hb h x 4 F1 A)) (fun r hr3 => ?_)
        refine b_X7_readLine_19 (z_pu0V rfl) ?_
        rw [if_pos (nI_lt (by omega) (by decide))]
        refine ⟨hs.1, _, e2, ?_⟩
        rw [if_pos (nI_lt c1 (by decide))]
        exact hr3
      · by_cases c2 : tk_k T n j = 2
        · rw [if_pos (Or.inr c2)]
          refine num (fun r => z_J G (d + 8) (m_X7_readLine z_pu0) r 19 [some (.ref x), some (.int (nI w)), some (.int (nI k))] [] (z_hb h x 4 F1 A)) (fun r hr3 => ?_)
          refine b_X7_readLine_19 (z_pu0V rfl) ?_
          rw [if_pos (nI_lt (by omega) (by decide))]
          refine ⟨hs.1, _, e2, ?_⟩
          rw [if_neg (nI_nlt (by omega) (by omega)), hb_oi, tc2.2.2.1, if_neg (fun e => by have := (kd5.mp ((kdI (by decide)).mp e)).1; omega)]
          exact ⟨hs.1, hr3⟩
        · rw [if_neg (by rintro (e | e); exact c1 e; exact c2 e), lnT_end]
          dsimp only
          by_cases cl : tk_k T n j = 3 ∧ T (tk_b T n j) = 59
          · rw [if_pos cl]
            have fin := close (F1 := F2) (w := w) (j := j) (fun r => z_J G (d + 8) (m_X7_readLine z_pu0) r 19 [some (.ref x), some (.int (nI w)), some (.int (nI k))] [] (z_hb h x 4 F1 A)) hc2 tc2 hr.2.2 cl hw ⟨by omega, by omega⟩ (agrF_tr ag ag2) (fun y h3 hy ev3 => by
              refine b_X7_readLine_19 (z_pu0V rfl) ?_
              rw [if_pos (nI_lt (by omega) (by decide))]
              refine ⟨hs.1, _, e2, ?_⟩
              rw [if_neg (nI_nlt (by omega) (by omega)), hb_oi, tc2.2.2.1, if_pos ((kdI (by decide)).mpr (kd5.mpr cl))]
              exact ⟨hs.1, hs.1, _, _, ev3, hy, rfl⟩)
            cases ct : c_two c.1 w
            · rw [if_neg (by decide)]; exact fin.2 ct
            · rw [if_pos rfl]; exact fin.1 ct
          · rw [if_neg cl]
            have hnum := e7_isNumber (G := G) (d := d + 2) (A := A) hs tc2 ht hr.2.2
            have hp : p_num T n j 0 9 = .inr 1 := by unfold p_num; rw [if_neg c2]
            rw [hp] at hnum
            obtain ⟨F', A', ev, q12, q13⟩ := hnum
            refine ⟨F', A', b_X7_readLine_19 (z_pu0V rfl) ?_, q12, q13⟩
            rw [if_pos (nI_lt (by omega) (by decide))]
            refine ⟨hs.1, _, e2, ?_⟩
            rw [if_neg (nI_nlt (by omega) (by omega)), hb_oi, tc2.2.2.1, if_neg (fun e => cl (kd5.mp ((kdI (by decide)).mp e)))]
            refine ⟨hs.1, hs.1, _, _, ev, ?_⟩
            rw [if_pos rfl]
            exact ⟨Or.inl rfl, rfl⟩
  have fin := loop 4 0 (tk_e T n i) 0 F rfl hc ⟨tc.1, tc.2.1, (tk_en hi).2⟩ (Nat.two_pow_pos _) (by decide) (agr_0 _ F)
  have wrap : ∀ r, z_J G (d + 8) (m_X7_readLine z_pu0) r 19 [some (.ref x), some (.int (nI 0)), some (.int (nI 0))] [] (z_hb h x 4 F A) → z_Ev G (d + 8) k_X7_readLine [.ref x] (z_hb h x 4 F A) r := fun r hJ => by
    refine en_X7_readLine (b_X7_readLine_0 (z_pu0V rfl) ⟨hs.1, ?_⟩)
    rw [hb_oi, hc.2.1, if_pos (nI_lt (by omega) (by decide))]
    exact hJ
  revert fin
  cases lnT T n c (p_lnL T n c.1.1 4 0 (tk_e T n i) 0) with
  | inl u =>
    rintro ⟨F', A', j1, j2⟩
    exact ⟨F', A', wrap _ j1, j2⟩
  | inr e =>
    rintro ⟨F', A', j1, j2⟩
    exact ⟨F', A', wrap _ j1, j2⟩
end HI
