/-! listing -/
section DB
variable {G : z_G} {d : Nat} {h : z_H} {M : Nat} {F : Nat → Int32}
/-- rows that the listing may use; what it must keep -/
def lfI (k : Nat) (f : Nat → Nat) (L : Nat → Int32) (A0 A : Nat → Nat → Int32) : Prop := agr [5, 10, 14, 15] A0 A ∧ A 14 = L ∧ ∀ l, l < k → A 15 l = nI (f l)
theorem cat_len {α : Type} (g : Nat → List α) (c s : Nat) : (c_cat g (c + 1) s).length = (g s).length + (c_cat g c (s + 1)).length := List.length_append
theorem e_listFrom (hM : z_sh M h) {n m : Nat} (hn : 1 ≤ n ∧ n ≤ 8) (hm : m ≤ 7) (h27 : F 27 = nI n) (h28 : F 28 = nI m) (A0 : Nat → Nat → Int32) : ∀ j k f c L A, k + j = m → (∀ l, l < k → f l < 2 ^ n) → c + (c_lf n j k f).length ≤ 2000 → lfI k f L A0 A → ∃ A', lfI k f (c_wrs m (c_lf n j k f) c L) A0 A' ∧ z_Ev G (j + d + 7) k_X12_listFrom [.ref M, .int (nI k)] (z_rs h M (z_u F 29 (nI c)) A) (.inl none, z_rs h M (z_u F 29 (nI (c + (c_lf n j k f).length))) A') := by
  have hp8 := n_p8 hn.2
  intro j
  induction j with
  | zero =>
    intro k f c L A hk hf hc hI
    have hkm : k = m := by omega
    have hc2 : c + 1 ≤ 2000 := hc
    refine ⟨z_u A 14 (c_ovl L (7 * c) m (fun q => nI (f q))), ⟨agr_u hI.1 (by decide) (by decide) _, u_eq _ _ _, fun l hl => by rw [u_ne _ _ (by decide)]; exact hI.2.2 l hl⟩, z_Ev_eq (show d + 7 = 0 + d + 7 by omega) (en_X12_listFrom (b_X12_listFrom_0 z_puCV ⟨sh_kd hM, ?_⟩))⟩
    rw [rs_oi, u_ne _ _ (show 28 ≠ 29 by decide), h28, hkm, if_pos rfl]
    have key := z_forI (G := G) (d := d + 7) (μ := m_X12_listFrom z_puC) (r := (.inl none, z_rs h M (z_u F 29 (nI (c + 1))) (z_u A 14 (c_ovl L (7 * c) m (fun q => nI (f q)))))) (pc := 10) (α := Unit) (fun t _ => [some (.ref M), some (.int (nI m)), some (.int (nI t)), none, none]) (fun t _ => z_rs h M (z_u F 29 (nI c)) (z_u A 14 (c_ovl L (7 * c) t (fun q => nI (f q))))) (fun _ _ => True) (fun _ x => x) () m trivial ?_ ?_
    · rw [ovl_0, ← hI.2.1, u_self] at key
      rw [hI.2.1] at key
      exact key
    · intro t _ ht _
      refine ⟨trivial, fun hJ => b_X12_listFrom_10 z_puCV ?_⟩
      have hx : 7 * c + t < 14000 := by omega
      have e15 := hI.2.2 t (by omega)
      simp (disch := omega) only [l0, l1, l2, l3, l4, l5, l6, l7, l8, l9, l10, l11, l12, l13, l14, l15, l16, l18, l20, l22, l24, l30, l31, l39, l40, l48, l60, l154, l255, l256, l400, l2000, l6160, l14000, lm1, q_lt, q_le, q_eq, q_mI, q_mI', q_ltmI, q_in, q_bz0, q_bz1, q_bzn0, q_bzn1, q_bzb, q_bn0, q_bn1, q_shr, q_shl, q_1s, b_one, b_two, fa_and, fa_or, nI_add, n_mul, nI_clamp, z_rcs, true_and, and_true, if_true, if_false, rs_ai, rs_oi, rs_pai, rs_poi, rs_pax, rs_kd, rs_ln, rs_or, u_eq, u_ne, ht, sh_kd hM, (sh_list hM).1, (sh_list hM).2.1, (sh_list hM).2.2, (sh_path hM).1, (sh_path hM).2.1, (sh_path hM).2.2, e15, u_u]
      rw [ovl_s _ (fun q => nI (f q))]
      exact hJ
    · intro _
      refine b_X12_listFrom_10 z_puCV ?_
      simp (disch := omega) only [l0, l1, l2, l3, l4, l5, l6, l7, l8, l9, l10, l11, l12, l13, l14, l15, l16, l18, l20, l22, l24, l30, l31, l39, l40, l48, l60, l154, l255, l256, l400, l2000, l6160, l14000, lm1, q_lt, q_le, q_eq, q_mI, q_mI', q_ltmI, q_in, q_bz0, q_bz1, q_bzn0, q_bzn1, q_bzb, q_bn0, q_bn1, q_shr, q_shl, q_1s, b_one, b_two, fa_and, fa_or, nI_add, n_mul, nI_clamp, z_rcs, true_and, and_true, if_true, if_false, rs_ai, rs_oi, rs_pai, rs_poi, rs_pax, rs_kd, rs_ln, rs_or, u_eq, u_ne, Nat.lt_irrefl, sh_kd hM, u_u]
  | succ j ih =>
    intro k f c L A hk hf hc hI
    have hst : c_st f k ≤ 2 ^ n ∨ k = 0 := by
      unfold c_st
      by_cases k0 : k = 0
      · exact Or.inr k0
      · left; rw [if_neg k0]; have := hf (k - 1) (by omega); omega
    have hst8 : c_st f k ≤ 256 := by
      rcases hst with q | q
      · omega
      · unfold c_st; rw [if_pos q]; decide
    -- from a set on
    have loop : ∀ cn s c L A, (2 ^ n ≤ s ∧ cn = 0 ∨ s + cn = 2 ^ n) → s ≤ 256 → c + (c_cat (fun s => if c_okS f k s && c_isLst n (z_u f k s) (k + 1) then c_lf n j (k + 1) (z_u f k s) else []) cn s).length ≤ 2000 → lfI k f L A0 A → ∃ A', lfI k f (c_wrs m (c_cat (fun s => if c_okS f k s && c_isLst n (z_u f k s) (k + 1) then c_lf n j (k + 1) (z_u f k s) else []) cn s) c L) A0 A' ∧ z_J G (j + d + 1 + 7) (m_X12_listFrom z_puC) (.inl none, z_rs h M (z_u F 29 (nI (c + (c_cat (fun s => if c_okS f k s && c_isLst n (z_u f k s) (k + 1) then c_lf n j (k + 1) (z_u f k s) else []) cn s).length))) A') 72 [some (.ref M), some (.int (nI k)), some (.int (nI s)), none, none] [] (z_rs h M (z_u F 29 (nI c)) A) := by
      intro cn
      induction cn with
      | zero =>
        intro s c L A hs hs8 hc hI
        refine ⟨A, hI, b_X12_listFrom_72 z_puCV ⟨sh_kd hM, ?_⟩⟩
        have hge : 2 ^ n ≤ s := by omega
        rw [rs_oi, u_ne _ _ (show 27 ≠ 29 by decide), h27, show nI 1 <<< (nI n &&& nI 31) = nI (2 ^ n) from n_one (by omega), if_neg (fun e => by have := (nI_ltI (by omega) (by omega)).mp e; omega)]
        rfl
      | succ cn ihc =>
        intro s c L A hs hs8 hc hI
        have hs2 : s + (cn + 1) = 2 ^ n := by omega
        rw [cat_len] at hc
        have hlt : s < 256 := by omega
        -- what is done behind the test
        have yes : c_okS f k s = true → ∃ A', lfI k f (c_wrs m (c_cat (fun s => if c_okS f k s && c_isLst n (z_u f k s) (k + 1) then c_lf n j (k + 1) (z_u f k s) else []) (cn + 1) s) c L) A0 A' ∧ ∃ A1, ∃ v, z_Ev G (j + d + 7) k_X12_isLeast [.ref M, .int (nI (k + 1))] (z_rs h M (z_u F 29 (nI c)) (z_u A 15 (z_u (A 15) k (nI s)))) (.inl (some (.int v)), z_rs h M (z_u F 29 (nI c)) A1) ∧ (if v = nI 0 then z_J G (j + d + 1 + 7) (m_X12_listFrom z_puC) (.inl none, z_rs h M (z_u F 29 (nI (c + (c_cat (fun s => if c_okS f k s && c_isLst n (z_u f k s) (k + 1) then c_lf n j (k + 1) (z_u f k s) else []) (cn + 1) s).length))) A') 72 [some (.ref M), some (.int (nI k)), some (.int (nI (s + 1))), none, none] [] (z_rs h M (z_u F 29 (nI c)) A1) else ∃ h_4, z_Ev G (j + d + 7) k_X12_listFrom [.ref M, .int (nI (k + 1))] (z_rs h M (z_u F 29 (nI c)) A1) (.inl none, h_4) ∧ z_J G (j + d + 1 + 7) (m_X12_listFrom z_puC) (.inl none, z_rs h M (z_u F 29 (nI (c + (c_cat (fun s => if c_okS f k s && c_isLst n (z_u f k s) (k + 1) then c_lf n j (k + 1) (z_u f k s) else []) (cn + 1) s).length))) A') 72 [some (.ref M), some (.int (nI k)), some (.int (nI (s + 1))), none, none] [] h_4) := by
          intro hok
          have hf2 : ∀ l, l < k + 1 → z_u f k s l < 2 ^ n := fun l hl => by
            unfold z_u; split
            · omega
            · exact hf l (by omega)
          have hp2 : ∀ l, l < k + 1 → z_u A 15 (z_u (A 15) k (nI s)) 15 l = nI (z_u f k s l) := fun l hl => by
            rw [u_eq]; unfold z_u
            split
            · rfl
            · exact hI.2.2 l (by omega)
          obtain ⟨A1, a1, e1⟩ := e_isLeast (G := G) (d := j + d + 1) (F := z_u F 29 (nI c)) (A := z_u A 15 (z_u (A 15) k (nI s))) (n := n) (k := k + 1) (f := z_u f k s) hM hn (by omega) (by rw [u_ne _ _ (by decide)]; exact h27) hf2 hp2 (by rw [u_ne _ _ (by decide)]; exact hI.1.2)
          have a1' : agr [5, 10, 14, 15] A0 A1 := agr_tr (agr_u hI.1 (show 15 ∈ [5, 10, 14, 15] by decide) (by decide) (z_u (A 15) k (nI s))) (agr_mono a1 (by decide))
          have l14 : A1 14 = L := by rw [a1.1 14 (by decide), u_ne _ _ (by decide)]; exact hI.2.1
          have l15 : ∀ l, l < k + 1 → A1 15 l = nI (z_u f k s l) := fun l hl => by rw [a1.1 15 (by decide)]; exact hp2 l hl
          have l15k : ∀ l, l < k → A1 15 l = nI (f l) := fun l hl => by rw [l15 l (by omega), u_ne _ _ (by omega)]
          unfold c_cat
          rw [hok, Bool.true_and] at hc ⊢
          cases hl : c_isLst n (z_u f k s) (k + 1)
          · rw [hl] at hc
            rw [if_neg (by decide)] at hc ⊢
            rw [List.nil_append]
            obtain ⟨A', i1, i2⟩ := ihc (s + 1) c L A1 (by omega) (by omega) (by simpa using hc) ⟨a1', l14, l15k⟩
            refine ⟨A', i1, A1, _, z_Ev_eq (by omega) e1, ?_⟩
            rw [hl, if_pos (by decide)]
            exact i2
          · rw [hl] at hc
            rw [if_pos rfl] at hc ⊢
            obtain ⟨A2, i1, i2⟩ := ih (k + 1) (z_u f k s) c L A1 (by omega) hf2 (by omega) ⟨a1', l14, l15⟩
            obtain ⟨A', j1, j2⟩ := ihc (s + 1) (c + (c_lf n j (k + 1) (z_u f k s)).length) _ A2 (by omega) (by omega) (by omega) ⟨i1.1, i1.2.1, fun l hl => by rw [i1.2.2 l (by omega), u_ne _ _ (by omega)]⟩
            rw [wrs_app, List.length_append, ← Nat.add_assoc]
            refine ⟨A', j1, A1, _, z_Ev_eq (by omega) e1, ?_⟩
            rw [hl, if_neg (by decide)]
            exact ⟨_, i2, j2⟩
        have no : c_okS f k s = false → ∃ A', lfI k f (c_wrs m (c_cat (fun s => if c_okS f k s && c_isLst n (z_u f k s) (k + 1) then c_lf n j (k + 1) (z_u f k s) else []) (cn + 1) s) c L) A0 A' ∧ z_J G (j + d + 1 + 7) (m_X12_listFrom z_puC) (.inl none, z_rs h M (z_u F 29 (nI (c + (c_cat (fun s => if c_okS f k s && c_isLst n (z_u f k s) (k + 1) then c_lf n j (k + 1) (z_u f k s) else []) (cn + 1) s).length))) A') 72 [some (.ref M), some (.int (nI k)), some (.int (nI (s + 1))), none, none] [] (z_rs h M (z_u F 29 (nI c)) A) := by
          intro hok
          unfold c_cat
          rw [hok, Bool.false_and, if_neg (by decide)] at hc ⊢
          rw [List.nil_append]
          exact ihc (s + 1) c L A (by omega) (by omega) (by simpa using hc) hI
        -- the test
        have test : ∀ r, (c_okS f k s = false → z_J G (j + d + 1 + 7) (m_X12_listFrom z_puC) r 72 [some (.ref M), some (.int (nI k)), some (.int (nI (s + 1))), none, none] [] (z_rs h M (z_u F 29 (nI c)) A)) → (c_okS f k s = true → ∃ x_8 h_7, z_Ev G (j + d + 7) k_X12_isLeast [.ref M, .int (nI (k + 1))] (z_rs h M (z_u F 29 (nI c)) (z_u A 15 (z_u (A 15) k (nI s)))) (.inl (some (.int x_8)), h_7) ∧ (if x_8 = nI 0 then z_J G (j + d + 1 + 7) (m_X12_listFrom z_puC) r 72 [some (.ref M), some (.int (nI k)), some (.int (nI (s + 1))), none, none] [] h_7 else (z_kd h_7 M = 28 ∧ ∃ h_9, z_Ev G (j + d + 7) k_X12_listFrom [.ref M, .int (nI (k + 1))] h_7 (.inl none, h_9) ∧ z_J G (j + d + 1 + 7) (m_X12_listFrom z_puC) r 72 [some (.ref M), some (.int (nI k)), some (.int (nI (s + 1))), none, none] [] h_9))) → z_J G (j + d + 1 + 7) (m_X12_listFrom z_puC) r 72 [some (.ref M), some (.int (nI k)), some (.int (nI s)), none, none] [] (z_rs h M (z_u F 29 (nI c)) A) := by
          intro r hno hyes
          have hpc := n_pc12 s (by omega)
          have bad : ∀ l, l ≤ k → c_okS f k s = false → z_J G (j + d + 1 + 7) (m_X12_listFrom z_puC) r 99 [some (.ref M), some (.int (nI k)), some (.int (nI s)), some (.int (nI 0)), some (.int (nI l))] [] (z_rs h M (z_u F 29 (nI c)) A) := by
            intro l hl hok
            refine b_X12_listFrom_99 z_puCV ?_
            rw [if_pos (show nI 0 = nI 0 from rfl), if_pos (show nI 0 = nI 0 from rfl), nI_add]
            split <;> exact hno hok
          refine b_X12_listFrom_72 z_puCV ⟨sh_kd hM, ?_⟩
          rw [rs_oi, u_ne _ _ (show 27 ≠ 29 by decide), h27, show nI 1 <<< (nI n &&& nI 31) = nI (2 ^ n) from n_one (by omega), if_pos (nI_lt (by omega) (by omega)), t_bits (by omega)]
          refine ⟨trivial, ?_⟩
          by_cases h3 : n_pc s = 3
          · rw [if_pos (by rw [h3])]
            refine z_fnd (fun l => [some (.ref M), some (.int (nI k)), some (.int (nI s)), some (.int (nI 1)), some (.int (nI l))]) (fun i => !decide (n_pc (f i &&& s) < 2)) k ?_ ?_
            · intro l hl hnn hJ
              have hfl := hf l hl
              have hal := and_lt256 (b := s) (show f l < 256 by omega)
              have hpl := n_pc12 (f l &&& s) (by omega)
              have e15 := hI.2.2 l hl
              have h10 : (nI 1 = nI 0) = False := by decide
              refine b_X12_listFrom_99 z_puCV ?_
              simp (disch := omega) only [l0, l1, l2, l3, l4, l5, l6, l7, l8, l9, l10, l11, l12, l13, l14, l15, l16, l18, l20, l22, l24, l30, l31, l39, l40, l48, l60, l154, l255, l256, l400, l2000, l6160, l14000, lm1, q_lt, q_le, q_eq, q_mI, q_mI', q_ltmI, q_in, q_bz0, q_bz1, q_bzn0, q_bzn1, q_bzb, q_bn0, q_bn1, q_shr, q_shl, q_1s, b_one, b_two, fa_and, fa_or, nI_add, n_mul, nI_clamp, z_rcs, true_and, and_true, if_true, if_false, rs_ai, rs_oi, rs_pai, rs_poi, rs_pax, rs_kd, rs_ln, rs_or, u_eq, u_ne, hl, h10, sh_kd hM, (sh_path hM).1, (sh_path hM).2.1, (sh_path hM).2.2, e15, t_sbits, t_bits]
              by_cases h2 : n_pc (f l &&& s) < 2
              · rw [if_pos h2]; exact hJ (by rw [decide_eq_true h2]; rfl)
              · rw [if_neg h2]
                refine bad (l + 1) (by omega) ?_
                unfold c_okS
                rw [any_t hl (by rw [decide_eq_false h2]; rfl)]
                simp
            · intro hnn
              have hok : c_okS f k s = true := by
                unfold c_okS
                rw [any_f hnn, decide_eq_true h3]; rfl
              have h10 : (nI 1 = nI 0) = False := by decide
              refine b_X12_listFrom_99 z_puCV ?_
              simp (disch := omega) only [l0, l1, l2, l3, l4, l5, l6, l7, l8, l9, l10, l11, l12, l13, l14, l15, l16, l18, l20, l22, l24, l30, l31, l39, l40, l48, l60, l154, l255, l256, l400, l2000, l6160, l14000, lm1, q_lt, q_le, q_eq, q_mI, q_mI', q_ltmI, q_in, q_bz0, q_bz1, q_bzn0, q_bzn1, q_bzb, q_bn0, q_bn1, q_shr, q_shl, q_1s, b_one, b_two, fa_and, fa_or, nI_add, n_mul, nI_clamp, z_rcs, true_and, and_true, if_true, if_false, rs_ai, rs_oi, rs_pai, rs_poi, rs_pax, rs_kd, rs_ln, rs_or, u_eq, u_ne, Nat.lt_irrefl, h10, sh_kd hM, (sh_path hM).1, (sh_path hM).2.1, (sh_path hM).2.2]
              exact hyes hok
          · rw [if_neg (fun e => h3 ((nI_eq (by omega) (by omega)).mp e))]
            exact bad 0 (by omega) (by unfold c_okS; rw [decide_eq_false h3]; rfl)
        cases hok : c_okS f k s
        · obtain ⟨A', i1, i2⟩ := no hok
          exact ⟨A', i1, test _ (fun _ => i2) (fun q => by rw [hok] at q; cases q)⟩
        · obtain ⟨A', i1, A1, v, i2, i3⟩ := yes hok
          refine ⟨A', i1, test _ (fun q => by rw [hok] at q; cases q) (fun _ => ⟨v, _, i2, ?_⟩)⟩
          by_cases hv : v = nI 0
          · rw [if_pos hv] at i3 ⊢; exact i3
          · rw [if_neg hv] at i3 ⊢; exact ⟨sh_kd hM, i3⟩
    have hsc : (2 ^ n ≤ c_st f k ∧ 2 ^ n - c_st f k = 0 ∨ c_st f k + (2 ^ n - c_st f k) = 2 ^ n) := by omega
    obtain ⟨A', i1, i2⟩ := loop (2 ^ n - c_st f k) (c_st f k) c L A hsc hst8 hc hI
    refine ⟨A', i1, z_Ev_eq (show j + d + 1 + 7 = j + 1 + d + 7 by omega) (en_X12_listFrom (b_X12_listFrom_0 z_puCV ⟨sh_kd hM, ?_⟩))⟩
    rw [rs_oi, u_ne _ _ (show 28 ≠ 29 by decide), h28, if_neg (fun e => by have := (nI_eq (by omega) (by omega)).mp e; omega)]
    unfold c_st at i2
    by_cases k0 : k = 0
    · rw [if_pos k0] at i2
      rw [if_pos (by rw [k0])]
      unfold c_lf c_st
      rw [if_pos k0]
      exact i2
    · rw [if_neg k0] at i2
      rw [if_neg (fun e => k0 ((nI_eq (by omega) (by omega)).mp e)), q_sub (by omega)]
      have e15 := hI.2.2 (k - 1) (by omega)
      have hkk : k - 1 < 7 := by omega
      simp (disch := omega) only [l0, l1, l2, l3, l4, l5, l6, l7, l8, l9, l10, l11, l12, l13, l14, l15, l16, l18, l20, l22, l24, l30, l31, l39, l40, l48, l60, l154, l255, l256, l400, l2000, l6160, l14000, lm1, q_lt, q_le, q_eq, q_mI, q_mI', q_ltmI, q_in, q_bz0, q_bz1, q_bzn0, q_bzn1, q_bzb, q_bn0, q_bn1, q_shr, q_shl, q_1s, b_one, b_two, fa_and, fa_or, nI_add, n_mul, nI_clamp, z_rcs, true_and, and_true, if_true, if_false, rs_ai, rs_oi, rs_pai, rs_poi, rs_pax, rs_kd, rs_ln, rs_or, u_eq, u_ne, sh_kd hM, (sh_path hM).1, (sh_path hM).2.1, (sh_path hM).2.2, e15]
      unfold c_lf c_st
      rw [if_neg k0]
      exact i2
/-- the cache -/
def rL (F : Nat → Int32) (A : Nat → Nat → Int32) : Prop := F 28 = mI ∨ ∃ n m, (3 ≤ n ∧ n ≤ 7) ∧ m ≤ 7 ∧ F 27 = nI n ∧ F 28 = nI m ∧ F 29 = nI (c_lst n m).length ∧ ∀ i f, (c_lst n m)[i]? = some f → ∀ k, k < m → A 14 (7 * i + k) = nI (f k)
theorem rL_k {F F' : Nat → Int32} {A A' : Nat → Nat → Int32} (h : rL F A) (hk : rLk F F' A A') : rL F' A' := by
  obtain ⟨k1, k2, k3, k4⟩ := hk
  unfold rL
  rw [k1, k2, k3, k4]
  exact h
def c_list (n m i j : Int32) : Int32 × Int32 := if (n = nI 3 ∨ n = nI 4 ∨ n = nI 5 ∨ n = nI 6 ∨ n = nI 7) ∧ c_in m 8 = true then (if i = mI then (nI (c_lst n.toNatClampNeg m.toNatClampNeg).length, nI 0) else if c_in i (c_lst n.toNatClampNeg m.toNatClampNeg).length = true ∧ c_in j m.toNatClampNeg = true then (nI ((((c_lst n.toNatClampNeg m.toNatClampNeg)[i.toNatClampNeg]?).getD (fun _ => 0)) j.toNatClampNeg), nI 0) else (nI 0, nI 2)) else (nI 0, nI 1)
theorem isIn_37 (g : Int32) (h : z_H) : f_X12_isIn g (nI 3) (nI 7) h = nI (decide (g = nI 3 ∨ g = nI 4 ∨ g = nI 5 ∨ g = nI 6 ∨ g = nI 7)).toNat := by
  unfold f_X12_isIn
  by_cases c1 : g < nI 3
  · rw [if_pos c1, decide_eq_false]; rfl
    rintro (rfl | rfl | rfl | rfl | rfl) <;> exact absurd c1 (by decide)
  · rw [if_neg c1]
    by_cases c2 : nI 7 < g
    · rw [if_pos c2, decide_eq_false]; rfl
      rintro (rfl | rfl | rfl | rfl | rfl) <;> exact absurd c2 (by decide)
    · rw [if_neg c2, decide_eq_true]; rfl
      have h0 : ¬ g < 0 := fun e => c1 (by
        rw [fa_lt] at e ⊢
        have e0 : (0 : Int32).toInt = 0 := by decide
        have e2 : (nI 3).toInt = 3 := by decide
        omega)
      obtain ⟨j, hj, rfl⟩ := nI_of h0
      rw [nI_ltI hj (by omega)] at c1
      rw [nI_ltI (by omega) hj] at c2
      have : j = 3 ∨ j = 4 ∨ j = 5 ∨ j = 6 ∨ j = 7 := by omega
      rcases this with rfl | rfl | rfl | rfl | rfl
      · exact Or.inl rfl
      · exact Or.inr (Or.inl rfl)
      · exact Or.inr (Or.inr (Or.inl rfl))
      · exact Or.inr (Or.inr (Or.inr (Or.inl rfl)))
      · exact Or.inr (Or.inr (Or.inr (Or.inr rfl)))
theorem e_listP (hM : z_sh M h) {A : Nat → Nat → Int32} {σ : RSt} (hI : rI F A σ) (hL : rL F A) (hB : ∀ n m, 3 ≤ n → n ≤ 7 → m ≤ 7 → (c_lst n m).length ≤ 2000) (n m i j : Int32) : ∃ F' A', rI F' A' σ ∧ rL F' A' ∧ F' 0 = (c_list n m i j).2 ∧ z_Ev G (d + 15) k_X12_list [.ref M, .int n, .int m, .int i, .int j] (z_rs h M F A) (.inl (some (.int (c_list n m i j).1)), z_rs h M F' A') := by
  have h5 := hI.1
  have em : ∀ F0 A0, f_X12_isIn m (nI 0) (nI 7) (z_rs h M F0 A0) = nI (c_in m 8).toNat := fun F0 A0 => f_isIn_c m (n := 8) (by omega) _
  have bad : ∀ code v, c_list n m i j = (v, code) → z_Ev G (d + 15) k_X12_list [.ref M, .int n, .int m, .int i, .int j] (z_rs h M F A) (.inl (some (.int v)), z_rs h M (z_u F 0 code) A) → ∃ F' A', rI F' A' σ ∧ rL F' A' ∧ F' 0 = (c_list n m i j).2 ∧ z_Ev G (d + 15) k_X12_list [.ref M, .int n, .int m, .int i, .int j] (z_rs h M F A) (.inl (some (.int (c_list n m i j).1)), z_rs h M F' A') := by
    intro code v e hE
    rw [e]
    exact ⟨_, _, rI_agr hI (agr_rf h5) (agrF_u agrF_rf (show 0 ∈ sK by decide) code), rL_k hL (rLk_u rLk_rf _ (by decide)), u_eq _ _ _, hE⟩
  by_cases hn : n = nI 3 ∨ n = nI 4 ∨ n = nI 5 ∨ n = nI 6 ∨ n = nI 7
  · cases hm : c_in m 8
    · refine bad (nI 1) (nI 0) (by unfold c_list; rw [if_neg (fun q => by rw [hm] at q; cases q.2)]) (en_X12_list (b_X12_list_0 z_puCV ⟨sh_kd hM, ?_⟩))
      rw [rs_poi, isIn_37, decide_eq_true hn, if_neg (show ¬ nI true.toNat = nI 0 by decide), em, hm, if_pos (show nI false.toNat = nI 0 from rfl)]
      exact ⟨trivial, trivial, sh_kd hM, _, _, e_failF (d := d + 10) hM, rfl⟩
    · obtain ⟨mm, hmm, hmm2, rfl⟩ := c_in_t hm
      have hnn : ∃ q, (3 ≤ q ∧ q ≤ 7) ∧ n = nI q := by
        rcases hn with e | e | e | e | e
        · exact ⟨3, by omega, e⟩
        · exact ⟨4, by omega, e⟩
        · exact ⟨5, by omega, e⟩
        · exact ⟨6, by omega, e⟩
        · exact ⟨7, by omega, e⟩
      obtain ⟨q, hq, rfl⟩ := hnn
      have hB1 := hB q mm hq.1 hq.2 (by omega)
      have cq : c_list (nI q) (nI mm) i j = if i = mI then (nI (c_lst q mm).length, nI 0) else if c_in i (c_lst q mm).length = true ∧ c_in j mm = true then (nI ((((c_lst q mm)[i.toNatClampNeg]?).getD (fun _ => 0)) j.toNatClampNeg), nI 0) else (nI 0, nI 2) := by
        unfold c_list
        rw [if_pos ⟨hn, hm⟩, nI_clamp (show q < 2 ^ 31 by omega), nI_clamp hmm2]
      -- the answer, once the cache is right
      have ans : ∀ F1 A1, rI F1 A1 σ → F1 0 = nI 0 → F1 27 = nI q → F1 28 = nI mm → F1 29 = nI (c_lst q mm).length → (∀ i f, (c_lst q mm)[i]? = some f → ∀ k, k < mm → A1 14 (7 * i + k) = nI (f k)) → ∃ F' A', rI F' A' σ ∧ rL F' A' ∧ F' 0 = (c_list (nI q) (nI mm) i j).2 ∧ (if i = mI then ((.inl (some (.int (c_list (nI q) (nI mm) i j).1)), z_rs h M F' A') : z_Res) = (.inl (some (.int (nI (c_lst q mm).length))), z_rs h M F1 A1) else if c_in i (c_lst q mm).length = true then (if c_in j mm = true then vp_in (nI 7 * i + j) 14000 ∧ ((.inl (some (.int (c_list (nI q) (nI mm) i j).1)), z_rs h M F' A') : z_Res) = (.inl (some (.int (A1 14 (Int32.toNatClampNeg (nI 7 * i + j))))), z_rs h M F1 A1) else ((.inl (some (.int (c_list (nI q) (nI mm) i j).1)), z_rs h M F' A') : z_Res) = (.inl (some (.int (nI 0))), z_rs h M (z_u F1 0 (nI 2)) A1)) else ((.inl (some (.int (c_list (nI q) (nI mm) i j).1)), z_rs h M F' A') : z_Res) = (.inl (some (.int (nI 0))), z_rs h M (z_u F1 0 (nI 2)) A1)) := by
        intro F1 A1 r1 r2 r3 r4 r5 r6
        have rL1 : ∀ v, rL (z_u F1 0 v) A1 := fun v => Or.inr ⟨q, mm, hq, by omega, r3, r4, r5, r6⟩
        have rI1 : ∀ v, rI (z_u F1 0 v) A1 σ := fun v => rI_agr r1 (agr_rf r1.1) (agrF_u agrF_rf (show 0 ∈ sK by decide) v)
        have rL0 : rL F1 A1 := Or.inr ⟨q, mm, hq, by omega, r3, r4, r5, r6⟩
        rw [cq]
        by_cases hi : i = mI
        · rw [if_pos hi]
          refine ⟨F1, A1, r1, rL0, r2, ?_⟩
          rw [if_pos hi]
        · rw [if_neg hi]
          by_cases c1 : c_in i (c_lst q mm).length = true
          · by_cases c2 : c_in j mm = true
            · rw [if_pos ⟨c1, c2⟩]
              refine ⟨F1, A1, r1, rL0, r2, ?_⟩
              rw [if_neg hi, if_pos c1, if_pos c2]
              obtain ⟨a, ha, ha2, rfl⟩ := c_in_t c1
              obtain ⟨b, hb, hb2, rfl⟩ := c_in_t c2
              rw [nI_clamp ha2, nI_clamp hb2, n_mul, nI_add, nI_clamp (by omega)]
              have hget : (c_lst q mm)[a]? = some ((c_lst q mm)[a]'ha) := List.getElem?_eq_getElem ha
              refine ⟨vp_in_nI (by omega) (by omega), ?_⟩
              rw [hget, r6 a _ hget b hb]
              rfl
            · rw [if_neg (fun q => c2 q.2)]
              refine ⟨z_u F1 0 (nI 2), A1, rI1 _, rL1 _, u_eq _ _ _, ?_⟩
              rw [if_neg hi, if_pos c1, if_neg c2]
          · rw [if_neg (fun q => c1 q.1)]
            refine ⟨z_u F1 0 (nI 2), A1, rI1 _, rL1 _, u_eq _ _ _, ?_⟩
            rw [if_neg hi, if_neg c1]
      -- the same in the machine's words
      have use : ∀ F1 A1 (r : z_Res), F1 29 = nI (c_lst q mm).length → (if i = mI then r = (.inl (some (.int (nI (c_lst q mm).length))), z_rs h M F1 A1) else if c_in i (c_lst q mm).length = true then (if c_in j mm = true then vp_in (nI 7 * i + j) 14000 ∧ r = (.inl (some (.int (A1 14 (Int32.toNatClampNeg (nI 7 * i + j))))), z_rs h M F1 A1) else r = (.inl (some (.int (nI 0))), z_rs h M (z_u F1 0 (nI 2)) A1)) else r = (.inl (some (.int (nI 0))), z_rs h M (z_u F1 0 (nI 2)) A1)) → (if i = mI then (z_kd (z_rs h M F1 A1) M = 28 ∧ r = (.inl (some (.int (z_oi (z_rs h M F1 A1) M 29))), z_rs h M F1 A1)) else (z_kd (z_rs h M F1 A1) M = 28 ∧ (s_X12_isIn i (nI 0) ((z_oi (z_rs h M F1 A1) M 29) - (nI 1)) (z_rs h M F1 A1) ∧ (if (f_X12_isIn i (nI 0) ((z_oi (z_rs h M F1 A1) M 29) - (nI 1)) (z_rs h M F1 A1)) = nI 0 then (z_kd (z_rs h M F1 A1) M = 28 ∧ ∃ x_6 h_5, z_Ev G (d + 14) k_X12_fail [.ref M, .int (nI 2)] (z_rs h M F1 A1) (.inl (some (.int x_6)), h_5) ∧ r = (.inl (some (.int x_6)), h_5)) else (s_X12_isIn j (nI 0) (nI mm - (nI 1)) (z_rs h M F1 A1) ∧ (if (f_X12_isIn j (nI 0) (nI mm - (nI 1)) (z_rs h M F1 A1)) = nI 0 then (z_kd (z_rs h M F1 A1) M = 28 ∧ ∃ x_8 h_7, z_Ev G (d + 14) k_X12_fail [.ref M, .int (nI 2)] (z_rs h M F1 A1) (.inl (some (.int x_8)), h_7) ∧ r = (.inl (some (.int x_8)), h_7)) else (z_kd (z_rs h M F1 A1) M = 28 ∧ (z_rc (z_or (z_rs h M F1 A1) M 30) False (fun x_9 => (z_kd (z_rs h M F1 A1) x_9 = 1 ∧ vp_in ((nI 7 * i) + j) (z_ln (z_rs h M F1 A1) x_9) ∧ r = (.inl (some (.int (z_ai (z_rs h M F1 A1) x_9 (Int32.toNatClampNeg ((nI 7 * i) + j))))), z_rs h M F1 A1))))))))))) := by
        intro F1 A1 r r5 hr
        rw [rs_oi, r5]
        by_cases hi : i = mI
        · rw [if_pos hi] at hr ⊢
          exact ⟨sh_kd hM, hr⟩
        · rw [if_neg hi] at hr ⊢
          rw [show f_X12_isIn i (nI 0) (nI (c_lst q mm).length - nI 1) (z_rs h M F1 A1) = nI (c_in i (c_lst q mm).length).toNat from f_isIn_c i (by omega) _, show f_X12_isIn j (nI 0) (nI mm - nI 1) (z_rs h M F1 A1) = nI (c_in j mm).toNat from f_isIn_c j (by omega) _]
          refine ⟨sh_kd hM, trivial, ?_⟩
          cases c1 : c_in i (c_lst q mm).length
          · rw [c1, if_neg (by decide)] at hr
            rw [if_pos (by decide)]
            exact ⟨sh_kd hM, _, _, e_fail' (d := d + 10) hM, hr⟩
          · rw [c1, if_pos rfl] at hr
            rw [if_neg (by decide)]
            refine ⟨trivial, ?_⟩
            cases c2 : c_in j mm
            · rw [c2, if_neg (by decide)] at hr
              rw [if_pos (by decide)]
              exact ⟨sh_kd hM, _, _, e_fail' (d := d + 10) hM, hr⟩
            · rw [c2, if_pos rfl] at hr
              rw [if_neg (by decide), show z_or (z_rs h M F1 A1) M 30 = some (M + 14) from (sh_list hM).1, z_rcs, show z_ln (z_rs h M F1 A1) (M + 14) = 14000 from (sh_list hM).2.2, rs_ai _ _ _ _ (by omega) (by omega)]
              exact ⟨sh_kd hM, (sh_list hM).2.1, hr⟩
      -- cached or not
      have fresh : ∃ F1 A1, rI F1 A1 σ ∧ F1 0 = nI 0 ∧ F1 27 = nI q ∧ F1 28 = nI mm ∧ F1 29 = nI (c_lst q mm).length ∧ (∀ i f, (c_lst q mm)[i]? = some f → ∀ k, k < mm → A1 14 (7 * i + k) = nI (f k)) ∧ z_Ev G (d + 14) k_X12_listFrom [.ref M, .int (nI 0)] (z_rs h M (z_u (z_u (z_u (z_u F 0 (nI 0)) 27 (nI q)) 28 (nI mm)) 29 (nI 0)) A) (.inl none, z_rs h M F1 A1) := by
        obtain ⟨A', i1, i2⟩ := e_listFrom (G := G) (d := d + 7 - mm) (F := z_u (z_u (z_u F 0 (nI 0)) 27 (nI q)) 28 (nI mm)) hM (n := q) (m := mm) (by omega) (by omega) (by rw [u_ne _ _ (by decide), u_eq]) (u_eq _ _ _) A mm 0 (fun _ => 0) 0 (A 14) A (Nat.zero_add _) (fun l hl => absurd hl (Nat.not_lt_zero l)) (by rw [Nat.zero_add]; exact hB1) ⟨agr_rf h5, rfl, fun l hl => absurd hl (Nat.not_lt_zero l)⟩
        rw [Nat.zero_add] at i2
        refine ⟨_, A', ?_, ?_, ?_, ?_, u_eq _ _ _, ?_, z_Ev_eq (by omega) i2⟩
        · have a14 : ∀ j, j ∉ [5, 10, 14, 15] → A' j = A j := i1.1.1
          obtain ⟨h1, h2, h3, h4, h5, h6, h7, h8⟩ := hI
          refine ⟨i1.1.2, ?_, h3, ?_, h5, ?_, ?_, ?_⟩
          · rw [a14 4 (by decide)]; exact h2
          · rw [a14 1 (by decide)]; exact h4
          · rw [a14 13 (by decide)]; exact h6
          · rw [a14 3 (by decide)]; exact h7
          · unfold rImg at h8 ⊢
            rw [a14 23 (by decide), a14 24 (by decide), a14 25 (by decide)]
            exact h8
        · rw [u_ne _ _ (by decide), u_ne _ _ (by decide), u_ne _ _ (by decide), u_eq]
        · rw [u_ne _ _ (by decide), u_ne _ _ (by decide), u_eq]
        · rw [u_ne _ _ (by decide), u_eq]
        · intro i f hi k hk
          rw [i1.2.1]
          have := (wrs_in (show mm ≤ 7 by omega) (c_lf q mm 0 (fun _ => 0)) 0 (A 14)).2 i f hi k hk
          rw [Nat.zero_add] at this
          exact this
      by_cases hcache : nI q = F 27 ∧ nI mm = F 28
      · have hL2 : F 29 = nI (c_lst q mm).length ∧ ∀ i f, (c_lst q mm)[i]? = some f → ∀ k, k < mm → A 14 (7 * i + k) = nI (f k) := by
          rcases hL with e | ⟨n', m', l1, l2, l3, l4, l5, l6⟩
          · rw [← hcache.2] at e
            exact absurd e (t_ne1 (by omega))
          · rw [← hcache.1] at l3
            rw [← hcache.2] at l4
            have e1 := (nI_eq (by omega) (by omega)).mp l3
            have e2 := (nI_eq (by omega) (by omega)).mp l4
            subst e1; subst e2
            exact ⟨l5, l6⟩
        obtain ⟨F', A', w1, w2, w3, w4⟩ := ans (z_u F 0 (nI 0)) A (rI_agr hI (agr_rf h5) (agrF_u agrF_rf (show 0 ∈ sK by decide) _)) (u_eq _ _ _) (by rw [u_ne _ _ (by decide)]; exact hcache.1.symm) (by rw [u_ne _ _ (by decide)]; exact hcache.2.symm) (by rw [u_ne _ _ (by decide)]; exact hL2.1) hL2.2
        refine ⟨F', A', w1, w2, w3, en_X12_list (b_X12_list_0 z_puCV ⟨sh_kd hM, ?_⟩)⟩
        have w5 := use (z_u F 0 (nI 0)) A _ (by rw [u_ne _ _ (by decide)]; exact hL2.1) w4
        rw [rs_poi, isIn_37, decide_eq_true hn, if_neg (show ¬ nI true.toNat = nI 0 by decide), em, hm, if_neg (show ¬ nI true.toNat = nI 0 by decide)]
        refine ⟨trivial, trivial, sh_kd hM, ?_⟩
        rw [if_pos (show nI q = z_oi (z_rs h M (z_u F 0 (nI 0)) A) M 27 by rw [rs_oi, u_ne _ _ (by decide)]; exact hcache.1), if_pos (show nI mm = z_oi (z_rs h M (z_u F 0 (nI 0)) A) M 28 by rw [rs_oi, u_ne _ _ (by decide)]; exact hcache.2)]
        exact ⟨sh_kd hM, w5⟩
      · obtain ⟨F1, A1, f1, f2, f3, f4, f5, f6, f7⟩ := fresh
        obtain ⟨F', A', w1, w2, w3, w4⟩ := ans F1 A1 f1 f2 f3 f4 f5 f6
        refine ⟨F', A', w1, w2, w3, en_X12_list (b_X12_list_0 z_puCV ⟨sh_kd hM, ?_⟩)⟩
        have w5 := use F1 A1 _ f5 w4
        rw [rs_poi, isIn_37, decide_eq_true hn, if_neg (show ¬ nI true.toNat = nI 0 by decide), em, hm, if_neg (show ¬ nI true.toNat = nI 0 by decide)]
        refine ⟨trivial, trivial, sh_kd hM, ?_⟩
        rw [rs_poi, rs_poi, rs_poi]
        by_cases c1 : nI q = F 27
        · rw [if_pos (show nI q = z_oi (z_rs h M (z_u F 0 (nI 0)) A) M 27 by rw [rs_oi, u_ne _ _ (by decide)]; exact c1), if_neg (show ¬ nI mm = z_oi (z_rs h M (z_u F 0 (nI 0)) A) M 28 from fun e => by rw [rs_oi, u_ne _ _ (by decide)] at e; exact hcache ⟨c1, e⟩)]
          exact ⟨sh_kd hM, sh_kd hM, sh_kd hM, sh_kd hM, sh_kd hM, _, f7, w5⟩
        · rw [if_neg (show ¬ nI q = z_oi (z_rs h M (z_u F 0 (nI 0)) A) M 27 from fun e => by rw [rs_oi, u_ne _ _ (by decide)] at e; exact c1 e)]
          exact ⟨sh_kd hM, sh_kd hM, sh_kd hM, sh_kd hM, _, f7, w5⟩
  · refine bad (nI 1) (nI 0) (by unfold c_list; rw [if_neg (fun q => hn q.1)]) (en_X12_list (b_X12_list_0 z_puCV ⟨sh_kd hM, ?_⟩))
    rw [rs_poi, isIn_37, decide_eq_false hn, if_pos (show nI false.toNat = nI 0 from rfl)]
    exact ⟨trivial, sh_kd hM, _, _, e_failF (d := d + 10) hM, rfl⟩
end DB
