/-! THE PLAYER: what the game comes to -/
def pX (L a : Nat) : Prop := L + 41 ≤ a ∧ a < L + 45
theorem pX_hl {L a : Nat} (h : pX L a) : hl L a := by unfold pX at h; unfold hl; omega
def psk (L : Nat) (h : z_H) : Prop := psh (L + 41) h ∧ z_ai h (L + 43) 0 = nI 0
def gSo (S : Sc) : Nat → Nat → Int32 → Nat → Int32 × Nat
  | 0, _, b, g => (b, g)
  | r + 1, p, b, g => if b < nI 1 then (if b < -(gW S (S.1 - 1) 0 (2 ^ p)) then gSo S r (p + 1) (-(gW S (S.1 - 1) 0 (2 ^ p))) p else gSo S r (p + 1) b g) else (b, g)
def g_so (S : Sc) : Int32 × Nat := gSo S S.1 0 (-(nI 2)) 0
section HM
variable {V : CV} {G : z_G} {d L x q b : Nat} {h : z_H} {S : Sc}
theorem gSo_lt (hn : 0 < S.1) : ∀ r p b g, p + r = S.1 → g < S.1 → (gSo S r p b g).2 < S.1 := by
  intro r
  induction r with
  | zero => intro p b g _ hg; exact hg
  | succ r ih =>
    intro p b g hp hg
    unfold gSo
    split
    · split
      · exact ih _ _ _ (by omega) (by omega)
      · exact ih _ _ _ (by omega) hg
    · exact hg
theorem e6_prepare (hs : psh x h) (h0 : z_ai h (x + 2) 0 = nI 0) (hA : sc_at q b h S) (hx : x ≠ q) (hr : x + 3 < b ∨ b + 8 ≤ x + 1) : ∃ F A, z_Ev G (d + 5) k_X6_prepare [.ref x, .ref q] h (.inl none, z_hb h x 3 F A) ∧ prw S F A ∧ mem S (A 2) ∧ A 1 0 = nI 0 := by
  have hn := y_n8 hA
  have p9 := p2_9 hn.2
  have p0 := Nat.two_pow_pos S.1
  have hAs : ∀ F A, sc_at q b (z_hb h x 3 F A) S := fun F A => hb_sc hA hx hr
  obtain ⟨F0, eF0⟩ : ∃ F, F = z_oi h x := ⟨_, rfl⟩
  obtain ⟨A0, eA0⟩ : ∃ A : Nat → Nat → Int32, A = fun j => z_ai h (x + 1 + j) := ⟨_, rfl⟩
  have hh : z_hb h x 3 F0 A0 = h := by rw [eF0, eA0]; exact hb_self h x 3
  have a10 : A0 1 0 = nI 0 := by rw [eA0]; exact h0
  obtain ⟨F1, eF1⟩ : ∃ F, F = z_u F0 3 (nI S.1) := ⟨_, rfl⟩
  obtain ⟨B, eB⟩ : ∃ B : Nat → Nat → Int32, B = z_u A0 2 (fa_fill (fun _ => nI 0) (A0 2) 6561) := ⟨_, rfl⟩
  -- rows behind the masks below k
  obtain ⟨Am, eAm⟩ : ∃ Am : Nat → Nat → Nat → Int32, Am = fun k => z_u (z_u B 1 (fun m => if m < k then nI (trn 8 m) else B 1 m)) 0 (fun m => if 0 < m ∧ m < k then nI (c_has S m).toNat else B 0 m) := ⟨_, rfl⟩
  have am0 : ∀ k, Am k 0 = fun m => if 0 < m ∧ m < k then nI (c_has S m).toNat else B 0 m := fun k => by rw [eAm]; exact u_eq _ _ _
  have am1 : ∀ k, Am k 1 = fun m => if m < k then nI (trn 8 m) else B 1 m := fun k => by rw [eAm]; show z_u (z_u B 1 _) 0 _ 1 = _; rw [u_ne _ _ (by decide), u_eq]
  have am2 : ∀ k, Am k 2 = B 2 := fun k => by rw [eAm]; show z_u (z_u B 1 _) 0 _ 2 = _; rw [u_ne _ _ (by decide), u_ne _ _ (by decide)]
  have am0v : ∀ k m, Am k 0 m = if 0 < m ∧ m < k then nI (c_has S m).toNat else B 0 m := fun k m => by rw [am0]
  have am1v : ∀ k m, Am k 1 m = if m < k then nI (trn 8 m) else B 1 m := fun k m => by rw [am1]
  have B1 : B 1 = A0 1 := by rw [eB, u_ne _ _ (by decide)]
  have B2 : ∀ m, m < 6561 → B 2 m = nI 0 := fun m hm => by rw [eB, u_eq, fa_fill_in hm]
  refine ⟨F1, Am (2 ^ S.1), en_X6_prepare (b_X6_prepare_0 (z_pu0V rfl) ⟨y_kd hA, hs.1, hs.1, ?_⟩), ⟨by rw [eF1, u_eq], fun m h0 hm => ?_, fun m hm => ?_⟩, fun a c ha hc hd => ?_, ?_⟩
  · rw [y_n hA, show z_poi h x 3 (nI S.1) = z_hb h x 3 F1 A0 by rw [eF1, ← hb_poi, hh], hb_or, hs.2.2.2.1, z_rcs]
    have ff := e_fillB (G := G) (d := d + 3) (h := z_hb h x 3 F1 A0) (a := x + 3) (v := nI 0) hs.2.2.2.2.1 (by rw [hb_ln, hs.2.2.2.2.2]; decide) (by decide)
    rw [hb_ln, hs.2.2.2.2.2, show z_ai (z_hb h x 3 F1 A0) (x + 3) = A0 2 from hb_ai h x 3 F1 A0 (j := 2) (by decide), show ∀ f, z_pax (z_hb h x 3 F1 A0) (x + 3) f = z_hb h x 3 F1 (z_u A0 2 f) from fun f => hb_pax h x 3 F1 A0 (j := 2) (by decide) f, ← eB] at ff
    refine ⟨_, ff, ?_⟩
    have key := z_forH (G := G) (d := d + 5) (μ := m_X6_prepare z_pu0) (r := (.inl none, z_hb h x 3 F1 (Am (2 ^ S.1)))) (pc := 18) (fun k (_ : Unit) => [some (.ref x), some (.ref q), some (.int (nI (1 + k)))]) (fun k _ => z_hb h x 3 F1 (Am (1 + k))) (fun _ u => u) () (2 ^ S.1 - 1) ?_ ?_
    · rw [show Am (1 + 0) = B by
        funext j
        by_cases j0 : j = 0
        · rw [j0, am0]; funext m; rw [if_neg (by omega)]
        · by_cases j1 : j = 1
          · rw [j1, am1]
            funext m
            by_cases c : m < 1 + 0
            · rw [if_pos c, show m = 0 by omega, B1, a10]; rfl
            · rw [if_neg c]
          · rw [eAm]
            show z_u (z_u B 1 _) 0 _ j = _
            rw [u_ne _ _ j0, u_ne _ _ j1]] at key
      exact key
    · intro k hk hJ
      have hm256 : 1 + k < 256 := by omega
      have th := trn_half (1 + k) hm256
      have hsh : (1 + k) >>> 1 < 1 + k := by rw [Nat.shiftRight_eq_div_pow]; exact Nat.div_lt_self (by omega) (by decide)
      have o1 : ∀ A, z_or (z_hb h x 3 F1 A) x 1 = some (x + 2) := fun A => hs.2.2.1.1
      have o0 : ∀ A, z_or (z_hb h x 3 F1 A) x 0 = some (x + 1) := fun A => hs.2.1.1
      have r1 : ∀ A, z_ai (z_hb h x 3 F1 A) (x + 2) = A 1 := fun A => hb_ai h x 3 F1 A (j := 1) (by decide)
      have x1 : ∀ A m v, z_pai (z_hb h x 3 F1 A) (x + 2) m v = z_hb h x 3 F1 (z_u A 1 (z_u (A 1) m v)) := fun A m v => hb_pai h x 3 F1 A (j := 1) (by decide) m v
      have x0 : ∀ A m v, z_pai (z_hb h x 3 F1 A) (x + 1) m v = z_hb h x 3 F1 (z_u A 0 (z_u (A 0) m v)) := fun A m v => hb_pai h x 3 F1 A (j := 0) (by decide) m v
      refine b_X6_prepare_18 (z_pu0V rfl) ⟨hs.1, ?_⟩
      rw [hb_oi, show F1 3 = nI S.1 by rw [eF1, u_eq], show nI 1 <<< (nI S.1 &&& nI 31) = nI (2 ^ S.1) from n_one (by omega), if_pos (nI_lt (by omega) (by omega)), o1, z_rcs, z_rcs, show nI (1 + k) >>> (nI 1 &&& nI 31) = nI ((1 + k) >>> 1) from n_shr (by omega) (by decide), nI_clamp (show (1 + k) >>> 1 < 2 ^ 31 by omega), nI_clamp (show 1 + k < 2 ^ 31 by omega), r1, am1v, if_pos hsh, n_mul, fa_and, Nat.and_one_is_mod, nI_add, ← th, x1, o0, z_rcs, nI_add]
      refine ⟨hs.1, hs.1, hs.2.2.1.2.1, by rw [hb_ln, hs.2.2.1.2.2]; exact vp_in_nI (by omega) (by decide), hs.2.2.1.2.1, by rw [hb_ln, hs.2.2.1.2.2]; exact vp_in_nI hm256 (by decide), hs.1, _, _, e9_holdsLine (hAs _ _), Or.inr ⟨hs.2.1.2.1, a_bz _⟩, by rw [hb_ln, hs.2.1.2.2]; exact vp_in_nI hm256 (by decide), ?_⟩
      rw [x0, u_ne _ _ (show (0 : Nat) ≠ 1 by decide)]
      rw [show z_u (z_u (Am (1 + k)) 1 (z_u (Am (1 + k) 1) (1 + k) (nI (trn 8 (1 + k))))) 0 (z_u (Am (1 + k) 0) (1 + k) (nI (c_has S (1 + k)).toNat)) = Am (1 + (k + 1)) by
        funext j
        by_cases j0 : j = 0
        · rw [j0, u_eq, am0, am0]
          funext m
          by_cases c : m = 1 + k
          · rw [c, u_eq, if_pos ⟨by omega, by omega⟩]
          · rw [u_ne _ _ c]
            exact if_cg (by omega)
        · rw [u_ne _ _ j0]
          by_cases j1 : j = 1
          · rw [j1, u_eq, am1, am1]
            funext m
            by_cases c : m = 1 + k
            · rw [c, u_eq, if_pos (by omega)]
            · rw [u_ne _ _ c]
              exact if_cg (by omega)
          · rw [u_ne _ _ j1, eAm]
            show z_u (z_u B 1 _) 0 _ j = z_u (z_u B 1 _) 0 _ j
            rw [u_ne _ _ j0, u_ne _ _ j1, u_ne _ _ j0, u_ne _ _ j1]]
      rw [show 1 + k + 1 = 1 + (k + 1) by omega]
      exact hJ
    · refine b_X6_prepare_18 (z_pu0V rfl) ⟨hs.1, ?_⟩
      rw [hb_oi, show F1 3 = nI S.1 by rw [eF1, u_eq], show nI 1 <<< (nI S.1 &&& nI 31) = nI (2 ^ S.1) from n_one (by omega), if_neg (nI_nlt (by omega) (by omega)), show 1 + (2 ^ S.1 - 1) = 2 ^ S.1 by omega]
  · rw [am0v, if_pos ⟨h0, hm⟩]
  · rw [am1v, if_pos hm]
  · left
    have := trn_lt 8 (a := a) (b := c) (fun i _ => dsj_bit hd i)
    rw [am2, B2 _ this]
  · rw [am1v, if_pos p0]; rfl
theorem e6_solved (hI : inv V L h) (hL : L + 75 ≤ z_n h) (hp : psk L h) (hV : V 11 S 0 = (g_so S).1 ∧ V 11 S 1 = nI (g_so S).2) (hA : sc_at q b h S) : ∃ h' a, z_Ev G (d + 20) k_X6_solved [.ref (L + 41), .ref q] h (.inl (some (va_rf (some a))), h') ∧ inv V L h' ∧ ex (pX L) 1 2 h h' ∧ psk L h' ∧ z_or h' q 11 = some a := by
  have hX : ∀ a, pX L a → hl L a := fun _ hx => pX_hl hx
  have hn := y_n8 hA
  have hk := inv_k hI hA
  obtain ⟨hs, ht0⟩ := hp
  cases h11 : z_or h q 11 with
  | some a =>
    refine ⟨h, a, en_X6_solved (b_X6_solved_0 (z_pu0V rfl) ?_), hI, ex_mono (ex_refl h) (by omega) (by omega), ⟨hs, ht0⟩, h11⟩
    rw [h11, z_rcs, z_rcs]
    exact ⟨y_kd hA, y_kd hA, rfl⟩
  | none =>
    have hne := mq_ne hI hA (x := L + 41) (by unfold hl; omega)
    have hne4 := mq_ne hI hA (x := L + 44) (by unfold hl; omega)
    have hb1 := hk.2.1.1
    have hb2 := hk.2.1.2.1
    have nin : ∀ j, 41 ≤ j → j ≤ 44 → ¬ (q ≤ L + j ∧ L + j < b + 8) := fun j h1 h2 hh => hk.2.1.2.2.2 (L + j) hh.1 hh.2 (by unfold hl; omega)
    have n41 := nin 41 (by omega) (by omega)
    have n44 := nin 44 (by omega) (by omega)
    have n42 := nin 42 (by omega) (by omega)
    have hxq : L + 41 ≠ q := fun e => by omega
    have hrr : L + 41 + 3 < b ∨ b + 8 ≤ L + 41 + 1 := by omega
    obtain ⟨F, A, evp, pr, mm, a10⟩ := e6_prepare (G := G) (d := d + 14) hs ht0 hA hxq hrr
    have hpK : ∀ K, pK h (L + 41) F A K = z_hb h (L + 41) 3 F (z_u A 2 K) := fun K => rfl
    have xK : ∀ K, xt (pX L) h (pK h (L + 41) F A K) := fun K => xt_hb (fun a h1 h2 => ⟨h1, by omega⟩)
    have IK : ∀ K, inv V L (pK h (L + 41) F A K) := fun K => inv_xt hI hX (xK K)
    have eK : ∀ K, ex (pX L) 0 0 h (pK h (L + 41) F A K) := fun K => xt_ex (xK K) (Nat.le_refl _) (Nat.le_refl _)
    have AK : ∀ K, sc_at q b (pK h (L + 41) F A K) S := fun K => ex_sc hI hX (eK K) hA
    have kK : ∀ K, z_kd (pK h (L + 41) F A K) (L + 41) = 22 := fun K => hs.1
    have oK : ∀ K, z_oi (pK h (L + 41) F A K) (L + 41) 3 = nI S.1 := fun K => by rw [hpK, hb_oi]; exact pr.1
    have pskK : ∀ K, psk L (pK h (L + 41) F A K) := fun K => ⟨hs, by
      have := hb_ai h (L + 41) 3 F (z_u A 2 K) (j := 1) (by decide)
      rw [u_ne _ _ (by decide)] at this
      show z_ai (z_hb h (L + 41) 3 F (z_u A 2 K)) (L + 41 + 1 + 1) 0 = _
      rw [this]; exact a10⟩
    -- the end: the row kept
    have fin : ∀ K, ∃ h', h' = z_por (z_nwi (pK h (L + 41) F A K) 1 2 (z_u (z_u (fun _ => 0) 0 (g_so S).1) 1 (nI (g_so S).2))) q 11 (some (z_n h)) ∧ inv V L h' ∧ ex (pX L) 1 2 h h' ∧ psk L h' ∧ z_or h' q 11 = some (z_n h) := by
      intro K
      obtain ⟨row, erow⟩ : ∃ row : Nat → Int32, row = z_u (z_u (fun _ => 0) 0 (g_so S).1) 1 (nI (g_so S).2) := ⟨_, rfl⟩
      rw [← erow]
      obtain ⟨I1, e1⟩ := nw_k (IK K) 2 row (pX L)
      have f1 := nw_fr (IK K) hL 2 row
      have A1 := nw_sc (IK K) 2 row (AK K)
      have hca : ca V L (z_nwi (pK h (L + 41) F A K) 1 2 row) S 11 (some (z_n h)) := by
        intro a ha
        cases ha
        refine ⟨f1, nwi_kd _ _ _ _, nwi_ln _ _ _ _, fun i hi => ?_⟩
        have hi2 : i < 2 := hi
        have er : z_ai (z_nwi (pK h (L + 41) F A K) 1 2 row) (z_n h) = row := nwi_ai (pK h (L + 41) F A K) 1 2 row
        rw [er, erow]
        match i, hi2 with
        | 0, _ => rw [u_ne _ _ (by decide), u_eq, hV.1]
        | 1, _ => rw [u_eq, hV.2]
      have fp := inv_por (X := pX L) I1 A1 (k := 11) (a := z_n h) (by omega) hca (fun e => by omega)
      refine ⟨_, rfl, fp.1, ex_mono (ex_trans hI I1 hX (ex_trans hI (IK K) hX (eK K) e1) fp.2) (by omega) (by omega), ?_, ?_⟩
      · obtain ⟨⟨y0, ⟨y1, y2, y3⟩, ⟨y4, y5, y6⟩, y7, y8, y9⟩, y10⟩ := pskK K
        have o : ∀ j, z_or (z_por (z_nwi (pK h (L + 41) F A K) 1 2 row) q 11 (some (z_n h))) (L + 41) j = z_or h (L + 41) j := fun j => by
          show z_u (z_or h) q (z_u (z_or h q) 11 (some (z_n h))) (L + 41) j = _
          rw [u_ne _ _ hxq]
        have kk : ∀ a, a < z_n h → z_kd (z_por (z_nwi (pK h (L + 41) F A K) 1 2 row) q 11 (some (z_n h))) a = z_kd h a := fun a ha => u_ne _ _ (fun e => by have : a = z_n h := e; omega)
        have ll : ∀ a, a < z_n h → z_ln (z_por (z_nwi (pK h (L + 41) F A K) 1 2 row) q 11 (some (z_n h))) a = z_ln h a := fun a ha => u_ne _ _ (fun e => by have : a = z_n h := e; omega)
        refine ⟨⟨by rw [kk _ (by omega)]; exact hs.1, ⟨by rw [o]; exact hs.2.1.1, by rw [kk _ (by omega)]; exact hs.2.1.2.1, by rw [ll _ (by omega)]; exact hs.2.1.2.2⟩, ⟨by rw [o]; exact hs.2.2.1.1, by rw [kk _ (by omega)]; exact hs.2.2.1.2.1, by rw [ll _ (by omega)]; exact hs.2.2.1.2.2⟩, by rw [o]; exact hs.2.2.2.1, by rw [kk _ (by omega)]; exact hs.2.2.2.2.1, by rw [ll _ (by omega)]; exact hs.2.2.2.2.2⟩, ?_⟩
        rw [show z_ai (z_por (z_nwi (pK h (L + 41) F A K) 1 2 row) q 11 (some (z_n h))) (L + 43) = z_ai (pK h (L + 41) F A K) (L + 43) from u_ne _ _ (fun e => by have : L + 43 = z_n h := e; omega)]
        exact y10
      · show z_u (z_or h) q (z_u (z_or h q) 11 (some (z_n h))) q 11 = _
        rw [u_eq, u_eq]
    have loop : ∀ r p bst g K, p + r = S.1 → mem S K → gSo S r p bst g = g_so S → ∃ h', z_J G (d + 20) (m_X6_solved z_pu0) (.inl (some (va_rf (some (z_n h)))), h') 20 [some (.ref (L + 41)), some (.ref q), some (.int bst), some (.int (nI g)), some (.int (nI p)), none] [] (pK h (L + 41) F A K) ∧ inv V L h' ∧ ex (pX L) 1 2 h h' ∧ psk L h' ∧ z_or h' q 11 = some (z_n h) := by
      intro r
      have last : ∀ bst g K, (bst, g) = g_so S → ∃ h', z_J G (d + 20) (m_X6_solved z_pu0) (.inl (some (va_rf (some (z_n h)))), h') 65 [none, some (.ref q), some (.int bst), some (.int (nI g)), none, none] [] (pK h (L + 41) F A K) ∧ inv V L h' ∧ ex (pX L) 1 2 h h' ∧ psk L h' ∧ z_or h' q 11 = some (z_n h) := by
        intro bst g K hg
        obtain ⟨h', eh, r1, r2, r3, r4⟩ := fin K
        rw [← hg] at eh
        have zn : z_n (pK h (L + 41) F A K) = z_n h := rfl
        refine ⟨h', b_X6_solved_65 (z_pu0V rfl) ?_, r1, r2, r3, r4⟩
        rw [nI_clamp (show 2 < 2 ^ 31 by decide), nI_clamp (show 0 < 2 ^ 31 by decide), nI_clamp (show 1 < 2 ^ 31 by decide), nwi_pai, nwi_pai, nwi_kd, nwi_kd, nwi_ln, nwi_ln, zn, ← eh, r4, z_rcs]
        refine ⟨by decide, by decide, rfl, vp_in_nI (by decide) (by decide), rfl, vp_in_nI (by decide) (by decide), ?_, ?_, rfl⟩
        · exact y_kd (nw_sc (IK K) 2 _ (AK K))
        · rw [eh]; exact (show z_kd (z_nwi (pK h (L + 41) F A K) 1 2 (z_u (z_u (fun _ => 0) 0 bst) 1 (nI g))) q = 24 from y_kd (nw_sc (IK K) 2 _ (AK K)))
      induction r with
      | zero =>
        intro p bst g K hp hm hg
        obtain ⟨h', ht, hrest⟩ := last bst g K hg
        refine ⟨h', b_X6_solved_20 (z_pu0V rfl) ⟨kK K, ?_⟩, hrest⟩
        rw [oK, if_neg (nI_nlt (by omega) (by omega))]
        exact ht
      | succ r ih =>
        intro p bst g K hp hm hg
        unfold gSo at hg
        by_cases d1 : bst < nI 1
        · rw [if_pos d1] at hg
          have pc2 : n_pc (2 ^ p) = 1 := by
            have := pc_add1 0 (by decide) p (by omega) (Nat.zero_testBit _)
            rw [Nat.zero_or] at this
            rw [this]; decide
          obtain ⟨K', ev, hm'⟩ := e6_worth (G := G) (d := d + 2 * (8 - S.1)) hs pr hn (S.1 - 1) 0 (2 ^ p) K (by rw [pc2]; show 0 + 1 + _ = _; omega) (Nat.two_pow_pos _) (Nat.pow_lt_pow_right (by decide) (by omega)) (Nat.zero_and _) hm
          rw [show d + 2 * (8 - S.1) + 2 * (S.1 - 1) + 5 = d + 19 by omega, pc2] at ev
          by_cases d2 : bst < -(gW S (S.1 - 1) 0 (2 ^ p))
          · rw [if_pos d2] at hg
            obtain ⟨h', hJ, hrest⟩ := ih (p + 1) _ p K' (by omega) hm' hg
            refine ⟨h', b_X6_solved_20 (z_pu0V rfl) ⟨kK K, ?_⟩, hrest⟩
            rw [oK, if_pos (nI_lt (by omega) (by omega)), if_pos d1, show nI 1 <<< (nI p &&& nI 31) = nI (2 ^ p) from n_one (by omega)]
            refine ⟨kK K, _, _, ev, ?_⟩
            rw [if_pos d2, nI_add]
            exact hJ
          · rw [if_neg d2] at hg
            obtain ⟨h', hJ, hrest⟩ := ih (p + 1) bst g K' (by omega) hm' hg
            refine ⟨h', b_X6_solved_20 (z_pu0V rfl) ⟨kK K, ?_⟩, hrest⟩
            rw [oK, if_pos (nI_lt (by omega) (by omega)), if_pos d1, show nI 1 <<< (nI p &&& nI 31) = nI (2 ^ p) from n_one (by omega)]
            refine ⟨kK K, _, _, ev, ?_⟩
            rw [if_neg d2, nI_add]
            exact hJ
        · rw [if_neg d1] at hg
          obtain ⟨h', ht, hrest⟩ := last bst g K hg
          refine ⟨h', b_X6_solved_20 (z_pu0V rfl) ⟨kK K, ?_⟩, hrest⟩
          rw [oK, if_pos (nI_lt (by omega) (by omega)), if_neg d1]
          exact ht
    obtain ⟨h', hJ, r1, r2, r3, r4⟩ := loop S.1 0 (-(nI 2)) 0 (A 2) (by omega) mm rfl
    have hstart : pK h (L + 41) F A (A 2) = z_hb h (L + 41) 3 F A := by rw [hpK, u_self]
    rw [hstart] at hJ
    refine ⟨h', z_n h, en_X6_solved (b_X6_solved_0 (z_pu0V rfl) ?_), r1, r2, r3, r4⟩
    rw [h11, z_rcn]
    exact ⟨y_kd hA, hs.1, _, evp, hJ⟩
end HM
