theorem en_X2_linesOfPlaces {pu : Nat → Option ((List Value → z_H → Prop) × (List Value → z_H → Int32))} {G : z_G} {d : Nat} {r : z_Res} {h : z_H} {x0 : Nat} {x1 : Int32} (hJ : z_J G d (m_X2_linesOfPlaces pu) r 0 [some (.ref x0), some (.int x1), none, none, none, none, none, none] [] h) : z_Ev G d k_X2_linesOfPlaces [.ref x0, .int x1] h r := z_enter (μ := m_X2_linesOfPlaces pu) rfl (by decide) rfl rfl (fun q => by cases q) (Nat.le_of_ble_eq_true rfl) hJ
def hd_X2_linesOfPlaces : Nat → Option (List Bool) := (fun k => (cond (Nat.blt k 125) (cond (Nat.blt k 19) (cond (Nat.beq k 8) (some [true, true, true, true, false, false, false, false]) none) (cond (Nat.blt k 38) (cond (Nat.beq k 19) (some [true, true, true, true, true, false, false, false]) none) (cond (Nat.beq k 38) (some [true, true, true, true, true, true, true, false]) none))) none))
set_option maxRecDepth 20000 in
theorem b_X2_linesOfPlaces_0 {G : z_G} {d : Nat} {r : z_Res} (hPu : z_PuV G d (t_X2 z_pu0)) {h : z_H} {x0 : Nat} {x1 : Int32} (hT : (¬ (nI 256) < 0 ∧ Int32.toNatClampNeg (nI 256) ≤ 1000000 ∧ (z_J G (d + 1) (m_X2_linesOfPlaces z_pu0) r) 8 [some (.ref x0), some (.int x1), some (.ref (z_n h)), some (.int (nI 0)), none, none, none, none] [] (z_nwi h 1 (Int32.toNatClampNeg (nI 256)) (fun _ => 0)))) : (z_J G (d + 1) (m_X2_linesOfPlaces z_pu0) r) 0 [some (.ref x0), some (.int x1), none, none, none, none, none, none] [] h := z_bq (v_X2 z_pu0 (vP_X2_linesOfPlaces z_pu0) hPu) hd_X2_linesOfPlaces 8 hT
set_option maxRecDepth 20000 in
theorem b_X2_linesOfPlaces_8 {G : z_G} {d : Nat} {r : z_Res} (hPu : z_PuV G d (t_X2 z_pu0)) {h : z_H} {x0 : Nat} {x1 : Int32} {x2 : Nat} {x3 : Int32} (hT : (z_kd h x0 = 18 ∧ (if x3 < (z_oi h x0 4) then (z_J G (d + 1) (m_X2_linesOfPlaces z_pu0) r) 19 [some (.ref x0), some (.int x1), some (.ref x2), some (.int x3), some (.int (nI 0)), none, none, none] [] h else r = (.inl (some (va_rf (some x2))), h)))) : (z_J G (d + 1) (m_X2_linesOfPlaces z_pu0) r) 8 [some (.ref x0), some (.int x1), some (.ref x2), some (.int x3), none, none, none, none] [] h := z_bq (v_X2 z_pu0 (vP_X2_linesOfPlaces z_pu0) hPu) hd_X2_linesOfPlaces 9 hT
set_option maxRecDepth 20000 in
theorem b_X2_linesOfPlaces_19 {G : z_G} {d : Nat} {r : z_Res} (hPu : z_PuV G d (t_X2 z_pu0)) {h : z_H} {x0 : Nat} {x1 : Int32} {x2 : Nat} {x3 : Int32} {x4 : Int32} (hT : (if x4 < x3 then (z_J G (d + 1) (m_X2_linesOfPlaces z_pu0) r) 38 [some (.ref x0), some (.int x1), some (.ref x2), some (.int x3), some (.int x4), some (.int (((nI 1) <<< (x3 &&& (nI 31))) ||| ((nI 1) <<< (x4 &&& (nI 31))))), some (.int (nI 0)), none] [] h else (z_J G (d + 1) (m_X2_linesOfPlaces z_pu0) r) 8 [some (.ref x0), some (.int x1), some (.ref x2), some (.int (x3 + (nI 1))), none, none, none, none] [] h)) : (z_J G (d + 1) (m_X2_linesOfPlaces z_pu0) r) 19 [some (.ref x0), some (.int x1), some (.ref x2), some (.int x3), some (.int x4), none, none, none] [] h := z_bq (v_X2 z_pu0 (vP_X2_linesOfPlaces z_pu0) hPu) hd_X2_linesOfPlaces 16 hT
set_option maxRecDepth 20000 in
theorem b_X2_linesOfPlaces_38 {G : z_G} {d : Nat} {r : z_Res} (hPu : z_PuV G d (t_X2 z_pu0)) {h : z_H} {x0 : Nat} {x1 : Int32} {x2 : Nat} {x3 : Int32} {x4 : Int32} {x5 : Int32} {x6 : Int32} (hT : (z_kd h x0 = 18 ∧ (if x6 < (z_oi h x0 4) then (z_kd h x0 = 18 ∧ ∃ x_2 h_1, z_Ev G d k_X2_span [.ref x0, .int x3, .int x4, .int x6] h (.inl (some (.int x_2)), h_1) ∧ (if x_2 = (nI 0) then (z_J G (d + 1) (m_X2_linesOfPlaces z_pu0) r) 38 [some (.ref x0), some (.int x1), some (.ref x2), some (.int x3), some (.int x4), some (.int (x5 ||| ((nI 1) <<< (x6 &&& (nI 31))))), some (.int (x6 + (nI 1))), none] [] h_1 else (if (nI 0) < x1 then (¬ x1 = (nI 0) ∧ (if (x_2 - x_2 / x1 * x1) = (nI 0) then (z_J G (d + 1) (m_X2_linesOfPlaces z_pu0) r) 38 [some (.ref x0), some (.int x1), some (.ref x2), some (.int x3), some (.int x4), some (.int (x5 ||| ((nI 1) <<< (x6 &&& (nI 31))))), some (.int (x6 + (nI 1))), none] [] h_1 else (z_J G (d + 1) (m_X2_linesOfPlaces z_pu0) r) 38 [some (.ref x0), some (.int x1), some (.ref x2), some (.int x3), some (.int x4), some (.int x5), some (.int (x6 + (nI 1))), none] [] h_1)) else (z_J G (d + 1) (m_X2_linesOfPlaces z_pu0) r) 38 [some (.ref x0), some (.int x1), some (.ref x2), some (.int x3), some (.int x4), some (.int x5), some (.int (x6 + (nI 1))), none] [] h_1))) else (z_kd h x2 = 1 ∧ vp_in ((x3 * (nI 16)) + x4) (z_ln h x2) ∧ (z_kd (z_pai h x2 (Int32.toNatClampNeg ((x3 * (nI 16)) + x4)) x5) x2 = 1 ∧ vp_in ((x4 * (nI 16)) + x3) (z_ln (z_pai h x2 (Int32.toNatClampNeg ((x3 * (nI 16)) + x4)) x5) x2) ∧ (z_J G (d + 1) (m_X2_linesOfPlaces z_pu0) r) 19 [some (.ref x0), some (.int x1), some (.ref x2), some (.int x3), some (.int (x4 + (nI 1))), none, none, none] [] (z_pai (z_pai h x2 (Int32.toNatClampNeg ((x3 * (nI 16)) + x4)) x5) x2 (Int32.toNatClampNeg ((x4 * (nI 16)) + x3)) x5)))))) : (z_J G (d + 1) (m_X2_linesOfPlaces z_pu0) r) 38 [some (.ref x0), some (.int x1), some (.ref x2), some (.int x3), some (.int x4), some (.int x5), some (.int x6), none] [] h := z_bq (v_X2 z_pu0 (vP_X2_linesOfPlaces z_pu0) hPu) hd_X2_linesOfPlaces 29 hT
/-! THE DRAWER: lines of places -/
def spz (mod : Nat) (v : Int32) : Bool := decide (v = nI 0) || (decide (0 < mod) && decide (v - v / nI mod * nI mod = nI 0))
def g_inl (A : Nat → Nat → Int32) (mod pl a b : Nat) : Nat := it (fun c v => if spz mod (g_span A a b c) then v ||| 2 ^ c else v) (2 ^ a ||| 2 ^ b) pl
def lopS (A : Nat → Nat → Int32) (mod pl a : Nat) (b : Nat) (R : Nat → Nat) : Nat → Nat := z_u (z_u R (a * 16 + b) (g_inl A mod pl a b)) (b * 16 + a) (g_inl A mod pl a b)
def g_lop (A : Nat → Nat → Int32) (mod pl : Nat) : Nat → Nat := it (fun a R => it (lopS A mod pl a) R a) (fun _ => 0) pl
section HG1
variable {G : z_G} {d x pl mod : Nat} {h : z_H}
theorem e2_spanH (ds : dsh x h) {a b c : Nat} (ha : a < 16) (hb : b < 16) (hc : c < 16) : z_Ev G (d + 1) k_X2_span [.ref x, .int (nI a), .int (nI b), .int (nI c)] h (.inl (some (.int (g_span (fun j => z_ai h (x + 1 + j)) a b c))), h) := by
  have e := e2_span (G := G) (d := d) (F := z_oi h x) (A := fun j => z_ai h (x + 1 + j)) ds ha hb hc
  rw [hb_self] at e
  exact e
theorem e2_linesOfPlaces (ds : ∀ f, dsh x (z_nwi h 1 256 f)) (o4 : z_oi h x 4 = nI pl) (hp : pl ≤ 16) (hm : mod < 2 ^ 31) (hx : x + 8 ≤ z_n h) : z_Ev G (d + 2) k_X2_linesOfPlaces [.ref x, .int (nI mod)] h (.inl (some (va_rf (some (z_n h)))), z_nwi h 1 256 (fun i => nI (g_lop (fun j => z_ai h (x + 1 + j)) mod pl i))) := by
  obtain ⟨A, eA⟩ : ∃ A : Nat → Nat → Int32, A = fun j => z_ai h (x + 1 + j) := ⟨_, rfl⟩
  have sp : ∀ f a b c, a < 16 → b < 16 → c < 16 → z_Ev G (d + 1) k_X2_span [.ref x, .int (nI a), .int (nI b), .int (nI c)] (z_nwi h 1 256 f) (.inl (some (.int (g_span A a b c))), z_nwi h 1 256 f) := fun f a b c ha hb hc => by
    have e := e2_spanH (G := G) (d := d) (ds f) ha hb hc
    have r : ∀ j, j < 4 → z_ai (z_nwi h 1 256 f) (x + 1 + j) = A j := fun j hj => by
      rw [eA]
      exact u_ne _ _ (by omega)
    have es : g_span (fun j => z_ai (z_nwi h 1 256 f) (x + 1 + j)) a b c = g_span A a b c := by
      simp only [g_span, r 1 (by decide), r 2 (by decide), r 3 (by decide)]
    rw [es] at e
    exact e
  have kd : ∀ f, z_kd (z_nwi h 1 256 f) x = 18 := fun f => (ds f).1
  have o4' : ∀ f, z_oi (z_nwi h 1 256 f) x 4 = nI pl := fun _ => o4
  rw [← eA]
  refine en_X2_linesOfPlaces (b_X2_linesOfPlaces_0 (z_pu0V rfl) ⟨by decide, by decide, ?_⟩)
  rw [nI_clamp (show 256 < 2 ^ 31 by decide)]
  have key := z_forH (G := G) (d := d + 2) (μ := m_X2_linesOfPlaces z_pu0) (r := (.inl (some (va_rf (some (z_n h)))), z_nwi h 1 256 (fun i => nI (g_lop A mod pl i)))) (pc := 8) (fun a (_ : Nat → Nat) => [some (.ref x), some (.int (nI mod)), some (.ref (z_n h)), some (.int (nI a)), none, none, none, none]) (fun _ R => z_nwi h 1 256 (fun i => nI (R i))) (fun a R => it (lopS A mod pl a) R a) (fun _ => 0) pl ?_ ?_
  · exact key
  · intro a ha hJ
    obtain ⟨R0, eR0⟩ : ∃ R0, R0 = it (fun a R => it (lopS A mod pl a) R a) (fun _ => 0) a := ⟨_, rfl⟩
    rw [← eR0] at hJ ⊢
    refine b_X2_linesOfPlaces_8 (z_pu0V rfl) ⟨kd _, ?_⟩
    rw [o4', if_pos (nI_lt ha (by omega))]
    refine z_forH (fun b (_ : Nat → Nat) => [some (.ref x), some (.int (nI mod)), some (.ref (z_n h)), some (.int (nI a)), some (.int (nI b)), none, none, none]) (fun _ R => z_nwi h 1 256 (fun i => nI (R i))) (lopS A mod pl a) R0 a ?_ ?_
    · intro b hb hJ2
      obtain ⟨R1, eR1⟩ : ∃ R1, R1 = it (lopS A mod pl a) R0 b := ⟨_, rfl⟩
      rw [← eR1] at hJ2 ⊢
      refine b_X2_linesOfPlaces_19 (z_pu0V rfl) ?_
      rw [if_pos (nI_lt hb (by omega)), show nI 1 <<< (nI a &&& nI 31) = nI (2 ^ a) from n_one (by omega), show nI 1 <<< (nI b &&& nI 31) = nI (2 ^ b) from n_one (by omega), fa_or]
      refine z_for (fun c (v : Nat) => [some (.ref x), some (.int (nI mod)), some (.ref (z_n h)), some (.int (nI a)), some (.int (nI b)), some (.int (nI v)), some (.int (nI c)), none]) (fun c v => if spz mod (g_span A a b c) then v ||| 2 ^ c else v) (2 ^ a ||| 2 ^ b) pl ?_ ?_
      · intro c hc hJ3
        refine b_X2_linesOfPlaces_38 (z_pu0V rfl) ⟨kd _, ?_⟩
        rw [o4', if_pos (nI_lt hc (by omega)), show nI 1 <<< (nI c &&& nI 31) = nI (2 ^ c) from n_one (by omega), fa_or, nI_add]
        refine ⟨kd _, _, _, sp _ a b c (by omega) (by omega) (by omega), ?_⟩
        obtain ⟨v, ev⟩ : ∃ v, v = g_span A a b c := ⟨_, rfl⟩
        rw [← ev] at hJ3 ⊢
        by_cases c1 : v = nI 0
        · rw [if_pos (show spz mod v = true by unfold spz; rw [decide_eq_true c1]; rfl)] at hJ3
          rw [if_pos c1]
          exact hJ3
        · rw [if_neg c1]
          by_cases c2 : 0 < mod
          · rw [if_pos (nI_lt c2 hm)]
            refine ⟨fun e => by have := (nI_eq hm (by decide)).mp e; omega, ?_⟩
            by_cases c3 : v - v / nI mod * nI mod = nI 0
            · rw [if_pos (show spz mod v = true by unfold spz; rw [decide_eq_false c1, decide_eq_true c2, decide_eq_true c3]; rfl)] at hJ3
              rw [if_pos c3]
              exact hJ3
            · rw [if_neg (show ¬ spz mod v = true by unfold spz; rw [decide_eq_false c1, decide_eq_true c2, decide_eq_false c3]; decide)] at hJ3
              rw [if_neg c3]
              exact hJ3
          · rw [if_neg (show ¬ spz mod v = true by unfold spz; rw [decide_eq_false c1, decide_eq_false c2, Bool.false_and]; decide)] at hJ3
            rw [if_neg (nI_nlt (by omega) (by decide))]
            exact hJ3
      · refine b_X2_linesOfPlaces_38 (z_pu0V rfl) ⟨kd _, ?_⟩
        have vi : ∀ f p, p < 256 → vp_in (nI p) (z_ln (z_nwi h 1 256 f) (z_n h)) := fun f p hp => by rw [nwi_ln]; exact vp_in_nI hp (by decide)
        rw [o4', if_neg (nI_nlt (Nat.le_refl _) (by omega)), n_mul, nI_add, n_mul, nI_add, nI_clamp (show a * 16 + b < 2 ^ 31 by omega), nI_clamp (show b * 16 + a < 2 ^ 31 by omega), nwi_pai, nu, nwi_pai, nu, nI_add]
        exact ⟨nwi_kd _ _ _ _, vi _ _ (by omega), nwi_kd _ _ _ _, vi _ _ (by omega), hJ2⟩
    · refine b_X2_linesOfPlaces_19 (z_pu0V rfl) ?_
      rw [if_neg (nI_nlt (Nat.le_refl _) (by omega)), nI_add]
      exact hJ
  · refine b_X2_linesOfPlaces_8 (z_pu0V rfl) ⟨kd _, ?_⟩
    rw [o4', if_neg (nI_nlt (Nat.le_refl _) (by omega))]
    rfl
end HG1
