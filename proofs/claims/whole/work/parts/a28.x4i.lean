theorem en_X4_lengthen {pu : Nat → Option ((List Value → z_H → Prop) × (List Value → z_H → Int32))} {G : z_G} {d : Nat} {r : z_Res} {h : z_H} {x0 : Nat} {x1 : Int32} (hJ : z_J G d (m_X4_lengthen pu) r 0 [some (.ref x0), some (.int x1), none, none, none, none, none, none] [] h) : z_Ev G d k_X4_lengthen [.ref x0, .int x1] h r := z_enter (μ := m_X4_lengthen pu) rfl (by decide) rfl rfl (fun q => by cases q) (Nat.le_of_ble_eq_true rfl) hJ
def hd_X4_lengthen : Nat → Option (List Bool) := (fun k => (cond (Nat.blt k 202) (cond (Nat.blt k 86) (cond (Nat.blt k 30) (cond (Nat.beq k 14) (some [true, true, true, true, true, true, false, false]) none) (cond (Nat.beq k 30) (some [true, true, true, true, true, true, true, false]) none)) (cond (Nat.blt k 140) (cond (Nat.beq k 86) (some [true, true, true, true, true, true, false, true]) none) (cond (Nat.beq k 140) (some [true, true, true, true, true, true, false, true]) none))) none))
set_option maxRecDepth 20000 in
theorem b_X4_lengthen_0 {G : z_G} {d : Nat} {r : z_Res} (hPu : z_PuV G d (t_X4 z_pu0)) {h : z_H} {x0 : Nat} {x1 : Int32} (hT : (¬ x1 < 0 ∧ Int32.toNatClampNeg x1 ≤ 1000000 ∧ (¬ (nI 0) < 0 ∧ Int32.toNatClampNeg (nI 0) ≤ 1000000 ∧ (z_J G (d + 1) (m_X4_lengthen z_pu0) r) 14 [some (.ref x0), some (.int x1), some (.ref (z_n h)), some (.ref (z_n (z_nwi h 1 (Int32.toNatClampNeg x1) (fun _ => 0)))), some (.int (nI 0)), some (.int (nI 0)), none, none] [] (z_nwi (z_nwi h 1 (Int32.toNatClampNeg x1) (fun _ => 0)) 1 (Int32.toNatClampNeg (nI 0)) (fun _ => 0))))) : (z_J G (d + 1) (m_X4_lengthen z_pu0) r) 0 [some (.ref x0), some (.int x1), none, none, none, none, none, none] [] h := z_bq (v_X4 z_pu0 (vP_X4_lengthen z_pu0) hPu) hd_X4_lengthen 13 hT
set_option maxRecDepth 20000 in
theorem b_X4_lengthen_14 {G : z_G} {d : Nat} {r : z_Res} (hPu : z_PuV G d (t_X4 z_pu0)) {h : z_H} {x0 : Nat} {x1 : Int32} {x2 : Nat} {x3 : Nat} {x4 : Int32} {x5 : Int32} (hT : (z_kd h x0 = 20 ∧ (z_rc (z_or h x0 10) False (fun x_1 => (z_kd h x_1 = 1 ∧ vp_in (x1 - (nI 1)) (z_ln h x_1) ∧ (if x5 < (z_ai h x_1 (Int32.toNatClampNeg (x1 - (nI 1)))) then (z_J G (d + 1) (m_X4_lengthen z_pu0) r) 30 [some (.ref x0), some (.int x1), some (.ref x2), some (.ref x3), some (.int x4), some (.int x5), some (.int (nI 0)), none] [] h else (z_kd h x0 = 20 ∧ (z_rc (z_or h x0 9) False (fun x_2 => (((z_kd h x_2 = 5 ∧ z_rc (some x3) True (fun b => z_kd h b = 17)) ∨ (z_kd h x_2 = 6 ∧ z_rc (some x3) False (fun b => z_kd h b = 1))) ∧ vp_in x1 (z_ln h x_2) ∧ (z_kd (z_par h x_2 (Int32.toNatClampNeg x1) (some x3)) x0 = 20 ∧ (z_rc (z_or (z_par h x_2 (Int32.toNatClampNeg x1) (some x3)) x0 10) (if x1 = (nI 0) then False else (¬ x1 = (nI 0) ∧ False)) (fun x_3 => (if x1 = (nI 0) then (z_kd (z_par h x_2 (Int32.toNatClampNeg x1) (some x3)) x_3 = 1 ∧ vp_in x1 (z_ln (z_par h x_2 (Int32.toNatClampNeg x1) (some x3)) x_3) ∧ r = (.inl none, z_pai (z_par h x_2 (Int32.toNatClampNeg x1) (some x3)) x_3 (Int32.toNatClampNeg x1) (nI 0))) else (¬ x1 = (nI 0) ∧ (z_kd (z_par h x_2 (Int32.toNatClampNeg x1) (some x3)) x_3 = 1 ∧ vp_in x1 (z_ln (z_par h x_2 (Int32.toNatClampNeg x1) (some x3)) x_3) ∧ r = (.inl none, z_pai (z_par h x_2 (Int32.toNatClampNeg x1) (some x3)) x_3 (Int32.toNatClampNeg x1) (x4 / x1)))))))))))))))))) : (z_J G (d + 1) (m_X4_lengthen z_pu0) r) 14 [some (.ref x0), some (.int x1), some (.ref x2), some (.ref x3), some (.int x4), some (.int x5), none, none] [] h := z_bq (v_X4 z_pu0 (vP_X4_lengthen z_pu0) hPu) hd_X4_lengthen 25 hT
set_option maxRecDepth 20000 in
theorem b_X4_lengthen_30 {G : z_G} {d : Nat} {r : z_Res} (hPu : z_PuV G d (t_X4 z_pu0)) {h : z_H} {x0 : Nat} {x1 : Int32} {x2 : Nat} {x3 : Nat} {x4 : Int32} {x5 : Int32} {x6 : Int32} (hT : (if (x6 + (nI 1)) < x1 then (z_kd h x0 = 20 ∧ ∃ x_2 h_1, z_Ev G d k_X4_listedNumber [.ref x0, .int (x1 - (nI 1)), .int ((x5 * (x1 - (nI 1))) + x6)] h (.inl (some (.int x_2)), h_1) ∧ (z_kd h_1 x2 = 1 ∧ vp_in x6 (z_ln h_1 x2) ∧ (z_J G (d + 1) (m_X4_lengthen z_pu0) r) 30 [some (.ref x0), some (.int x1), some (.ref x2), some (.ref x3), some (.int x4), some (.int x5), some (.int (x6 + (nI 1))), none] [] (z_pai h_1 x2 (Int32.toNatClampNeg x6) x_2))) else (if x1 < (nI 2) then (z_J G (d + 1) (m_X4_lengthen z_pu0) r) 86 [some (.ref x0), some (.int x1), some (.ref x2), some (.ref x3), some (.int x4), some (.int x5), none, some (.int ((nI 0) + (nI 1)))] [] h else (z_kd h x2 = 1 ∧ vp_in (x1 - (nI 2)) (z_ln h x2) ∧ (z_J G (d + 1) (m_X4_lengthen z_pu0) r) 86 [some (.ref x0), some (.int x1), some (.ref x2), some (.ref x3), some (.int x4), some (.int x5), none, some (.int ((z_ai h x2 (Int32.toNatClampNeg (x1 - (nI 2)))) + (nI 1)))] [] h)))) : (z_J G (d + 1) (m_X4_lengthen z_pu0) r) 30 [some (.ref x0), some (.int x1), some (.ref x2), some (.ref x3), some (.int x4), some (.int x5), some (.int x6), none] [] h := z_bq (v_X4 z_pu0 (vP_X4_lengthen z_pu0) hPu) hd_X4_lengthen 25 hT
set_option maxRecDepth 20000 in
theorem b_X4_lengthen_86 {G : z_G} {d : Nat} {r : z_Res} (hPu : z_PuV G d (t_X4 z_pu0)) {h : z_H} {x0 : Nat} {x1 : Int32} {x2 : Nat} {x3 : Nat} {x4 : Int32} {x5 : Int32} {x7 : Int32} (hT : (if x7 < (nI 128) then (z_kd h x2 = 1 ∧ vp_in (x1 - (nI 1)) (z_ln h x2) ∧ (∃ x_2 h_1, z_Ev G d k_J6_bitCount_0f7a4 [.int x7] (z_pai h x2 (Int32.toNatClampNeg (x1 - (nI 1))) x7) (.inl (some (.int x_2)), h_1) ∧ (if x_2 = (nI 3) then (∃ x_4 h_3, z_Ev G d k_X8_keepsApart [.int x7, .ref x2, .int (x1 - (nI 1))] h_1 (.inl (some (.int x_4)), h_3) ∧ (if x_4 = (nI 0) then (z_J G (d + 1) (m_X4_lengthen z_pu0) r) 86 [some (.ref x0), some (.int x1), some (.ref x2), some (.ref x3), some (.int x4), some (.int x5), none, some (.int (x7 + (nI 1)))] [] h_3 else (∃ h_5, z_Ev G d k_X8_init [.ref (z_n h_3), .int (nI 7), .ref x2, .int x1] (z_nwo h_3 8 15) (.inl none, h_5) ∧ (z_kd h_5 x0 = 20 ∧ ∃ x_7 h_6, z_Ev G d k_X4_isLeast [.ref x0, .ref (z_n h_3)] h_5 (.inl (some (.int x_7)), h_6) ∧ (if x_7 = (nI 0) then (z_J G (d + 1) (m_X4_lengthen z_pu0) r) 86 [some (.ref x0), some (.int x1), some (.ref x2), some (.ref x3), some (.int x4), some (.int x5), none, some (.int (x7 + (nI 1)))] [] h_6 else (z_J G (d + 1) (m_X4_lengthen z_pu0) r) 140 [some (.ref x0), some (.int x1), some (.ref x2), some (.ref x3), some (.int x4), some (.int x5), none, some (.int x7)] [] h_6))))) else (z_J G (d + 1) (m_X4_lengthen z_pu0) r) 86 [some (.ref x0), some (.int x1), some (.ref x2), some (.ref x3), some (.int x4), some (.int x5), none, some (.int (x7 + (nI 1)))] [] h_1))) else (z_J G (d + 1) (m_X4_lengthen z_pu0) r) 14 [some (.ref x0), some (.int x1), some (.ref x2), some (.ref x3), some (.int x4), some (.int (x5 + (nI 1))), none, none] [] h)) : (z_J G (d + 1) (m_X4_lengthen z_pu0) r) 86 [some (.ref x0), some (.int x1), some (.ref x2), some (.ref x3), some (.int x4), some (.int x5), none, some (.int x7)] [] h := z_bq (v_X4 z_pu0 (vP_X4_lengthen z_pu0) hPu) hd_X4_lengthen 34 hT
set_option maxRecDepth 20000 in
theorem b_X4_lengthen_140 {G : z_G} {d : Nat} {r : z_Res} (hPu : z_PuV G d (t_X4 z_pu0)) {h : z_H} {x0 : Nat} {x1 : Int32} {x2 : Nat} {x3 : Nat} {x4 : Int32} {x5 : Int32} {x7 : Int32} (hT : (∃ o_2 h_1, z_Ev G d k_J7_copyOf_59c91 [.ref x3, .int (x4 + x1)] h (.inl (some (va_rf o_2)), h_1) ∧ (z_rc o_2 False (fun x_3 => ((¬ (nI 0) < 0 ∧ ¬ x4 < 0 ∧ ¬ x1 < 0 ∧ (Int32.toNatClampNeg (nI 0)) + (Int32.toNatClampNeg x1) ≤ z_ln h_1 x2 ∧ (Int32.toNatClampNeg x4) + (Int32.toNatClampNeg x1) ≤ z_ln h_1 x_3) ∧ ((z_kd h_1 x2 = 1 ∧ z_kd h_1 x_3 = 1 ∧ (z_J G (d + 1) (m_X4_lengthen z_pu0) r) 86 [some (.ref x0), some (.int x1), some (.ref x2), some (.ref x_3), some (.int (x4 + x1)), some (.int x5), none, some (.int (x7 + (nI 1)))] [] (z_pax h_1 x_3 (va_cpy (z_ai h_1 x2) (z_ai h_1 x_3) (Int32.toNatClampNeg (nI 0)) (Int32.toNatClampNeg x4) (Int32.toNatClampNeg x1)))) ∨ (z_kd h_1 x2 = 2 ∧ z_kd h_1 x_3 = 2 ∧ (z_J G (d + 1) (m_X4_lengthen z_pu0) r) 86 [some (.ref x0), some (.int x1), some (.ref x2), some (.ref x_3), some (.int (x4 + x1)), some (.int x5), none, some (.int (x7 + (nI 1)))] [] (z_plx h_1 x_3 (va_cpy (z_al h_1 x2) (z_al h_1 x_3) (Int32.toNatClampNeg (nI 0)) (Int32.toNatClampNeg x4) (Int32.toNatClampNeg x1)))))))))) : (z_J G (d + 1) (m_X4_lengthen z_pu0) r) 140 [some (.ref x0), some (.int x1), some (.ref x2), some (.ref x3), some (.int x4), some (.int x5), none, some (.int x7)] [] h := z_bq (v_X4 z_pu0 (vP_X4_lengthen z_pu0) hPu) hd_X4_lengthen 21 hT
theorem en_X4_prepare {pu : Nat → Option ((List Value → z_H → Prop) × (List Value → z_H → Int32))} {G : z_G} {d : Nat} {r : z_Res} {h : z_H} {x0 : Nat} {x1 : Int32} (hJ : z_J G d (m_X4_prepare pu) r 0 [some (.ref x0), some (.int x1), none] [] h) : z_Ev G d k_X4_prepare [.ref x0, .int x1] h r := z_enter (μ := m_X4_prepare pu) rfl (by decide) rfl rfl (fun q => by cases q) (Nat.le_of_ble_eq_true rfl) hJ
def hd_X4_prepare : Nat → Option (List Bool) := (fun k => (cond (Nat.blt k 52) (cond (Nat.beq k 7) (some [true, true, true]) none) none))
set_option maxRecDepth 20000 in
theorem b_X4_prepare_0 {G : z_G} {d : Nat} {r : z_Res} (hPu : z_PuV G d (t_X4 z_pu0)) {h : z_H} {x0 : Nat} {x1 : Int32} (hT : (z_kd h x0 = 20 ∧ (z_J G (d + 1) (m_X4_prepare z_pu0) r) 7 [some (.ref x0), some (.int x1), some (.int ((z_oi h x0 11) + (nI 1)))] [] h)) : (z_J G (d + 1) (m_X4_prepare z_pu0) r) 0 [some (.ref x0), some (.int x1), none] [] h := z_bq (v_X4 z_pu0 (vP_X4_prepare z_pu0) hPu) hd_X4_prepare 8 hT
set_option maxRecDepth 20000 in
theorem b_X4_prepare_7 {G : z_G} {d : Nat} {r : z_Res} (hPu : z_PuV G d (t_X4 z_pu0)) {h : z_H} {x0 : Nat} {x1 : Int32} {x2 : Int32} (hT : (if x1 < x2 then r = (.inl none, h) else (if x2 = (nI 0) then (z_kd h x0 = 20 ∧ (z_rc (z_or h x0 9) (¬ (nI 0) < 0 ∧ Int32.toNatClampNeg (nI 0) ≤ 1000000 ∧ False) (fun x_1 => (¬ (nI 0) < 0 ∧ Int32.toNatClampNeg (nI 0) ≤ 1000000 ∧ (((z_kd (z_nwi h 1 (Int32.toNatClampNeg (nI 0)) (fun _ => 0)) x_1 = 5 ∧ z_rc (some (z_n h)) True (fun b => z_kd (z_nwi h 1 (Int32.toNatClampNeg (nI 0)) (fun _ => 0)) b = 17)) ∨ (z_kd (z_nwi h 1 (Int32.toNatClampNeg (nI 0)) (fun _ => 0)) x_1 = 6 ∧ z_rc (some (z_n h)) False (fun b => z_kd (z_nwi h 1 (Int32.toNatClampNeg (nI 0)) (fun _ => 0)) b = 1))) ∧ vp_in (nI 0) (z_ln (z_nwi h 1 (Int32.toNatClampNeg (nI 0)) (fun _ => 0)) x_1) ∧ (z_kd (z_par (z_nwi h 1 (Int32.toNatClampNeg (nI 0)) (fun _ => 0)) x_1 (Int32.toNatClampNeg (nI 0)) (some (z_n h))) x0 = 20 ∧ (z_rc (z_or (z_par (z_nwi h 1 (Int32.toNatClampNeg (nI 0)) (fun _ => 0)) x_1 (Int32.toNatClampNeg (nI 0)) (some (z_n h))) x0 10) False (fun x_2 => (z_kd (z_par (z_nwi h 1 (Int32.toNatClampNeg (nI 0)) (fun _ => 0)) x_1 (Int32.toNatClampNeg (nI 0)) (some (z_n h))) x_2 = 1 ∧ vp_in (nI 0) (z_ln (z_par (z_nwi h 1 (Int32.toNatClampNeg (nI 0)) (fun _ => 0)) x_1 (Int32.toNatClampNeg (nI 0)) (some (z_n h))) x_2) ∧ (z_kd (z_pai (z_par (z_nwi h 1 (Int32.toNatClampNeg (nI 0)) (fun _ => 0)) x_1 (Int32.toNatClampNeg (nI 0)) (some (z_n h))) x_2 (Int32.toNatClampNeg (nI 0)) (nI 1)) x0 = 20 ∧ (z_J G (d + 1) (m_X4_prepare z_pu0) r) 7 [some (.ref x0), some (.int x1), some (.int (x2 + (nI 1)))] [] (z_poi (z_pai (z_par (z_nwi h 1 (Int32.toNatClampNeg (nI 0)) (fun _ => 0)) x_1 (Int32.toNatClampNeg (nI 0)) (some (z_n h))) x_2 (Int32.toNatClampNeg (nI 0)) (nI 1)) x0 11 x2))))))))))) else (z_kd h x0 = 20 ∧ ∃ h_3, z_Ev G d k_X4_lengthen [.ref x0, .int x2] h (.inl none, h_3) ∧ (z_kd h_3 x0 = 20 ∧ (z_J G (d + 1) (m_X4_prepare z_pu0) r) 7 [some (.ref x0), some (.int x1), some (.int (x2 + (nI 1)))] [] (z_poi h_3 x0 11 x2)))))) : (z_J G (d + 1) (m_X4_prepare z_pu0) r) 7 [some (.ref x0), some (.int x1), some (.int x2)] [] h := z_bq (v_X4 z_pu0 (vP_X4_prepare z_pu0) hPu) hd_X4_prepare 25 hT
/-! THE LISTS: made longer -/
def c_rw (row : Nat → Nat) (m : Nat) : Sc := (7, m, fun l => if l < m then row l else 0)
/-- a number tried behind a row -/
def lnC (il : Sc → Bool) (m : Nat) (row : Nat → Nat) (t : Nat) : Bool := decide (n_pc t = 3) && (!c_any (fun l => decide (1 < n_pc (t &&& row l))) (m - 1) && il (c_rw (z_u row (m - 1) t) m))
def lnB (il : Sc → Bool) (m : Nat) (row : Nat → Nat) (t : Nat) (st : (Nat → Nat) × Nat) : (Nat → Nat) × Nat := if lnC il m row t then (fun i => if i < st.2 then st.1 i else z_u row (m - 1) t (i - st.2), st.2 + m) else st
/-- whether a scheme of triples is its least, whatever lay about -/
def vI (V : CV) (il : Sc → Bool) : Prop := ∀ S, c_sok S → (∀ p, p < 8 → V 13 S p = nI (g_twT S p)) ∧ (S.1 = 7 → ∀ s0, lI S 0 s0 → s0.1 = false → g_isl S s0 = il S)
def lnI (V : CV) (L : Nat) (h0 : z_H) (ra m : Nat) (row : Nat → Nat) (h : z_H) (fa : Nat) (st : (Nat → Nat) × Nat) (c s : Nat) : Prop := (inv V L h ∧ lk L h ∧ ex (lX L) c s h0 h ∧ lkm L h0 h) ∧ (own L h ra ∧ z_kd h ra = 1 ∧ z_ln h ra = m ∧ z_n h0 ≤ ra ∧ ∀ l, l + 1 < m → z_ai h ra l = nI (row l)) ∧ fr L h fa ∧ fa ≠ ra ∧ z_kd h fa = 1 ∧ z_ln h fa = st.2 ∧ ∀ i, i < st.2 → z_ai h fa i = nI (st.1 i)
theorem rw_sok {row : Nat → Nat} {m t : Nat} (h1 : 1 ≤ m) (h7 : m ≤ 7) (hr : c_sok (c_rw row (m - 1))) (ht : t < 128) (h3 : n_pc t = 3) (hc : c_any (fun l => decide (1 < n_pc (t &&& row l))) (m - 1) = false) : c_sok (c_rw (z_u row (m - 1) t) m) := by
  have hno : ∀ l, l < m - 1 → n_pc (t &&& row l) ≤ 1 := fun l hl => by
    apply Classical.byContradiction
    intro n
    have := any_t (p := fun l => decide (1 < n_pc (t &&& row l))) hl (by show decide _ = true; exact decide_eq_true (by omega))
    rw [hc] at this
    cases this
  have o : ∀ l, l < m - 1 → (c_rw (z_u row (m - 1) t) m).2.2 l = (c_rw row (m - 1)).2.2 l := fun l hl => by
    show (if l < m then z_u row (m - 1) t l else 0) = if l < m - 1 then row l else 0
    rw [if_pos (by omega), if_pos hl, u_ne _ _ (by omega)]
  have r : ∀ l, l < m - 1 → (c_rw row (m - 1)).2.2 l = row l := fun l hl => if_pos hl
  have e : (c_rw (z_u row (m - 1) t) m).2.2 (m - 1) = t := by
    show (if m - 1 < m then z_u row (m - 1) t (m - 1) else 0) = t
    rw [if_pos (by omega), u_eq]
  refine ⟨⟨by show 1 ≤ 7; decide, by show 7 ≤ 8; decide⟩, by show m ≤ 12; omega, fun l hl => ?_, fun l hl => ?_, fun i j hij hj => ?_⟩
  · have hl' : l < m := hl
    by_cases c : l = m - 1
    · rw [c, e]; exact ⟨ht, by omega, by omega⟩
    · rw [o l (by omega)]; exact hr.2.2.1 l (show l < m - 1 by omega)
  · exact if_neg (show ¬ l < m from Nat.not_lt.mpr hl)
  · have hj' : j < m := hj
    by_cases c : j = m - 1
    · rw [o i (by omega), c, e, r i (by omega), Nat.and_comm]
      exact hno i (by omega)
    · rw [o i (by omega), o j (by omega)]
      exact hr.2.2.2.2 i j hij (show j < m - 1 by omega)
section HX
variable {V : CV} {G : z_G} {d L r c s : Nat} {h0 h : z_H} {N : Nat → Nat} {W : Nat → Nat → Nat} {il : Sc → Bool}
theorem ln_step (hv : vI V il) (hI0 : inv V L h0) (hL : L + 75 ≤ z_n h0) {ra fa m k t : Nat} {row : Nat → Nat} {st : (Nat → Nat) × Nat} (h1 : 1 ≤ m) (h7 : m ≤ 7) (hr : c_sok (c_rw row (m - 1))) (ht : t < 128) (hz : (lnB il m row t st).2 ≤ 448) (hi : lnI V L h0 ra m row h fa st c s) : ∃ h' fa', lnI V L h0 ra m row h' fa' (lnB il m row t st) (c + 11) (s + 600) ∧ ∀ R, z_J G (d + 24) (m_X4_lengthen z_pu0) R 86 [some (.ref (L + 25)), some (.int (nI m)), some (.ref ra), some (.ref fa'), some (.int (nI (lnB il m row t st).2)), some (.int (nI k)), none, some (.int (nI (t + 1)))] [] h' → z_J G (d + 24) (m_X4_lengthen z_pu0) R 86 [some (.ref (L + 25)), some (.int (nI m)), some (.ref ra), some (.ref fa), some (.int (nI st.2)), some (.int (nI k)), none, some (.int (nI t))] [] h := by
  have hX : ∀ a, lX L a → hl L a := fun _ hx => lX_hl hx
  obtain ⟨⟨hI, hk, he, hkm⟩, ⟨ho, k1, k2, hra, hrow⟩, f1, f2, f3, f4, f5⟩ := hi
  have n1 := he.1.1
  obtain ⟨g, eg⟩ : ∃ g, g = z_pai h ra (m - 1) (nI t) := ⟨_, rfl⟩
  have eg' : g = z_pax h ra (z_u (z_ai h ra) (m - 1) (nI t)) := by rw [eg]; rfl
  have Ig : inv V L g := by rw [eg']; exact inv_own hI ho _
  have og : own L g ra := by rw [eg']; exact own_pax ho _ _
  have ex0 : ex (lX L) c s h0 g := by rw [eg']; exact ex_px he (Or.inr (Or.inl hra))
  have nh : ¬ hl L ra := ho.1.2.1
  have nl : ∀ j, j < 8 → L + 25 + j ≠ ra := fun j hj e => nh (by unfold hl; omega)
  have lkg : lk L g := by
    obtain ⟨ls, ⟨E, e1, e2⟩, m1, b1⟩ := hk
    rw [eg']
    exact ⟨ls, ⟨E, by rw [show z_ai (z_pax h ra (z_u (z_ai h ra) (m - 1) (nI t))) (L + 25 + 5) = z_ai h (L + 25 + 5) from u_ne _ _ (nl 5 (by decide))]; exact e1, e2⟩, m1, b1⟩
  have kmg : lkm L h0 g := by
    rw [eg']
    exact ⟨hkm.1, by rw [show z_ai (z_pax h ra (z_u (z_ai h ra) (m - 1) (nI t))) (L + 25 + 7) = z_ai h (L + 25 + 7) from u_ne _ _ (nl 7 (by decide))]; exact hkm.2.1, hkm.2.2⟩
  have rowg : ∀ l, l < m → z_ai g ra l = nI (z_u row (m - 1) t l) := fun l hl => by
    rw [eg']
    show z_u (z_ai h) ra (z_u (z_ai h ra) (m - 1) (nI t)) ra l = _
    rw [u_eq]
    by_cases e : l = m - 1
    · rw [e, u_eq, u_eq]
    · rw [u_ne _ _ e, u_ne _ _ e]; exact hrow l (by omega)
  have rowg' : ∀ l, l + 1 < m → z_ai g ra l = nI (row l) := fun l hl => by
    rw [rowg l (by omega), u_ne _ _ (by omega)]
  have g1 : z_kd g ra = 1 := by rw [eg']; exact k1
  have g2 : z_ln g ra = m := by rw [eg']; exact k2
  have ff : fr L g fa ∧ z_kd g fa = 1 ∧ z_ln g fa = st.2 ∧ ∀ i, i < st.2 → z_ai g fa i = nI (st.1 i) := by
    rw [eg']
    exact ⟨f1, f3, f4, fun i hi => by rw [show z_ai (z_pax h ra (z_u (z_ai h ra) (m - 1) (nI t))) fa = z_ai h fa from u_ne _ _ f2]; exact f5 i hi⟩
  have stay : lnI V L h0 ra m row g fa st (c + 11) (s + 600) := ⟨⟨Ig, lkg, ex_mono ex0 (by omega) (by omega), kmg⟩, ⟨og, g1, g2, hra, rowg'⟩, ff.1, f2, ff.2.1, ff.2.2.1, ff.2.2.2⟩
  have evb := e_bits (G := G) (d := d + 22) (h := g) (show t < 4096 by omega)
  have pcl : n_pc t ≤ 12 := n_pc12 t (by omega)
  have beg : ∀ R, (∃ x_2 h_1, z_Ev G (d + 23) k_J6_bitCount_0f7a4 [.int (nI t)] g (.inl (some (.int x_2)), h_1) ∧ (if x_2 = (nI 3) then (∃ x_4 h_3, z_Ev G (d + 23) k_X8_keepsApart [.int (nI t), .ref ra, .int (nI (m - 1))] h_1 (.inl (some (.int x_4)), h_3) ∧ (if x_4 = (nI 0) then z_J G (d + 24) (m_X4_lengthen z_pu0) R 86 [some (.ref (L + 25)), some (.int (nI m)), some (.ref ra), some (.ref fa), some (.int (nI st.2)), some (.int (nI k)), none, some (.int (nI (t + 1)))] [] h_3 else (∃ h_5, z_Ev G (d + 23) k_X8_init [.ref (z_n h_3), .int (nI 7), .ref ra, .int (nI m)] (z_nwo h_3 8 15) (.inl none, h_5) ∧ (z_kd h_5 (L + 25) = 20 ∧ ∃ x_7 h_6, z_Ev G (d + 23) k_X4_isLeast [.ref (L + 25), .ref (z_n h_3)] h_5 (.inl (some (.int x_7)), h_6) ∧ (if x_7 = (nI 0) then z_J G (d + 24) (m_X4_lengthen z_pu0) R 86 [some (.ref (L + 25)), some (.int (nI m)), some (.ref ra), some (.ref fa), some (.int (nI st.2)), some (.int (nI k)), none, some (.int (nI (t + 1)))] [] h_6 else z_J G (d + 24) (m_X4_lengthen z_pu0) R 140 [some (.ref (L + 25)), some (.int (nI m)), some (.ref ra), some (.ref fa), some (.int (nI st.2)), some (.int (nI k)), none, some (.int (nI t))] [] h_6))))) else z_J G (d + 24) (m_X4_lengthen z_pu0) R 86 [some (.ref (L + 25)), some (.int (nI m)), some (.ref ra), some (.ref fa), some (.int (nI st.2)), some (.int (nI k)), none, some (.int (nI (t + 1)))] [] h_1)) → z_J G (d + 24) (m_X4_lengthen z_pu0) R 86 [some (.ref (L + 25)), some (.int (nI m)), some (.ref ra), some (.ref fa), some (.int (nI st.2)), some (.int (nI k)), none, some (.int (nI t))] [] h := by
    intro R hR
    refine b_X4_lengthen_86 (z_pu0V rfl) ?_
    rw [if_pos (nI_lt (by omega) (by decide)), q_sub h1, nI_clamp (show m - 1 < 2 ^ 31 by omega), ← eg, nI_add]
    exact ⟨k1, by rw [k2]; exact vp_in_nI (by omega) (by omega), hR⟩
  by_cases c3 : n_pc t = 3
  case neg =>
    have eB : lnB il m row t st = st := by unfold lnB lnC; rw [decide_eq_false c3, Bool.false_and, if_neg (by decide)]
    rw [eB]
    refine ⟨g, fa, stay, fun R hR => beg R ⟨_, _, evb, ?_⟩⟩
    rw [if_neg (fun e => c3 ((nI_eq (by omega) (by decide)).mp e))]
    exact hR
  case pos =>
  have evk := e8_keepsApart (G := G) (d := d + 19) (h := g) (a0 := ra) (m := m - 1) (L := row) g1 (by omega) (by omega) (fun l hl => rowg' l (by omega)) (x := t) (by omega)
  cases ck : c_any (fun l => decide (1 < n_pc (t &&& row l))) (m - 1)
  case true =>
    have eB : lnB il m row t st = st := by unfold lnB lnC; rw [ck, Bool.not_true, Bool.false_and, Bool.and_false, if_neg (by decide)]
    rw [eB]
    refine ⟨g, fa, stay, fun R hR => beg R ⟨_, _, evb, ?_⟩⟩
    rw [c3, if_pos rfl]
    rw [ck] at evk
    refine ⟨_, _, evk, ?_⟩
    rw [if_pos (by rfl)]
    exact hR
  case false =>
  rw [ck] at evk
  obtain ⟨S, eS⟩ : ∃ S, S = c_rw (z_u row (m - 1) t) m := ⟨_, rfl⟩
  have hS : c_sok S := by rw [eS]; exact rw_sok h1 h7 hr ht c3 ck
  have S1 : S.1 = 7 := by rw [eS]; rfl
  have S2 : S.2.1 = m := by rw [eS]; rfl
  have S3 : ∀ l, l < m → S.2.2 l = z_u row (m - 1) t l := fun l hl => by rw [eS]; exact if_pos hl
  obtain ⟨g3, ev3, I3, e3, A3, o3⟩ := mk_own (G := G) (d := d + 18) Ig (by have := ex0.1.1; omega) hS og g1 g2 (by omega) (by omega) (fun l hl => by rw [S3 l (by omega)]; exact rowg l (by omega))
  rw [S1, S2] at ev3
  have hFl : ∀ a, (fun _ : Nat => False) a → hl L a := fun _ f => f.elim
  have n3 := (e3 (fun _ => False)).1.1
  have n0 := ex0.1.1
  have lk3 := lk_ex Ig (by omega) (e3 (fun _ => False)) (fun _ _ f => f) lkg
  obtain ⟨g4, s0, i0, z0, ev4, I4, e4, lk4, km4, nk4⟩ := e4_isLeast (G := G) (d := d) I3 (by omega) lk3.1 A3 (hv S hS).1
  rw [(hv S hS).2 S1 s0 i0 z0] at ev4
  have n4 := e4.1.1
  have o4 : own L g4 ra := own_nk I3 hX e4 nk4 (nk_bl I3 hX e4 nk4) o3
  have ex4 := ex_trans hI0 I3 hX (ex_trans hI0 Ig hX ex0 (e3 (lX L))) e4
  have km04 : lkm L h0 g4 := lkm_t kmg (lkm_t lk3.2 km4)
  have ra3 := ex_fr Ig hFl (e3 _) og.1
  have ra4 := ex_fr I3 hX e4 o3.1
  have fa3 := ex_fr Ig hFl (e3 _) ff.1
  have fa4 := ex_fr I3 hX e4 fa3.1
  have raV : z_kd g4 ra = 1 ∧ z_ln g4 ra = m ∧ z_ai g4 ra = z_ai g ra := ⟨by rw [ra4.2.1, ra3.2.1]; exact g1, by rw [ra4.2.2.1, ra3.2.2.1]; exact g2, by rw [ra4.2.2.2.2.2.1, ra3.2.2.2.2.2.1]⟩
  have faV : z_kd g4 fa = 1 ∧ z_ln g4 fa = st.2 ∧ z_ai g4 fa = z_ai g fa := ⟨by rw [fa4.2.1, fa3.2.1]; exact ff.2.1, by rw [fa4.2.2.1, fa3.2.2.1]; exact ff.2.2.1, by rw [fa4.2.2.2.2.2.1, fa3.2.2.2.2.2.1]⟩
  have rest : ∀ R, (if nI (il S).toNat = nI 0 then z_J G (d + 24) (m_X4_lengthen z_pu0) R 86 [some (.ref (L + 25)), some (.int (nI m)), some (.ref ra), some (.ref fa), some (.int (nI st.2)), some (.int (nI k)), none, some (.int (nI (t + 1)))] [] g4 else z_J G (d + 24) (m_X4_lengthen z_pu0) R 140 [some (.ref (L + 25)), some (.int (nI m)), some (.ref ra), some (.ref fa), some (.int (nI st.2)), some (.int (nI k)), none, some (.int (nI t))] [] g4) → z_J G (d + 24) (m_X4_lengthen z_pu0) R 86 [some (.ref (L + 25)), some (.int (nI m)), some (.ref ra), some (.ref fa), some (.int (nI st.2)), some (.int (nI k)), none, some (.int (nI t))] [] h := by
    intro R hR
    refine beg R ⟨_, _, evb, ?_⟩
    rw [c3, if_pos rfl]
    refine ⟨_, _, evk, ?_⟩
    rw [if_neg (by decide)]
    exact ⟨_, ev3, lk3.1.1.1, _, _, ev4, hR⟩
  cases ci : il S
  case false =>
    have eB : lnB il m row t st = st := by unfold lnB lnC; rw [← eS, ci, Bool.and_false, Bool.and_false, if_neg (by decide)]
    rw [eB]
    refine ⟨g4, fa, ⟨⟨I4, lk4, ex_mono ex4 (by omega) (by omega), km04⟩, ⟨o4, raV.1, raV.2.1, hra, fun l hl => by rw [raV.2.2]; exact rowg' l hl⟩, fa4.1, f2, faV.1, faV.2.1, fun i hi => by rw [faV.2.2]; exact ff.2.2.2 i hi⟩, fun R hR => rest R ?_⟩
    rw [ci, if_pos (by rfl)]
    exact hR
  case true =>
    have eB : lnB il m row t st = (fun i => if i < st.2 then st.1 i else z_u row (m - 1) t (i - st.2), st.2 + m) := by unfold lnB lnC; rw [← eS, ci, ck, decide_eq_true c3, if_pos (by rfl)]
    rw [eB] at hz ⊢
    have hz' : st.2 + m ≤ 448 := hz
    obtain ⟨f, w1, -, evc⟩ := e_copyOf (G := G) (d := d + 20) (h := g4) (a := fa) (L := st.2) (m := st.2 + m) faV.1 faV.2.1 (by omega) (by omega) fa4.1.1
    obtain ⟨T, eT⟩ : ∃ T, T = va_cpy (z_ai g4 ra) f 0 st.2 m := ⟨_, rfl⟩
    have ral : ra < z_n g4 := o4.1.1
    have nk := nw_k I4 (st.2 + m) T (fun _ => False)
    have nkX := nw_k I4 (st.2 + m) T (lX L)
    have lk5 := lk_ex I4 (by omega) nk.2 (fun _ _ f => f) lk4
    have ra5 : z_kd (z_nwi g4 1 (st.2 + m) T) ra = 1 ∧ z_ln (z_nwi g4 1 (st.2 + m) T) ra = m ∧ z_ai (z_nwi g4 1 (st.2 + m) T) ra = z_ai g4 ra := ⟨by rw [show z_kd (z_nwi g4 1 (st.2 + m) T) ra = z_kd g4 ra from u_ne _ _ (by omega)]; exact raV.1, by rw [show z_ln (z_nwi g4 1 (st.2 + m) T) ra = z_ln g4 ra from u_ne _ _ (by omega)]; exact raV.2.1, u_ne _ _ (by omega)⟩
    refine ⟨z_nwi g4 1 (st.2 + m) T, z_n g4, ⟨⟨nk.1, lk5.1, ex_mono (ex_trans hI0 I4 hX ex4 nkX.2) (by omega) (by omega), lkm_t km04 lk5.2⟩, ⟨own_nwi I4 o4 _ _, ra5.1, ra5.2.1, hra, fun l hl => by rw [ra5.2.2, raV.2.2]; exact rowg' l hl⟩, nw_fr I4 (by omega) _ _, by omega, nwi_kd _ _ _ _, nwi_ln _ _ _ _, fun i hi => ?_⟩, fun R hR => rest R ?_⟩
    · have hi' : i < st.2 + m := hi
      rw [nwi_ai, eT]
      unfold va_cpy
      show _ = nI (if i < st.2 then st.1 i else z_u row (m - 1) t (i - st.2))
      by_cases ci2 : i < st.2
      · rw [if_neg (by omega), if_pos ci2, w1 i ci2 hi', faV.2.2]
        exact ff.2.2.2 i ci2
      · rw [if_pos ⟨by omega, by omega⟩, if_neg ci2, raV.2.2, Nat.zero_add]
        exact rowg _ (by omega)
    · rw [ci, if_neg (by decide)]
      refine b_X4_lengthen_140 (z_pu0V rfl) ?_
      rw [nI_add, nI_add, nI_clamp (show 0 < 2 ^ 31 by decide), nI_clamp (show m < 2 ^ 31 by omega), nI_clamp (show st.2 < 2 ^ 31 by omega)]
      refine ⟨_, _, evc, ?_⟩
      have q1 : z_kd (z_nwi g4 1 (st.2 + m) f) ra = 1 := by rw [show z_kd (z_nwi g4 1 (st.2 + m) f) ra = z_kd g4 ra from u_ne _ _ (by omega)]; exact raV.1
      have q2 : z_ln (z_nwi g4 1 (st.2 + m) f) ra = m := by rw [show z_ln (z_nwi g4 1 (st.2 + m) f) ra = z_ln g4 ra from u_ne _ _ (by omega)]; exact raV.2.1
      have q3 : z_ai (z_nwi g4 1 (st.2 + m) f) ra = z_ai g4 ra := u_ne _ _ (by omega)
      rw [z_rcs, q3, nwi_ai, nwi_pax, nwi_ln, q2, ← eT]
      refine ⟨⟨by decide, nI_nlt (Nat.zero_le _) (by omega), nI_nlt (Nat.zero_le _) (by omega), by omega, Nat.le_refl _⟩, Or.inl ⟨q1, nwi_kd _ _ _ _, hR⟩⟩
end HX
