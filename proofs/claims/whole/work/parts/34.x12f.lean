theorem en_X12_fours {pu : Nat → Option ((List Value → z_H → Prop) × (List Value → z_H → Int32))} {G : z_G} {d : Nat} {r : z_Res} {h : z_H} {x0 : Nat} (hJ : z_J G d (m_X12_fours pu) r 0 [some (.ref x0), none, none, none, none, none] [] h) : z_Ev G d k_X12_fours [.ref x0] h r := z_enter (μ := m_X12_fours pu) rfl (by decide) rfl rfl (fun q => by cases q) (Nat.le_of_ble_eq_true rfl) hJ
def hd_X12_fours : Nat → Option (List Bool) := (fun k => (cond (Nat.blt k 117) (cond (Nat.blt k 30) (cond (Nat.beq k 4) (some [true, true, true, false, false, false]) none) (cond (Nat.blt k 42) (cond (Nat.beq k 30) (some [true, true, true, true, true, false]) none) (cond (Nat.beq k 42) (some [true, true, true, true, true, true]) none))) none))
set_option maxRecDepth 20000 in
theorem b_X12_fours_0 {G : z_G} {d : Nat} {r : z_Res} (hPu : z_PuV G d (t_X12 z_puC)) {h : z_H} {x0 : Nat} (hT : (z_J G (d + 1) (m_X12_fours z_puC) r) 4 [some (.ref x0), some (.int (0 : Int32)), some (.int (0 : Int32)), none, none, none] [] h) : (z_J G (d + 1) (m_X12_fours z_puC) r) 0 [some (.ref x0), none, none, none, none, none] [] h := z_bq (v_X12 z_puC (vP_X12_fours z_puC) hPu) hd_X12_fours 7 hT
set_option maxRecDepth 20000 in
theorem b_X12_fours_4 {G : z_G} {d : Nat} {r : z_Res} (hPu : z_PuV G d (t_X12 z_puC)) {h : z_H} {x0 : Nat} {x1 : Int32} {x2 : Int32} (hT : (z_kd h x0 = 28 ∧ s_X12_lines x0 h ∧ (if x2 < ((1 : Int32) <<< ((f_X12_lines x0 h) &&& 31)) then (s_X12_bits x2 h ∧ (if (f_X12_bits x2 h) = (4 : Int32) then (z_J G (d + 1) (m_X12_fours z_puC) r) 30 [some (.ref x0), some (.int x1), some (.int x2), some (.int (0 : Int32)), some (.int (0 : Int32)), none] [] h else (z_J G (d + 1) (m_X12_fours z_puC) r) 4 [some (.ref x0), some (.int x1), some (.int (x2 + (1 : Int32))), none, none, none] [] h)) else r = (.inl (some (.int x1)), h)))) : (z_J G (d + 1) (m_X12_fours z_puC) r) 4 [some (.ref x0), some (.int x1), some (.int x2), none, none, none] [] h := z_bq (v_X12 z_puC (vP_X12_fours z_puC) hPu) hd_X12_fours 17 hT
set_option maxRecDepth 20000 in
theorem b_X12_fours_30 {G : z_G} {d : Nat} {r : z_Res} (hPu : z_PuV G d (t_X12 z_puC)) {h : z_H} {x0 : Nat} {x1 : Int32} {x2 : Int32} {x3 : Int32} {x4 : Int32} (hT : (z_kd h x0 = 28 ∧ s_X12_lines x0 h ∧ (if x4 < (f_X12_lines x0 h) then (z_J G (d + 1) (m_X12_fours z_puC) r) 42 [some (.ref x0), some (.int x1), some (.int x2), some (.int x3), some (.int x4), some (.int (0 : Int32))] [] h else (s_X12_bits x3 h ∧ (if (f_X12_bits x3 h) = (6 : Int32) then (z_J G (d + 1) (m_X12_fours z_puC) r) 4 [some (.ref x0), some (.int (x1 + (1 : Int32))), some (.int (x2 + (1 : Int32))), none, none, none] [] h else (z_J G (d + 1) (m_X12_fours z_puC) r) 4 [some (.ref x0), some (.int (x1 + (0 : Int32))), some (.int (x2 + (1 : Int32))), none, none, none] [] h))))) : (z_J G (d + 1) (m_X12_fours z_puC) r) 30 [some (.ref x0), some (.int x1), some (.int x2), some (.int x3), some (.int x4), none] [] h := z_bq (v_X12 z_puC (vP_X12_fours z_puC) hPu) hd_X12_fours 18 hT
set_option maxRecDepth 20000 in
theorem b_X12_fours_42 {G : z_G} {d : Nat} {r : z_Res} (hPu : z_PuV G d (t_X12 z_puC)) {h : z_H} {x0 : Nat} {x1 : Int32} {x2 : Int32} {x3 : Int32} {x4 : Int32} {x5 : Int32} (hT : (if x5 < x4 then (if (((x2 >>> (x4 &&& 31)) &&& (x2 >>> (x5 &&& 31))) &&& (1 : Int32)) = (1 : Int32) then (z_kd h x0 = 28 ∧ s_X12_lineAt x0 x4 h ∧ (z_kd h x0 = 28 ∧ s_X12_lineAt x0 x5 h ∧ (z_J G (d + 1) (m_X12_fours z_puC) r) 42 [some (.ref x0), some (.int x1), some (.int x2), some (.int (x3 ||| ((f_X12_lineAt x0 x4 h) &&& (f_X12_lineAt x0 x5 h)))), some (.int x4), some (.int (x5 + (1 : Int32)))] [] h)) else (z_J G (d + 1) (m_X12_fours z_puC) r) 42 [some (.ref x0), some (.int x1), some (.int x2), some (.int x3), some (.int x4), some (.int (x5 + (1 : Int32)))] [] h) else (z_J G (d + 1) (m_X12_fours z_puC) r) 30 [some (.ref x0), some (.int x1), some (.int x2), some (.int x3), some (.int (x4 + (1 : Int32))), none] [] h)) : (z_J G (d + 1) (m_X12_fours z_puC) r) 42 [some (.ref x0), some (.int x1), some (.int x2), some (.int x3), some (.int x4), some (.int x5)] [] h := z_bq (v_X12 z_puC (vP_X12_fours z_puC) hPu) hd_X12_fours 29 hT
theorem en_X12_isSymmetry {pu : Nat → Option ((List Value → z_H → Prop) × (List Value → z_H → Int32))} {G : z_G} {d : Nat} {r : z_Res} {h : z_H} {x0 : Nat} (hJ : z_J G d (m_X12_isSymmetry pu) r 0 [some (.ref x0), none] [] h) : z_Ev G d k_X12_isSymmetry [.ref x0] h r := z_enter (μ := m_X12_isSymmetry pu) rfl (by decide) rfl rfl (fun q => by cases q) (Nat.le_of_ble_eq_true rfl) hJ
def hd_X12_isSymmetry : Nat → Option (List Bool) := (fun k => (cond (Nat.blt k 38) (cond (Nat.beq k 2) (some [true, true]) none) none))
set_option maxRecDepth 20000 in
theorem b_X12_isSymmetry_0 {G : z_G} {d : Nat} {r : z_Res} (hPu : z_PuV G d (t_X12 z_puC)) {h : z_H} {x0 : Nat} (hT : (z_J G (d + 1) (m_X12_isSymmetry z_puC) r) 2 [some (.ref x0), some (.int (0 : Int32))] [] h) : (z_J G (d + 1) (m_X12_isSymmetry z_puC) r) 0 [some (.ref x0), none] [] h := z_bq (v_X12 z_puC (vP_X12_isSymmetry z_puC) hPu) hd_X12_isSymmetry 5 hT
set_option maxRecDepth 20000 in
theorem b_X12_isSymmetry_2 {G : z_G} {d : Nat} {r : z_Res} (hPu : z_PuV G d (t_X12 z_puC)) {h : z_H} {x0 : Nat} {x1 : Int32} (hT : (z_kd h x0 = 28 ∧ s_X12_lines x0 h ∧ (if x1 < (f_X12_lines x0 h) then (z_kd h x0 = 28 ∧ (z_rc (z_or h x0 17) (z_kd h x0 = 28 ∧ s_X12_lineAt x0 x1 h ∧ (z_kd h x0 = 28 ∧ s_X12_named x0 (f_X12_lineAt x0 x1 h) h ∧ False)) (fun x_1 => (z_kd h x0 = 28 ∧ s_X12_lineAt x0 x1 h ∧ (z_kd h x0 = 28 ∧ s_X12_named x0 (f_X12_lineAt x0 x1 h) h ∧ (z_kd h x_1 = 1 ∧ vp_in (f_X12_named x0 (f_X12_lineAt x0 x1 h) h) (z_ln h x_1) ∧ (if (z_ai h x_1 (Int32.toNatClampNeg (f_X12_named x0 (f_X12_lineAt x0 x1 h) h))) = (-1 : Int32) then (z_bz (0 : Int32) ∧ r = (.inl (some (.int (0 : Int32))), h)) else (z_J G (d + 1) (m_X12_isSymmetry z_puC) r) 2 [some (.ref x0), some (.int (x1 + (1 : Int32)))] [] h))))))) else (z_bz (1 : Int32) ∧ r = (.inl (some (.int (1 : Int32))), h))))) : (z_J G (d + 1) (m_X12_isSymmetry z_puC) r) 2 [some (.ref x0), some (.int x1)] [] h := z_bq (v_X12 z_puC (vP_X12_isSymmetry z_puC) hPu) hd_X12_isSymmetry 19 hT
/-- whether one below fits -/
def c_any (p : Nat → Bool) (n : Nat) : Bool := decide (fa_first p n < n)
theorem any_t {p : Nat → Bool} {n k : Nat} (hk : k < n) (h : p k = true) : c_any p n = true := by
  refine decide_eq_true ?_
  by_cases h1 : fa_first p n < n
  · exact h1
  · have := fa_first_no p n k (by have := fa_first_le p n; omega)
    rw [h] at this; cases this
theorem any_f {p : Nat → Bool} {n : Nat} (h : ∀ i, i < n → p i = false) : c_any p n = false := by
  refine decide_eq_false ?_
  rw [fa_first_n h]; exact Nat.lt_irrefl _
theorem n_bit2 {x p q : Nat} (hx : x < 2 ^ 31) (hp : p < 32) (hq : q < 32) : ((nI x >>> (nI p &&& 31)) &&& (nI x >>> (nI q &&& 31))) &&& 1 = nI (x.testBit p && x.testBit q).toNat := by
  rw [n_shr hx hp, n_shr hx hq, show (1 : Int32) = nI 1 from rfl, fa_and, fa_and]
  congr 1
  rw [Nat.and_one_is_mod]
  have e : ∀ y : Nat, y % 2 = (y.testBit 0).toNat := fun y => by rw [Nat.testBit_zero]; rcases Nat.mod_two_eq_zero_or_one y with h | h <;> simp [h]
  rw [e, Nat.testBit_and, Nat.testBit_shiftRight, Nat.testBit_shiftRight]
  rfl
/-- a line slips -/
def c_slC (R : Nat → Int32) (x a b c : Nat) : Bool := x.testBit c && !c_l3 R a b c
def c_slB (R : Nat → Int32) (x a b : Nat) : Bool := (x.testBit a && x.testBit b) && (c_p2 R a b || c_any (c_slC R x a b) b)
def c_slA (R : Nat → Int32) (x a : Nat) : Bool := c_any (c_slB R x a) a
def c_slip (n : Nat) (R : Nat → Int32) (x : Nat) : Bool := c_any (c_slA R x) n
def c_slips (S : Sc) (R : Nat → Int32) : Nat := it (fun l n => n + (c_slip S.1 R (S.2.2 l)).toNat) 0 S.2.1
/-- where four lines meet -/
def c_met (S : Sc) (x : Nat) : Nat := it (fun a v => it (fun b v => if x.testBit a && x.testBit b then v ||| (S.2.2 a &&& S.2.2 b) else v) v a) 0 S.2.1
def c_fours (S : Sc) : Nat := it (fun x n => if n_pc x = 4 then n + (decide (n_pc (c_met S x) = 6)).toNat else n) 0 (2 ^ S.2.1)
section CF
variable {G : z_G} {d : Nat} {h : z_H} {M : Nat} {S : Sc}
theorem e_doesSlip (hA : z_at M h S) {l : Nat} (hl : l < S.2.1) : z_Ev G (d + 4) k_X12_doesSlip [.ref M, .int (nI l)] h (.inl (some (.int (nI (c_slip S.1 (z_ai h (M + 1)) (S.2.2 l)).toNat))), h) := by
  have hn := t_n8 hA
  have hm := t_m12 hA
  have hL := t_L256 hA l
  refine en_X12_doesSlip (b_X12_doesSlip_0 z_puCV ⟨t_kd hA, t_sL hA (by omega), ?_⟩)
  rw [t_Ln hA hl]
  generalize S.2.2 l = x at hL
  refine z_fnd (fun a => [some (.ref M), none, some (.int (nI x)), some (.int (nI a)), none, none]) (c_slA (z_ai h (M + 1)) x) S.1 ?_ ?_
  · intro a ha hno hJ
    refine b_X12_doesSlip_8 z_puCV ⟨t_kd hA, hA.1, ?_⟩
    rw [t_n hA, if_pos (nI_lt ha (by omega))]
    refine z_fnd (fun b => [some (.ref M), none, some (.int (nI x)), some (.int (nI a)), some (.int (nI b)), none]) (c_slB (z_ai h (M + 1)) x a) a ?_ ?_
    · intro b hb hno2 hJ2
      have yes : c_slB (z_ai h (M + 1)) x a b = true → c_slip S.1 (z_ai h (M + 1)) x = true := fun e => any_t ha (any_t (p := c_slB (z_ai h (M + 1)) x a) hb e)
      refine b_X12_doesSlip_19 z_puCV ?_
      rw [if_pos (nI_lt hb (by omega)), n_bit2 (by omega) (by omega) (by omega), nI_1]
      cases hbit : (x.testBit a && x.testBit b)
      · rw [if_pos (by decide)]
        exact hJ2 (by unfold c_slB; rw [hbit]; rfl)
      · rw [if_neg (by decide), t_p2 (by omega) (by omega)]
        refine ⟨t_kd hA, t_sp2 hA (by omega) (by omega), ?_⟩
        cases hp2 : c_p2 (z_ai h (M + 1)) a b
        · rw [if_pos (by decide)]
          refine z_fnd (fun c => [some (.ref M), none, some (.int (nI x)), some (.int (nI a)), some (.int (nI b)), some (.int (nI c))]) (c_slC (z_ai h (M + 1)) x a b) b ?_ ?_
          · intro c hc hno3 hJ3
            refine b_X12_doesSlip_56 z_puCV ?_
            rw [if_pos (nI_lt hc (by omega)), n_bit (by omega) (by omega), nI_1]
            cases hbc : x.testBit c
            · rw [if_neg (by decide)]
              exact hJ3 (by unfold c_slC; rw [hbc]; rfl)
            · rw [if_pos (by decide), t_l3 (by omega) (by omega) (by omega)]
              refine ⟨t_kd hA, t_sl3 hA (by omega) (by omega) (by omega), ?_⟩
              cases h3 : c_l3 (z_ai h (M + 1)) a b c
              · rw [if_pos (by decide)]
                have e : c_slB (z_ai h (M + 1)) x a b = true := by
                  unfold c_slB
                  rw [hbit, hp2, any_t hc (show c_slC (z_ai h (M + 1)) x a b c = true by unfold c_slC; rw [hbc, h3]; rfl)]; rfl
                rw [yes e]
                exact ⟨Or.inr rfl, rfl⟩
              · rw [if_neg (by decide)]
                exact hJ3 (by unfold c_slC; rw [hbc, h3]; rfl)
          · intro hno3
            refine b_X12_doesSlip_56 z_puCV ?_
            rw [if_neg (nI_nlt (Nat.le_refl _) (by omega)), nI_1]
            exact hJ2 (by unfold c_slB; rw [hbit, hp2, any_f hno3]; rfl)
        · rw [if_neg (by decide)]
          have e : c_slB (z_ai h (M + 1)) x a b = true := by unfold c_slB; rw [hbit, hp2]; rfl
          rw [yes e]
          exact ⟨Or.inr rfl, rfl⟩
    · intro hno2
      refine b_X12_doesSlip_19 z_puCV ?_
      rw [if_neg (nI_nlt (Nat.le_refl _) (by omega)), nI_1]
      exact hJ (any_f hno2)
  · intro hno
    refine b_X12_doesSlip_8 z_puCV ⟨t_kd hA, hA.1, ?_⟩
    rw [t_n hA, if_neg (nI_nlt (Nat.le_refl _) (by omega)), show c_slip S.1 (z_ai h (M + 1)) x = false from any_f hno]
    exact ⟨Or.inl rfl, rfl⟩
theorem e_slips (hA : z_at M h S) : z_Ev G (d + 5) k_X12_slips [.ref M] h (.inl (some (.int (nI (c_slips S (z_ai h (M + 1)))))), h) := by
  have hm := t_m12 hA
  refine en_X12_slips (b_X12_slips_0 z_puCV ?_)
  refine z_for (fun l x => [some (.ref M), some (.int (nI x)), some (.int (nI l))]) (fun l n => n + (c_slip S.1 (z_ai h (M + 1)) (S.2.2 l)).toNat) 0 S.2.1 ?_ ?_
  · intro l hl hJ
    refine b_X12_slips_4 z_puCV ⟨t_kd hA, hA.1, ?_⟩
    rw [t_m hA, if_pos (nI_lt hl (by omega))]
    refine ⟨t_kd hA, _, _, e_doesSlip hA hl, ?_⟩
    rw [nI_a0, nI_1, nI_1]
    cases hc : c_slip S.1 (z_ai h (M + 1)) (S.2.2 l)
    · rw [hc] at hJ
      rw [if_pos (by decide)]; exact hJ
    · rw [hc] at hJ
      rw [if_neg (by decide)]; exact hJ
  · refine b_X12_slips_4 z_puCV ⟨t_kd hA, hA.1, ?_⟩
    rw [t_m hA, if_neg (nI_nlt (Nat.le_refl _) (by omega))]; rfl
theorem c_met_lt (hA : z_at M h S) (x k : Nat) : it (fun a v => it (fun b v => if x.testBit a && x.testBit b then v ||| (S.2.2 a &&& S.2.2 b) else v) v a) 0 k < 256 := by
  refine it_bd (P := fun v => v < 256) (by decide) (fun a v hv => it_bd (P := fun v => v < 256) hv (fun b v hv => ?_) a) k
  split
  · exact or_lt256 hv (and_lt256 (t_L256 hA a))
  · exact hv
theorem e_fours (hA : z_at M h S) : z_Ev G (d + 4) k_X12_fours [.ref M] h (.inl (some (.int (nI (c_fours S)))), h) := by
  have hm := t_m12 hA
  have h12 : 2 ^ S.2.1 ≤ 2 ^ 12 := Nat.pow_le_pow_right (by decide) hm
  refine en_X12_fours (b_X12_fours_0 z_puCV ?_)
  refine z_for (fun x n => [some (.ref M), some (.int (nI n)), some (.int (nI x)), none, none, none]) (fun x n => if n_pc x = 4 then n + (decide (n_pc (c_met S x) = 6)).toNat else n) 0 (2 ^ S.2.1) ?_ ?_
  · intro x hx hJ
    have hp := n_pc12 x (by omega)
    refine b_X12_fours_4 z_puCV ⟨t_kd hA, hA.1, ?_⟩
    rw [t_m hA, n_one (by omega), if_pos (nI_lt hx (by omega)), t_bits (by omega), nI_1]
    refine ⟨trivial, ?_⟩
    by_cases h4 : n_pc x = 4
    · rw [if_pos h4] at hJ
      rw [if_pos (by rw [h4]; rfl)]
      refine z_for (fun a v => [some (.ref M), _, some (.int (nI x)), some (.int (nI v)), some (.int (nI a)), none]) (fun a v => it (fun b v => if x.testBit a && x.testBit b then v ||| (S.2.2 a &&& S.2.2 b) else v) v a) 0 S.2.1 ?_ ?_
      · intro a ha hJ2
        refine b_X12_fours_30 z_puCV ⟨t_kd hA, hA.1, ?_⟩
        rw [t_m hA, if_pos (nI_lt ha (by omega))]
        refine z_for (fun b v => [some (.ref M), _, some (.int (nI x)), some (.int (nI v)), some (.int (nI a)), some (.int (nI b))]) (fun b v => if x.testBit a && x.testBit b then v ||| (S.2.2 a &&& S.2.2 b) else v) _ a ?_ ?_
        · intro b hb hJ3
          refine b_X12_fours_42 z_puCV ?_
          rw [if_pos (nI_lt hb (by omega)), n_bit2 (by omega) (by omega) (by omega), t_Ln hA ha, t_Ln hA (show b < S.2.1 by omega), fa_and, fa_or, nI_1]
          cases hc : (x.testBit a && x.testBit b)
          · rw [hc, if_neg (by decide)] at hJ3
            rw [if_neg (by decide)]; exact hJ3
          · rw [hc, if_pos rfl] at hJ3
            rw [if_pos (by decide)]
            exact ⟨t_kd hA, t_sL hA (by omega), t_kd hA, t_sL hA (by omega), hJ3⟩
        · refine b_X12_fours_42 z_puCV ?_
          rw [if_neg (nI_nlt (Nat.le_refl _) (by omega)), nI_1]
          exact hJ2
      · have hv := c_met_lt hA x S.2.1
        have em : it (fun a v => it (fun b v => if x.testBit a && x.testBit b then v ||| (S.2.2 a &&& S.2.2 b) else v) v a) 0 S.2.1 = c_met S x := rfl
        have hp6 := n_pc12 (c_met S x) (by unfold c_met; omega)
        refine b_X12_fours_30 z_puCV ⟨t_kd hA, hA.1, ?_⟩
        rw [t_m hA, if_neg (nI_nlt (Nat.le_refl _) (by omega)), t_bits (by omega), nI_a0, nI_1, nI_1, em]
        refine ⟨trivial, ?_⟩
        by_cases h6 : n_pc (c_met S x) = 6
        · rw [decide_eq_true h6] at hJ
          rw [if_pos (show nI (n_pc (c_met S x)) = 6 by rw [h6]; rfl)]; exact hJ
        · rw [decide_eq_false h6] at hJ
          rw [if_neg (show ¬ nI (n_pc (c_met S x)) = 6 from fun e => h6 ((n_eqn (b := 6) (by omega) (by omega)).mp e))]; exact hJ
    · rw [if_neg h4] at hJ
      rw [if_neg (show ¬ nI (n_pc x) = (4 : Int32) from fun e => h4 ((n_eqn (b := 4) (by omega) (by omega)).mp e))]; exact hJ
  · refine b_X12_fours_4 z_puCV ⟨t_kd hA, hA.1, ?_⟩
    rw [t_m hA, n_one (by omega), if_neg (nI_nlt (Nat.le_refl _) (by omega))]; rfl
end CF
