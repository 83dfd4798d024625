theorem en_X12_exchange {pu : Nat → Option ((List Value → z_H → Prop) × (List Value → z_H → Int32))} {G : z_G} {d : Nat} {r : z_Res} {h : z_H} {x0 : Nat} {x1 : Int32} {x2 : Int32} (hJ : z_J G d (m_X12_exchange pu) r 0 [some (.ref x0), some (.int x1), some (.int x2), none] [] h) : z_Ev G d k_X12_exchange [.ref x0, .int x1, .int x2] h r := z_enter (μ := m_X12_exchange pu) rfl (by decide) rfl rfl (fun q => by cases q) (Nat.le_of_ble_eq_true rfl) hJ
def hd_X12_exchange : Nat → Option (List Bool) := (fun k => none)
set_option maxRecDepth 20000 in
theorem b_X12_exchange_0 {G : z_G} {d : Nat} {r : z_Res} (hPu : z_PuV G d (t_X12 z_puC)) {h : z_H} {x0 : Nat} {x1 : Int32} {x2 : Int32} (hT : (z_kd h x0 = 28 ∧ (z_rc (z_or h x0 16) False (fun x_1 => (z_kd h x_1 = 1 ∧ vp_in x1 (z_ln h x_1) ∧ (z_kd h x0 = 28 ∧ (z_rc (z_or h x0 16) (z_kd h x0 = 28 ∧ (z_rc (z_or h x0 16) False (fun x_3 => (z_kd h x_3 = 1 ∧ vp_in x2 (z_ln h x_3) ∧ False)))) (fun x_2 => (z_kd h x0 = 28 ∧ (z_rc (z_or h x0 16) False (fun x_4 => (z_kd h x_4 = 1 ∧ vp_in x2 (z_ln h x_4) ∧ (z_kd h x_2 = 1 ∧ vp_in x1 (z_ln h x_2) ∧ (z_kd (z_pai h x_2 (Int32.toNatClampNeg x1) (z_ai h x_4 (Int32.toNatClampNeg x2))) x0 = 28 ∧ (z_rc (z_or (z_pai h x_2 (Int32.toNatClampNeg x1) (z_ai h x_4 (Int32.toNatClampNeg x2))) x0 16) False (fun x_5 => (z_kd (z_pai h x_2 (Int32.toNatClampNeg x1) (z_ai h x_4 (Int32.toNatClampNeg x2))) x_5 = 1 ∧ vp_in x2 (z_ln (z_pai h x_2 (Int32.toNatClampNeg x1) (z_ai h x_4 (Int32.toNatClampNeg x2))) x_5) ∧ r = (.inl none, z_pai (z_pai h x_2 (Int32.toNatClampNeg x1) (z_ai h x_4 (Int32.toNatClampNeg x2))) x_5 (Int32.toNatClampNeg x2) (z_ai h x_1 (Int32.toNatClampNeg x1)))))))))))))))))))) : (z_J G (d + 1) (m_X12_exchange z_puC) r) 0 [some (.ref x0), some (.int x1), some (.int x2), none] [] h := z_bq (v_X12 z_puC (vP_X12_exchange z_puC) hPu) hd_X12_exchange 21 hT
theorem en_X12_beginNaming {pu : Nat → Option ((List Value → z_H → Prop) × (List Value → z_H → Int32))} {G : z_G} {d : Nat} {r : z_Res} {h : z_H} {x0 : Nat} {x1 : Int32} (hJ : z_J G d (m_X12_beginNaming pu) r 0 [some (.ref x0), some (.int x1), none] [] h) : z_Ev G d k_X12_beginNaming [.ref x0, .int x1] h r := z_enter (μ := m_X12_beginNaming pu) rfl (by decide) rfl rfl (fun q => by cases q) (Nat.le_of_ble_eq_true rfl) hJ
def hd_X12_beginNaming : Nat → Option (List Bool) := (fun k => (cond (Nat.blt k 21) (cond (Nat.beq k 2) (some [true, true, true]) none) none))
set_option maxRecDepth 20000 in
theorem b_X12_beginNaming_0 {G : z_G} {d : Nat} {r : z_Res} (hPu : z_PuV G d (t_X12 z_puC)) {h : z_H} {x0 : Nat} {x1 : Int32} (hT : (z_J G (d + 1) (m_X12_beginNaming z_puC) r) 2 [some (.ref x0), some (.int x1), some (.int (0 : Int32))] [] h) : (z_J G (d + 1) (m_X12_beginNaming z_puC) r) 0 [some (.ref x0), some (.int x1), none] [] h := z_bq (v_X12 z_puC (vP_X12_beginNaming z_puC) hPu) hd_X12_beginNaming 5 hT
set_option maxRecDepth 20000 in
theorem b_X12_beginNaming_2 {G : z_G} {d : Nat} {r : z_Res} (hPu : z_PuV G d (t_X12 z_puC)) {h : z_H} {x0 : Nat} {x1 : Int32} {x2 : Int32} (hT : (if x2 < x1 then (z_kd h x0 = 28 ∧ (z_rc (z_or h x0 16) False (fun x_1 => (z_kd h x_1 = 1 ∧ vp_in x2 (z_ln h x_1) ∧ (z_J G (d + 1) (m_X12_beginNaming z_puC) r) 2 [some (.ref x0), some (.int x1), some (.int (x2 + (1 : Int32)))] [] (z_pai h x_1 (Int32.toNatClampNeg x2) x2))))) else r = (.inl none, h))) : (z_J G (d + 1) (m_X12_beginNaming z_puC) r) 2 [some (.ref x0), some (.int x1), some (.int x2)] [] h := z_bq (v_X12 z_puC (vP_X12_beginNaming z_puC) hPu) hd_X12_beginNaming 13 hT
/-! the naming -/
def swp (f : Nat → Int32) (i j : Nat) : Nat → Int32 := z_u (z_u f i (f j)) j (f i)
section CI
variable {G : z_G} {d : Nat} {h : z_H} {M : Nat} {S : Sc}
theorem p_kd (a k : Nat) (v : Int32) : z_kd (z_pai h a k v) = z_kd h := rfl
theorem p_ln (a k : Nat) (v : Int32) : z_ln (z_pai h a k v) = z_ln h := rfl
theorem p_or (a k : Nat) (v : Int32) : z_or (z_pai h a k v) = z_or h := rfl
theorem px_sh {a : Nat} {f : Nat → Int32} (hM : z_sh M h) : z_sh M (z_pax h a f) := hM
theorem e_exchange (hM : z_sh M h) {i j : Nat} (hi : i < 8) (hj : j < 8) : z_Ev G (d + 4) k_X12_exchange [.ref M, .int (nI i), .int (nI j)] h (.inl none, z_pax h (M + 5) (swp (z_ai h (M + 5)) i j)) := by
  refine en_X12_exchange (b_X12_exchange_0 z_puCV ?_)
  have vi : vp_in (nI i) 8 := vp_in_nI hi (by omega)
  have vj : vp_in (nI j) 8 := vp_in_nI hj (by omega)
  simp only [p_kd, p_ln, p_or, sh_kd hM, (sh_naming hM).1, (sh_naming hM).2.1, (sh_naming hM).2.2, z_rcs, true_and, vi, vj, nI_clamp (show i < 2 ^ 31 by omega), nI_clamp (show j < 2 ^ 31 by omega)]
  rw [h_pai, h_pai, h_pax_pax, h_pax_ai]
  rfl
theorem e_beginNaming (hM : z_sh M h) {n : Nat} (hn : n ≤ 8) : z_Ev G (d + 4) k_X12_beginNaming [.ref M, .int (nI n)] h (.inl none, z_pax h (M + 5) (fa_fill (fun i => nI i) (z_ai h (M + 5)) n)) := by
  refine en_X12_beginNaming (b_X12_beginNaming_0 z_puCV ?_)
  have key := z_forH (G := G) (d := d + 4) (μ := m_X12_beginNaming z_puC) (r := (.inl none, z_pax h (M + 5) (fa_fill (fun i => nI i) (z_ai h (M + 5)) n))) (pc := 2) (α := Unit) (fun l _ => [some (.ref M), some (.int (nI n)), some (.int (nI l))]) (fun l _ => z_pax h (M + 5) (fa_fill (fun i => nI i) (z_ai h (M + 5)) l)) (fun _ x => x) () n ?_ ?_
  · rw [fa_fill_0, h_pax_self] at key
    exact key
  · intro l hl hJ
    refine b_X12_beginNaming_2 z_puCV ?_
    have hM' : z_sh M (z_pax h (M + 5) (fa_fill (fun i => nI i) (z_ai h (M + 5)) l)) := hM
    rw [if_pos (nI_lt hl (by omega))]
    refine ⟨sh_kd hM', ?_⟩
    rw [(sh_naming hM').1]
    refine ⟨(sh_naming hM').2.1, by rw [(sh_naming hM').2.2]; exact vp_in_nI (by omega) (by omega), ?_⟩
    rw [nI_1, nI_clamp (by omega), h_pai, h_pax_pax, h_pax_ai, h_fill_u (fun i => nI i)]
    exact hJ
  · refine b_X12_beginNaming_2 z_puCV ?_
    rw [if_neg (nI_nlt (Nat.le_refl _) (by omega))]
end CI
