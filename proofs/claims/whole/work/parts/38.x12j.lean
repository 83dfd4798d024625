theorem en_X12_tellLines {pu : Nat → Option ((List Value → z_H → Prop) × (List Value → z_H → Int32))} {G : z_G} {d : Nat} {r : z_Res} {h : z_H} {x0 : Nat} (hJ : z_J G d (m_X12_tellLines pu) r 0 [some (.ref x0), none] [] h) : z_Ev G d k_X12_tellLines [.ref x0] h r := z_enter (μ := m_X12_tellLines pu) rfl (by decide) rfl rfl (fun q => by cases q) (Nat.le_of_ble_eq_true rfl) hJ
def hd_X12_tellLines : Nat → Option (List Bool) := (fun k => (cond (Nat.blt k 50) (cond (Nat.blt k 24) (cond (Nat.beq k 2) (some [true, true]) none) (cond (Nat.beq k 24) (some [true, true]) none)) none))
set_option maxRecDepth 20000 in
theorem b_X12_tellLines_0 {G : z_G} {d : Nat} {r : z_Res} (hPu : z_PuV G d (t_X12 z_puC)) {h : z_H} {x0 : Nat} (hT : (z_J G (d + 1) (m_X12_tellLines z_puC) r) 2 [some (.ref x0), some (.int (0 : Int32))] [] h) : (z_J G (d + 1) (m_X12_tellLines z_puC) r) 0 [some (.ref x0), none] [] h := z_bq (v_X12 z_puC (vP_X12_tellLines z_puC) hPu) hd_X12_tellLines 5 hT
set_option maxRecDepth 20000 in
theorem b_X12_tellLines_2 {G : z_G} {d : Nat} {r : z_Res} (hPu : z_PuV G d (t_X12 z_puC)) {h : z_H} {x0 : Nat} {x1 : Int32} (hT : (if x1 < (256 : Int32) then (z_kd h x0 = 28 ∧ (z_rc (z_or h x0 17) False (fun x_1 => (z_kd h x_1 = 1 ∧ vp_in x1 (z_ln h x_1) ∧ (z_J G (d + 1) (m_X12_tellLines z_puC) r) 2 [some (.ref x0), some (.int (x1 + (1 : Int32)))] [] (z_pai h x_1 (Int32.toNatClampNeg x1) (-1 : Int32)))))) else (z_J G (d + 1) (m_X12_tellLines z_puC) r) 24 [some (.ref x0), some (.int (0 : Int32))] [] h)) : (z_J G (d + 1) (m_X12_tellLines z_puC) r) 2 [some (.ref x0), some (.int x1)] [] h := z_bq (v_X12 z_puC (vP_X12_tellLines z_puC) hPu) hd_X12_tellLines 13 hT
set_option maxRecDepth 20000 in
theorem b_X12_tellLines_24 {G : z_G} {d : Nat} {r : z_Res} (hPu : z_PuV G d (t_X12 z_puC)) {h : z_H} {x0 : Nat} {x1 : Int32} (hT : (z_kd h x0 = 28 ∧ s_X12_lines x0 h ∧ (if x1 < (f_X12_lines x0 h) then (z_kd h x0 = 28 ∧ (z_rc (z_or h x0 17) (z_kd h x0 = 28 ∧ s_X12_lineAt x0 x1 h ∧ False) (fun x_1 => (z_kd h x0 = 28 ∧ s_X12_lineAt x0 x1 h ∧ (z_kd h x_1 = 1 ∧ vp_in (f_X12_lineAt x0 x1 h) (z_ln h x_1) ∧ (z_J G (d + 1) (m_X12_tellLines z_puC) r) 24 [some (.ref x0), some (.int (x1 + (1 : Int32)))] [] (z_pai h x_1 (Int32.toNatClampNeg (f_X12_lineAt x0 x1 h)) x1)))))) else r = (.inl none, h)))) : (z_J G (d + 1) (m_X12_tellLines z_puC) r) 24 [some (.ref x0), some (.int x1)] [] h := z_bq (v_X12 z_puC (vP_X12_tellLines z_puC) hPu) hd_X12_tellLines 16 hT
/-! the lines by their sets -/
def c_by (S : Sc) (f0 : Nat → Int32) : Nat → Int32 := it (fun l f => z_u f (S.2.2 l) (nI l)) (fa_fill (fun _ => -1) f0 256) S.2.1
section CJ
variable {G : z_G} {d : Nat} {h : z_H} {M : Nat} {S : Sc}
theorem px_ai {a b : Nat} {f : Nat → Int32} (hb : b ≠ a) : z_ai (z_pax h a f) b = z_ai h b := by
  show z_u (z_ai h) a f b = z_ai h b
  unfold z_u
  rw [if_neg hb]
theorem t_pax (hA : z_at M h S) {a : Nat} {f : Nat → Int32} (ha : M + 1 ≠ a) : z_at M (z_pax h a f) S := by
  unfold z_at
  rw [px_ai ha]
  exact hA
theorem e_tellLines (hA : z_at M h S) : z_Ev G (d + 4) k_X12_tellLines [.ref M] h (.inl none, z_pax h (M + 6) (c_by S (z_ai h (M + 6)))) := by
  have hm := t_m12 hA
  refine en_X12_tellLines (b_X12_tellLines_0 z_puCV ?_)
  have key := z_forH (G := G) (d := d + 4) (μ := m_X12_tellLines z_puC) (r := (.inl none, z_pax h (M + 6) (c_by S (z_ai h (M + 6))))) (pc := 2) (α := Unit) (fun l _ => [some (.ref M), some (.int (nI l))]) (fun l _ => z_pax h (M + 6) (fa_fill (fun _ => -1) (z_ai h (M + 6)) l)) (fun _ x => x) () 256 ?_ ?_
  · rw [fa_fill_0, h_pax_self] at key
    exact key
  · intro l hl hJ
    refine b_X12_tellLines_2 z_puCV ?_
    have hM' : z_sh M (z_pax h (M + 6) (fa_fill (fun _ => -1) (z_ai h (M + 6)) l)) := hA.1
    rw [if_pos (show nI l < (256 : Int32) from nI_lt (b := 256) hl (by omega))]
    refine ⟨sh_kd hM', ?_⟩
    rw [(sh_lineBy hM').1]
    refine ⟨(sh_lineBy hM').2.1, by rw [(sh_lineBy hM').2.2]; exact vp_in_nI (by omega) (by omega), ?_⟩
    rw [nI_1, nI_clamp (by omega), h_pai, h_pax_pax, h_pax_ai, h_fill_u (fun _ => -1)]
    exact hJ
  · refine b_X12_tellLines_2 z_puCV ?_
    rw [if_neg (show ¬ nI 256 < (256 : Int32) by decide)]
    refine z_forH (pc := 24) (fun l _ => [some (.ref M), some (.int (nI l))]) (fun _ f => z_pax h (M + 6) f) (fun l f => z_u f (S.2.2 l) (nI l)) (fa_fill (fun _ => -1) (z_ai h (M + 6)) 256) S.2.1 ?_ ?_
    · intro l hl hJ
      revert hJ
      generalize it (fun l f => z_u f (S.2.2 l) (nI l)) (fa_fill (fun _ => -1) (z_ai h (M + 6)) 256) l = f
      intro hJ
      have hA' : z_at M (z_pax h (M + 6) f) S := t_pax hA (by omega)
      have hL := t_L256 hA l
      refine b_X12_tellLines_24 z_puCV ⟨t_kd hA', hA'.1, ?_⟩
      rw [t_m hA', if_pos (nI_lt hl (by omega))]
      refine ⟨t_kd hA', ?_⟩
      rw [(sh_lineBy hA'.1).1, z_rcs, t_Ln hA' hl, nI_1, nI_clamp (by omega), h_pai, h_pax_pax, h_pax_ai]
      exact ⟨t_kd hA', t_sL hA' (by omega), (sh_lineBy hA'.1).2.1, by rw [(sh_lineBy hA'.1).2.2]; exact vp_in_nI (by omega) (by omega), hJ⟩
    · have hA' : z_at M (z_pax h (M + 6) (it (fun l f => z_u f (S.2.2 l) (nI l)) (fa_fill (fun _ => -1) (z_ai h (M + 6)) 256) S.2.1)) S := t_pax hA (by omega)
      refine b_X12_tellLines_24 z_puCV ⟨t_kd hA', hA'.1, ?_⟩
      rw [t_m hA', if_neg (nI_nlt (Nat.le_refl _) (by omega))]
      rfl
end CJ
