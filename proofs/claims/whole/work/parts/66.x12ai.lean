/-! a text read -/
theorem tail_gt {T : Nat → Nat} {n j : Nat} {c : Cd} {v : Cd × Nat} (hj : j ≤ n) (h : p_tail T n c j = .inl v) : j < v.2 := by
  unfold p_tail at h
  split at h
  · rename_i q
    cases h
    show j < tk_e T n j
    unfold tk_e
    rw [if_neg (by omega), if_neg (by omega), if_neg (by omega)]
    have := (tk_bn (T := T) hj).1
    omega
  · cases h
theorem e_ge {T : Nat → Nat} {n j : Nat} (hj : j ≤ n) : j ≤ tk_e T n j := Nat.le_trans (tk_bn hj).1 (tk_en hj).1
theorem sg_ge {T : Nat → Nat} {n j : Nat} (hj : j ≤ n) {v : Int32 × Nat} (h : p_sg T n j = .inl v) : j ≤ v.2 ∧ v.2 ≤ n := by
  unfold p_sg at h
  split at h
  · cases hp : p_num T n (tk_e T n j) 0 9 with
    | inr k => rw [hp] at h; cases h
    | inl u =>
      rw [hp] at h
      cases h
      have := p_num_9 (tk_en hj).2 hp
      show j ≤ u.2 ∧ u.2 ≤ n
      rw [this.2.2.2.1]
      exact ⟨Nat.le_trans (e_ge hj) (e_ge (tk_en hj).2), (tk_en (tk_en hj).2).2⟩
  · cases hp : p_num T n j 0 9 with
    | inr k => rw [hp] at h; cases h
    | inl u =>
      rw [hp] at h
      cases h
      have := p_num_9 hj hp
      show j ≤ u.2 ∧ u.2 ≤ n
      rw [this.2.2.2.1]
      exact ⟨e_ge hj, (tk_en hj).2⟩
theorem lnL_ge {T : Nat → Nat} {n np : Nat} : ∀ f k j x, j ≤ n → ∀ v, p_lnL T n np f k j x = .inl v → j ≤ v.2 ∧ v.2 ≤ n := by
  intro f
  induction f with
  | zero => intro k j x hj v h; cases h; exact ⟨Nat.le_refl _, hj⟩
  | succ f ih =>
    intro k j x hj v h
    unfold p_lnL at h
    split at h
    · cases hp : p_pt T n j np with
      | inr c => rw [hp] at h; cases h
      | inl u =>
        rw [hp] at h
        dsimp only at h
        obtain ⟨u1, u2, u3⟩ := (p_pt_in hj).1 u hp
        split at h
        · cases h
        · have := ih (k + 1) u.2 _ u3 v h
          have := e_ge (T := T) hj
          omega
    · cases h; exact ⟨Nat.le_refl _, hj⟩
theorem p_cl_gt {T : Nat → Nat} {n i cl : Nat} {c : Cd} (hi : i ≤ n) {v : Cd × Nat} (h : p_cl T n i cl c = .inl v) : i < v.2 := by
  have g1 := e_ge (T := T) hi
  have g2 := (tk_en (T := T) hi).2
  unfold p_cl at h
  split at h
  · split at h
    · cases h
    · unfold p_pts at h
      cases hp : p_num T n (tk_e T n i) 1 8 with
      | inr k => rw [hp] at h; cases h
      | inl u =>
        rw [hp] at h
        have := (p_num_9 g2 hp).2.2.2.1
        have t := tail_gt (by rw [this]; exact (tk_en g2).2) h
        have := e_ge (T := T) g2
        omega
  · split at h
    · unfold p_lnC at h
      cases hp : p_line T n i c with
      | inr e => rw [hp] at h; cases h
      | inl u =>
        rw [hp] at h
        have hm := p_line_m hp
        unfold p_line at hp
        rw [if_neg hm] at hp
        cases hq : p_lnL T n c.1.1 4 0 (tk_e T n i) 0 with
        | inr e => rw [hq] at hp; cases hp
        | inl y =>
          rw [hq] at hp
          have hl := lnL_ge 4 0 _ 0 g2 y hq
          dsimp only at hp
          split at hp
          · cases hp
          · cases hp
            have t := tail_gt hl.2 h
            omega
    · split at h
      · unfold p_at at h
        cases hp : p_pt T n (tk_e T n i) c.1.1 with
        | inr k => rw [hp] at h; cases h
        | inl u =>
          rw [hp] at h
          dsimp only at h
          obtain ⟨u1, u2, u3⟩ := (p_pt_in g2).1 u hp
          have := e_ge (T := T) g2
          cases hs : p_sg T n u.2 with
          | inr e => rw [hs] at h; cases h
          | inl a =>
            rw [hs] at h
            dsimp only at h
            have s1 := sg_ge u3 hs
            cases hs2 : p_sg T n a.2 with
            | inr e => rw [hs2] at h; cases h
            | inl b =>
              rw [hs2] at h
              have s2 := sg_ge s1.2 hs2
              have t := tail_gt s2.2 h
              omega
      · cases h
def p_cls (T : Nat → Nat) (n : Nat) : Nat → Nat → Nat → Cd → Cd ⊕ pE
  | 0, _, _, c => .inl c
  | f + 1, i, cl, c => if tk_k T n i = 0 then .inl c else match p_cl T n i cl c with
    | .inl v => p_cls T n f v.2 (cl + 1) v.1
    | .inr e => .inr e
def p_text (T : Nat → Nat) (n : Nat) : Cd ⊕ pE := p_cls T n (n + 1) 0 0 c_c0
theorem cok_0 : c_cok c_c0 := ⟨⟨⟨by decide, by decide⟩, by decide, fun l hl => absurd hl (Nat.not_lt_zero _), fun _ _ => rfl, fun _ _ _ hl => absurd hl (Nat.not_lt_zero _)⟩, fun _ _ => ⟨rfl, rfl⟩⟩
section DH
variable {G : z_G} {d : Nat} {h : z_H} {M : Nat} {T : Nat → Nat} {n : Nat}
def oTx (h : z_H) (M : Nat) (F : Nat → Int32) (A : Nat → Nat → Int32) (o : Cd ⊕ pE) (J : z_H → Prop) : Prop := match o with
  | .inl c => c_cok c ∧ ∃ F' g, agrF [6, 8, 9, 10, 11, 12, 13, 15] F F' ∧ F' 12 = nI 0 ∧ (∀ k, k < 30 → g k = rowC c k) ∧ J (z_rs h M F' (z_u A 2 g))
  | .inr e => (0 < e.1 ∧ e.1 < 6) ∧ ∃ F' g, agrF [6, 8, 9, 10, 11, 12, 13, 15] F F' ∧ F' 12 = nI e.1 ∧ F' 13 = nI e.2 ∧ J (z_rs h M F' (z_u A 2 g))
theorem l_cls (hM : z_sh M h) (hn : n ≤ 400) : ∀ f i cl c F A, n - i < f → i ≤ n → cl ≤ i → c_cok c → (cl = 0 → c = c_c0) → (∀ k, k < 30 → A 2 k = rowC c k) → txt T n F A → tokF T n F i → F 12 = nI 0 → F 15 = nI cl → oTx h M F A (p_cls T n f i cl c) (fun h1 => ∀ r, z_J G (d + 9) (m_X12_scheme z_puC) r 107 [some (.ref M), none, none] [] h1 → z_J G (d + 9) (m_X12_scheme z_puC) r 86 [some (.ref M), none, none] [] (z_rs h M F A)) := by
  intro f
  induction f with
  | zero => intro i cl c F A hf; omega
  | succ f ih =>
    intro i cl c F A hf hi hcl hc h0 hrow ht hF h12 h15
    have hk4 : tk_k T n i ≤ 4 := by unfold tk_k; split; omega; split; omega; split; omega; split <;> omega
    unfold p_cls
    by_cases hk : tk_k T n i = 0
    · rw [if_pos hk]
      refine ⟨hc, F, A 2, agrF_rf, h12, hrow, fun r hJ => b_X12_scheme_86 z_puCV ⟨sh_kd hM, ?_⟩⟩
      rw [u_self] at hJ
      rw [rs_oi, if_pos h12, hF.2.2.2.1, hk, if_pos rfl]
      exact ⟨sh_kd hM, hJ⟩
    · rw [if_neg hk]
      have ec := e_readClause (G := G) (d := d) hM hc hrow hi ht hF h12 h15 (by omega)
      have enter : ∀ r h1, z_Ev G (d + 8) k_X12_readClause [.ref M] (z_rs h M F A) (.inl none, h1) → z_J G (d + 9) (m_X12_scheme z_puC) r 86 [some (.ref M), none, none] [] h1 → z_J G (d + 9) (m_X12_scheme z_puC) r 86 [some (.ref M), none, none] [] (z_rs h M F A) := by
        intro r h1 he hJ
        refine b_X12_scheme_86 z_puCV ⟨sh_kd hM, ?_⟩
        rw [rs_oi, if_pos h12, hF.2.2.2.1, if_neg (fun e => hk ((nI_eq (by omega) (by omega)).mp e))]
        exact ⟨sh_kd hM, sh_kd hM, _, he, hJ⟩
      cases hp : p_cl T n i cl c with
      | inr e =>
        rw [hp] at ec
        obtain ⟨t1, F', g, t2, t3⟩ := ec
        refine ⟨t1, F', g, t2.2.2, t2.1, t2.2.1, fun r hJ => enter r _ t3 (b_X12_scheme_86 z_puCV ⟨sh_kd hM, ?_⟩)⟩
        rw [rs_oi, if_neg (fun q => by rw [t2.1] at q; have := (nI_eq (by omega) (by omega)).mp q; omega)]
        exact hJ
      | inl v =>
        rw [hp] at ec
        obtain ⟨t1, F1, g, t2, t3, t4, t5, t6⟩ := ec
        have gt := p_cl_gt hi hp
        have ok := p_cl_ok hi hc h0 hp
        have a4 : z_u A 2 g 4 = A 4 := u_ne _ _ (by decide)
        have i1 := ih v.2 (cl + 1) v.1 F1 (z_u A 2 g) (by omega) t1 (by omega) ok (fun e => by omega) (by rw [u_eq]; exact t5) (txt_agr ht (t2 7 (by decide)) a4) t4 ((t2 12 (by decide)).trans h12) t3
        dsimp only
        unfold oTx at i1 ⊢
        cases hq : p_cls T n f v.2 (cl + 1) v.1 with
        | inl c' =>
          rw [hq] at i1
          obtain ⟨i2, F', g', i3, i4, i5, i6⟩ := i1
          rw [u_u] at i6
          exact ⟨i2, F', g', agrF_tr (agrF_mono t2 (by decide)) i3, i4, i5, fun r hJ => enter r _ t6 (i6 r hJ)⟩
        | inr e =>
          rw [hq] at i1
          obtain ⟨i2, F', g', i3, i4, i5, i6⟩ := i1
          rw [u_u] at i6
          exact ⟨i2, F', g', agrF_tr (agrF_mono t2 (by decide)) i3, i4, i5, fun r hJ => enter r _ t6 (i6 r hJ)⟩
end DH
