theorem en_X12_tellDual {pu : Nat → Option ((List Value → z_H → Prop) × (List Value → z_H → Int32))} {G : z_G} {d : Nat} {r : z_Res} {h : z_H} {x0 : Nat} (hJ : z_J G d (m_X12_tellDual pu) r 0 [some (.ref x0), none, none, none] [] h) : z_Ev G d k_X12_tellDual [.ref x0] h r := z_enter (μ := m_X12_tellDual pu) rfl (by decide) rfl rfl (fun q => by cases q) (Nat.le_of_ble_eq_true rfl) hJ
def hd_X12_tellDual : Nat → Option (List Bool) := (fun k => (cond (Nat.blt k 75) (cond (Nat.beq k 22) (some [true, true, true, false]) none) none))
set_option maxRecDepth 20000 in
theorem b_X12_tellDual_0 {G : z_G} {d : Nat} {r : z_Res} (hPu : z_PuV G d (t_X12 z_puC)) {h : z_H} {x0 : Nat} (hT : (z_kd h x0 = 28 ∧ s_X12_lines x0 h ∧ (if (f_X12_lines x0 h) = (nI 0) then r = (.inl (some (.int mI)), h) else (z_kd h x0 = 28 ∧ s_X12_lines x0 h ∧ (if (nI 8) < (f_X12_lines x0 h) then r = (.inl (some (.int mI)), h) else (z_J G (d + 1) (m_X12_tellDual z_puC) r) 22 [some (.ref x0), some (.int (nI 0)), some (.int (nI 0)), none] [] h))))) : (z_J G (d + 1) (m_X12_tellDual z_puC) r) 0 [some (.ref x0), none, none, none] [] h := z_bq (v_X12 z_puC (vP_X12_tellDual z_puC) hPu) hd_X12_tellDual 14 hT
set_option maxRecDepth 20000 in
theorem b_X12_tellDual_22 {G : z_G} {d : Nat} {r : z_Res} (hPu : z_PuV G d (t_X12 z_puC)) {h : z_H} {x0 : Nat} {x1 : Int32} {x2 : Int32} (hT : (z_kd h x0 = 28 ∧ s_X12_points x0 h ∧ (if x2 < (f_X12_points x0 h) then (z_kd h x0 = 28 ∧ s_X12_linesOn x0 x2 h ∧ (s_X12_bits (f_X12_linesOn x0 x2 h) h ∧ (if (nI 4) < (f_X12_bits (f_X12_linesOn x0 x2 h) h) then r = (.inl (some (.int mI)), h) else (s_X12_bits (f_X12_linesOn x0 x2 h) h ∧ (if (f_X12_bits (f_X12_linesOn x0 x2 h) h) < (nI 2) then (z_J G (d + 1) (m_X12_tellDual z_puC) r) 22 [some (.ref x0), some (.int x1), some (.int (x2 + (nI 1))), none] [] h else (z_kd h x0 = 28 ∧ (z_rc (z_or h x0 19) False (fun x_1 => (z_kd h x_1 = 1 ∧ vp_in x1 (z_ln h x_1) ∧ (z_J G (d + 1) (m_X12_tellDual z_puC) r) 22 [some (.ref x0), some (.int (x1 + (nI 1))), some (.int (x2 + (nI 1))), none] [] (z_pai h x_1 (Int32.toNatClampNeg x1) (f_X12_linesOn x0 x2 h))))))))))) else r = (.inl (some (.int x1)), h)))) : (z_J G (d + 1) (m_X12_tellDual z_puC) r) 22 [some (.ref x0), some (.int x1), some (.int x2), none] [] h := z_bq (v_X12 z_puC (vP_X12_tellDual z_puC) hPu) hd_X12_tellDual 27 hT
theorem en_X12_dual {pu : Nat → Option ((List Value → z_H → Prop) × (List Value → z_H → Int32))} {G : z_G} {d : Nat} {r : z_Res} {h : z_H} {x0 : Nat} {x1 : Int32} (hJ : z_J G d (m_X12_dual pu) r 0 [some (.ref x0), some (.int x1), none] [] h) : z_Ev G d k_X12_dual [.ref x0, .int x1] h r := z_enter (μ := m_X12_dual pu) rfl (by decide) rfl rfl (fun q => by cases q) (Nat.le_of_ble_eq_true rfl) hJ
def hd_X12_dual : Nat → Option (List Bool) := (fun k => none)
set_option maxRecDepth 20000 in
theorem b_X12_dual_0 {G : z_G} {d : Nat} {r : z_Res} (hPu : z_PuV G d (t_X12 z_puC)) {h : z_H} {x0 : Nat} {x1 : Int32} (hT : (z_kd h x0 = 28 ∧ (z_kd (z_poi h x0 0 (nI 0)) x0 = 28 ∧ ∃ x_2 h_1, z_Ev G d k_X12_tellDual [.ref x0] (z_poi h x0 0 (nI 0)) (.inl (some (.int x_2)), h_1) ∧ (if x1 = mI then r = (.inl (some (.int x_2)), h_1) else (s_X12_isIn x1 (nI 0) (x_2 - (nI 1)) h_1 ∧ (if (f_X12_isIn x1 (nI 0) (x_2 - (nI 1)) h_1) = (nI 0) then (z_kd h_1 x0 = 28 ∧ ∃ x_4 h_3, z_Ev G d k_X12_fail [.ref x0, .int (nI 1)] h_1 (.inl (some (.int x_4)), h_3) ∧ r = (.inl (some (.int x_4)), h_3)) else (z_kd h_1 x0 = 28 ∧ (z_rc (z_or h_1 x0 19) False (fun x_5 => (z_kd h_1 x_5 = 1 ∧ vp_in x1 (z_ln h_1 x_5) ∧ r = (.inl (some (.int (z_ai h_1 x_5 (Int32.toNatClampNeg x1)))), h_1))))))))))) : (z_J G (d + 1) (m_X12_dual z_puC) r) 0 [some (.ref x0), some (.int x1), none] [] h := z_bq (v_X12 z_puC (vP_X12_dual z_puC) hPu) hd_X12_dual 24 hT
/-! dualities, likeness, the dual -/
def its {α ρ : Type} (f : Nat → α → α ⊕ ρ) (a : α) : Nat → α ⊕ ρ
  | 0 => .inl a
  | k + 1 => match its f a k with
    | .inl b => f k b
    | .inr v => .inr v
theorem its_inr {α ρ : Type} {f : Nat → α → α ⊕ ρ} {a : α} {l : Nat} {v : ρ} (h : its f a l = .inr v) : ∀ k, l ≤ k → its f a k = .inr v := by
  intro k hk
  induction k with
  | zero => rw [show l = 0 by omega] at h; exact h
  | succ k ih =>
    by_cases e : l = k + 1
    · rw [← e]; exact h
    · show (match its f a k with | .inl b => f k b | .inr v => .inr v) = .inr v
      rw [ih (by omega)]
/-- a loop that may end early with a word -/
theorem z_fors {G : z_G} {d : Nat} {μ : z_M} {r : z_Res} {pc : Nat} {α ρ : Type} (mkl : Nat → α → List (Option Value)) (H : Nat → α → z_H) (I : Nat → α → Prop) (f : Nat → α → α ⊕ ρ) (a : α) (m : Nat) (h0 : I 0 a)
    (hno : ∀ l a' v, l < m → I l a' → f l a' = .inr v → its f a m = .inr v → z_J G d μ r pc (mkl l a') [] (H l a'))
    (hstep : ∀ l a' b, l < m → I l a' → f l a' = .inl b → I (l + 1) b ∧ (z_J G d μ r pc (mkl (l + 1) b) [] (H (l + 1) b) → z_J G d μ r pc (mkl l a') [] (H l a')))
    (hend : ∀ b, I m b → its f a m = .inl b → z_J G d μ r pc (mkl m b) [] (H m b)) : z_J G d μ r pc (mkl 0 a) [] (H 0 a) := by
  have key : ∀ k l b, l + k = m → I l b → its f a l = .inl b → z_J G d μ r pc (mkl l b) [] (H l b) := by
    intro k
    induction k with
    | zero => intro l b hl hI hb; rw [show l = m by omega] at hI hb ⊢; exact hend b hI hb
    | succ k ih =>
      intro l b hl hI hb
      have e : its f a (l + 1) = f l b := by
        show (match its f a l with | .inl b => f l b | .inr v => .inr v) = f l b
        rw [hb]
      cases hf : f l b with
      | inr v => exact hno l b v (by omega) hI hf (its_inr (e.trans hf) m (by omega))
      | inl c =>
        have h2 := hstep l b c (by omega) hI hf
        exact h2.2 (ih (l + 1) c (by omega) h2.1 (e.trans hf))
  exact key m 0 a (Nat.zero_add m) h0 rfl
theorem arrI_p {k v : Nat} {D : Nat → Nat} {g : Nat → Int32} : z_u (arrI k D g) k (nI v) = arrI (k + 1) (z_u D k v) g := by
  funext i
  unfold z_u arrI
  by_cases h : i = k
  · subst h
    rw [if_pos rfl, if_pos (by omega)]
    show nI v = nI (if i = i then v else D i)
    rw [if_pos rfl]
  · rw [if_neg h]
    show (if i < k then nI (D i) else g i) = (if i < k + 1 then nI (if i = k then v else D i) else g i)
    by_cases h2 : i < k
    · rw [if_pos h2, if_pos (by omega), if_neg h]
    · rw [if_neg h2, if_neg (by omega)]
def c_tdF (S : Sc) (p : Nat) (a : Nat × (Nat → Nat)) : (Nat × (Nat → Nat)) ⊕ (Nat × (Nat → Nat)) := if 4 < n_pc (c_on S p) then .inr a else if n_pc (c_on S p) < 2 then .inl a else .inl (a.1 + 1, z_u a.2 a.1 (c_on S p))
/-- the dual's lines: how many, and their numbers; none: there is no dual -/
def c_td (S : Sc) : Option (Nat × (Nat → Nat)) := if S.2.1 = 0 ∨ 8 < S.2.1 then none else match its (c_tdF S) (0, fun _ => 0) S.1 with
  | .inl a => some a
  | .inr _ => none
def c_tdI (S : Sc) : Int32 := match c_td S with
  | some a => nI a.1
  | none => mI
def c_dualI (S : Sc) (i : Int32) : Int32 × Int32 := if i = mI then (c_tdI S, nI 0) else match c_td S with
  | some a => if c_in i a.1 then (nI (a.2 i.toNatClampNeg), nI 0) else (nI 0, nI 1)
  | none => (nI 0, nI 1)
section CP
variable {G : z_G} {d : Nat} {h : z_H} {M : Nat} {S : Sc} {F : Nat → Int32} {A : Nat → Nat → Int32}
theorem e_duaM (hM : z_sh M h) (hR : r_ok (A 1)) (hS : r_S (A 1) = S) (hW : ∀ l, S.2.2 l < 2 ^ S.1) {N : Nat → Nat} {g f0 : Nat → Int32} (hN : ∀ i, i < S.1 → N i < 8) (hg : r_nm g) (h5 : A 5 = arrI S.1 N g) (h9 : A 9 = arrI S.1 (c_on S) f0) : z_Ev G (d + 4) k_X12_isDuality [.ref M] (z_rs h M F A) (.inl (some (.int (nI (c_duaN S N).toNat))), z_rs h M F A) := by
  have hA := at_rs (F := F) hM hR hS
  have e5 : z_ai (z_rs h M F A) (M + 5) = A 5 := rs_ai _ _ _ _ (by omega) (by omega)
  have e9 : z_ai (z_rs h M F A) (M + 9) = A 9 := rs_ai _ _ _ _ (by omega) (by omega)
  have e := e_isDuality (G := G) (d := d) hA (by rw [e5, h5]; exact nm_arr hN hg)
  rw [e5, e9, h5, h9, c_dua_cg (O' := fun p => nI (c_on S p)) (N' := N) hW (fun p hp => arrI_in hp) (fun i hi => rN_arr hN hi)] at e
  exact e
theorem e_polM (hM : z_sh M h) (hR : r_ok (A 1)) (hS : r_S (A 1) = S) {N : Nat → Nat} {g : Nat → Int32} (hN : ∀ i, i < S.1 → N i < 8) (hN2 : ∀ i, i < S.1 → N i < S.2.1) (hg : r_nm g) (h5 : A 5 = arrI S.1 N g) : z_Ev G (d + 4) k_X12_isPolarity [.ref M] (z_rs h M F A) (.inl (some (.int (nI (c_pol S N).toNat))), z_rs h M F A) := by
  have hA := at_rs (F := F) hM hR hS
  have e5 : z_ai (z_rs h M F A) (M + 5) = A 5 := rs_ai _ _ _ _ (by omega) (by omega)
  have e := e_isPolarity (G := G) (d := d) hA (by rw [e5, h5]; exact nm_arr hN hg) (fun i hi => by rw [e5, h5, rN_arr hN hi]; exact hN2 i hi)
  rw [e5, h5, c_pol_cg (N' := N) (fun i hi => rN_arr hN hi)] at e
  exact e
theorem e_dualities (hM : z_sh M h) (hR : r_ok (A 1)) (hS : r_S (A 1) = S) (hW : ∀ l, S.2.2 l < 2 ^ S.1) (h5 : r_nm (A 5)) (polar : Bool) : ∃ A', agr [5, 9] A A' ∧ z_Ev G (d + 6) k_X12_dualities [.ref M, .int (nI polar.toNat)] (z_rs h M F A) (.inl (some (.int (nI (c_dual S polar)))), z_rs h M F A') := by
  have hA := at_rs (F := F) hM hR hS
  have hn := t_n8 hA
  have hm := t_m12 hA
  unfold c_dual
  by_cases hnm : S.1 = S.2.1
  · rw [if_pos hnm]
    have e95 : ∀ f, z_u A 9 f 5 = A 5 := fun f => by rw [u_ne _ _ (by omega)]
    have e91 : ∀ f g, z_u (z_u A 9 f) 5 g 1 = A 1 := fun f g => by rw [u_ne _ _ (by omega), u_ne _ _ (by omega)]
    have e99 : ∀ f g, z_u (z_u A 9 f) 5 g 9 = f := fun f g => by rw [u_ne _ _ (by omega), u_eq]
    refine ⟨z_u (z_u A 9 (arrI S.1 (c_on S) (A 9))) 5 (arrI S.1 (plast S.1) (A 5)), agr_5 (agr_u (agr_rf h5) (by decide) (by decide) _) (by decide) (nm_arr (pms_lt8 hn.2 (plast_in _)) h5), en_X12_dualities (b_X12_dualities_0 z_puCV ?_)⟩
    simp (disch := omega) only [l0, l1, l2, l3, l4, l5, l6, l7, l8, l9, l10, l11, l12, l13, l14, l15, l16, l18, l20, l22, l24, l30, l31, l39, l40, l48, l60, l154, l255, l256, l400, l2000, l6160, l14000, lm1, q_lt, q_le, q_eq, q_mI, q_mI', q_ltmI, q_in, q_bz0, q_bz1, q_bzn0, q_bzn1, q_bzb, q_bn0, q_bn1, q_shr, q_shl, q_1s, b_one, b_two, fa_and, fa_or, nI_add, n_mul, nI_clamp, z_rcs, true_and, and_true, if_true, if_false, rs_ai, rs_oi, rs_pai, rs_poi, rs_pax, rs_kd, rs_ln, rs_or, u_eq, u_ne, sh_kd hM, t_kd hA, t_slines hA, t_spoints hA, t_m hA, t_n hA, t_Ln hA, t_sL hA, t_on hA, t_son hA, t_of hA, t_sof hA, t_has hA, t_shas hA, t_sbits, t_bits, t_stz, t_tz, hnm]
    have key := z_forI (G := G) (d := d + 6) (μ := m_X12_dualities z_puC) (r := (.inl (some (.int (nI ((pms S.1).foldl (fun c N => c_duG S polar N c) 0)))), z_rs h M F (z_u (z_u A 9 (arrI S.1 (c_on S) (A 9))) 5 (arrI S.1 (plast S.1) (A 5))))) (pc := 17) (α := Unit) (fun l _ => [some (.ref M), some (.int (nI polar.toNat)), some (.int (nI 0)), some (.int (nI l))]) (fun l _ => z_rs h M F (z_u A 9 (arrI l (c_on S) (A 9)))) (fun _ _ => True) (fun _ x => x) () S.1 trivial ?_ ?_
    · rw [show arrI 0 (c_on S) (A 9) = A 9 from rfl, u_self, hnm] at key
      exact key
    · intro l _ hl _
      refine ⟨trivial, fun hJ => b_X12_dualities_17 z_puCV ?_⟩
      have hA1 := at_rs (F := F) (A := z_u A 9 (arrI l (c_on S) (A 9))) (S := S) hM (by rw [u_ne _ _ (by omega)]; exact hR) (by rw [u_ne _ _ (by omega)]; exact hS)
      rw [t_n hA1, t_on hA1 (by omega)]
      simp (disch := omega) only [l0, l1, l2, l3, l4, l5, l6, l7, l8, l9, l10, l11, l12, l13, l14, l15, l16, l18, l20, l22, l24, l30, l31, l39, l40, l48, l60, l154, l255, l256, l400, l2000, l6160, l14000, lm1, q_lt, q_le, q_eq, q_mI, q_mI', q_ltmI, q_in, q_bz0, q_bz1, q_bzn0, q_bzn1, q_bzb, q_bn0, q_bn1, q_shr, q_shl, q_1s, b_one, b_two, fa_and, fa_or, nI_add, n_mul, nI_clamp, z_rcs, true_and, and_true, if_true, if_false, rs_ai, rs_oi, rs_pai, rs_poi, rs_pax, rs_kd, rs_ln, rs_or, u_eq, u_ne, hl, t_spoints hA1, t_son hA1, sh_kd hM, (sh_on hM).1, (sh_on hM).2.1, (sh_on hM).2.2, u_u]
      rw [arrI_s]
      exact hJ
    · intro _
      refine b_X12_dualities_17 z_puCV ?_
      have hA1 := at_rs (F := F) (A := z_u A 9 (arrI S.1 (c_on S) (A 9))) (S := S) hM (by rw [u_ne _ _ (by omega)]; exact hR) (by rw [u_ne _ _ (by omega)]; exact hS)
      rw [t_n hA1, if_neg (show ¬ nI S.1 < nI S.1 from nI_nlt (Nat.le_refl _) (by omega))]
      have eb := e_begM (G := G) (d := d + 1) (F := F) (A := z_u A 9 (arrI S.1 (c_on S) (A 9))) hM hn.2
      rw [e95] at eb
      refine ⟨t_kd hA1, hA1.1, t_kd hA1, hA1.1, t_kd hA1, _, eb, ?_⟩
      refine z_nm (fun m c => [some (.ref M), some (.int (nI polar.toNat)), some (.int (nI c)), some (.int m)]) (fun N _ => z_rs h M F (z_u (z_u A 9 (arrI S.1 (c_on S) (A 9))) 5 (arrI S.1 N (A 5)))) (fun _ => True) (c_duG S polar) 0 trivial ?_ ?_
      · intro N c hN _
        have hN8 := pms_lt8 hn.2 hN
        have hA2 := at_rs (F := F) (A := z_u (z_u A 9 (arrI S.1 (c_on S) (A 9))) 5 (arrI S.1 N (A 5))) (S := S) hM (by rw [e91]; exact hR) (by rw [e91]; exact hS)
        refine ⟨trivial, fun N' m hx hJ => b_X12_dualities_52 z_puCV ?_⟩
        have en := e_nextM (G := G) (d := d) (F := F) (A := z_u A 9 (arrI S.1 (c_on S) (A 9))) (g := A 5) hM hn.1 hn.2 hN8 hx
        rw [if_neg (show ¬ nI 1 = nI 0 by decide)]
        refine ⟨t_kd hA2, _, _, e_duaM (f0 := A 9) hM (by rw [e91]; exact hR) (by rw [e91]; exact hS) hW hN8 h5 (u_eq _ _ _) (by rw [e99]), ?_⟩
        unfold c_duG at hJ
        rw [t_n hA2, nI_add, nI_add]
        cases hc : c_duaN S N
        · rw [hc] at hJ
          rw [if_pos (by decide)]
          exact ⟨t_kd hA2, hA2.1, t_kd hA2, _, _, en, hJ⟩
        · rw [hc] at hJ
          rw [if_neg (by decide)]
          cases polar
          · rw [if_pos (by decide)]
            exact ⟨t_kd hA2, hA2.1, t_kd hA2, _, _, en, hJ⟩
          · rw [if_neg (by decide)]
            refine ⟨t_kd hA2, _, _, e_polM hM (by rw [e91]; exact hR) (by rw [e91]; exact hS) hN8 (fun i hi => by rw [← hnm]; exact (pms_in hN).1 i hi) h5 (u_eq _ _ _), ?_⟩
            cases hp : c_pol S N
            · rw [hp] at hJ
              rw [if_pos (by decide), t_n hA2]
              exact ⟨t_kd hA2, hA2.1, t_kd hA2, _, _, en, hJ⟩
            · rw [hp] at hJ
              rw [if_neg (by decide), t_n hA2]
              exact ⟨t_kd hA2, hA2.1, t_kd hA2, _, _, en, hJ⟩
      · intro _
        refine b_X12_dualities_52 z_puCV ?_
        rw [if_pos rfl]
  · rw [if_neg hnm]
    refine ⟨A, agr_rf h5, en_X12_dualities (b_X12_dualities_0 z_puCV ?_)⟩
    simp (disch := omega) only [l0, l1, l2, l3, l4, l5, l6, l7, l8, l9, l10, l11, l12, l13, l14, l15, l16, l18, l20, l22, l24, l30, l31, l39, l40, l48, l60, l154, l255, l256, l400, l2000, l6160, l14000, lm1, q_lt, q_le, q_eq, q_mI, q_mI', q_ltmI, q_in, q_bz0, q_bz1, q_bzn0, q_bzn1, q_bzb, q_bn0, q_bn1, q_shr, q_shl, q_1s, b_one, b_two, fa_and, fa_or, nI_add, n_mul, nI_clamp, z_rcs, true_and, and_true, if_true, if_false, rs_ai, rs_oi, rs_pai, rs_poi, rs_pax, rs_kd, rs_ln, rs_or, u_eq, u_ne, sh_kd hM, t_kd hA, t_slines hA, t_spoints hA, t_m hA, t_n hA, t_Ln hA, t_sL hA, t_on hA, t_son hA, t_of hA, t_sof hA, t_has hA, t_shas hA, t_sbits, t_bits, t_stz, t_tz, hnm]
theorem e_likes (hM : z_sh M h) (hR : r_ok (A 1)) (hS : r_S (A 1) = S) (h5 : r_nm (A 5)) {s : Nat} (hs : s < 4) {T : Sc} (hT : r_is (c_shR (A 1) s) T) (hWT : ∀ l, T.2.2 l < 2 ^ T.1) : ∃ A', agr [5, 6] A A' ∧ z_Ev G (d + 6) k_X12_likes [.ref M, .int (nI s)] (z_rs h M F A) (.inl (some (.int (nI (c_likes S T)))), z_rs h M F A') := by
  have hA := at_rs (F := F) hM hR hS
  have hn := t_n8 hA
  have hm := t_m12 hA
  have hTm := hT.2.2.2.1
  have hTn := hT.2.2.1
  have osh : ∀ (A0 : Nat → Nat → Int32) k, A0 1 = A 1 → k < 30 → f_X12_onShelf M (nI s) (nI k) (z_rs h M F A0) = c_shR (A 1) s k ∧ s_X12_onShelf M (nI s) (nI k) (z_rs h M F A0) := fun A0 k e hk => ⟨by
    unfold f_X12_onShelf; rw [nI_clamp (by omega), nI_clamp (by omega), rs_ai _ _ _ _ (by omega) (by omega), e]; rfl, ⟨hM, s, k, hs, hk, rfl, rfl⟩⟩
  unfold c_likes
  by_cases h1 : T.1 = S.1
  · by_cases h2 : T.2.1 = S.2.1
    · rw [if_pos ⟨h1, h2⟩]
      have e61 : ∀ f g, z_u (z_u A 6 f) 5 g 1 = A 1 := fun f g => by rw [u_ne _ _ (by omega), u_ne _ _ (by omega)]
      have e66 : ∀ f g, z_u (z_u A 6 f) 5 g 6 = f := fun f g => by rw [u_ne _ _ (by omega), u_eq]
      have e65 : ∀ f, z_u A 6 f 5 = A 5 := fun f => by rw [u_ne _ _ (by omega)]
      refine ⟨z_u (z_u A 6 (c_by S (A 6))) 5 (arrI S.1 (plast S.1) (A 5)), agr_5 (agr_u (agr_rf h5) (by decide) (by decide) _) (by decide) (nm_arr (pms_lt8 hn.2 (plast_in _)) h5), en_X12_likes (b_X12_likes_0 z_puCV ?_)⟩
      rw [(osh A 0 rfl (by omega)).1, (osh A 1 rfl (by omega)).1, hT.1, hT.2.1, t_n hA, t_m hA, h1, h2, if_pos rfl, if_pos rfl]
      have hA1 := at_rs (F := F) (A := z_u A 6 (c_by S (A 6))) (S := S) hM (by rw [u_ne _ _ (by omega)]; exact hR) (by rw [u_ne _ _ (by omega)]; exact hS)
      have eb := e_begM (G := G) (d := d + 1) (F := F) (A := z_u A 6 (c_by S (A 6))) hM hn.2
      rw [e65] at eb
      refine ⟨t_kd hA, (osh A 0 rfl (by omega)).2, t_kd hA, hA.1, t_kd hA, (osh A 1 rfl (by omega)).2, t_kd hA, hA.1, t_kd hA, _, e_tlM hM hR hS, ?_⟩
      rw [t_n hA1]
      refine ⟨t_kd hA1, hA1.1, t_kd hA1, _, eb, ?_⟩
      refine z_nm (fun m c => [some (.ref M), some (.int (nI s)), some (.int (nI c)), some (.int m), none, none]) (fun N _ => z_rs h M F (z_u (z_u A 6 (c_by S (A 6))) 5 (arrI S.1 N (A 5)))) (fun _ => True) (c_likG S T) 0 trivial ?_ ?_
      · intro N c hN _
        have hN8 := pms_lt8 hn.2 hN
        have hA2 := at_rs (F := F) (A := z_u (z_u A 6 (c_by S (A 6))) 5 (arrI S.1 N (A 5))) (S := S) hM (by rw [e61]; exact hR) (by rw [e61]; exact hS)
        refine ⟨trivial, fun N' m hx hJ => b_X12_likes_44 z_puCV ?_⟩
        have en := e_nextM (G := G) (d := d) (F := F) (A := z_u A 6 (c_by S (A 6))) (g := A 5) hM hn.1 hn.2 hN8 hx
        rw [if_neg (show ¬ nI 1 = nI 0 by decide)]
        unfold c_likG at hJ
        have hbad : ∀ l, l ≤ S.2.1 → c_likN S T N = false → z_J G (d + 6) (m_X12_likes z_puC) (.inl (some (.int (nI ((pms S.1).foldl (fun c N => c_likG S T N c) 0)))), z_rs h M F (z_u (z_u A 6 (c_by S (A 6))) 5 (arrI S.1 (plast S.1) (A 5)))) 54 [some (.ref M), some (.int (nI s)), some (.int (nI c)), none, some (.int (nI 0)), some (.int (nI l))] [] (z_rs h M F (z_u (z_u A 6 (c_by S (A 6))) 5 (arrI S.1 N (A 5)))) := by
          intro l hl hf
          rw [hf] at hJ
          refine b_X12_likes_54 z_puCV ?_
          rw [t_m hA2, t_n hA2, if_pos (show nI 0 = nI 0 from rfl), if_pos (show nI 0 = nI 0 from rfl), nI_add]
          refine ⟨t_kd hA2, hA2.1, ?_⟩
          split
          · exact ⟨t_kd hA2, hA2.1, t_kd hA2, _, _, en, hJ⟩
          · exact ⟨t_kd hA2, hA2.1, t_kd hA2, _, _, en, hJ⟩
        refine z_fnd (fun l => [some (.ref M), some (.int (nI s)), some (.int (nI c)), none, some (.int (nI 1)), some (.int (nI l))]) (fun l => !c_isL S (c_nm N (T.2.2 l))) S.2.1 ?_ ?_
        · intro l hl hno hJ2
          have hTl := hT.2.2.2.2 l (by omega)
          have hnr : r_nm (z_ai (z_rs h M F (z_u (z_u A 6 (c_by S (A 6))) 5 (arrI S.1 N (A 5)))) (M + 5)) := by
            rw [rs_ai _ _ _ _ (by omega) (by omega), u_eq]; exact nm_arr hN8 h5
          have hx8 := c_nm_lt (fun i hi => (nm_arr hN8 h5 i hi).2) (T.2.2 l)
          rw [rN_nm hN8 (by rw [← h1]; exact hWT l)] at hx8
          have ob := osh (z_u (z_u A 6 (c_by S (A 6))) 5 (arrI S.1 N (A 5))) (2 + l) (e61 _ _) (by omega)
          have enm : f_X12_named M (nI (T.2.2 l)) (z_rs h M F (z_u (z_u A 6 (c_by S (A 6))) 5 (arrI S.1 N (A 5)))) = nI (c_nm N (T.2.2 l)) := by
            rw [t_nm hTl.2, rs_ai _ _ _ _ (by omega) (by omega), u_eq, rN_nm hN8 (by rw [← h1]; exact hWT l)]
          refine b_X12_likes_54 z_puCV ?_
          rw [t_m hA2, show nI 2 + nI l = nI (2 + l) from nI_add 2 l, ob.1, show c_shR (A 1) s (2 + l) = nI (T.2.2 l) from hTl.1, enm, if_pos (nI_lt hl (by omega)), if_neg (show ¬ nI 1 = nI 0 by decide), (sh_lineBy hA2.1).1, z_rcs, nI_clamp (by omega), rs_ai _ _ _ _ (by omega) (by omega), e66, nI_add]
          refine ⟨t_kd hA2, hA2.1, t_kd hA2, t_kd hA2, ob.2, t_kd hA2, t_snm hA2 hnr hTl.2, (sh_lineBy hA2.1).2.1, by rw [(sh_lineBy hA2.1).2.2]; exact vp_in_nI hx8 (by omega), ?_⟩
          have hby := c_by_in hm (f0 := A 6) hx8
          cases hc : c_isL S (c_nm N (T.2.2 l))
          · rw [if_pos (show c_by S (A 6) (c_nm N (T.2.2 l)) = mI from hby.mpr hc)]
            refine hbad (l + 1) (by omega) ?_
            unfold c_likN
            rw [any_t hl (by rw [hc]; rfl)]; rfl
          · rw [if_neg (show ¬ c_by S (A 6) (c_nm N (T.2.2 l)) = mI from fun q => by rw [hby.mp q] at hc; cases hc)]
            exact hJ2 (by rw [hc]; rfl)
        · intro hno
          have hok : c_likN S T N = true := by unfold c_likN; rw [any_f hno]; rfl
          rw [hok] at hJ
          refine b_X12_likes_54 z_puCV ?_
          rw [t_m hA2, t_n hA2, if_neg (show ¬ nI S.2.1 < nI S.2.1 from nI_nlt (Nat.le_refl _) (by omega)), if_neg (show ¬ nI 1 = nI 0 by decide), nI_add]
          exact ⟨t_kd hA2, hA2.1, t_kd hA2, hA2.1, t_kd hA2, _, _, en, hJ⟩
      · intro _
        refine b_X12_likes_44 z_puCV ?_
        rw [if_pos rfl]
    · rw [if_neg (fun q => h2 q.2)]
      refine ⟨A, agr_rf h5, en_X12_likes (b_X12_likes_0 z_puCV ?_)⟩
      rw [(osh A 0 rfl (by omega)).1, (osh A 1 rfl (by omega)).1, hT.1, hT.2.1, t_n hA, t_m hA, h1, if_pos rfl, if_neg (fun e => h2 ((nI_eq (by omega) (by omega)).mp e))]
      exact ⟨t_kd hA, (osh A 0 rfl (by omega)).2, t_kd hA, hA.1, t_kd hA, (osh A 1 rfl (by omega)).2, t_kd hA, hA.1, rfl⟩
  · rw [if_neg (fun q => h1 q.1)]
    refine ⟨A, agr_rf h5, en_X12_likes (b_X12_likes_0 z_puCV ?_)⟩
    rw [(osh A 0 rfl (by omega)).1, hT.1, t_n hA, if_neg (fun e => h1 ((nI_eq (by omega) (by omega)).mp e))]
    exact ⟨t_kd hA, (osh A 0 rfl (by omega)).2, t_kd hA, hA.1, rfl⟩
theorem e_tellDual (hM : z_sh M h) (hR : r_ok (A 1)) (hS : r_S (A 1) = S) (h5 : r_nm (A 5)) : ∃ A', agr [8] A A' ∧ (∀ a, c_td S = some a → a.1 ≤ 8 ∧ (∀ i, i < a.1 → a.2 i < 256) ∧ A' 8 = arrI a.1 a.2 (A 8)) ∧ z_Ev G (d + 4) k_X12_tellDual [.ref M] (z_rs h M F A) (.inl (some (.int (c_tdI S))), z_rs h M F A') := by
  have hA := at_rs (F := F) hM hR hS
  have hn := t_n8 hA
  have hm := t_m12 hA
  by_cases h0 : S.2.1 = 0 ∨ 8 < S.2.1
  · have e0 : c_td S = none := by unfold c_td; rw [if_pos h0]
    refine ⟨A, agr_rf h5, fun a ha => (by rw [e0] at ha; cases ha), en_X12_tellDual (b_X12_tellDual_0 z_puCV ?_)⟩
    unfold c_tdI
    rw [e0]
    simp (disch := omega) only [l0, l1, l2, l3, l4, l5, l6, l7, l8, l9, l10, l11, l12, l13, l14, l15, l16, l18, l20, l22, l24, l30, l31, l39, l40, l48, l60, l154, l255, l256, l400, l2000, l6160, l14000, lm1, q_lt, q_le, q_eq, q_mI, q_mI', q_ltmI, q_in, q_bz0, q_bz1, q_bzn0, q_bzn1, q_bzb, q_bn0, q_bn1, q_shr, q_shl, q_1s, b_one, b_two, fa_and, fa_or, nI_add, n_mul, nI_clamp, z_rcs, true_and, and_true, if_true, if_false, rs_ai, rs_oi, rs_pai, rs_poi, rs_pax, rs_kd, rs_ln, rs_or, u_eq, u_ne, sh_kd hM, t_kd hA, t_slines hA, t_spoints hA, t_m hA, t_n hA, t_Ln hA, t_sL hA, t_on hA, t_son hA, t_of hA, t_sof hA, t_has hA, t_shas hA, t_sbits, t_bits, t_stz, t_tz]
    by_cases h1 : S.2.1 = 0
    · rw [if_pos h1]; trivial
    · rw [if_neg h1, if_pos (by omega)]; trivial
  · have ho : ∀ p, c_on S p < 256 := fun p => Nat.lt_of_lt_of_le (c_on_lt S p) (show 2 ^ S.2.1 ≤ 2 ^ 8 from Nat.pow_le_pow_right (by decide) (by omega))
    have main : ∀ (B : Nat × (Nat → Nat)) (v : Int32), its (c_tdF S) (0, fun _ => 0) S.1 = .inl B ∧ v = nI B.1 ∨ its (c_tdF S) (0, fun _ => 0) S.1 = .inr B ∧ v = mI → z_Ev G (d + 4) k_X12_tellDual [.ref M] (z_rs h M F A) (.inl (some (.int v)), z_rs h M F (z_u A 8 (arrI B.1 B.2 (A 8)))) := by
      intro B v hB
      refine en_X12_tellDual (b_X12_tellDual_0 z_puCV ?_)
      simp (disch := omega) only [l0, l1, l2, l3, l4, l5, l6, l7, l8, l9, l10, l11, l12, l13, l14, l15, l16, l18, l20, l22, l24, l30, l31, l39, l40, l48, l60, l154, l255, l256, l400, l2000, l6160, l14000, lm1, q_lt, q_le, q_eq, q_mI, q_mI', q_ltmI, q_in, q_bz0, q_bz1, q_bzn0, q_bzn1, q_bzb, q_bn0, q_bn1, q_shr, q_shl, q_1s, b_one, b_two, fa_and, fa_or, nI_add, n_mul, nI_clamp, z_rcs, true_and, and_true, if_true, if_false, rs_ai, rs_oi, rs_pai, rs_poi, rs_pax, rs_kd, rs_ln, rs_or, u_eq, u_ne, sh_kd hM, t_kd hA, t_slines hA, t_spoints hA, t_m hA, t_n hA, t_Ln hA, t_sL hA, t_on hA, t_son hA, t_of hA, t_sof hA, t_has hA, t_shas hA, t_sbits, t_bits, t_stz, t_tz]
      rw [if_neg (show ¬ S.2.1 = 0 by omega), if_neg (show ¬ 8 < S.2.1 by omega)]
      have key := z_fors (G := G) (d := d + 4) (μ := m_X12_tellDual z_puC) (r := (.inl (some (.int v)), z_rs h M F (z_u A 8 (arrI B.1 B.2 (A 8))))) (pc := 22) (fun p a => [some (.ref M), some (.int (nI a.1)), some (.int (nI p)), none]) (fun _ a => z_rs h M F (z_u A 8 (arrI a.1 a.2 (A 8)))) (fun p a => a.1 ≤ p) (c_tdF S) ((0, fun _ => 0) : Nat × (Nat → Nat)) S.1 (Nat.le_refl 0) ?_ ?_ ?_
      · rw [show arrI ((0, fun _ => 0) : Nat × (Nat → Nat)).1 ((0, fun _ => 0) : Nat × (Nat → Nat)).2 (A 8) = A 8 from rfl, u_self] at key
        exact key
      · intro p a w hp hI hf hw
        have hA1 := at_rs (F := F) (A := z_u A 8 (arrI a.1 a.2 (A 8))) (S := S) hM (by rw [u_ne _ _ (by omega)]; exact hR) (by rw [u_ne _ _ (by omega)]; exact hS)
        have o1 := ho p
        have p1 := n_pc12 (c_on S p) (by omega)
        refine b_X12_tellDual_22 z_puCV ?_
        unfold c_tdF at hf
        split at hf
        · rename_i hc
          cases hf
          rw [hw] at hB
          rcases hB with hB | hB
          · cases hB.1
          · cases hB.1
            rw [hB.2]
            rw [t_n hA1, t_on hA1 (by omega), t_bits (by omega)]
            simp (disch := omega) only [l0, l1, l2, l3, l4, l5, l6, l7, l8, l9, l10, l11, l12, l13, l14, l15, l16, l18, l20, l22, l24, l30, l31, l39, l40, l48, l60, l154, l255, l256, l400, l2000, l6160, l14000, lm1, q_lt, q_le, q_eq, q_mI, q_mI', q_ltmI, q_in, q_bz0, q_bz1, q_bzn0, q_bzn1, q_bzb, q_bn0, q_bn1, q_shr, q_shl, q_1s, b_one, b_two, fa_and, fa_or, nI_add, n_mul, nI_clamp, z_rcs, true_and, and_true, if_true, if_false, rs_ai, rs_oi, rs_pai, rs_poi, rs_pax, rs_kd, rs_ln, rs_or, u_eq, u_ne, hp, hc, t_spoints hA1, t_son hA1, t_sbits, sh_kd hM]
        · split at hf <;> cases hf
      · intro p a b hp hI hf
        have hA1 := at_rs (F := F) (A := z_u A 8 (arrI a.1 a.2 (A 8))) (S := S) hM (by rw [u_ne _ _ (by omega)]; exact hR) (by rw [u_ne _ _ (by omega)]; exact hS)
        have o1 := ho p
        have p1 := n_pc12 (c_on S p) (by omega)
        unfold c_tdF at hf
        split at hf
        · cases hf
        · rename_i hc
          split at hf
          · rename_i hc2
            cases hf
            refine ⟨by omega, fun hJ => b_X12_tellDual_22 z_puCV ?_⟩
            rw [t_n hA1, t_on hA1 (by omega), t_bits (by omega)]
            simp (disch := omega) only [l0, l1, l2, l3, l4, l5, l6, l7, l8, l9, l10, l11, l12, l13, l14, l15, l16, l18, l20, l22, l24, l30, l31, l39, l40, l48, l60, l154, l255, l256, l400, l2000, l6160, l14000, lm1, q_lt, q_le, q_eq, q_mI, q_mI', q_ltmI, q_in, q_bz0, q_bz1, q_bzn0, q_bzn1, q_bzb, q_bn0, q_bn1, q_shr, q_shl, q_1s, b_one, b_two, fa_and, fa_or, nI_add, n_mul, nI_clamp, z_rcs, true_and, and_true, if_true, if_false, rs_ai, rs_oi, rs_pai, rs_poi, rs_pax, rs_kd, rs_ln, rs_or, u_eq, u_ne, hp, hc, hc2, t_spoints hA1, t_son hA1, t_sbits, sh_kd hM]
            exact hJ
          · rename_i hc2
            cases hf
            refine ⟨by show a.1 + 1 ≤ p + 1; omega, fun hJ => b_X12_tellDual_22 z_puCV ?_⟩
            rw [t_n hA1, t_on hA1 (by omega), t_bits (by omega)]
            simp (disch := omega) only [l0, l1, l2, l3, l4, l5, l6, l7, l8, l9, l10, l11, l12, l13, l14, l15, l16, l18, l20, l22, l24, l30, l31, l39, l40, l48, l60, l154, l255, l256, l400, l2000, l6160, l14000, lm1, q_lt, q_le, q_eq, q_mI, q_mI', q_ltmI, q_in, q_bz0, q_bz1, q_bzn0, q_bzn1, q_bzb, q_bn0, q_bn1, q_shr, q_shl, q_1s, b_one, b_two, fa_and, fa_or, nI_add, n_mul, nI_clamp, z_rcs, true_and, and_true, if_true, if_false, rs_ai, rs_oi, rs_pai, rs_poi, rs_pax, rs_kd, rs_ln, rs_or, u_eq, u_ne, hp, hc, hc2, t_spoints hA1, t_son hA1, t_sbits, sh_kd hM, (sh_dualLines hM).1, (sh_dualLines hM).2.1, (sh_dualLines hM).2.2, u_u, arrI_p]
            exact hJ
      · intro b hI hw
        have hA1 := at_rs (F := F) (A := z_u A 8 (arrI b.1 b.2 (A 8))) (S := S) hM (by rw [u_ne _ _ (by omega)]; exact hR) (by rw [u_ne _ _ (by omega)]; exact hS)
        refine b_X12_tellDual_22 z_puCV ?_
        rw [hw] at hB
        rcases hB with hB | hB
        · cases hB.1
          rw [hB.2, t_n hA1]
          simp (disch := omega) only [l0, l1, l2, l3, l4, l5, l6, l7, l8, l9, l10, l11, l12, l13, l14, l15, l16, l18, l20, l22, l24, l30, l31, l39, l40, l48, l60, l154, l255, l256, l400, l2000, l6160, l14000, lm1, q_lt, q_le, q_eq, q_mI, q_mI', q_ltmI, q_in, q_bz0, q_bz1, q_bzn0, q_bzn1, q_bzb, q_bn0, q_bn1, q_shr, q_shl, q_1s, b_one, b_two, fa_and, fa_or, nI_add, n_mul, nI_clamp, z_rcs, true_and, and_true, if_true, if_false, rs_ai, rs_oi, rs_pai, rs_poi, rs_pax, rs_kd, rs_ln, rs_or, u_eq, u_ne, Nat.lt_irrefl, t_spoints hA1, sh_kd hM]
        · cases hB.1
    have inv : ∀ k, k ≤ S.1 → ∀ a, its (c_tdF S) (0, fun _ => 0) k = .inl a → a.1 ≤ k ∧ ∀ i, i < a.1 → a.2 i < 256 := by
      intro k
      induction k with
      | zero =>
        intro _ a ha
        cases ha
        exact ⟨Nat.le_refl _, fun i hi => absurd hi (Nat.not_lt_zero i)⟩
      | succ k ih =>
        intro hk a ha
        unfold its at ha
        cases hb : its (c_tdF S) (0, fun _ => 0) k with
        | inr v => rw [hb] at ha; cases ha
        | inl b =>
          rw [hb] at ha
          have h1 := ih (by omega) b hb
          have ha2 : c_tdF S k b = .inl a := ha
          unfold c_tdF at ha2
          split at ha2
          · cases ha2
          · split at ha2
            · cases ha2; exact ⟨by omega, h1.2⟩
            · cases ha2
              refine ⟨by show b.1 + 1 ≤ k + 1; omega, fun i hi => ?_⟩
              show z_u b.2 b.1 (c_on S k) i < 256
              unfold z_u
              split
              · exact ho k
              · exact h1.2 i (by have : i < b.1 + 1 := hi; omega)
    cases hw : its (c_tdF S) (0, fun _ => 0) S.1 with
    | inl B =>
      have e0 : c_td S = some B := by unfold c_td; rw [if_neg h0, hw]
      refine ⟨z_u A 8 (arrI B.1 B.2 (A 8)), agr_u (agr_rf h5) (by decide) (by decide) _, fun a ha => ?_, ?_⟩
      · rw [e0] at ha
        cases ha
        have h1 := inv S.1 (Nat.le_refl _) B hw
        exact ⟨by omega, h1.2, u_eq _ _ _⟩
      · unfold c_tdI
        rw [e0]
        exact main B (nI B.1) (Or.inl ⟨hw, rfl⟩)
    | inr B =>
      have e0 : c_td S = none := by unfold c_td; rw [if_neg h0, hw]
      refine ⟨z_u A 8 (arrI B.1 B.2 (A 8)), agr_u (agr_rf h5) (by decide) (by decide) _, fun a ha => (by rw [e0] at ha; cases ha), ?_⟩
      unfold c_tdI
      rw [e0]
      exact main B mI (Or.inr ⟨hw, rfl⟩)
theorem e_dual (hM : z_sh M h) (hR : r_ok (A 1)) (hS : r_S (A 1) = S) (h5 : r_nm (A 5)) (i : Int32) : ∃ A', agr [8] A A' ∧ z_Ev G (d + 5) k_X12_dual [.ref M, .int i] (z_rs h M F A) (.inl (some (.int (c_dualI S i).1)), z_rs h M (z_u F 0 (c_dualI S i).2) A') := by
  obtain ⟨A', ha, h8, he⟩ := e_tellDual (G := G) (d := d) (F := z_u F 0 (nI 0)) hM hR hS h5
  have hfail : z_Ev G (d + 4) k_X12_fail [.ref M, .int (nI 1)] (z_rs h M (z_u F 0 (nI 0)) A') (.inl (some (.int (nI 0))), z_rs h M (z_u F 0 (nI 1)) A') := by
    have e := e_fail' (G := G) (d := d) (F := z_u F 0 (nI 0)) (A := A') (k := nI 1) hM
    rw [u_u] at e
    exact e
  refine ⟨A', ha, en_X12_dual (b_X12_dual_0 z_puCV ⟨sh_kd hM, ?_⟩)⟩
  rw [rs_poi]
  refine ⟨sh_kd hM, _, _, he, ?_⟩
  unfold c_dualI
  by_cases hi : i = mI
  · rw [if_pos hi, if_pos hi]
  · rw [if_neg hi, if_neg hi]
    refine ⟨trivial, ?_⟩
    unfold c_tdI
    cases ht : c_td S with
    | none =>
      have e0 : f_X12_isIn i (nI 0) (mI - nI 1) (z_rs h M (z_u F 0 (nI 0)) A') = nI 0 := by
        unfold f_X12_isIn
        by_cases h1 : i < nI 0
        · rw [if_pos h1]; rfl
        · rw [if_neg h1, if_pos]
          · rfl
          obtain ⟨j, hj, rfl⟩ := nI_of h1
          have h2 : (mI - nI 1).toInt = -2 := by decide
          rw [fa_lt, h2, nI_toInt hj]
          omega
      show (if f_X12_isIn i (nI 0) (mI - nI 1) (z_rs h M (z_u F 0 (nI 0)) A') = nI 0 then _ else _)
      rw [e0, if_pos rfl]
      exact ⟨sh_kd hM, _, _, hfail, rfl⟩
    | some a =>
      dsimp only
      have h1 := h8 a ht
      have e0 : f_X12_isIn i (nI 0) (nI a.1 - nI 1) (z_rs h M (z_u F 0 (nI 0)) A') = nI (c_in i a.1).toNat := f_isIn_c i (by omega) _
      rw [e0]
      cases hc : c_in i a.1
      · rw [if_pos (by decide)]
        exact ⟨sh_kd hM, _, _, hfail, rfl⟩
      · obtain ⟨j, hj, hj2, rfl⟩ := c_in_t hc
        rw [if_neg (by decide)]
        have ea : A' 8 j = nI (a.2 j) := by rw [h1.2.2, arrI_in hj]
        rw [if_pos rfl]
        simp (disch := omega) only [l0, l1, l2, l3, l4, l5, l6, l7, l8, l9, l10, l11, l12, l13, l14, l15, l16, l18, l20, l22, l24, l30, l31, l39, l40, l48, l60, l154, l255, l256, l400, l2000, l6160, l14000, lm1, q_lt, q_le, q_eq, q_mI, q_mI', q_ltmI, q_in, q_bz0, q_bz1, q_bzn0, q_bzn1, q_bzb, q_bn0, q_bn1, q_shr, q_shl, q_1s, b_one, b_two, fa_and, fa_or, nI_add, n_mul, nI_clamp, z_rcs, true_and, and_true, if_true, if_false, rs_ai, rs_oi, rs_pai, rs_poi, rs_pax, rs_kd, rs_ln, rs_or, u_eq, u_ne, sh_kd hM, (sh_dualLines hM).1, (sh_dualLines hM).2.1, (sh_dualLines hM).2.2, ea]
end CP
