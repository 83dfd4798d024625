theorem en_X2_seatFrom {pu : Nat → Option ((List Value → z_H → Prop) × (List Value → z_H → Int32))} {G : z_G} {d : Nat} {r : z_Res} {h : z_H} {x0 : Nat} {x1 : Int32} (hJ : z_J G d (m_X2_seatFrom pu) r 0 [some (.ref x0), some (.int x1), none, none, none] [] h) : z_Ev G d k_X2_seatFrom [.ref x0, .int x1] h r := z_enter (μ := m_X2_seatFrom pu) rfl (by decide) rfl rfl (fun q => by cases q) (Nat.le_of_ble_eq_true rfl) hJ
def hd_X2_seatFrom : Nat → Option (List Bool) := (fun k => (cond (Nat.blt k 119) (cond (Nat.beq k 54) (some [true, true, true, true, true]) none) none))
set_option maxRecDepth 20000 in
theorem b_X2_seatFrom_0 {G : z_G} {d : Nat} {r : z_Res} (hPu : z_PuV G d (t_X2 z_pu0)) {h : z_H} {x0 : Nat} {x1 : Int32} (hT : (z_kd h x0 = 18 ∧ (if x1 < (z_oi h x0 5) then (z_kd h x0 = 18 ∧ (z_rc (z_or h x0 12) False (fun x_1 => (z_kd h x_1 = 1 ∧ vp_in ((x1 * (nI 8)) + x1) (z_ln h x_1) ∧ (z_J G (d + 1) (m_X2_seatFrom z_pu0) r) 54 [some (.ref x0), some (.int x1), some (.int (z_ai h x_1 (Int32.toNatClampNeg ((x1 * (nI 8)) + x1)))), some (.int (nI 0)), some (.int (nI 0))] [] h)))) else (z_kd h x0 = 18 ∧ (z_rc (z_or h x0 13) False (fun x_2 => (z_kd h x_2 = 1 ∧ vp_in (nI 1) (z_ln h x_2) ∧ (if (z_ai h x_2 (Int32.toNatClampNeg (nI 1))) = mI then (z_kd h x0 = 18 ∧ (z_rc (z_or h x0 11) (z_kd h x0 = 18 ∧ (z_rc (z_or h x0 13) (z_kd h x0 = 18 ∧ False) (fun x_4 => (z_kd h x0 = 18 ∧ False)))) (fun x_3 => (z_kd h x0 = 18 ∧ (z_rc (z_or h x0 13) (z_kd h x0 = 18 ∧ False) (fun x_5 => (z_kd h x0 = 18 ∧ ((¬ (nI 0) < 0 ∧ ¬ (nI 1) < 0 ∧ ¬ (z_oi h x0 5) < 0 ∧ (Int32.toNatClampNeg (nI 0)) + (Int32.toNatClampNeg (z_oi h x0 5)) ≤ z_ln h x_3 ∧ (Int32.toNatClampNeg (nI 1)) + (Int32.toNatClampNeg (z_oi h x0 5)) ≤ z_ln h x_5) ∧ ((z_kd h x_3 = 1 ∧ z_kd h x_5 = 1 ∧ r = (.inl (some (.int (nI 1))), z_pax h x_5 (va_cpy (z_ai h x_3) (z_ai h x_5) (Int32.toNatClampNeg (nI 0)) (Int32.toNatClampNeg (nI 1)) (Int32.toNatClampNeg (z_oi h x0 5))))) ∨ (z_kd h x_3 = 2 ∧ z_kd h x_5 = 2 ∧ r = (.inl (some (.int (nI 1))), z_plx h x_5 (va_cpy (z_al h x_3) (z_al h x_5) (Int32.toNatClampNeg (nI 0)) (Int32.toNatClampNeg (nI 1)) (Int32.toNatClampNeg (z_oi h x0 5)))))))))))))) else r = (.inl (some (.int (nI 1))), h))))))))) : (z_J G (d + 1) (m_X2_seatFrom z_pu0) r) 0 [some (.ref x0), some (.int x1), none, none, none] [] h := z_bq (v_X2 z_pu0 (vP_X2_seatFrom z_pu0) hPu) hd_X2_seatFrom 23 hT
set_option maxRecDepth 20000 in
theorem b_X2_seatFrom_54 {G : z_G} {d : Nat} {r : z_Res} (hPu : z_PuV G d (t_X2 z_pu0)) {h : z_H} {x0 : Nat} {x1 : Int32} {x2 : Int32} {x3 : Int32} {x4 : Int32} (hT : (z_kd h x0 = 18 ∧ (if x4 < (z_oi h x0 4) then (z_kd h x0 = 18 ∧ (if (z_oi h x0 9) = (nI 0) then (if x3 = (nI 0) then (if ((x2 >>> (x4 &&& (nI 31))) &&& (nI 1)) = (nI 0) then (z_J G (d + 1) (m_X2_seatFrom z_pu0) r) 54 [some (.ref x0), some (.int x1), some (.int x2), some (.int x3), some (.int (x4 + (nI 1)))] [] h else (z_kd h x0 = 18 ∧ ∃ x_2 h_1, z_Ev G d k_X2_leavesRoom [.ref x0, .int x1, .int x4] h (.inl (some (.int x_2)), h_1) ∧ (if x_2 = (nI 0) then (z_J G (d + 1) (m_X2_seatFrom z_pu0) r) 54 [some (.ref x0), some (.int x1), some (.int x2), some (.int x3), some (.int (x4 + (nI 1)))] [] h_1 else (z_kd h_1 x0 = 18 ∧ (z_rc (z_or h_1 x0 11) False (fun x_3 => (z_kd h_1 x_3 = 1 ∧ vp_in x1 (z_ln h_1 x_3) ∧ (z_kd (z_pai h_1 x_3 (Int32.toNatClampNeg x1) x4) x0 = 18 ∧ ∃ x_5 h_4, z_Ev G d k_X2_seatFrom [.ref x0, .int (x1 + (nI 1))] (z_pai h_1 x_3 (Int32.toNatClampNeg x1) x4) (.inl (some (.int x_5)), h_4) ∧ (z_J G (d + 1) (m_X2_seatFrom z_pu0) r) 54 [some (.ref x0), some (.int x1), some (.int x2), some (.int (x3 + x_5)), some (.int (x4 + (nI 1)))] [] h_4)))))))) else r = (.inl (some (.int x3)), h)) else (if ((x2 >>> (x4 &&& (nI 31))) &&& (nI 1)) = (nI 0) then (z_J G (d + 1) (m_X2_seatFrom z_pu0) r) 54 [some (.ref x0), some (.int x1), some (.int x2), some (.int x3), some (.int (x4 + (nI 1)))] [] h else (z_kd h x0 = 18 ∧ ∃ x_7 h_6, z_Ev G d k_X2_leavesRoom [.ref x0, .int x1, .int x4] h (.inl (some (.int x_7)), h_6) ∧ (if x_7 = (nI 0) then (z_J G (d + 1) (m_X2_seatFrom z_pu0) r) 54 [some (.ref x0), some (.int x1), some (.int x2), some (.int x3), some (.int (x4 + (nI 1)))] [] h_6 else (z_kd h_6 x0 = 18 ∧ (z_rc (z_or h_6 x0 11) False (fun x_8 => (z_kd h_6 x_8 = 1 ∧ vp_in x1 (z_ln h_6 x_8) ∧ (z_kd (z_pai h_6 x_8 (Int32.toNatClampNeg x1) x4) x0 = 18 ∧ ∃ x_10 h_9, z_Ev G d k_X2_seatFrom [.ref x0, .int (x1 + (nI 1))] (z_pai h_6 x_8 (Int32.toNatClampNeg x1) x4) (.inl (some (.int x_10)), h_9) ∧ (z_J G (d + 1) (m_X2_seatFrom z_pu0) r) 54 [some (.ref x0), some (.int x1), some (.int x2), some (.int (x3 + x_10)), some (.int (x4 + (nI 1)))] [] h_9)))))))))) else r = (.inl (some (.int x3)), h)))) : (z_J G (d + 1) (m_X2_seatFrom z_pu0) r) 54 [some (.ref x0), some (.int x1), some (.int x2), some (.int x3), some (.int x4)] [] h := z_bq (v_X2 z_pu0 (vP_X2_seatFrom z_pu0) hPu) hd_X2_seatFrom 38 hT
/-! THE DRAWER: seats from a point on -/
def d_rm (TL LI T : Nat → Nat) (tf : Nat) (R0 P : Nat → Nat) : Nat → Nat → Nat
  | 0, r => R0 r
  | p + 1, r => d_nx TL LI T P tf p (P p) r (d_rm TL LI T tf R0 P p r)
def d_gs (TL LI T : Nat → Nat) (tf n pl : Nat) (al : Bool) (R0 : Nat → Nat) : Nat → Nat → (Nat → Nat) → Option (Nat → Nat) → Nat × Option (Nat → Nat)
  | 0, _, P, f => (1, some (f.getD P))
  | k + 1, p, P, f => it (fun v (a : Nat × Option (Nat → Nat)) => if ((al || decide (a.1 = 0)) && ((d_rm TL LI T tf R0 P p p).testBit v && d_ok TL LI T P tf n p v (d_rm TL LI T tf R0 P p))) = true then (a.1 + (d_gs TL LI T tf n pl al R0 k (p + 1) (z_u P p v) a.2).1, (d_gs TL LI T tf n pl al R0 k (p + 1) (z_u P p v) a.2).2) else a) (0, f) pl
def d_gF (TL LI T : Nat → Nat) (tf n pl : Nat) (al : Bool) (R0 : Nat → Nat) (k p : Nat) (P : Nat → Nat) : Nat → Nat × Option (Nat → Nat) → Nat × Option (Nat → Nat) := fun v a => if ((al || decide (a.1 = 0)) && ((d_rm TL LI T tf R0 P p p).testBit v && d_ok TL LI T P tf n p v (d_rm TL LI T tf R0 P p))) = true then (a.1 + (d_gs TL LI T tf n pl al R0 k (p + 1) (z_u P p v) a.2).1, (d_gs TL LI T tf n pl al R0 k (p + 1) (z_u P p v) a.2).2) else a
theorem d_gs_s (TL LI T : Nat → Nat) (tf n pl : Nat) (al : Bool) (R0 : Nat → Nat) (k p : Nat) (P : Nat → Nat) (f : Option (Nat → Nat)) : d_gs TL LI T tf n pl al R0 (k + 1) p P f = it (d_gF TL LI T tf n pl al R0 k p P) (0, f) pl := rfl
def fdv (n : Nat) (f : Option (Nat → Nat)) (i : Nat) : Int32 := match f with
  | none => mI
  | some Q => if 1 ≤ i ∧ i ≤ n then nI (Q (i - 1)) else mI
def fdk (n : Nat) (f : Option (Nat → Nat)) (fd : Nat → Int32) : Prop := (∀ i, i < 9 → fd i = fdv n f i) ∧ ∀ Q, f = some Q → Q 0 < 2 ^ 31
section HJ1
variable {G : z_G} {d x a n pl tf : Nat} {g : z_H} {al : Bool} {TL LI T R0 : Nat → Nat}
theorem d_lf_c {P P' : Nat → Nat} {p v r : Nat} : ∀ k y, k ≤ p → (∀ q, q < p → P q = P' q) → it (d_lfF TL LI P p v r) y k = it (d_lfF TL LI P' p v r) y k := fun k y hk h => it_congr k (fun i z hi => by unfold d_lfF; rw [h i (by omega)])
theorem d_nx_c {P P' : Nat → Nat} {p v r y : Nat} (h : ∀ q, q < p → P q = P' q) : d_nx TL LI T P tf p v r y = d_nx TL LI T P' tf p v r y := d_lf_c p _ (Nat.le_refl _) h
theorem d_rm_c {P P' : Nat → Nat} : ∀ p r, (∀ q, q < p → P q = P' q) → d_rm TL LI T tf R0 P p r = d_rm TL LI T tf R0 P' p r := by
  intro p
  induction p with
  | zero => intro r _; rfl
  | succ p ih =>
    intro r h
    unfold d_rm
    rw [ih r (fun q hq => h q (by omega)), h p (by omega), d_nx_c (fun q hq => h q (by omega))]
theorem d_rm_u (P : Nat → Nat) (p v r : Nat) : d_rm TL LI T tf R0 (z_u P p v) (p + 1) r = d_nx TL LI T P tf p v r (d_rm TL LI T tf R0 P p r) := by
  show d_nx TL LI T (z_u P p v) tf p (z_u P p v p) r (d_rm TL LI T tf R0 (z_u P p v) p r) = _
  rw [u_eq, d_nx_c (P' := P) (fun q hq => u_ne _ _ (by omega)), d_rm_c (P' := P) p r (fun q hq => u_ne _ _ (by omega))]
theorem d_rm_lt {P : Nat → Nat} (h0 : ∀ r, r < 8 → R0 r < 2 ^ 16) : ∀ p r, r < 8 → d_rm TL LI T tf R0 P p r < 2 ^ 16 := by
  intro p
  induction p with
  | zero => intro r hr; exact h0 r hr
  | succ p ih => intro r hr; exact d_nx_lt (ih r hr)
theorem d_ok_c {P : Nat → Nat} {p v : Nat} {X Y : Nat → Nat} (h : ∀ r, p < r → r < n → X r = Y r) : d_ok TL LI T P tf n p v X = d_ok TL LI T P tf n p v Y := by
  unfold d_ok
  have e : ∀ i, i < n - (p + 1) → decide (d_nx TL LI T P tf p v (p + 1 + i) (X (p + 1 + i)) = 0) = decide (d_nx TL LI T P tf p v (p + 1 + i) (Y (p + 1 + i)) = 0) := fun i hi => by
    rw [h (p + 1 + i) (by omega) (by omega)]
  cases c : c_any (fun i => decide (d_nx TL LI T P tf p v (p + 1 + i) (Y (p + 1 + i)) = 0)) (n - (p + 1))
  · rw [any_f (fun i hi => by rw [e i hi]; exact any_fiff.mp c i hi)]
  · cases c' : c_any (fun i => decide (d_nx TL LI T P tf p v (p + 1 + i) (X (p + 1 + i)) = 0)) (n - (p + 1))
    · rw [any_f (fun i hi => by rw [← e i hi]; exact any_fiff.mp c' i hi)] at c
      cases c
    · rfl
theorem d_gs_le (k : Nat) : ∀ p P f, (d_gs TL LI T tf n pl false R0 k p P f).1 ≤ 1 := by
  induction k with
  | zero => intro p P f; exact Nat.le_refl _
  | succ k ih =>
    intro p P f
    rw [d_gs_s]
    refine it_bdm (P := fun (a : Nat × Option (Nat → Nat)) => a.1 ≤ 1) (by show 0 ≤ 1; decide) (fun v a hv ha => ?_) pl (Nat.le_refl _)
    unfold d_gF
    by_cases c : ((false || decide (a.1 = 0)) && ((d_rm TL LI T tf R0 P p p).testBit v && d_ok TL LI T P tf n p v (d_rm TL LI T tf R0 P p))) = true
    · rw [if_pos c]
      rw [Bool.false_or, Bool.and_eq_true] at c
      have := of_decide_eq_true c.1
      have := ih (p + 1) (z_u P p v) a.2
      show a.1 + _ ≤ 1
      omega
    · rw [if_neg c]; exact ha
theorem d_gF_stay {k p : Nat} {P : Nat → Nat} {f : Option (Nat → Nat)} {v : Nat} (h : (it (d_gF TL LI T tf n pl false R0 k p P) (0, f) v).1 ≠ 0) : ∀ j, it (d_gF TL LI T tf n pl false R0 k p P) (0, f) (v + j) = it (d_gF TL LI T tf n pl false R0 k p P) (0, f) v := by
  intro j
  induction j with
  | zero => rfl
  | succ j ih =>
    rw [← Nat.add_assoc, it_s, ih]
    have e : ∀ a : Nat × Option (Nat → Nat), a.1 ≠ 0 → d_gF TL LI T tf n pl false R0 k p P (v + j) a = a := fun a ha => by
      unfold d_gF
      rw [if_neg]
      rw [Bool.false_or, decide_eq_false ha, Bool.false_and]
      decide
    exact e _ h
theorem e2_seatFrom (c : dcf g x a n pl tf al TL LI T) (h0 : ∀ r, r < 8 → R0 r < 2 ^ 16) : ∀ k p (P : Nat → Nat) (f : Option (Nat → Nat)) (s : Nat → Int32) (R : Nat → Nat) (fd : Nat → Int32), p + k = n → (∀ q, q < p → s q = nI (P q) ∧ P q < 16) → (∀ r, p ≤ r → r < n → R (p * 8 + r) = d_rm TL LI T tf R0 P p r) → fdk n f fd → ∃ (s' : Nat → Int32) (R' : Nat → Nat) (fd' : Nat → Int32), z_Ev G (d + k + 2) k_X2_seatFrom [.ref x, .int (nI p)] (dw g x a s (fun i => nI (R i)) fd) (.inl (some (.int (nI (d_gs TL LI T tf n pl al R0 k p P f).1))), dw g x a s' (fun i => nI (R' i)) fd') ∧ (∀ q, q < p → s' q = nI (P q)) ∧ (∀ i, i < p * 8 + 8 → R' i = R i) ∧ fdk n (d_gs TL LI T tf n pl al R0 k p P f).2 fd' := by
  have c0 := c
  obtain ⟨⟨ds, o4, o5, o8, o9⟩, -, -, -, ⟨o13, k13, l13⟩, ⟨a4, a5, a6⟩, ⟨n1, n8⟩, hpl, htf⟩ := c0
  obtain ⟨s0, -, -, -, -, -, ⟨u1, u2, u3⟩, ⟨w1, w2, w3⟩⟩ := ds
  intro k
  induction k with
  | zero =>
    intro p P f s R fd hp hs hR hf
    have en : p = n := by omega
    subst en
    obtain ⟨hf1, hf2⟩ := hf
    have fE : z_ai (dw g x a s (fun i => nI (R i)) fd) a = fd := dw_f _ _ _ _ _ _
    have sE : z_ai (dw g x a s (fun i => nI (R i)) fd) (x + 1 + 5) = s := dw_s _ _ _ _ _ _ a5
    have X5 : z_oi (dw g x a s (fun i => nI (R i)) fd) x 5 = nI p := o5
    have X13 : z_or (dw g x a s (fun i => nI (R i)) fd) x 13 = some a := o13
    have X11 : z_or (dw g x a s (fun i => nI (R i)) fd) x 11 = some (x + 1 + 5) := u1
    have La : z_ln (dw g x a s (fun i => nI (R i)) fd) a = 9 := l13
    have Ls : z_ln (dw g x a s (fun i => nI (R i)) fd) (x + 1 + 5) = 8 := u3
    cases f with
    | none =>
      have e1 : fd 1 = mI := hf1 1 (by decide)
      refine ⟨s, R, va_cpy s fd 0 1 p, en_X2_seatFrom (b_X2_seatFrom_0 (z_pu0V rfl) ⟨s0, ?_⟩), fun q hq => (hs q hq).1, fun _ _ => rfl, fun i hi => ?_, fun Q hQ => ?_⟩
      · rw [X5, if_neg (nI_nlt (Nat.le_refl _) (by omega)), X13, z_rcs, nI_clamp (show 1 < 2 ^ 31 by decide), fE, e1, if_pos rfl, X11, z_rcs, z_rcs, nI_clamp (show 0 < 2 ^ 31 by decide), nI_clamp (show p < 2 ^ 31 by omega), sE, fE, dw_xf, La, Ls]
        exact ⟨s0, k13, vp_in_nI (by decide) (by decide), s0, s0, s0, ⟨by decide, by decide, nI_pos (by omega), by omega, by omega⟩, Or.inl ⟨u2, k13, rfl⟩⟩
      · show va_cpy s fd 0 1 p i = if 1 ≤ i ∧ i ≤ p then nI (P (i - 1)) else mI
        unfold va_cpy
        by_cases ci : 1 ≤ i ∧ i ≤ p
        · rw [if_pos ci, if_pos (by omega), Nat.zero_add]
          exact (hs (i - 1) (by omega)).1
        · rw [if_neg ci, if_neg (by omega)]
          exact hf1 i hi
      · have : Q = P := (Option.some.inj hQ).symm
        rw [this]
        have := (hs 0 (by omega)).2
        omega
    | some Q =>
      have e1 : fd 1 = nI (Q 0) := by
        rw [hf1 1 (by decide)]
        show (if 1 ≤ 1 ∧ 1 ≤ p then nI (Q (1 - 1)) else mI) = _
        rw [if_pos ⟨Nat.le_refl _, by omega⟩]
      have q0 := hf2 Q rfl
      refine ⟨s, R, fd, en_X2_seatFrom (b_X2_seatFrom_0 (z_pu0V rfl) ⟨s0, ?_⟩), fun q hq => (hs q hq).1, fun _ _ => rfl, hf1, hf2⟩
      rw [X5, if_neg (nI_nlt (Nat.le_refl _) (by omega)), X13, z_rcs, nI_clamp (show 1 < 2 ^ 31 by decide), fE, e1, if_neg (show ¬ nI (Q 0) = mI from t_ne1 q0), La]
      exact ⟨s0, k13, vp_in_nI (by decide) (by decide), rfl⟩
  | succ k ih =>
    intro p P f s R fd hp hs hR hf
    have hp8 : p < 8 := by omega
    obtain ⟨fr, efr⟩ : ∃ fr, fr = d_rm TL LI T tf R0 P p p := ⟨_, rfl⟩
    have frb : fr < 2 ^ 16 := by rw [efr]; exact d_rm_lt h0 p p hp8
    have rb : ∀ r, r < 8 → d_rm TL LI T tf R0 P p r < 2 ^ 16 := d_rm_lt h0 p
    obtain ⟨Fn, eFn⟩ : ∃ Fn, Fn = d_gF TL LI T tf n pl al R0 k p P := ⟨_, rfl⟩
    rw [d_gs_s, ← eFn]
    have ok_of : ∀ R1 : Nat → Nat, (∀ i, i < p * 8 + 8 → R1 i = R i) → ∀ v, d_ok TL LI T P tf n p v (fun r => R1 (p * 8 + r)) = d_ok TL LI T P tf n p v (d_rm TL LI T tf R0 P p) := fun R1 h1 v => d_ok_c (fun r h2 h3 => by
      show R1 (p * 8 + r) = _
      rw [h1 _ (by omega)]; exact hR r (by omega) h3)
    have loop : ∀ (j v sm : Nat) (f1 : Option (Nat → Nat)) (s1 : Nat → Int32) (R1 : Nat → Nat) (fd1 : Nat → Int32), v + j = pl → it Fn (0, f) v = (sm, f1) → (∀ q, q < p → s1 q = nI (P q)) → (∀ i, i < p * 8 + 8 → R1 i = R i) → fdk n f1 fd1 → ∃ (s' : Nat → Int32) (R' : Nat → Nat) (fd' : Nat → Int32), z_J G (d + (k + 1) + 2) (m_X2_seatFrom z_pu0) (.inl (some (.int (nI (it Fn (0, f) pl).1))), dw g x a s' (fun i => nI (R' i)) fd') 54 [some (.ref x), some (.int (nI p)), some (.int (nI fr)), some (.int (nI sm)), some (.int (nI v))] [] (dw g x a s1 (fun i => nI (R1 i)) fd1) ∧ (∀ q, q < p → s' q = nI (P q)) ∧ (∀ i, i < p * 8 + 8 → R' i = R i) ∧ fdk n (it Fn (0, f) pl).2 fd' := by
      intro j
      induction j with
      | zero =>
        intro v sm f1 s1 R1 fd1 hv hit h1 h2 h3
        have ev : v = pl := by omega
        subst ev
        rw [hit]
        refine ⟨s1, R1, fd1, b_X2_seatFrom_54 (z_pu0V rfl) ⟨s0, ?_⟩, h1, h2, h3⟩
        rw [show z_oi (dw g x a s1 (fun i => nI (R1 i)) fd1) x 4 = nI v from o4, if_neg (nI_nlt (Nat.le_refl _) (by omega))]
      | succ j ihj =>
        intro v sm f1 s1 R1 fd1 hv hit h1 h2 h3
        obtain ⟨H, eH⟩ : ∃ H, H = dw g x a s1 (fun i => nI (R1 i)) fd1 := ⟨_, rfl⟩
        have kx : z_kd H x = 18 := by rw [eH]; exact s0
        have x4 : z_oi H x 4 = nI pl := by rw [eH]; exact o4
        have x9 : z_oi H x 9 = nI al.toNat := by rw [eH]; exact o9
        by_cases cs : al = false ∧ sm ≠ 0
        · -- enough
          obtain ⟨ca, csm⟩ := cs
          subst ca
          have hle : sm ≤ 1 := by
            have : (it Fn (0, f) v).1 ≤ 1 := by
              rw [eFn]
              refine it_bdm (P := fun (a : Nat × Option (Nat → Nat)) => a.1 ≤ 1) (by show 0 ≤ 1; decide) (fun v a hv ha => ?_) v (Nat.le_refl _)
              unfold d_gF
              by_cases c : ((false || decide (a.1 = 0)) && ((d_rm TL LI T tf R0 P p p).testBit v && d_ok TL LI T P tf n p v (d_rm TL LI T tf R0 P p))) = true
              · rw [if_pos c]
                rw [Bool.false_or, Bool.and_eq_true] at c
                have := of_decide_eq_true c.1
                have := d_gs_le (TL := TL) (LI := LI) (T := T) (tf := tf) (n := n) (pl := pl) (R0 := R0) k (p + 1) (z_u P p v) a.2
                show a.1 + _ ≤ 1
                omega
              · rw [if_neg c]; exact ha
            rw [hit] at this
            exact this
          have hst : it Fn (0, f) pl = (sm, f1) := by
            rw [← hv, eFn, d_gF_stay, ← eFn, hit]
            rw [← eFn, hit]; exact csm
          rw [hst]
          refine ⟨s1, R1, fd1, ?_, h1, h2, h3⟩
          rw [← eH]
          refine b_X2_seatFrom_54 (z_pu0V rfl) ⟨kx, ?_⟩
          rw [x4, if_pos (nI_lt (by omega) (by omega)), x9, if_pos (by rfl), if_neg (fun e => csm ((nI_eq (by omega) (by decide)).mp e))]
          exact ⟨kx, by rw [eH]⟩
        · -- one place more
          have hal : (al || decide (sm = 0)) = true := by
            cases al
            · rw [Bool.false_or]
              apply decide_eq_true
              apply Classical.byContradiction
              exact fun e => cs ⟨rfl, e⟩
            · rfl
          have estep : it Fn (0, f) (v + 1) = if ((d_rm TL LI T tf R0 P p p).testBit v && d_ok TL LI T P tf n p v (d_rm TL LI T tf R0 P p)) = true then (sm + (d_gs TL LI T tf n pl al R0 k (p + 1) (z_u P p v) f1).1, (d_gs TL LI T tf n pl al R0 k (p + 1) (z_u P p v) f1).2) else (sm, f1) := by
            rw [it_s, hit, eFn]
            show (if ((al || decide (sm = 0)) && _) = true then _ else _) = _
            rw [hal, Bool.true_and]
          rw [← efr] at estep
          have body : ∃ (s' : Nat → Int32) (R' : Nat → Nat) (fd' : Nat → Int32), (if (nI fr >>> (nI v &&& nI 31)) &&& nI 1 = nI 0 then z_J G (d + (k + 1) + 2) (m_X2_seatFrom z_pu0) (.inl (some (.int (nI (it Fn (0, f) pl).1))), dw g x a s' (fun i => nI (R' i)) fd') 54 [some (.ref x), some (.int (nI p)), some (.int (nI fr)), some (.int (nI sm)), some (.int (nI (v + 1)))] [] H else (z_kd H x = 18 ∧ ∃ x_2 h_1, z_Ev G (d + k + 2) k_X2_leavesRoom [.ref x, .int (nI p), .int (nI v)] H (.inl (some (.int x_2)), h_1) ∧ (if x_2 = nI 0 then z_J G (d + (k + 1) + 2) (m_X2_seatFrom z_pu0) (.inl (some (.int (nI (it Fn (0, f) pl).1))), dw g x a s' (fun i => nI (R' i)) fd') 54 [some (.ref x), some (.int (nI p)), some (.int (nI fr)), some (.int (nI sm)), some (.int (nI (v + 1)))] [] h_1 else (z_kd h_1 x = 18 ∧ z_rc (z_or h_1 x 11) False (fun x_3 => (z_kd h_1 x_3 = 1 ∧ vp_in (nI p) (z_ln h_1 x_3) ∧ (z_kd (z_pai h_1 x_3 (Int32.toNatClampNeg (nI p)) (nI v)) x = 18 ∧ ∃ x_5 h_4, z_Ev G (d + k + 2) k_X2_seatFrom [.ref x, .int (nI p + nI 1)] (z_pai h_1 x_3 (Int32.toNatClampNeg (nI p)) (nI v)) (.inl (some (.int x_5)), h_4) ∧ z_J G (d + (k + 1) + 2) (m_X2_seatFrom z_pu0) (.inl (some (.int (nI (it Fn (0, f) pl).1))), dw g x a s' (fun i => nI (R' i)) fd') 54 [some (.ref x), some (.int (nI p)), some (.int (nI fr)), some (.int (nI sm + x_5)), some (.int (nI (v + 1)))] [] h_4)))))) ) ∧ (∀ q, q < p → s' q = nI (P q)) ∧ (∀ i, i < p * 8 + 8 → R' i = R i) ∧ fdk n (it Fn (0, f) pl).2 fd' := by
            rw [show (nI fr >>> (nI v &&& nI 31)) &&& nI 1 = nI (fr.testBit v).toNat from n_bit (by omega) (by omega)]
            cases cb : fr.testBit v
            · rw [cb, Bool.false_and, if_neg (by decide)] at estep
              obtain ⟨s', R', fd', hJ, r1⟩ := ihj (v + 1) sm f1 s1 R1 fd1 (by omega) estep h1 h2 h3
              refine ⟨s', R', fd', ?_, r1⟩
              rw [if_pos (by rfl), eH]
              exact hJ
            · rw [cb, Bool.true_and] at estep
              obtain ⟨R2, ev2, q1, q2⟩ := e2_leavesRoom (G := G) (d := d + k + 1) (s := s1) (f := fd1) (P := P) c (p := p) (v := v) (by omega) (by omega) (fun q hq => ⟨h1 q hq, (hs q hq).2⟩) R1 (fun r h4 h5 => by rw [h2 _ (by omega), hR r (by omega) h5]; exact rb r (by omega))
              rw [ok_of R1 h2] at ev2 q2
              rw [← eH] at ev2
              have q1' : ∀ i, i < p * 8 + 8 → R2 i = R i := fun i hi => by rw [q1 i hi]; exact h2 i hi
              cases ck : d_ok TL LI T P tf n p v (d_rm TL LI T tf R0 P p)
              · rw [ck, if_neg (by decide)] at estep
                rw [ck] at ev2
                obtain ⟨s', R', fd', hJ, r1⟩ := ihj (v + 1) sm f1 s1 R2 fd1 (by omega) estep h1 q1' h3
                refine ⟨s', R', fd', ?_, r1⟩
                rw [if_neg (by decide)]
                refine ⟨kx, _, _, ev2, ?_⟩
                rw [if_pos (by rfl)]
                exact hJ
              · rw [ck, if_pos rfl] at estep
                rw [ck] at ev2
                have q2' := q2 ck
                obtain ⟨s3, R3, fd3, ev3, t1, t2, t3⟩ := ih (p + 1) (z_u P p v) f1 (z_u s1 p (nI v)) R2 fd1 (by omega) (fun q hq => by
                  by_cases e : q = p
                  · rw [e, u_eq, u_eq]; exact ⟨rfl, by omega⟩
                  · rw [u_ne _ _ e, u_ne _ _ e]; exact ⟨h1 q (by omega), (hs q (by omega)).2⟩) (fun r h4 h5 => by
                  rw [d_rm_u, show (p + 1) * 8 + r = p * 8 + 8 + r by omega, q2' r (by omega) h5, h2 _ (by omega), hR r (by omega) h5]) h3
                obtain ⟨s', R', fd', hJ, r1⟩ := ihj (v + 1) _ _ s3 R3 fd3 (by omega) estep (fun q hq => by rw [t1 q (by omega), u_ne _ _ (by omega)]) (fun i hi => by rw [t2 i (by omega)]; exact q1' i hi) t3
                refine ⟨s', R', fd', ?_, r1⟩
                rw [if_neg (by decide)]
                refine ⟨kx, _, _, ev2, ?_⟩
                rw [if_neg (by decide), show z_or (dw g x a s1 (fun i => nI (R2 i)) fd1) x 11 = some (x + 1 + 5) from u1, z_rcs, nI_clamp (show p < 2 ^ 31 by omega), dw_ps _ _ _ _ _ _ _ _ a5, nI_add]
                refine ⟨s0, u2, by rw [show z_ln (dw g x a s1 (fun i => nI (R2 i)) fd1) (x + 1 + 5) = 8 from u3]; exact vp_in_nI hp8 (by decide), s0, _, _, ev3, ?_⟩
                rw [nI_add]
                exact hJ
          obtain ⟨s', R', fd', hB, r1⟩ := body
          refine ⟨s', R', fd', ?_, r1⟩
          rw [← eH]
          refine b_X2_seatFrom_54 (z_pu0V rfl) ⟨kx, ?_⟩
          rw [x4, if_pos (nI_lt (by omega) (by omega)), x9, nI_add]
          refine ⟨kx, ?_⟩
          cases al
          · rw [if_pos (by rfl)]
            rw [Bool.false_or] at hal
            rw [of_decide_eq_true hal] at hB ⊢
            rw [if_pos rfl]
            exact hB
          · rw [if_neg (by decide)]
            exact hB
    obtain ⟨s', R', fd', hJ, r1, r2, r3⟩ := loop pl 0 0 f s R fd (by omega) rfl (fun q hq => (hs q hq).1) (fun _ _ => rfl) hf
    refine ⟨s', R', fd', en_X2_seatFrom (b_X2_seatFrom_0 (z_pu0V rfl) ⟨s0, ?_⟩), r1, r2, r3⟩
    rw [show z_oi (dw g x a s (fun i => nI (R i)) fd) x 5 = nI n from o5, if_pos (nI_lt (by omega) (by omega)), show z_or (dw g x a s (fun i => nI (R i)) fd) x 12 = some (x + 1 + 6) from w1, z_rcs, n_mul, nI_add, nI_clamp (show p * 8 + p < 2 ^ 31 by omega), dw_m _ _ _ _ _ _ a6, hR p (Nat.le_refl _) (by omega), ← efr]
    exact ⟨s0, w2, by rw [show z_ln (dw g x a s (fun i => nI (R i)) fd) (x + 1 + 6) = 72 from w3]; exact vp_in_nI (by omega) (by decide), hJ⟩
end HJ1
