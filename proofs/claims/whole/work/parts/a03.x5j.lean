theorem en_X5_symmetric {pu : Nat → Option ((List Value → z_H → Prop) × (List Value → z_H → Int32))} {G : z_G} {d : Nat} {r : z_Res} {h : z_H} {x0 : Nat} {x1 : Nat} {x2 : Int32} {x3 : Int32} (hJ : z_J G d (m_X5_symmetric pu) r 0 [some (.ref x0), some (.ref x1), some (.int x2), some (.int x3)] [] h) : z_Ev G d k_X5_symmetric [.ref x0, .ref x1, .int x2, .int x3] h r := z_enter (μ := m_X5_symmetric pu) rfl (by decide) rfl rfl (fun q => by cases q) (Nat.le_of_ble_eq_true rfl) hJ
def hd_X5_symmetric : Nat → Option (List Bool) := (fun k => (cond (Nat.blt k 44) (cond (Nat.blt k 27) (cond (Nat.beq k 16) (some [true, true, true, true]) none) (cond (Nat.blt k 37) (cond (Nat.beq k 27) (some [true, true, true, true]) none) (cond (Nat.beq k 37) (some [true, false, false, true]) none))) none))
set_option maxRecDepth 20000 in
theorem b_X5_symmetric_0 {G : z_G} {d : Nat} {r : z_Res} (hPu : z_PuV G d (t_X5 z_pu0)) {h : z_H} {x0 : Nat} {x1 : Nat} {x2 : Int32} {x3 : Int32} (hT : (z_kd h x0 = 21 ∧ (z_rc (z_or h x0 6) (if (none : Option Nat) = (some x1) then (z_kd h x0 = 21 ∧ (if (z_oi h x0 7) = x2 then (z_J G (d + 1) (m_X5_symmetric z_pu0) r) 37 [some (.ref x0), none, none, some (.int x3)] [] h else (z_J G (d + 1) (m_X5_symmetric z_pu0) r) 16 [some (.ref x0), some (.ref x1), some (.int x2), some (.int x3)] [] h)) else (z_J G (d + 1) (m_X5_symmetric z_pu0) r) 16 [some (.ref x0), some (.ref x1), some (.int x2), some (.int x3)] [] h) (fun x_1 => (if ((some x_1) : Option Nat) = (some x1) then (z_kd h x0 = 21 ∧ (if (z_oi h x0 7) = x2 then (z_J G (d + 1) (m_X5_symmetric z_pu0) r) 37 [some (.ref x0), none, none, some (.int x3)] [] h else (z_J G (d + 1) (m_X5_symmetric z_pu0) r) 16 [some (.ref x0), some (.ref x1), some (.int x2), some (.int x3)] [] h)) else (z_J G (d + 1) (m_X5_symmetric z_pu0) r) 16 [some (.ref x0), some (.ref x1), some (.int x2), some (.int x3)] [] h))))) : (z_J G (d + 1) (m_X5_symmetric z_pu0) r) 0 [some (.ref x0), some (.ref x1), some (.int x2), some (.int x3)] [] h := z_bq (v_X5 z_pu0 (vP_X5_symmetric z_pu0) hPu) hd_X5_symmetric 11 hT
set_option maxRecDepth 20000 in
theorem b_X5_symmetric_37 {G : z_G} {d : Nat} {r : z_Res} (hPu : z_PuV G d (t_X5 z_pu0)) {h : z_H} {x0 : Nat} {x3 : Int32} (hT : (z_kd h x0 = 21 ∧ (z_rc (z_or h x0 8) False (fun x_1 => (z_kd h x_1 = 1 ∧ vp_in x3 (z_ln h x_1) ∧ r = (.inl (some (.int (z_ai h x_1 (Int32.toNatClampNeg x3)))), h)))))) : (z_J G (d + 1) (m_X5_symmetric z_pu0) r) 37 [some (.ref x0), none, none, some (.int x3)] [] h := z_bq (v_X5 z_pu0 (vP_X5_symmetric z_pu0) hPu) hd_X5_symmetric 7 hT
set_option maxRecDepth 20000 in
theorem b_X5_symmetric_16 {G : z_G} {d : Nat} {r : z_Res} (hPu : z_PuV G d (t_X5 z_pu0)) {h : z_H} {x0 : Nat} {x1 : Nat} {x2 : Int32} {x3 : Int32} (hT : (z_kd h x0 = 21 ∧ ∃ o_2 h_1, z_Ev G d k_X5_measured [.ref x0, .ref x1] h (.inl (some (va_rf o_2)), h_1) ∧ (z_rc o_2 (z_kd h_1 x0 = 21 ∧ ∃ h_4, z_Ev G d k_X5_findSymmetric [.ref x0, .ref x1, .null, .int x2] h_1 (.inl none, h_4) ∧ (z_J G (d + 1) (m_X5_symmetric z_pu0) r) 27 [some (.ref x0), some (.ref x1), some (.int x2), some (.int x3)] [] h_4) (fun x_3 => (z_kd h_1 x0 = 21 ∧ ∃ h_5, z_Ev G d k_X5_findSymmetric [.ref x0, .ref x1, .ref x_3, .int x2] h_1 (.inl none, h_5) ∧ (z_J G (d + 1) (m_X5_symmetric z_pu0) r) 27 [some (.ref x0), some (.ref x1), some (.int x2), some (.int x3)] [] h_5))))) : (z_J G (d + 1) (m_X5_symmetric z_pu0) r) 16 [some (.ref x0), some (.ref x1), some (.int x2), some (.int x3)] [] h := z_bq (v_X5 z_pu0 (vP_X5_symmetric z_pu0) hPu) hd_X5_symmetric 10 hT
set_option maxRecDepth 20000 in
theorem b_X5_symmetric_27 {G : z_G} {d : Nat} {r : z_Res} (hPu : z_PuV G d (t_X5 z_pu0)) {h : z_H} {x0 : Nat} {x1 : Nat} {x2 : Int32} {x3 : Int32} (hT : (z_kd h x0 = 21 ∧ (z_kd (z_por h x0 6 (some x1)) x0 = 21 ∧ (z_J G (d + 1) (m_X5_symmetric z_pu0) r) 37 [some (.ref x0), none, none, some (.int x3)] [] (z_poi (z_por h x0 6 (some x1)) x0 7 x2)))) : (z_J G (d + 1) (m_X5_symmetric z_pu0) r) 27 [some (.ref x0), some (.ref x1), some (.int x2), some (.int x3)] [] h := z_bq (v_X5 z_pu0 (vP_X5_symmetric z_pu0) hPu) hd_X5_symmetric 9 hT
theorem en_X5_withinWays {pu : Nat → Option ((List Value → z_H → Prop) × (List Value → z_H → Int32))} {G : z_G} {d : Nat} {r : z_Res} {h : z_H} {x0 : Nat} {x1 : Nat} {x2 : Nat} (hJ : z_J G d (m_X5_withinWays pu) r 0 [some (.ref x0), some (.ref x1), some (.ref x2)] [] h) : z_Ev G d k_X5_withinWays [.ref x0, .ref x1, .ref x2] h r := z_enter (μ := m_X5_withinWays pu) rfl (by decide) rfl rfl (fun q => by cases q) (Nat.le_of_ble_eq_true rfl) hJ
def hd_X5_withinWays : Nat → Option (List Bool) := (fun k => (cond (Nat.blt k 112) (cond (Nat.blt k 97) (cond (Nat.blt k 65) (cond (Nat.beq k 16) (some [true, true, true]) none) (cond (Nat.beq k 65) (some [true, true, true]) none)) (cond (Nat.blt k 107) (cond (Nat.beq k 97) (some [true, true, true]) none) (cond (Nat.beq k 107) (some [true, false, false]) none))) none))
set_option maxRecDepth 20000 in
theorem b_X5_withinWays_0 {G : z_G} {d : Nat} {r : z_Res} (hPu : z_PuV G d (t_X5 z_pu0)) {h : z_H} {x0 : Nat} {x1 : Nat} {x2 : Nat} (hT : (z_kd h x0 = 21 ∧ (z_rc (z_or h x0 9) (if (none : Option Nat) = (some x1) then (z_kd h x0 = 21 ∧ (z_rc (z_or h x0 10) (if (none : Option Nat) = (some x2) then (z_J G (d + 1) (m_X5_withinWays z_pu0) r) 107 [some (.ref x0), none, none] [] h else (z_J G (d + 1) (m_X5_withinWays z_pu0) r) 16 [some (.ref x0), some (.ref x1), some (.ref x2)] [] h) (fun x_2 => (if ((some x_2) : Option Nat) = (some x2) then (z_J G (d + 1) (m_X5_withinWays z_pu0) r) 107 [some (.ref x0), none, none] [] h else (z_J G (d + 1) (m_X5_withinWays z_pu0) r) 16 [some (.ref x0), some (.ref x1), some (.ref x2)] [] h)))) else (z_J G (d + 1) (m_X5_withinWays z_pu0) r) 16 [some (.ref x0), some (.ref x1), some (.ref x2)] [] h) (fun x_1 => (if ((some x_1) : Option Nat) = (some x1) then (z_kd h x0 = 21 ∧ (z_rc (z_or h x0 10) (if (none : Option Nat) = (some x2) then (z_J G (d + 1) (m_X5_withinWays z_pu0) r) 107 [some (.ref x0), none, none] [] h else (z_J G (d + 1) (m_X5_withinWays z_pu0) r) 16 [some (.ref x0), some (.ref x1), some (.ref x2)] [] h) (fun x_3 => (if ((some x_3) : Option Nat) = (some x2) then (z_J G (d + 1) (m_X5_withinWays z_pu0) r) 107 [some (.ref x0), none, none] [] h else (z_J G (d + 1) (m_X5_withinWays z_pu0) r) 16 [some (.ref x0), some (.ref x1), some (.ref x2)] [] h)))) else (z_J G (d + 1) (m_X5_withinWays z_pu0) r) 16 [some (.ref x0), some (.ref x1), some (.ref x2)] [] h))))) : (z_J G (d + 1) (m_X5_withinWays z_pu0) r) 0 [some (.ref x0), some (.ref x1), some (.ref x2)] [] h := z_bq (v_X5 z_pu0 (vP_X5_withinWays z_pu0) hPu) hd_X5_withinWays 11 hT
set_option maxRecDepth 20000 in
theorem b_X5_withinWays_107 {G : z_G} {d : Nat} {r : z_Res} (hPu : z_PuV G d (t_X5 z_pu0)) {h : z_H} {x0 : Nat} (hT : (z_kd h x0 = 21 ∧ r = (.inl (some (.int (z_oi h x0 11))), h))) : (z_J G (d + 1) (m_X5_withinWays z_pu0) r) 107 [some (.ref x0), none, none] [] h := z_bq (v_X5 z_pu0 (vP_X5_withinWays z_pu0) hPu) hd_X5_withinWays 5 hT
set_option maxRecDepth 20000 in
theorem b_X5_withinWays_16 {G : z_G} {d : Nat} {r : z_Res} (hPu : z_PuV G d (t_X5 z_pu0)) {h : z_H} {x0 : Nat} {x1 : Nat} {x2 : Nat} (hT : (z_kd h x0 = 21 ∧ ∃ h_1, z_Ev G d k_X5_begin [.ref x0, .ref x1, .ref x2, .int (nI 0)] h (.inl none, h_1) ∧ (z_kd h_1 x1 = 24 ∧ (z_kd h_1 x2 = 24 ∧ (if (z_oi h_1 x2 0) < (z_oi h_1 x1 0) then (z_kd h_1 x0 = 21 ∧ (z_J G (d + 1) (m_X5_withinWays z_pu0) r) 65 [some (.ref x0), some (.ref x1), some (.ref x2)] [] (z_poi h_1 x0 11 (nI 0))) else (z_kd h_1 x1 = 24 ∧ (z_kd h_1 x2 = 24 ∧ (if (z_oi h_1 x2 1) < (z_oi h_1 x1 1) then (z_kd h_1 x0 = 21 ∧ (z_J G (d + 1) (m_X5_withinWays z_pu0) r) 65 [some (.ref x0), some (.ref x1), some (.ref x2)] [] (z_poi h_1 x0 11 (nI 0))) else (z_kd h_1 x0 = 21 ∧ ∃ x_3 h_2, z_Ev G d k_X5_tally [.ref x0, .int (nI 0), .int (nI 0), .int (nI 0)] h_1 (.inl (some (.int x_3)), h_2) ∧ (z_kd h_2 x0 = 21 ∧ ∃ x_5 h_4, z_Ev G d k_X5_twinOrders [.ref x0] h_2 (.inl (some (.int x_5)), h_4) ∧ (z_kd h_4 x0 = 21 ∧ (z_J G (d + 1) (m_X5_withinWays z_pu0) r) 65 [some (.ref x0), some (.ref x1), some (.ref x2)] [] (z_poi h_4 x0 11 (x_3 * x_5))))))))))))) : (z_J G (d + 1) (m_X5_withinWays z_pu0) r) 16 [some (.ref x0), some (.ref x1), some (.ref x2)] [] h := z_bq (v_X5 z_pu0 (vP_X5_withinWays z_pu0) hPu) hd_X5_withinWays 28 hT
set_option maxRecDepth 20000 in
theorem b_X5_withinWays_65 {G : z_G} {d : Nat} {r : z_Res} (hPu : z_PuV G d (t_X5 z_pu0)) {h : z_H} {x0 : Nat} {x1 : Nat} {x2 : Nat} (hT : (z_kd h x0 = 21 ∧ (if (z_oi h x0 11) = (nI 0) then (z_J G (d + 1) (m_X5_withinWays z_pu0) r) 97 [some (.ref x0), some (.ref x1), some (.ref x2)] [] h else (z_kd h x0 = 21 ∧ ∃ x_2 h_1, z_Ev G d k_X5_finish [.ref x0, .int (nI 0), .int (nI 0), .int (nI 0)] h (.inl (some (.int x_2)), h_1) ∧ (if x_2 = (nI 0) then (z_J G (d + 1) (m_X5_withinWays z_pu0) r) 97 [some (.ref x0), some (.ref x1), some (.ref x2)] [] h_1 else (z_kd h_1 x0 = 21 ∧ (z_rc (z_or h_1 x0 5) (z_kd h_1 x0 = 21 ∧ (z_rc (z_or h_1 x0 12) False (fun x_4 => False))) (fun x_3 => (z_kd h_1 x0 = 21 ∧ (z_rc (z_or h_1 x0 12) False (fun x_5 => ((¬ (nI 0) < 0 ∧ ¬ (nI 0) < 0 ∧ ¬ (nI 8) < 0 ∧ (Int32.toNatClampNeg (nI 0)) + (Int32.toNatClampNeg (nI 8)) ≤ z_ln h_1 x_3 ∧ (Int32.toNatClampNeg (nI 0)) + (Int32.toNatClampNeg (nI 8)) ≤ z_ln h_1 x_5) ∧ ((z_kd h_1 x_3 = 1 ∧ z_kd h_1 x_5 = 1 ∧ (z_J G (d + 1) (m_X5_withinWays z_pu0) r) 97 [some (.ref x0), some (.ref x1), some (.ref x2)] [] (z_pax h_1 x_5 (va_cpy (z_ai h_1 x_3) (z_ai h_1 x_5) (Int32.toNatClampNeg (nI 0)) (Int32.toNatClampNeg (nI 0)) (Int32.toNatClampNeg (nI 8))))) ∨ (z_kd h_1 x_3 = 2 ∧ z_kd h_1 x_5 = 2 ∧ (z_J G (d + 1) (m_X5_withinWays z_pu0) r) 97 [some (.ref x0), some (.ref x1), some (.ref x2)] [] (z_plx h_1 x_5 (va_cpy (z_al h_1 x_3) (z_al h_1 x_5) (Int32.toNatClampNeg (nI 0)) (Int32.toNatClampNeg (nI 0)) (Int32.toNatClampNeg (nI 8)))))))))))))))))) : (z_J G (d + 1) (m_X5_withinWays z_pu0) r) 65 [some (.ref x0), some (.ref x1), some (.ref x2)] [] h := z_bq (v_X5 z_pu0 (vP_X5_withinWays z_pu0) hPu) hd_X5_withinWays 20 hT
set_option maxRecDepth 20000 in
theorem b_X5_withinWays_97 {G : z_G} {d : Nat} {r : z_Res} (hPu : z_PuV G d (t_X5 z_pu0)) {h : z_H} {x0 : Nat} {x1 : Nat} {x2 : Nat} (hT : (z_kd h x0 = 21 ∧ (z_kd (z_por h x0 9 (some x1)) x0 = 21 ∧ (z_J G (d + 1) (m_X5_withinWays z_pu0) r) 107 [some (.ref x0), none, none] [] (z_por (z_por h x0 9 (some x1)) x0 10 (some x2))))) : (z_J G (d + 1) (m_X5_withinWays z_pu0) r) 97 [some (.ref x0), some (.ref x1), some (.ref x2)] [] h := z_bq (v_X5 z_pu0 (vP_X5_withinWays z_pu0) hPu) hd_X5_withinWays 9 hT
/-! the matcher: orbits, likeness, dualities -/
/-- what is kept of a scheme is what the searches find -/
def vM (V : CV) : Prop := ∀ S, c_sok S → (∀ p, p < 8 → V 13 S p = nI (g_twT S p)) ∧ (∀ N O, (∀ i, i < 8 → O i = i) → ∀ p, p < 9 → V 8 S p = nI ((meaR S S.1 W0n N O).1 p)) ∧ (∀ N O, (∀ i, i < 8 → O i = i) → ∀ p, p < 8 → V 9 S p = nI ((meaR S S.1 W0n N O).2.2 p))
section GF
variable {V : CV} {G : z_G} {d L mt q b q1 b1 q2 b2 c s : Nat} {h h' h'' : z_H} {S F T : Sc} {X : Nat → Prop}
theorem mq_ne (hI : inv V L h) (hA : sc_at q b h S) {x : Nat} (hx : hl L x) : x < q ∨ b + 8 ≤ x := by
  apply Classical.byContradiction
  intro n
  exact (inv_k hI hA).2.1.2.2.2 x (by omega) (by omega) hx
/-- a helper's place that an act hasn't in its reach -/
theorem ex_hl {x : Nat} (hI : inv V L h) (hL : L + 75 ≤ z_n h) (e : ex X c s h h') (hx : hl L x) (hX : ¬ X x) (h24 : z_kd h x ≠ 24) : z_kd h' x = z_kd h x ∧ z_ln h' x = z_ln h x ∧ z_oi h' x = z_oi h x ∧ z_or h' x = z_or h x ∧ z_ai h' x = z_ai h x ∧ z_al h' x = z_al h x ∧ z_ar h' x = z_ar h x := by
  obtain ⟨e1, e2, e3⟩ := e.2 x (by unfold hl at hx; omega)
  obtain ⟨f1, f2, f3, f4⟩ := e3 hX
  have f5 : z_ai h' x = z_ai h x ∧ z_ar h' x = z_ar h x := by
    rcases f4 with ⟨q, b, hb, hc⟩ | f
    · obtain ⟨S, kk⟩ := inv_b hI hb
      have := kk.2.1.1
      exact absurd hx (kk.2.1.2.2.2 x (by omega) (by omega))
    · exact f
  refine ⟨e1, e2, f1, funext fun k => ?_, f5.1, f2, f5.2⟩
  rcases f3 k with c | c
  · exact absurd c.1 h24
  · exact c
theorem ms_ex (hI : inv V L h) (hL : L + 75 ≤ z_n h) (e : ex X c s h h') (hX : ∀ x, mX L x → ¬ X x) (hm : ms L h) : ms L h' ∧ km L h h' := by
  have hm' := hm
  obtain ⟨m0, ⟨m1, m2, m3⟩, ⟨m4, m5, m6⟩, m7, m8, m9⟩ := hm'
  have f1 := ex_hl hI hL e (x := L + 21) (by unfold hl; omega) (hX _ ⟨by omega, by omega⟩) (by omega)
  have f2 := ex_hl hI hL e (x := L + 22) (by unfold hl; omega) (hX _ ⟨by omega, by omega⟩) (by omega)
  have f3 := ex_hl hI hL e (x := L + 23) (by unfold hl; omega) (hX _ ⟨by omega, by omega⟩) (by omega)
  have f4 := ex_hl hI hL e (x := L + 24) (by unfold hl; omega) (hX _ ⟨by omega, by omega⟩) (by omega)
  refine ⟨⟨by rw [f1.1]; exact m0, ⟨by rw [f1.2.2.2.1]; exact m1, by rw [f2.1]; exact m2, by rw [f2.2.1]; exact m3⟩, ⟨by rw [f1.2.2.2.1]; exact m4, by rw [f3.1]; exact m5, by rw [f3.2.1]; exact m6⟩, by rw [f1.2.2.2.1]; exact m7, by rw [f4.1]; exact m8, by rw [f4.2.1]; exact m9⟩, fun k _ => by rw [f1.2.2.2.1], fun k _ => by rw [f1.2.2.1], f3.2.2.2.2.1, f4.2.2.2.2.1⟩
/-- the matcher's answer: a number; what it leaves -/
def mA (V : CV) (G : z_G) (d L : Nat) (κ : z_Key) (As : List Value) (h : z_H) (v : Int32) (c s : Nat) (h' : z_H) : Prop := z_Ev G d κ (.ref (L + 21) :: As) h (.inl (some (.int v)), h') ∧ inv V L h' ∧ ex (mX L) c s h h' ∧ ms L h' ∧ km L h h'
theorem kept_row (hI : inv V L h) (hA : sc_at q b h S) {k a : Nat} (hk : k = 8 ∨ k = 10 ∨ k = 11 ∨ k = 13) (e : z_or h q k = some a) : fr L h a ∧ z_kd h a = 1 ∧ z_ln h a = cl k S ∧ ∀ i, i < cl k S → z_ai h a i = V k S i := (inv_k hI hA).2.2.2.1 k hk a e
theorem e5_orbitsOf (hV : vM V) (hI : inv V L h) (hL : L + 75 ≤ z_n h) (hm : ms L h) (hA : sc_at q b h S) : ∃ h', z_Ev G (d + 17) k_X5_orbitsOf [.ref (L + 21), .ref q] h (.inl (some (va_rf (some (b + 3)))), h') ∧ inv V L h' ∧ ex (mX L) 3 25 h h' ∧ ms L h' ∧ km L h h' ∧ (∀ p, p < 8 → z_ai h' (b + 3) p = V 9 S p) := by
  obtain ⟨v13, v8, v9⟩ := hV S hA.2.1
  obtain ⟨h', a, ev, i', e', m', k', ea⟩ := e5_measured (G := G) (d := d) hI hL hm v13 v8 v9 hA
  have hA' := ex_sc hI (fun _ hx => mX_hl hx) e' hA
  refine ⟨h', en_X5_orbitsOf (b_X5_orbitsOf_0 (z_pu0V rfl) ⟨hm.1, _, _, ev, ?_⟩), i', e', m', k', (inv_k i' hA').2.2.2.2.2.1 (by rw [ea]; intro e; cases e)⟩
  rw [z_rcs, (y_orb hA').1, z_rcs]
  exact ⟨y_kd hA', rfl⟩
theorem e5_orbits (hV : vM V) (hI : inv V L h) (hL : L + 75 ≤ z_n h) (hm : ms L h) (hA : sc_at q b h S) : ∃ h', mA V G (d + 18) L k_X5_orbits [.ref q] h (nI (it (fun p n => n + (decide (V 9 S p = nI p)).toNat) 0 S.1)) 3 25 h' := by
  have hn := y_n8 hA
  obtain ⟨h', ev, i', e', m', k', ro⟩ := e5_orbitsOf (G := G) (d := d) hV hI hL hm hA
  have hA' := ex_sc hI (fun _ hx => mX_hl hx) e' hA
  refine ⟨h', en_X5_orbits (b_X5_orbits_0 (z_pu0V rfl) ⟨hm.1, _, _, ev, ?_⟩), i', e', m', k'⟩
  rw [z_rcs]
  refine z_for (fun p n => [none, some (.ref q), some (.ref (b + 3)), some (.int (nI n)), some (.int (nI p))]) (fun p n => n + (decide (V 9 S p = nI p)).toNat) 0 S.1 ?_ ?_
  · intro p hp hJ
    refine b_X5_orbits_11b (z_pu0V rfl) ?_
    rw [y_n hA', if_pos (nI_lt hp (by omega)), nI_clamp (by omega), ro p (by omega), nI_add, nI_add]
    refine ⟨y_kd hA', (y_orb hA').2.1, by rw [(y_orb hA').2.2]; exact vp_in_nI (by omega) (by decide), ?_⟩
    by_cases c : V 9 S p = nI p
    · rw [decide_eq_true c] at hJ
      rw [if_pos c]; exact hJ
    · rw [decide_eq_false c] at hJ
      rw [if_neg c]; exact hJ
  · refine b_X5_orbits_11b (z_pu0V rfl) ?_
    rw [y_n hA', if_neg (nI_nlt (Nat.le_refl _) (by omega))]
    exact ⟨y_kd hA', rfl⟩
def g_like (V : CV) (F T : Sc) (N : Nat → Nat) : Int32 := if F.1 = T.1 ∧ F.2.1 = T.2.1 then (if (g_fin F T true F.1 0 0 0 N).1 then V 8 T 0 else nI 0) else nI 0
theorem e5_likeWays (hV : vM V) (hI : inv V L h) (hL : L + 75 ≤ z_n h) (hm : ms L h) (hF : sc_at q1 b1 h F) (hT : sc_at q2 b2 h T) : ∃ h' N, mA V G (d + 17) L k_X5_likeWays [.ref q1, .ref q2] h (g_like V F T N) 5 41 h' := by
  have hX : ∀ a, mX L a → hl L a := fun _ hx => mX_hl hx
  have n1 := y_n8 hF
  have n2 := y_n8 hT
  have m1 := y_m12 hF
  have m2 := y_m12 hT
  by_cases c : F.1 = T.1 ∧ F.2.1 = T.2.1
  · obtain ⟨g, af, at', evb, I1, e1, t1, w1, ffa, ffb⟩ := e5_begin (G := G) (d := d + 9) hI hL hm (hV F hF.2.1).1 (hV T hT.2.1).1 hF hT true
    obtain ⟨N, eN⟩ : ∃ N : Nat → Nat, N = fun i => uN (z_ai g (L + 22) i) := ⟨_, rfl⟩
    have hg : z_pax g (L + 22) (fun i => nI (N i)) = g := by rw [eN, ← row_u, pax_self]
    have ef := e5_finish (G := G) (d := d + (10 - F.1)) w1 F.1 0 0 0 N (by omega) (by decide) (by decide) (fun i hi => absurd hi (Nat.not_lt_zero _))
    rw [hg, show d + (10 - F.1) + F.1 + 6 = d + 16 by omega] at ef
    obtain ⟨g2, eg2⟩ : ∃ g2, g2 = z_pax g (L + 22) (fun i => nI ((g_fin F T true F.1 0 0 0 N).2 i)) := ⟨_, rfl⟩
    rw [← eg2] at ef
    have L1 : L + 75 ≤ z_n g := Nat.le_trans hL e1.1.1
    have I2 : inv V L g2 := by rw [eg2]; exact inv_xt I1 hX (xt_pax _ ⟨by omega, by omega⟩)
    have e2 : ex (mX L) 2 16 h g2 := by rw [eg2]; exact ex_px e1 (Or.inl ⟨by omega, by omega⟩)
    have ms1 : ms L g := tq_ms hL t1 hm
    have ms2 : ms L g2 := by rw [eg2]; exact ms1
    have km2 : km L h g2 := by rw [eg2]; exact km_trans (km_tq hL t1) (km_pax (by omega) (by omega))
    have T2 := ex_sc hI hX e2 hT
    have F2 := ex_sc hI hX e2 hF
    have kd2 : z_kd g (L + 21) = 21 := w1.1.1
    cases cf : (g_fin F T true F.1 0 0 0 N).1
    · refine ⟨g2, N, en_X5_likeWays (b_X5_likeWays_0 (z_pu0V rfl) ?_), I2, ex_mono e2 (by omega) (by omega), ms2, km2⟩
      rw [y_n hF, y_n hT, y_m hF, y_m hT, if_pos (by rw [c.1]), if_pos (by rw [c.2])]
      refine ⟨y_kd hF, y_kd hT, y_kd hF, y_kd hT, hm.1, _, evb, kd2, _, _, ef, ?_⟩
      unfold g_like
      rw [cf, if_pos (by rfl), if_pos c, if_neg (by decide)]
    · obtain ⟨v13, v8, v9⟩ := hV T hT.2.1
      obtain ⟨g3, a, ev3, I3, e3, ms3, km3, ea⟩ := e5_measured (G := G) (d := d) I2 (by rw [eg2]; exact L1) ms2 v13 v8 v9 T2
      have T3 := ex_sc I2 hX e3 T2
      obtain ⟨r1, r2, r3, r4⟩ := kept_row I3 T3 (by omega) ea
      refine ⟨g3, N, en_X5_likeWays (b_X5_likeWays_0 (z_pu0V rfl) ?_), I3, ex_mono (ex_trans hI I2 hX e2 e3) (by omega) (by omega), ms3, km_trans km2 km3⟩
      rw [y_n hF, y_n hT, y_m hF, y_m hT, if_pos (by rw [c.1]), if_pos (by rw [c.2])]
      refine ⟨y_kd hF, y_kd hT, y_kd hF, y_kd hT, hm.1, _, evb, kd2, _, _, ef, ?_⟩
      unfold g_like
      rw [cf, if_neg (by decide), if_pos c, if_pos rfl]
      refine ⟨ms2.1, _, _, ev3, ?_⟩
      rw [z_rcs, nI_clamp (by decide), r4 0 (show 0 < 9 by decide), r3]
      exact ⟨r2, vp_in_nI (show 0 < 9 by decide) (show 9 < 2 ^ 31 by decide), rfl⟩
  · refine ⟨h, fun _ => 0, en_X5_likeWays (b_X5_likeWays_0 (z_pu0V rfl) ?_), hI, ex_mono (ex_refl h) (by omega) (by omega), hm, km_refl h⟩
    unfold g_like
    rw [y_n hF, y_n hT, y_m hF, y_m hT, if_neg c]
    refine ⟨y_kd hF, y_kd hT, ?_⟩
    by_cases c1 : F.1 = T.1
    · rw [if_pos (by rw [c1]), if_neg (fun e => c ⟨c1, (nI_eq (by omega) (by omega)).mp e⟩)]
      exact ⟨y_kd hF, y_kd hT, rfl⟩
    · rw [if_neg (fun e => c1 ((nI_eq (by omega) (by omega)).mp e))]
def g_dua (V : CV) (S : Sc) (N : Nat → Nat) : Int32 := match c_td S with
  | none => nI 0
  | some t => if S.1 = S.2.1 then g_like V S (dS S t) N else nI 0
theorem e5_dualities (hV : vM V) (hI : inv V L h) (hL : L + 75 ≤ z_n h) (hm : ms L h) (hA : sc_at q b h S) : ∃ h' N, mA V G (d + 18) L k_X5_dualities [.ref q] h (g_dua V S N) 15 193 h' := by
  have hX : ∀ a, mX L a → hl L a := fun _ hx => mX_hl hx
  have n1 := y_n8 hA
  have m1 := y_m12 hA
  obtain ⟨g, I1, e1, d1, d2⟩ := e8_turned (G := G) (d := d + 10) (X := fun _ => False) (fun _ f => f.elim) hI hL hA
  have L1 : L + 75 ≤ z_n g := Nat.le_trans hL e1.1.1
  obtain ⟨ms1, km1⟩ := ms_ex hI hL e1 (fun _ _ f => f) hm
  have e1' : ex (mX L) 10 152 h g := ex_X e1 (fun _ f => f.elim)
  have A1 := ex_sc hI (fun _ f => f.elim) e1 hA
  cases ct : c_td S with
  | none =>
    refine ⟨g, fun _ => 0, en_X5_dualities (b_X5_dualities_0 (z_pu0V rfl) ⟨y_kd hA, _, _, d1 ct, ?_⟩), I1, ex_mono e1' (by omega) (by omega), ms1, km1⟩
    unfold g_dua
    rw [z_rcn, ct]
  | some t =>
    obtain ⟨q', b', ev, hB⟩ := d2 t ct
    by_cases c : S.1 = S.2.1
    · obtain ⟨h', N, ev2, I2, e2, ms2, km2⟩ := e5_likeWays (G := G) (d := d) hV I1 L1 ms1 A1 hB
      refine ⟨h', N, en_X5_dualities (b_X5_dualities_0 (z_pu0V rfl) ⟨y_kd hA, _, _, ev, ?_⟩), I2, ex_mono (ex_trans hI I1 hX e1' e2) (by omega) (by omega), ms2, km_trans km1 km2⟩
      unfold g_dua
      rw [z_rcs, ct, y_n A1, y_m A1, if_pos (by rw [c])]
      dsimp only
      rw [if_pos c]
      exact ⟨y_kd A1, y_kd A1, ms1.1, _, _, ev2, rfl⟩
    · refine ⟨g, fun _ => 0, en_X5_dualities (b_X5_dualities_0 (z_pu0V rfl) ⟨y_kd hA, _, _, ev, ?_⟩), I1, ex_mono e1' (by omega) (by omega), ms1, km1⟩
      unfold g_dua
      rw [z_rcs, ct, y_n A1, y_m A1, if_neg (fun e => c ((nI_eq (by omega) (by omega)).mp e))]
      dsimp only
      rw [if_neg c]
      exact ⟨y_kd A1, y_kd A1, rfl⟩
def g_pola (S : Sc) (N : Nat → Nat) : Nat := match c_td S with
  | none => 0
  | some t => if S.1 = S.2.1 ∧ t.1 = S.2.1 then (g_pol S (dS S t) true S.1 0 0 N).1 else 0
theorem e5_polarities (hV : vM V) (hI : inv V L h) (hL : L + 75 ≤ z_n h) (hm : ms L h) (hA : sc_at q b h S) : ∃ h' N, mA V G (d + 18) L k_X5_polarities [.ref q] h (nI (g_pola S N)) 15 193 h' := by
  have hX : ∀ a, mX L a → hl L a := fun _ hx => mX_hl hx
  have n1 := y_n8 hA
  have m1 := y_m12 hA
  obtain ⟨g, I1, e1, d1, d2⟩ := e8_turned (G := G) (d := d + 10) (X := fun _ => False) (fun _ f => f.elim) hI hL hA
  have L1 : L + 75 ≤ z_n g := Nat.le_trans hL e1.1.1
  obtain ⟨ms1, km1⟩ := ms_ex hI hL e1 (fun _ _ f => f) hm
  have e1' : ex (mX L) 10 152 h g := ex_X e1 (fun _ f => f.elim)
  have A1 := ex_sc hI (fun _ f => f.elim) e1 hA
  cases ct : c_td S with
  | none =>
    refine ⟨g, fun _ => 0, en_X5_polarities (b_X5_polarities_0 (z_pu0V rfl) ⟨y_kd hA, _, _, d1 ct, ?_⟩), I1, ex_mono e1' (by omega) (by omega), ms1, km1⟩
    unfold g_pola
    rw [z_rcn, ct]
  | some t =>
    obtain ⟨q', b', ev, hB⟩ := d2 t ct
    have m2 := y_m12 hB
    by_cases c : S.1 = S.2.1 ∧ t.1 = S.2.1
    · obtain ⟨g2, af, at', evb, I2, e2, t2, w2, ffa, ffb⟩ := e5_begin (G := G) (d := d + 10) I1 L1 ms1 (hV S A1.2.1).1 (hV _ hB.2.1).1 A1 hB true
      obtain ⟨N, eN⟩ : ∃ N : Nat → Nat, N = fun i => uN (z_ai g2 (L + 22) i) := ⟨_, rfl⟩
      have hg : z_pax g2 (L + 22) (fun i => nI (N i)) = g2 := by rw [eN, ← row_u, pax_self]
      have ef := e5_polaritiesFrom (G := G) (d := d + (11 - S.1)) w2 rfl S.1 0 0 N (by omega) (by decide) (fun i hi => absurd hi (Nat.not_lt_zero _))
      rw [hg, show d + (11 - S.1) + S.1 + 6 = d + 17 by omega] at ef
      have ms2 : ms L g2 := tq_ms L1 t2 ms1
      refine ⟨_, N, en_X5_polarities (b_X5_polarities_0 (z_pu0V rfl) ⟨y_kd hA, _, _, ev, ?_⟩), inv_xt I2 hX (xt_pax (fun i => nI ((g_pol S (dS S t) true S.1 0 0 N).2 i)) (show mX L (L + 22) from ⟨by omega, by omega⟩)), ex_mono (ex_px (ex_trans hI I1 hX e1' e2) (Or.inl ⟨by omega, by omega⟩)) (by omega) (by omega), ms2, km_trans km1 (km_trans (km_tq L1 t2) (km_pax (by omega) (by omega)))⟩
      unfold g_pola
      rw [z_rcs, ct, y_n A1, y_m A1, if_pos (by rw [c.1]), y_m hB, if_pos (show nI (dS S t).2.1 = nI S.2.1 by rw [show (dS S t).2.1 = t.1 from rfl, c.2])]
      dsimp only
      rw [if_pos c]
      exact ⟨y_kd A1, y_kd A1, y_kd hB, y_kd A1, ms1.1, _, evb, w2.1.1, _, _, ef, rfl⟩
    · refine ⟨g, fun _ => 0, en_X5_polarities (b_X5_polarities_0 (z_pu0V rfl) ⟨y_kd hA, _, _, ev, ?_⟩), I1, ex_mono e1' (by omega) (by omega), ms1, km1⟩
      unfold g_pola
      rw [z_rcs, ct, y_n A1, y_m A1]
      dsimp only
      rw [if_neg c]
      refine ⟨y_kd A1, y_kd A1, ?_⟩
      by_cases c1 : S.1 = S.2.1
      · have m3 : t.1 ≤ 12 := m2
        rw [if_pos (by rw [c1]), y_m hB, if_neg (show ¬ nI (dS S t).2.1 = nI S.2.1 from fun e => c ⟨c1, (nI_eq (show t.1 < 2 ^ 31 by omega) (by omega)).mp e⟩)]
        exact ⟨y_kd hB, y_kd A1, rfl⟩
      · rw [if_neg (fun e => c1 ((nI_eq (by omega) (by omega)).mp e))]
end GF
