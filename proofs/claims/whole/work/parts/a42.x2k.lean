theorem en_X2_prepare {pu : Nat → Option ((List Value → z_H → Prop) × (List Value → z_H → Int32))} {G : z_G} {d : Nat} {r : z_Res} {h : z_H} {x0 : Nat} {x1 : Nat} {x2 : Nat} (hJ : z_J G d (m_X2_prepare pu) r 0 [some (.ref x0), some (.ref x1), some (.ref x2), none, none] [] h) : z_Ev G d k_X2_prepare [.ref x0, .ref x1, .ref x2] h r := z_enter (μ := m_X2_prepare pu) rfl (by decide) rfl rfl (fun q => by cases q) (Nat.le_of_ble_eq_true rfl) hJ
def hd_X2_prepare : Nat → Option (List Bool) := (fun k => (cond (Nat.blt k 124) (cond (Nat.blt k 76) (cond (Nat.beq k 45) (some [true, false, false, true, true]) none) (cond (Nat.beq k 76) (some [true, false, false, true, true]) none)) none))
set_option maxRecDepth 20000 in
theorem b_X2_prepare_0 {G : z_G} {d : Nat} {r : z_Res} (hPu : z_PuV G d (t_X2 z_pu0)) {h : z_H} {x0 : Nat} {x1 : Nat} {x2 : Nat} (hT : (∃ o_2 h_1, z_Ev G d k_X2_withoutPairs [.ref x1] h (.inl (some (va_rf o_2)), h_1) ∧ (z_rc o_2 False (fun x_3 => (z_kd h_1 x_3 = 24 ∧ (z_kd h_1 x0 = 18 ∧ (z_kd (z_poi h_1 x0 5 (z_oi h_1 x_3 0)) x_3 = 24 ∧ ∃ o_5 h_4, z_Ev G d k_X8_twins [.ref x_3] (z_poi h_1 x0 5 (z_oi h_1 x_3 0)) (.inl (some (va_rf o_5)), h_4) ∧ (z_rc o_5 (z_kd h_4 x0 = 18 ∧ (z_kd (z_por h_4 x0 7 none) x0 = 18 ∧ (¬ (nI 9) < 0 ∧ Int32.toNatClampNeg (nI 9) ≤ 1000000 ∧ (z_kd (z_nwi (z_por (z_por h_4 x0 7 none) x0 6 (some x2)) 1 (Int32.toNatClampNeg (nI 9)) (fun _ => 0)) x0 = 18 ∧ (z_kd (z_por (z_nwi (z_por (z_por h_4 x0 7 none) x0 6 (some x2)) 1 (Int32.toNatClampNeg (nI 9)) (fun _ => 0)) x0 13 (some (z_n (z_por (z_por h_4 x0 7 none) x0 6 (some x2))))) x0 = 18 ∧ (z_rc (z_or (z_por (z_nwi (z_por (z_por h_4 x0 7 none) x0 6 (some x2)) 1 (Int32.toNatClampNeg (nI 9)) (fun _ => 0)) x0 13 (some (z_n (z_por (z_por h_4 x0 7 none) x0 6 (some x2))))) x0 13) (∃ h_8, z_Ev G d k_J7_fill_53178 [.null, .int mI] (z_por (z_nwi (z_por (z_por h_4 x0 7 none) x0 6 (some x2)) 1 (Int32.toNatClampNeg (nI 9)) (fun _ => 0)) x0 13 (some (z_n (z_por (z_por h_4 x0 7 none) x0 6 (some x2))))) (.inl none, h_8) ∧ (z_J G (d + 1) (m_X2_prepare z_pu0) r) 45 [some (.ref x0), none, none, some (.ref x_3), some (.int (nI 0))] [] h_8) (fun x_7 => (∃ h_9, z_Ev G d k_J7_fill_53178 [.ref x_7, .int mI] (z_por (z_nwi (z_por (z_por h_4 x0 7 none) x0 6 (some x2)) 1 (Int32.toNatClampNeg (nI 9)) (fun _ => 0)) x0 13 (some (z_n (z_por (z_por h_4 x0 7 none) x0 6 (some x2))))) (.inl none, h_9) ∧ (z_J G (d + 1) (m_X2_prepare z_pu0) r) 45 [some (.ref x0), none, none, some (.ref x_3), some (.int (nI 0))] [] h_9)))))))) (fun x_6 => (z_kd h_4 x0 = 18 ∧ (z_kd (z_por h_4 x0 7 (some x_6)) x0 = 18 ∧ (¬ (nI 9) < 0 ∧ Int32.toNatClampNeg (nI 9) ≤ 1000000 ∧ (z_kd (z_nwi (z_por (z_por h_4 x0 7 (some x_6)) x0 6 (some x2)) 1 (Int32.toNatClampNeg (nI 9)) (fun _ => 0)) x0 = 18 ∧ (z_kd (z_por (z_nwi (z_por (z_por h_4 x0 7 (some x_6)) x0 6 (some x2)) 1 (Int32.toNatClampNeg (nI 9)) (fun _ => 0)) x0 13 (some (z_n (z_por (z_por h_4 x0 7 (some x_6)) x0 6 (some x2))))) x0 = 18 ∧ (z_rc (z_or (z_por (z_nwi (z_por (z_por h_4 x0 7 (some x_6)) x0 6 (some x2)) 1 (Int32.toNatClampNeg (nI 9)) (fun _ => 0)) x0 13 (some (z_n (z_por (z_por h_4 x0 7 (some x_6)) x0 6 (some x2))))) x0 13) (∃ h_11, z_Ev G d k_J7_fill_53178 [.null, .int mI] (z_por (z_nwi (z_por (z_por h_4 x0 7 (some x_6)) x0 6 (some x2)) 1 (Int32.toNatClampNeg (nI 9)) (fun _ => 0)) x0 13 (some (z_n (z_por (z_por h_4 x0 7 (some x_6)) x0 6 (some x2))))) (.inl none, h_11) ∧ (z_J G (d + 1) (m_X2_prepare z_pu0) r) 45 [some (.ref x0), none, none, some (.ref x_3), some (.int (nI 0))] [] h_11) (fun x_10 => (∃ h_12, z_Ev G d k_J7_fill_53178 [.ref x_10, .int mI] (z_por (z_nwi (z_por (z_por h_4 x0 7 (some x_6)) x0 6 (some x2)) 1 (Int32.toNatClampNeg (nI 9)) (fun _ => 0)) x0 13 (some (z_n (z_por (z_por h_4 x0 7 (some x_6)) x0 6 (some x2))))) (.inl none, h_12) ∧ (z_J G (d + 1) (m_X2_prepare z_pu0) r) 45 [some (.ref x0), none, none, some (.ref x_3), some (.int (nI 0))] [] h_12))))))))))))))))) : (z_J G (d + 1) (m_X2_prepare z_pu0) r) 0 [some (.ref x0), some (.ref x1), some (.ref x2), none, none] [] h := z_bq (v_X2 z_pu0 (vP_X2_prepare z_pu0) hPu) hd_X2_prepare 27 hT
set_option maxRecDepth 20000 in
theorem b_X2_prepare_45 {G : z_G} {d : Nat} {r : z_Res} (hPu : z_PuV G d (t_X2 z_pu0)) {h : z_H} {x0 : Nat} {x3 : Nat} {x4 : Int32} (hT : (if x4 < (nI 8) then (z_kd h x0 = 18 ∧ (z_rc (z_or h x0 12) (z_kd h x0 = 18 ∧ False) (fun x_1 => (z_kd h x0 = 18 ∧ (z_kd h x_1 = 1 ∧ vp_in x4 (z_ln h x_1) ∧ (z_J G (d + 1) (m_X2_prepare z_pu0) r) 45 [some (.ref x0), none, none, some (.ref x3), some (.int (x4 + (nI 1)))] [] (z_pai h x_1 (Int32.toNatClampNeg x4) (((nI 1) <<< ((z_oi h x0 4) &&& (nI 31))) - (nI 1)))))))) else (z_J G (d + 1) (m_X2_prepare z_pu0) r) 76 [some (.ref x0), none, none, some (.ref x3), some (.int (nI 0))] [] h)) : (z_J G (d + 1) (m_X2_prepare z_pu0) r) 45 [some (.ref x0), none, none, some (.ref x3), some (.int x4)] [] h := z_bq (v_X2 z_pu0 (vP_X2_prepare z_pu0) hPu) hd_X2_prepare 18 hT
set_option maxRecDepth 20000 in
theorem b_X2_prepare_76 {G : z_G} {d : Nat} {r : z_Res} (hPu : z_PuV G d (t_X2 z_pu0)) {h : z_H} {x0 : Nat} {x3 : Nat} {x4 : Int32} (hT : (if x4 < (nI 64) then (z_kd h x0 = 18 ∧ (z_rc (z_or h x0 10) (z_kd h x3 = 24 ∧ (z_rc (z_or h x3 7) False (fun x_2 => (z_kd h x_2 = 1 ∧ vp_in x4 (z_ln h x_2) ∧ (if (z_ai h x_2 (Int32.toNatClampNeg x4)) = mI then False else (z_kd h x3 = 24 ∧ (z_rc (z_or h x3 2) (z_kd h x3 = 24 ∧ (z_rc (z_or h x3 7) False (fun x_4 => (z_kd h x_4 = 1 ∧ vp_in x4 (z_ln h x_4) ∧ False)))) (fun x_3 => (z_kd h x3 = 24 ∧ (z_rc (z_or h x3 7) False (fun x_5 => (z_kd h x_5 = 1 ∧ vp_in x4 (z_ln h x_5) ∧ (z_kd h x_3 = 1 ∧ vp_in (z_ai h x_5 (Int32.toNatClampNeg x4)) (z_ln h x_3) ∧ False))))))))))))) (fun x_1 => (z_kd h x3 = 24 ∧ (z_rc (z_or h x3 7) False (fun x_6 => (z_kd h x_6 = 1 ∧ vp_in x4 (z_ln h x_6) ∧ (if (z_ai h x_6 (Int32.toNatClampNeg x4)) = mI then (z_kd h x_1 = 1 ∧ vp_in x4 (z_ln h x_1) ∧ (z_J G (d + 1) (m_X2_prepare z_pu0) r) 76 [some (.ref x0), none, none, some (.ref x3), some (.int (x4 + (nI 1)))] [] (z_pai h x_1 (Int32.toNatClampNeg x4) (nI 0))) else (z_kd h x3 = 24 ∧ (z_rc (z_or h x3 2) (z_kd h x3 = 24 ∧ (z_rc (z_or h x3 7) False (fun x_8 => (z_kd h x_8 = 1 ∧ vp_in x4 (z_ln h x_8) ∧ False)))) (fun x_7 => (z_kd h x3 = 24 ∧ (z_rc (z_or h x3 7) False (fun x_9 => (z_kd h x_9 = 1 ∧ vp_in x4 (z_ln h x_9) ∧ (z_kd h x_7 = 1 ∧ vp_in (z_ai h x_9 (Int32.toNatClampNeg x4)) (z_ln h x_7) ∧ (z_kd h x_1 = 1 ∧ vp_in x4 (z_ln h x_1) ∧ (z_J G (d + 1) (m_X2_prepare z_pu0) r) 76 [some (.ref x0), none, none, some (.ref x3), some (.int (x4 + (nI 1)))] [] (z_pai h x_1 (Int32.toNatClampNeg x4) (z_ai h x_7 (Int32.toNatClampNeg (z_ai h x_9 (Int32.toNatClampNeg x4)))))))))))))))))))))) else r = (.inl none, h))) : (z_J G (d + 1) (m_X2_prepare z_pu0) r) 76 [some (.ref x0), none, none, some (.ref x3), some (.int x4)] [] h := z_bq (v_X2 z_pu0 (vP_X2_prepare z_pu0) hPu) hd_X2_prepare 25 hT
/-! THE DRAWER: made ready for a scheme -/
def dX (L a : Nat) : Prop := L + 33 ≤ a ∧ a ≤ L + 40
theorem dX_hl {L a : Nat} (h : dX L a) : hl L a := Or.inr (Or.inr ⟨by have := h.1; omega, by have := h.2; omega⟩)
def d_TL (S : Sc) (i : Nat) : Nat := if i / 8 = i % 8 then 0 else if c_of S (2 ^ (i / 8) ||| 2 ^ (i % 8)) < S.2.1 then S.2.2 (c_of S (2 ^ (i / 8) ||| 2 ^ (i % 8))) else 0
theorem d_TL_lt {S : Sc} (hS : c_sok S) (i : Nat) : d_TL S i < 256 := by
  unfold d_TL
  split
  · decide
  · split
    · exact sok_256 hS _
    · decide
theorem own_por {L a x k : Nat} {h : z_H} {w : Option Nat} (ho : own L h a) (hx : z_kd h x ≠ 24) : own L (z_por h x k w) a := by
  have e : ∀ q, z_kd h q = 24 → z_or (z_por h x k w) q = z_or h q := fun q hq => u_ne _ _ (fun e => hx (e ▸ hq))
  refine ⟨⟨ho.1.1, ho.1.2.1, fun q b hb => ho.1.2.2 q b ⟨hb.1, by rw [← e q hb.1]; exact hb.2⟩⟩, fun q j hq hj => ?_, fun q b i hb hi => ?_⟩
  · rw [e q hq]; exact ho.2.1 q j hq hj
  · exact ho.2.2 q b i ⟨hb.1, by rw [← e q hb.1]; exact hb.2⟩ hi
section HK1
variable {V : CV} {G : z_G} {d L q b pl li : Nat} {h : z_H} {S : Sc}
theorem dsh_ex {X : Nat → Prop} {c s : Nat} {h' : z_H} (hI : inv V L h) (hL : L + 75 ≤ z_n h) (e : ex X c s h h') (hX : ∀ x, dX L x → ¬ X x) (hd : dsh (L + 33) h) : dsh (L + 33) h' ∧ z_oi h' (L + 33) = z_oi h (L + 33) ∧ z_or h' (L + 33) = z_or h (L + 33) ∧ (∀ j, j < 7 → z_ai h' (L + 33 + 1 + j) = z_ai h (L + 33 + 1 + j)) ∧ z_ar h' (L + 33 + 1 + 0) = z_ar h (L + 33 + 1 + 0) := by
  have hd' := hd
  obtain ⟨s0, ⟨a0, a1, a2⟩, ⟨b0, b1, b2⟩, ⟨c0, c1, c2⟩, ⟨d0, d1, d2⟩, ⟨e0, e1, e2⟩, ⟨f0, f1, f2⟩, ⟨g0, g1, g2⟩⟩ := hd'
  have k24 : ∀ j, j < 7 → z_kd h (L + 33 + 1 + j) ≠ 24 := fun j hj => by
    match j, hj with
    | 0, _ => rw [a1]; decide
    | 1, _ => rw [b1]; decide
    | 2, _ => rw [c1]; decide
    | 3, _ => rw [d1]; decide
    | 4, _ => rw [e1]; decide
    | 5, _ => rw [f1]; decide
    | 6, _ => rw [g1]; decide
  have fx := ex_hl hI hL e (x := L + 33) (by unfold hl; omega) (hX _ ⟨by omega, by omega⟩) (by rw [s0]; decide)
  have fj : ∀ j, j < 7 → z_kd h' (L + 33 + 1 + j) = z_kd h (L + 33 + 1 + j) ∧ z_ln h' (L + 33 + 1 + j) = z_ln h (L + 33 + 1 + j) ∧ z_ai h' (L + 33 + 1 + j) = z_ai h (L + 33 + 1 + j) ∧ z_ar h' (L + 33 + 1 + j) = z_ar h (L + 33 + 1 + j) := fun j hj => by
    have := ex_hl hI hL e (x := L + 33 + 1 + j) (by unfold hl; omega) (hX _ ⟨by omega, by omega⟩) (k24 j hj)
    exact ⟨this.1, this.2.1, this.2.2.2.2.1, this.2.2.2.2.2.2⟩
  refine ⟨⟨by rw [fx.1]; exact s0, ⟨by rw [fx.2.2.2.1]; exact a0, by rw [(fj 0 (by decide)).1]; exact a1, by rw [(fj 0 (by decide)).2.1]; exact a2⟩, ⟨by rw [fx.2.2.2.1]; exact b0, by rw [(fj 1 (by decide)).1]; exact b1, by rw [(fj 1 (by decide)).2.1]; exact b2⟩, ⟨by rw [fx.2.2.2.1]; exact c0, by rw [(fj 2 (by decide)).1]; exact c1, by rw [(fj 2 (by decide)).2.1]; exact c2⟩, ⟨by rw [fx.2.2.2.1]; exact d0, by rw [(fj 3 (by decide)).1]; exact d1, by rw [(fj 3 (by decide)).2.1]; exact d2⟩, ⟨by rw [fx.2.2.2.1]; exact e0, by rw [(fj 4 (by decide)).1]; exact e1, by rw [(fj 4 (by decide)).2.1]; exact e2⟩, ⟨by rw [fx.2.2.2.1]; exact f0, by rw [(fj 5 (by decide)).1]; exact f1, by rw [(fj 5 (by decide)).2.1]; exact f2⟩, ⟨by rw [fx.2.2.2.1]; exact g0, by rw [(fj 6 (by decide)).1]; exact g1, by rw [(fj 6 (by decide)).2.1]; exact g2⟩⟩, fx.2.2.1, fx.2.2.2.1, fun j hj => (fj j hj).2.2.1, (fj 0 (by decide)).2.2.2⟩
/-- what stands when it is ready -/
def dpr (L pl li : Nat) (S : Sc) (h h' : z_H) (a tw : Nat) : Prop := dsh (L + 33) h' ∧ (z_oi h' (L + 33) = z_u (z_oi h (L + 33)) 5 (nI S.1) ∧ z_ar h' (L + 33 + 1 + 0) = z_ar h (L + 33 + 1 + 0)) ∧ (z_or h' (L + 33) 6 = some li ∧ z_or h' (L + 33) 7 = some tw ∧ z_or h' (L + 33) 13 = some a) ∧ (fr L h' tw ∧ z_kd h' tw = 1 ∧ z_ln h' tw = 8 ∧ ∀ p, p < 8 → z_ai h' tw p = nI (g_twT (wpS S) p)) ∧ (own L h' a ∧ z_kd h' a = 1 ∧ z_ln h' a = 9 ∧ ∀ i, i < 9 → z_ai h' a i = mI) ∧ (∀ i, i < 64 → z_ai h' (L + 33 + 1 + 4) i = nI (d_TL (wpS S) i)) ∧ (∀ r, r < 8 → z_ai h' (L + 33 + 1 + 6) r = nI (2 ^ pl - 1)) ∧ (z_n h ≤ a ∧ tw ≠ a)
theorem e2_prepare (hV : ∀ p, p < 8 → V 13 (wpS S) p = nI (g_twT (wpS S) p)) (hI : inv V L h) (hL : L + 75 ≤ z_n h) (hd : dsh (L + 33) h) (o4 : z_oi h (L + 33) 4 = nI pl) (hpl : pl ≤ 16) (hA : sc_at q b h S) (hli : fr L h li) : ∃ h' a tw, z_Ev G (d + 8) k_X2_prepare [.ref (L + 33), .ref q, .ref li] h (.inl none, h') ∧ inv V L h' ∧ ex (dX L) 12 173 h h' ∧ dpr L pl li S h h' a tw := by
  have hX : ∀ a, dX L a → hl L a := fun _ hx => dX_hl hx
  have hFl : ∀ a, (fun _ : Nat => False) a → hl L a := fun _ f => f.elim
  have hnF : ∀ x, dX L x → ¬ (fun _ : Nat => False) x := fun _ _ f => f
  obtain ⟨h1, q1, b1, ev1, I1, e1, A1⟩ := e2_withoutPairs (G := G) (d := d + 1) hI hL hA
  have hS1 := A1.2.1
  have hn := hA.2.1.1
  have L1 : L + 75 ≤ z_n h1 := Nat.le_trans hL (e1 (dX L)).1.1
  have D1 := dsh_ex hI hL (e1 (fun _ => False)) hnF hd
  obtain ⟨g1, eg1⟩ : ∃ g1, g1 = z_poi h1 (L + 33) 5 (nI S.1) := ⟨_, rfl⟩
  have t1 : xt (dX L) h1 g1 := by rw [eg1]; exact xt_poi _ _ ⟨by omega, by omega⟩
  have J1 : inv V L g1 := inv_xt I1 hX t1
  have x1 : ex (dX L) 0 0 h1 g1 := xt_ex t1 (by rw [eg1]; exact Nat.le_refl _) (by rw [eg1]; exact Nat.le_refl _)
  have n1 : L + 75 ≤ z_n g1 := Nat.le_trans L1 x1.1.1
  have B1 : sc_at q1 b1 g1 (wpS S) := ex_sc I1 hX x1 A1
  have Dg1 : dsh (L + 33) g1 := by rw [eg1]; exact D1.1
  obtain ⟨h4, tw, ev4, I4, e4, o13, -⟩ := e8_twins (G := G) (d := d + 1) (X := fun _ => False) hFl J1 n1 hV B1
  have L4 : L + 75 ≤ z_n h4 := Nat.le_trans n1 e4.1.1
  have A4 : sc_at q1 b1 h4 (wpS S) := ex_sc J1 hFl e4 B1
  have D4 := dsh_ex J1 n1 e4 hnF Dg1
  have ktw := kept_row I4 A4 (k := 13) (by omega) o13
  have E04 : ex (dX L) (10 + 0 + 1) (156 + 0 + 8) h h4 := ex_trans hI J1 hX (ex_trans hI I1 hX (e1 (dX L)) x1) (ex_X e4 (fun _ f => f.elim))
  have k4 : z_kd h4 (L + 33) = 18 := D4.1.1
  have fli := (ex_fr hI hX E04 hli)
  obtain ⟨g2, eg2⟩ : ∃ g2, g2 = z_por (z_por h4 (L + 33) 7 (some tw)) (L + 33) 6 (some li) := ⟨_, rfl⟩
  have t2 : xt (dX L) h4 g2 := by rw [eg2]; exact xt_trans (xt_por _ _ ⟨by omega, by omega⟩) (xt_por _ _ ⟨by omega, by omega⟩)
  have I2 : inv V L g2 := inv_xt I4 hX t2
  have n2 : z_n g2 = z_n h4 := by rw [eg2]; rfl
  obtain ⟨a, ea⟩ : ∃ a, a = z_n g2 := ⟨_, rfl⟩
  obtain ⟨g3, eg3⟩ : ∃ g3, g3 = z_nwi g2 1 9 (fun _ => 0) := ⟨_, rfl⟩
  have t3 : xt (dX L) g2 g3 := by rw [eg3]; exact xt_nwi 1 9 _ (by decide)
  have own3 : own L g3 a := by rw [eg3, ea]; exact own_new I2 (by omega) 9 _
  obtain ⟨g4, eg4⟩ : ∃ g4, g4 = z_por g3 (L + 33) 13 (some a) := ⟨_, rfl⟩
  have t4 : xt (dX L) g3 g4 := by rw [eg4]; exact xt_por _ _ ⟨by omega, by omega⟩
  have t24 : xt (dX L) h4 g4 := xt_trans t2 (xt_trans t3 t4)
  have J4 : inv V L g4 := inv_xt I4 hX t24
  have x4 : ex (dX L) 1 9 h4 g4 := xt_ex t24 (by rw [eg4, eg3, eg2]; exact Nat.le_refl _) (by rw [eg4, eg3, eg2]; exact Nat.le_refl _)
  have k3 : z_kd g3 (L + 33) = 18 := by
    rw [eg3]
    show z_u (z_kd g2) (z_n g2) 1 (L + 33) = 18
    rw [u_ne _ _ (by omega), eg2]; exact k4
  have own4 : own L g4 a := by rw [eg4]; exact own_por own3 (by rw [k3]; decide)
  have ka4 : z_kd g4 a = 1 ∧ z_ln g4 a = 9 := by rw [eg4, eg3, ea]; exact ⟨nwi_kd g2 1 9 (fun _ => 0), nwi_ln g2 1 9 (fun _ => 0)⟩
  have or4 : ∀ k, z_or g4 (L + 33) k = if k = 13 then some a else if k = 6 then some li else if k = 7 then some tw else z_or h4 (L + 33) k := fun k => by
    rw [eg4, eg3, eg2]
    show z_u (z_u (z_u (z_or h4) (L + 33) (z_u (z_or h4 (L + 33)) 7 (some tw))) (L + 33) (z_u (z_u (z_or h4) (L + 33) (z_u (z_or h4 (L + 33)) 7 (some tw)) (L + 33)) 6 (some li))) (L + 33) (z_u (z_u (z_u (z_or h4) (L + 33) (z_u (z_or h4 (L + 33)) 7 (some tw))) (L + 33) (z_u (z_u (z_or h4) (L + 33) (z_u (z_or h4 (L + 33)) 7 (some tw)) (L + 33)) 6 (some li)) (L + 33)) 13 (some a)) (L + 33) k = _
    rw [u_eq, u_eq, u_eq]
    rfl
  have oi4 : z_oi g4 (L + 33) = z_u (z_oi h (L + 33)) 5 (nI S.1) := by
    have e1 : z_oi g4 = z_oi h4 := by rw [eg4, eg3, eg2]; rfl
    rw [e1, D4.2.1, eg1]
    show z_u (z_oi h1) (L + 33) (z_u (z_oi h1 (L + 33)) 5 (nI S.1)) (L + 33) = _
    rw [u_eq, D1.2.1]
  have ar4 : z_ar g4 (L + 33 + 1 + 0) = z_ar h (L + 33 + 1 + 0) := by
    have e1 : z_ar g4 = z_ar h4 := by rw [eg4, eg3, eg2]; rfl
    rw [e1, D4.2.2.2.2, show z_ar g1 = z_ar h1 by rw [eg1]; rfl, D1.2.2.2.2]
  have kk4 : ∀ y, y < z_n h4 → z_kd g4 y = z_kd h4 y ∧ z_ln g4 y = z_ln h4 y := fun y hy => ⟨(x4.2 y hy).1, (x4.2 y hy).2.1⟩
  have ds4 : dsh (L + 33) g4 := by
    obtain ⟨s0, ⟨a0, a1, a2⟩, ⟨b0, b1, b2⟩, ⟨c0, c1, c2⟩, ⟨d0, d1, d2⟩, ⟨e0, e1, e2⟩, ⟨f0, f1, f2⟩, ⟨g0, g1, g2⟩⟩ := D4.1
    have kj : ∀ j, j < 8 → z_kd g4 (L + 33 + j) = z_kd h4 (L + 33 + j) ∧ z_ln g4 (L + 33 + j) = z_ln h4 (L + 33 + j) := fun j hj => kk4 _ (by omega)
    have kr : ∀ j, j < 7 → z_kd g4 (L + 33 + 1 + j) = z_kd h4 (L + 33 + 1 + j) ∧ z_ln g4 (L + 33 + 1 + j) = z_ln h4 (L + 33 + 1 + j) := fun j hj => kk4 _ (by omega)
    have oo : ∀ k, k ≠ 13 → k ≠ 6 → k ≠ 7 → z_or g4 (L + 33) k = z_or h4 (L + 33) k := fun k h1 h2 h3 => by rw [or4, if_neg h1, if_neg h2, if_neg h3]
    exact ⟨by rw [(kk4 (L + 33) (by omega)).1]; exact s0, ⟨by rw [oo 0 (by decide) (by decide) (by decide)]; exact a0, by rw [(kr 0 (by decide)).1]; exact a1, by rw [(kr 0 (by decide)).2]; exact a2⟩, ⟨by rw [oo 1 (by decide) (by decide) (by decide)]; exact b0, by rw [(kr 1 (by decide)).1]; exact b1, by rw [(kr 1 (by decide)).2]; exact b2⟩, ⟨by rw [oo 2 (by decide) (by decide) (by decide)]; exact c0, by rw [(kr 2 (by decide)).1]; exact c1, by rw [(kr 2 (by decide)).2]; exact c2⟩, ⟨by rw [oo 3 (by decide) (by decide) (by decide)]; exact d0, by rw [(kr 3 (by decide)).1]; exact d1, by rw [(kr 3 (by decide)).2]; exact d2⟩, ⟨by rw [oo 10 (by decide) (by decide) (by decide)]; exact e0, by rw [(kr 4 (by decide)).1]; exact e1, by rw [(kr 4 (by decide)).2]; exact e2⟩, ⟨by rw [oo 11 (by decide) (by decide) (by decide)]; exact f0, by rw [(kr 5 (by decide)).1]; exact f1, by rw [(kr 5 (by decide)).2]; exact f2⟩, ⟨by rw [oo 12 (by decide) (by decide) (by decide)]; exact g0, by rw [(kr 6 (by decide)).1]; exact g1, by rw [(kr 6 (by decide)).2]; exact g2⟩⟩
  have ra : z_n h4 ≤ a := by omega
  have ane : ∀ j, j < 7 → a ≠ L + 33 + 1 + j := fun j hj => by omega
  -- the rows
  obtain ⟨f5, ef5⟩ : ∃ f5, f5 = fa_fill (fun _ => mI) (z_ai g4 a) 9 := ⟨_, rfl⟩
  obtain ⟨g5, eg5⟩ : ∃ g5, g5 = z_pax g4 a f5 := ⟨_, rfl⟩
  have J5 : inv V L g5 := by rw [eg5]; exact inv_own J4 own4 f5
  have x5 : ex (dX L) 1 9 h4 g5 := by rw [eg5]; exact ex_px x4 (Or.inr (Or.inl ra))
  have ds5 : dsh (L + 33) g5 := by rw [eg5]; exact ds4
  obtain ⟨M, eM⟩ : ∃ M : Nat → Nat → Int32, M = fun k i => if i < k then nI (2 ^ pl - 1) else z_ai g5 (L + 33 + 1 + 6) i := ⟨_, rfl⟩
  obtain ⟨g6, eg6⟩ : ∃ g6, g6 = z_pax g5 (L + 33 + 1 + 6) (M 8) := ⟨_, rfl⟩
  have J6 : inv V L g6 := by rw [eg6]; exact inv_xt J5 hX (xt_pax _ ⟨by omega, by omega⟩)
  have x6 : ex (dX L) 1 9 h4 g6 := by rw [eg6]; exact ex_px x5 (Or.inl ⟨by omega, by omega⟩)
  have ds6 : dsh (L + 33) g6 := by rw [eg6]; exact ds5
  obtain ⟨T, eT⟩ : ∃ T : Nat → Nat → Int32, T = fun k i => if i < k then nI (d_TL (wpS S) i) else z_ai g6 (L + 33 + 1 + 4) i := ⟨_, rfl⟩
  obtain ⟨HT, eHT⟩ : ∃ HT : (Nat → Int32) → z_H, HT = fun F => z_pax g6 (L + 33 + 1 + 4) F := ⟨_, rfl⟩
  have JT : ∀ F, inv V L (HT F) := fun F => by rw [eHT]; exact inv_xt J6 hX (xt_pax _ ⟨by omega, by omega⟩)
  have xT : ∀ F, ex (dX L) 1 9 h4 (HT F) := fun F => by rw [eHT]; exact ex_px x6 (Or.inl ⟨by omega, by omega⟩)
  have dsT : ∀ F, dsh (L + 33) (HT F) := fun F => by rw [eHT]; exact ds6
  have AT : ∀ F, sc_at q1 b1 (HT F) (wpS S) := fun F => ex_sc I4 hX (xT F) A4
  have pT : ∀ F k v, z_pai (HT F) (L + 33 + 1 + 4) k v = HT (z_u F k v) := fun F k v => by
    rw [eHT]
    show z_pai (z_pax g6 (L + 33 + 1 + 4) F) (L + 33 + 1 + 4) k v = z_pax g6 (L + 33 + 1 + 4) (z_u F k v)
    rw [pai_pax, pax2]
    congr 2
    exact u_eq _ _ _
  have hm1 := hS1.2.1
  -- the end
  have last : z_J G (d + 8) (m_X2_prepare z_pu0) (.inl none, HT (T 64)) 76 [some (.ref (L + 33)), none, none, some (.ref q1), some (.int (nI 64))] [] (HT (T 64)) := by
    refine b_X2_prepare_76 (z_pu0V rfl) ?_
    rw [if_neg (nI_nlt (Nat.le_refl _) (by decide))]
  have told : ∀ j i, i + j = 64 → z_J G (d + 8) (m_X2_prepare z_pu0) (.inl none, HT (T 64)) 76 [some (.ref (L + 33)), none, none, some (.ref q1), some (.int (nI i))] [] (HT (T i)) := by
    intro j
    induction j with
    | zero => intro i hi; rw [show i = 64 by omega]; exact last
    | succ j ih =>
      intro i hi
      have hJ := ih (i + 1) (by omega)
      obtain ⟨F, eF⟩ : ∃ F, F = T i := ⟨_, rfl⟩
      have eS : T (i + 1) = z_u F i (nI (d_TL (wpS S) i)) := by
        rw [eF, eT]
        funext y
        by_cases c : y = i
        · rw [c, u_eq]
          show (if i < i + 1 then _ else _) = _
          rw [if_pos (by omega)]
        · rw [u_ne _ _ c]
          show (if y < i + 1 then _ else _) = if y < i then _ else _
          by_cases c2 : y < i
          · rw [if_pos c2, if_pos (by omega)]
          · rw [if_neg c2, if_neg (by omega)]
      rw [eS] at hJ
      rw [← eF]
      have hB := AT F
      have dB := dsT F
      have q10 := dB.2.2.2.2.2.1
      have hd8 : i / 8 < 8 := by omega
      have hm8 : i % 8 < 8 := by omega
      have jv := hB.2.2.2.2.2.2 (i / 8) (i % 8) hd8 hm8
      rw [show 8 * (i / 8) + i % 8 = i by omega] at jv
      have vi64 : vp_in (nI i) (z_ln (HT F) (b1 + 2)) := by rw [(y_join hB).2.2]; exact vp_in_nI (by omega) (by decide)
      have vi64' : vp_in (nI i) (z_ln (HT F) (L + 33 + 1 + 4)) := by rw [q10.2.2]; exact vp_in_nI (by omega) (by decide)
      refine b_X2_prepare_76 (z_pu0V rfl) ?_
      rw [if_pos (nI_lt (by omega) (by decide)), q10.1, z_rcs, (y_join hB).1, z_rcs, z_rcs, (y_row hB).1, z_rcs, z_rcs, nI_clamp (show i < 2 ^ 31 by omega), jv, nI_add, pT, pT]
      refine ⟨dB.1, y_kd hB, (y_join hB).2.1, vi64, ?_⟩
      have dt : d_TL (wpS S) i = if i / 8 = i % 8 then 0 else if c_of (wpS S) (2 ^ (i / 8) ||| 2 ^ (i % 8)) < (wpS S).2.1 then (wpS S).2.2 (c_of (wpS S) (2 ^ (i / 8) ||| 2 ^ (i % 8))) else 0 := rfl
      by_cases c1 : i / 8 = i % 8
      · rw [if_pos c1] at dt
        rw [dt] at hJ
        rw [if_pos c1, if_pos rfl]
        exact ⟨q10.2.1, vi64', hJ⟩
      · rw [if_neg c1] at dt
        rw [if_neg c1]
        unfold c_ofI
        by_cases c2 : c_of (wpS S) (2 ^ (i / 8) ||| 2 ^ (i % 8)) < (wpS S).2.1
        · rw [if_pos c2] at dt ⊢
          rw [dt] at hJ
          rw [if_neg (show ¬ nI (c_of (wpS S) (2 ^ (i / 8) ||| 2 ^ (i % 8))) = mI from t_ne1 (by omega)), nI_clamp (show c_of (wpS S) (2 ^ (i / 8) ||| 2 ^ (i % 8)) < 2 ^ 31 by omega), y_Ln hB c2]
          exact ⟨y_kd hB, y_kd hB, (y_join hB).2.1, vi64, (y_row hB).2.1, by rw [(y_row hB).2.2]; exact vp_in_nI c2 (by omega), q10.2.1, vi64', hJ⟩
        · rw [if_neg c2] at dt ⊢
          rw [dt] at hJ
          rw [if_pos (show (-1 : Int32) = mI from rfl)]
          exact ⟨q10.2.1, vi64', hJ⟩
  have T0 : HT (T 0) = g6 := by
    have e : T 0 = z_ai g6 (L + 33 + 1 + 4) := by
      rw [eT]; funext y; exact if_neg (Nat.not_lt_zero _)
    rw [e, eHT]
    have : z_u (z_ai g6) (L + 33 + 1 + 4) (z_ai g6 (L + 33 + 1 + 4)) = z_ai g6 := u_self _ _
    show (g6.1, z_kd g6, z_ln g6, z_oi g6, z_or g6, z_u (z_ai g6) (L + 33 + 1 + 4) (z_ai g6 (L + 33 + 1 + 4)), z_al g6, z_ar g6) = g6
    rw [this]
    rfl
  have start76 := told 64 0 (by omega)
  rw [T0] at start76
  have p9 : 1 ≤ 2 ^ pl := Nat.one_le_two_pow
  have rooms : ∀ j i, i + j = 8 → z_J G (d + 8) (m_X2_prepare z_pu0) (.inl none, HT (T 64)) 45 [some (.ref (L + 33)), none, none, some (.ref q1), some (.int (nI i))] [] (z_pax g5 (L + 33 + 1 + 6) (M i)) := by
    intro j
    induction j with
    | zero =>
      intro i hi
      rw [show i = 8 by omega, ← eg6]
      refine b_X2_prepare_45 (z_pu0V rfl) ?_
      rw [if_neg (nI_nlt (Nat.le_refl _) (by decide))]
      exact start76
    | succ j ih =>
      intro i hi
      have hJ := ih (i + 1) (by omega)
      have eS : M (i + 1) = z_u (M i) i (nI (2 ^ pl - 1)) := by
        rw [eM]
        funext y
        by_cases c : y = i
        · rw [c, u_eq]
          show (if i < i + 1 then _ else _) = _
          rw [if_pos (by omega)]
        · rw [u_ne _ _ c]
          show (if y < i + 1 then _ else _) = if y < i then _ else _
          by_cases c2 : y < i
          · rw [if_pos c2, if_pos (by omega)]
          · rw [if_neg c2, if_neg (by omega)]
      have pM : z_pai (z_pax g5 (L + 33 + 1 + 6) (M i)) (L + 33 + 1 + 6) i (nI (2 ^ pl - 1)) = z_pax g5 (L + 33 + 1 + 6) (M (i + 1)) := by
        rw [pai_pax, pax2, eS]
        congr 2
        exact u_eq _ _ _
      have w := ds5.2.2.2.2.2.2.2
      have oo4 : z_oi (z_pax g5 (L + 33 + 1 + 6) (M i)) (L + 33) 4 = nI pl := by
        show z_oi g5 (L + 33) 4 = _
        rw [show z_oi g5 = z_oi g4 by rw [eg5]; rfl, oi4, u_ne _ _ (by decide)]
        exact o4
      refine b_X2_prepare_45 (z_pu0V rfl) ?_
      rw [if_pos (nI_lt (by omega) (by decide)), show z_or (z_pax g5 (L + 33 + 1 + 6) (M i)) (L + 33) 12 = some (L + 33 + 1 + 6) from w.1, z_rcs, oo4, show nI 1 <<< (nI pl &&& nI 31) = nI (2 ^ pl) from n_one (by omega), q_sub p9, nI_clamp (show i < 2 ^ 31 by omega), pM, nI_add]
      exact ⟨ds5.1, ds5.1, w.2.1, by rw [show z_ln (z_pax g5 (L + 33 + 1 + 6) (M i)) (L + 33 + 1 + 6) = 72 from w.2.2]; exact vp_in_nI (by omega) (by decide), hJ⟩
  have start45 := rooms 8 0 (by omega)
  have M0 : z_pax g5 (L + 33 + 1 + 6) (M 0) = g5 := by
    have e : M 0 = z_ai g5 (L + 33 + 1 + 6) := by
      rw [eM]; funext y; exact if_neg (Nat.not_lt_zero _)
    rw [e]
    have : z_u (z_ai g5) (L + 33 + 1 + 6) (z_ai g5 (L + 33 + 1 + 6)) = z_ai g5 := u_self _ _
    show (g5.1, z_kd g5, z_ln g5, z_oi g5, z_or g5, z_u (z_ai g5) (L + 33 + 1 + 6) (z_ai g5 (L + 33 + 1 + 6)), z_al g5, z_ar g5) = g5
    rw [this]
    rfl
  rw [M0] at start45
  have fl : z_Ev G (d + 7) k_J7_fill_53178 [.ref a, .int mI] g4 (.inl none, g5) := by
    have t := e_fill (G := G) (d := d + 6) (h := g4) (a := a) (v := mI) ka4.1 (by rw [ka4.2]; decide)
    rw [ka4.2, ← ef5, ← eg5] at t
    exact t
  have hf1 := ex_fr I4 hX (xT (T 64)) ktw.1
  have e13 : z_or g4 (L + 33) 13 = some a := by rw [or4, if_pos rfl]
  refine ⟨HT (T 64), a, tw, en_X2_prepare (b_X2_prepare_0 (z_pu0V rfl) ?_), JT _, ?_, dsT _, ⟨?_, ?_⟩, ⟨?_, ?_, ?_⟩, ⟨hf1.1, ?_, ?_, ?_⟩, ⟨?_, ?_, ?_, ?_⟩, ?_, ?_, ?_⟩
  · refine ⟨_, _, ev1, ?_⟩
    rw [z_rcs, y_n A1, show (wpS S).1 = S.1 from rfl, ← eg1]
    refine ⟨y_kd A1, D1.1.1, y_kd B1, _, _, ev4, ?_⟩
    rw [z_rcs, nI_clamp (show 9 < 2 ^ 31 by decide), ← eg2, ← ea, ← eg3, ← eg4, e13, z_rcs]
    exact ⟨k4, k4, by decide, by decide, k3, by rw [eg4]; exact k3, _, fl, start45⟩
  · exact ex_mono (ex_trans hI I4 hX E04 (xT _)) (by omega) (by omega)
  · rw [eHT]
    show z_oi g6 (L + 33) = _
    rw [show z_oi g6 = z_oi g4 by rw [eg6, eg5]; rfl]
    exact oi4
  · rw [eHT]
    show z_ar g6 (L + 33 + 1 + 0) = _
    rw [show z_ar g6 = z_ar g4 by rw [eg6, eg5]; rfl]
    exact ar4
  · rw [eHT]
    show z_or g6 (L + 33) 6 = _
    rw [show z_or g6 = z_or g4 by rw [eg6, eg5]; rfl, or4, if_neg (by decide), if_pos rfl]
  · rw [eHT]
    show z_or g6 (L + 33) 7 = _
    rw [show z_or g6 = z_or g4 by rw [eg6, eg5]; rfl, or4, if_neg (by decide), if_neg (by decide), if_pos rfl]
  · rw [eHT]
    show z_or g6 (L + 33) 13 = _
    rw [show z_or g6 = z_or g4 by rw [eg6, eg5]; rfl]
    exact e13
  · rw [hf1.2.1]; exact ktw.2.1
  · rw [hf1.2.2.1]; exact ktw.2.2.1
  · intro p hp
    rw [hf1.2.2.2.2.2.1, ktw.2.2.2 p hp]
    exact hV p hp
  · rw [eHT, eg6, eg5]; exact own4
  · rw [eHT, eg6, eg5]; exact ka4.1
  · rw [eHT, eg6, eg5]; exact ka4.2
  · intro i hi
    rw [eHT, eg6, eg5]
    show z_u (z_u (z_u (z_ai g4) a f5) (L + 33 + 1 + 6) (M 8)) (L + 33 + 1 + 4) (T 64) a i = mI
    rw [u_ne _ _ (ane 4 (by decide)), u_ne _ _ (ane 6 (by decide)), u_eq, ef5, fa_fill_in hi]
  · intro i hi
    rw [eHT]
    show z_u (z_ai g6) (L + 33 + 1 + 4) (T 64) (L + 33 + 1 + 4) i = _
    rw [u_eq, eT]
    exact if_pos hi
  · intro r hr
    rw [eHT]
    show z_u (z_ai g6) (L + 33 + 1 + 4) (T 64) (L + 33 + 1 + 6) r = _
    rw [u_ne _ _ (by omega), eg6]
    show z_u (z_ai g5) (L + 33 + 1 + 6) (M 8) (L + 33 + 1 + 6) r = _
    rw [u_eq, eM]
    exact if_pos hr
  · refine ⟨Nat.le_trans E04.1.1 ra, fun e => ?_⟩
    have := ktw.1.1
    omega
end HK1
