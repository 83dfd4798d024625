/-! THE LAW: its start -/
/-- what lies behind the end is nothing -/
def z_cut (h : z_H) : z_H := (h.1, fun q => if q < z_n h then z_kd h q else 0, z_ln h, z_oi h, z_or h, z_ai h, z_al h, z_ar h)
section C23
variable {G : z_G} {d L : Nat} {h h1 : z_H}
theorem cut_R {H : Heap} (hR : z_R G h H) : z_R G (z_cut h) H := by
  refine ⟨hR.1, fun q hq => ?_⟩
  by_cases c : q < z_n h
  · have e : z_kd (z_cut h) q = z_kd h q := if_pos c
    have := hR.2 q (by rw [← e]; exact hq)
    refine ⟨this.1, this.2.1, ?_⟩
    have ok := this.2.2
    unfold z_ok at ok ⊢
    rw [e]
    exact ok
  · exact absurd (show z_kd (z_cut h) q = 0 from if_neg c) hq
theorem ev_cut {κ : z_Key} {As : List Value} {v : Option Value} (hE : z_Ev G d κ As h (.inl v, h1)) : z_Ev G d κ As h (.inl v, z_cut h1) := by
  refine ⟨hE.1, MetFree.mono hE.2 (fun _ _ q => q) (fun _ _ _ _ _ q => q) (fun a s o t _ q => ?_)⟩
  rcases q with ⟨⟨w, w1, w2, w3, w4⟩, q2⟩ | ⟨q, q1, E, ce, LL, q2, q3⟩
  · exact Or.inl ⟨⟨w, w1, w2, cut_R w3, w4⟩, q2⟩
  · cases q2.1
/-- the heap of which nothing is known yet -/
def z_h0 (B : Nat) : z_H := ((B, 0, 0), fun _ => 0, fun _ => 0, fun _ _ => 0, fun _ _ => none, fun _ _ => 0, fun _ _ => 0, fun _ _ => none)
theorem h0_R {H : Heap} (hH : H.size = z_B G) : z_R G (z_h0 (z_B G)) H := ⟨hH, fun q hq => absurd rfl hq⟩
/-- all of an address stays -/
def eqa (h h' : z_H) (a : Nat) : Prop := z_kd h' a = z_kd h a ∧ z_ln h' a = z_ln h a ∧ z_oi h' a = z_oi h a ∧ z_or h' a = z_or h a ∧ z_ai h' a = z_ai h a ∧ z_al h' a = z_al h a ∧ z_ar h' a = z_ar h a
theorem hF_eq {x k κ : Nat} {K Ln : Nat → Nat} {O : Nat → Option Nat} {F : Nat → Int32} (e : ∀ a, x ≤ a → a ≤ x + k → eqa h h1 a) (hf : hF x k κ K Ln O F h) : hF x k κ K Ln O F h1 := by
  obtain ⟨f1, f2, f3, f4⟩ := hf
  have e0 := e x (by omega) (by omega)
  refine ⟨by rw [e0.1]; exact f1, by rw [e0.2.2.2.1]; exact f2, by rw [e0.2.2.1]; exact f3, fun j hj => ?_⟩
  have ej := e (x + 1 + j) (by omega) (by omega)
  obtain ⟨g1, g2, g3, g4, g5⟩ := f4 j hj
  exact ⟨by rw [ej.1]; exact g1, by rw [ej.2.1]; exact g2, fun q => by rw [ej.2.2.2.2.1]; exact g3 q, fun q => by rw [ej.2.2.2.2.2.1]; exact g4 q, fun q => by rw [ej.2.2.2.2.2.2]; exact g5 q⟩
theorem sc_eqa {q b : Nat} {S : Sc} (e : ∀ a, (a = q ∨ (b ≤ a ∧ a < b + 8)) → eqa h h1 a) (hA : sc_at q b h S) : sc_at q b h1 S :=
  sc_at_of hA (fun a ha => ⟨(e a ha).1, (e a ha).2.1⟩) (e q (Or.inl rfl)).2.2.1 (fun k _ => by rw [(e q (Or.inl rfl)).2.2.2.1]) (fun j hj _ _ => (e (b + j) (Or.inr ⟨by omega, by omega⟩)).2.2.2.2.1)
/-- only the first scheme stands, and all stands as it was made -/
theorem st_inv {K1 : Nat → Prop} (hn : L + 75 ≤ z_n h) (hc : cd_at (L + 2) (L + 3) (L + 5) (L + 13) (L + 14) h (c_S0, fun _ => nI 0, fun _ => nI 0)) (hno : sc_no (L + 3) (L + 5) h) (hk : ∀ q, z_kd h q = 24 → q = L + 3) : inv vV L h ∧ cdk L h (L + 2) c_c0 := by
  obtain ⟨c1, c2, ⟨c3, c4, c5⟩, ⟨c6, c7, c8⟩, hA, c9⟩ := hc
  obtain ⟨⟨n8, n10, n11, n13, n14⟩, n12, d1, d2, d3⟩ := hno
  have f : ∀ a, a < L + 75 → ¬ hl L a → (a < L + 3 ∨ L + 13 ≤ a) → fr L h a := fun a h1 h2 h3 => by
    refine ⟨by omega, h2, fun q b hb => ?_⟩
    have e1 := hk q hb.1
    subst e1
    have e2 : b = L + 5 := Option.some.inj (hb.2.symm.trans (y_deg hA).1)
    subst e2
    omega
  refine ⟨fun q hq => ?_, L + 3, L + 5, L + 13, L + 14, ⟨c1, c2, ⟨c3, c4, c5⟩, ⟨c6, c7, c8⟩, hA, c9⟩, f _ (by omega) (by unfold hl; omega) (by omega), f _ (by omega) (by unfold hl; omega) (by omega), f _ (by omega) (by unfold hl; omega) (by omega)⟩
  have e1 := hk q hq
  subst e1
  refine ⟨L + 5, c_S0, hA, ⟨by omega, by omega, fun a h1 h2 q => by have := hk a q; omega, fun a h1 h2 => by unfold hl; omega⟩, ⟨n12, d1, d2⟩, ?_, ?_, ?_, ?_⟩
  · intro s hs a ha
    rcases hs with rfl | rfl | rfl | rfl
    · rw [n8] at ha; cases ha
    · rw [n10] at ha; cases ha
    · rw [n11] at ha; cases ha
    · rw [n13] at ha; cases ha
  · intro i hi a ha
    rw [d3] at ha; cases ha
  · intro q
    exact absurd n8 q
  · intro q' hq'
    rw [n14] at hq'; cases hq'
set_option maxRecDepth 16384 in
theorem ll_start : ∃ h_1 h_2, z_Ev G (d + 27) k_X11_init [.ref L] (z_nwo (z_h0 L) 11 17) (.inl none, h_1) ∧ z_n h_1 = L + 48 ∧ z_Ev G (d + 27) k_X12_init [.ref (L + 48)] (z_nwo h_1 12 52) (.inl none, h_2) ∧ z_n h_2 = L + 74 ∧ LI L 0 (z_nwl h_2 1) := by
  obtain ⟨h', s, ⟨⟨i1, i2⟩, i3, i4, i5, i6, i7, -, i8⟩, s9, ⟨t1, t2⟩, ⟨hc, hno, k4⟩, ⟨v1, v2, v3⟩, ⟨f7, f5, f4, f2, f6, f9, f10⟩, E1⟩ := e11_init (G := G) (d := d + 21) (h0 := z_nwo (z_h0 L) 11 17) (L := L) rfl (u_eq (fun _ => (0 : Nat)) L (27 : Nat)) (u_eq (fun (_ : Nat) (_ : Nat) => (none : Option Nat)) L (fun (_ : Nat) => (none : Option Nat))) (u_eq (fun (_ : Nat) (_ : Nat) => (0 : Int32)) L (fun (_ : Nat) => (0 : Int32)))
  obtain ⟨h2, m1, m2, m3, m4, m5, E2⟩ := e_init (G := G) (d := d + 23) (h0 := z_nwo h' 12 52) (M := L + 48) (by show z_n h' + 1 = _; omega) (by show z_u (z_kd h') (z_n h') 28 (L + 48) = 28; rw [i1, u_eq]) (by show z_u (z_oi h') (z_n h') (fun _ => 0) (L + 48) = _; rw [i1, u_eq])
  refine ⟨h', z_cut (z_rs h2 (L + 48) rF0 rA0), E1, i1, ev_cut E2, m2, ?_⟩
  obtain ⟨g, eg⟩ : ∃ g, g = z_nwl (z_cut (z_rs h2 (L + 48) rF0 rA0)) 1 := ⟨_, rfl⟩
  rw [← eg]
  have en : z_n g = L + 75 := by rw [eg]; show z_n h2 + 1 = _; omega
  have ec : z_c g = 75 := by
    rw [eg]; show z_c h2 + 1 = _
    rw [m3]; show z_c h' + 1 + 25 + 1 = _
    rw [i3]; rfl
  have es : z_s g = 93213 + s := by
    rw [eg]; show z_s h2 + 1 = _
    rw [m4]; show z_s h' + 52 + xs 25 + 1 = _
    rw [i4, show xs 25 = 93143 by decide]; show 0 + 17 + s + 52 + 93143 + 1 = _
    omega
  have kc : ∀ a, a < L + 74 → z_kd g a = z_kd h2 a := fun a ha => by
    rw [eg]
    show z_u (fun q => if q < z_n h2 then z_kd h2 q else 0) (z_n h2) 2 a = _
    rw [u_ne _ _ (by omega)]
    exact if_pos (by omega)
  have lc : ∀ a, a < L + 74 → z_ln g a = z_ln h2 a := fun a ha => by
    rw [eg]
    show z_u (z_ln h2) (z_n h2) 1 a = _
    rw [u_ne _ _ (by omega)]
  have FE : ∀ a, a < L + 48 → eqa h' g a := fun a ha => by
    obtain ⟨q1, q2, q3, q4, q5, q6, q7⟩ := m5 a ha
    refine ⟨?_, ?_, ?_, ?_, ?_, ?_, ?_⟩
    · rw [kc a (by omega), q1]
      show z_u (z_kd h') (z_n h') 28 a = _
      rw [u_ne _ _ (by omega)]
    · rw [lc a (by omega), q2]; rfl
    · rw [eg]
      show z_u (z_oi h2) (L + 48) rF0 a = _
      rw [u_ne _ _ (by omega), q3]
      show z_u (z_oi h') (z_n h') (fun _ => 0) a = _
      rw [u_ne _ _ (by omega)]
    · rw [eg]
      show z_or h2 a = _
      rw [q4]
      show z_u (z_or h') (z_n h') (fun _ => none) a = _
      rw [u_ne _ _ (by omega)]
    · rw [eg]
      show (if L + 48 < a ∧ a ≤ L + 48 + 25 then rA0 (a - (L + 48)) else z_ai h2 a) = _
      rw [if_neg (by omega), q5]; rfl
    · rw [eg]
      show z_u (z_al h2) (z_n h2) (fun _ => 0) a = _
      rw [u_ne _ _ (by omega), q6]; rfl
    · rw [eg]
      show z_ar h2 a = _
      rw [q7]; rfl
  have k74 : z_kd g (L + 74) = 2 ∧ z_ln g (L + 74) = 1 := by
    rw [eg]
    constructor
    · show z_u (fun q => if q < z_n h2 then z_kd h2 q else 0) (z_n h2) 2 (L + 74) = _
      rw [m2, u_eq]
    · show z_u (z_ln h2) (z_n h2) 1 (L + 74) = _
      rw [m2, u_eq]
  have hM : z_sh (L + 48) g := sh_keep m1 (by rw [eg]; rfl) (fun a g0 g1 => ⟨kc a (by omega), lc a (by omega)⟩)
  have hR : g = z_rs g (L + 48) rF0 rA0 := by
    refine rs_keep (h := z_rs h2 (L + 48) rF0 rA0) (rs_rs _ _ _ _ _ _).symm ?_ ?_
    · rw [eg]; rfl
    · intro j _ _; rw [eg]; rfl
  have kM := sh_k1 hM
  -- the kinds
  have c' := hc
  obtain ⟨c1, c2, ⟨c3, c4, c5⟩, ⟨c6, c7, c8⟩, hA, c9⟩ := hc
  obtain ⟨⟨s0, s5, s6, s7, sn9, s2, s3, s4⟩, -⟩ := id hA
  have k24 : ∀ q, z_kd g q = 24 → q = L + 3 := fun q hq => by
    by_cases a1 : q < L + 48
    · rw [(FE q a1).1] at hq
      by_cases a2 : q < L
      · rw [(i8 q a2).1] at hq
        have : z_kd (z_nwo (z_h0 L) 11 17) q = 0 := by
          show z_u (fun _ => 0) L 27 q = 0
          rw [u_ne _ _ (by omega)]
        rw [this] at hq; cases hq
      · have kk := hF_k f7 (by decide) (by decide) q
        have kk5 := hF_k f5 (by decide) (by decide) q
        have kk4 := hF_k f4 (by decide) (by decide) q
        have kk2 := hF_k f2 (by decide) (by decide) q
        have kk6 := hF_k f6 (by decide) (by decide) q
        have kk9 := hF_k f9 (by decide) (by decide) q
        have kk10 := hF_k f10 (by decide) (by decide) q
        obtain ⟨j, ej⟩ : ∃ j, q = L + j := ⟨q - L, by omega⟩
        subst ej
        have hj : j < 48 := by omega
        by_cases j3 : j = 3
        · rw [j3]
        exfalso
        by_cases j16 : 16 ≤ j
        · by_cases x1 : j < 21
          · exact kk (by omega) (by omega) hq
          by_cases x2 : j < 25
          · exact kk5 (by omega) (by omega) hq
          by_cases x3 : j < 33
          · exact kk4 (by omega) (by omega) hq
          by_cases x4 : j < 41
          · exact kk2 (by omega) (by omega) hq
          by_cases x5 : j < 45
          · exact kk6 (by omega) (by omega) hq
          by_cases x6 : j < 46
          · exact kk9 (by omega) (by omega) hq
          exact kk10 (by omega) (by omega) hq
        · have hj : j < 16 := by omega
          match j, hj, j3 with
          | 0, _, _ => rw [show L + 0 = L from rfl, i5] at hq; cases hq
          | 1, _, _ => rw [t1] at hq; cases hq
          | 2, _, _ => rw [c1] at hq; cases hq
          | 3, _, z => exact z rfl
          | 4, _, _ => rw [k4] at hq; cases hq
          | 5, _, _ => rw [s5.2.1] at hq; cases hq
          | 6, _, _ => rw [show L + 6 = L + 5 + 1 from rfl, s6.2.1] at hq; cases hq
          | 7, _, _ => rw [show L + 7 = L + 5 + 2 from rfl, s7.2.1] at hq; cases hq
          | 8, _, _ => rw [show L + 8 = L + 5 + 3 from rfl, sn9.2.1] at hq; cases hq
          | 9, _, _ => rw [show L + 9 = L + 5 + 4 from rfl, hno.2.2.1] at hq; cases hq
          | 10, _, _ => rw [show L + 10 = L + 5 + 5 from rfl, s2.2.1] at hq; cases hq
          | 11, _, _ => rw [show L + 11 = L + 5 + 6 from rfl, s3.2.1] at hq; cases hq
          | 12, _, _ => rw [show L + 12 = L + 5 + 7 from rfl, s4.2.1] at hq; cases hq
          | 13, _, _ => rw [c4] at hq; cases hq
          | 14, _, _ => rw [c7] at hq; cases hq
          | 15, _, _ => rw [v1] at hq; cases hq
          | n + 16, z, _ => omega
    · exfalso
      by_cases a2 : q = L + 48
      · rw [a2, sh_kd hM] at hq; cases hq
      by_cases a3 : q < L + 74
      · have := kM (q - (L + 48)) (by omega) (by omega)
        rw [show L + 48 + (q - (L + 48)) = q by omega, hq] at this; cases this
      by_cases a4 : q = L + 74
      · rw [a4, k74.1] at hq; cases hq
      have : z_kd g q = 0 := by
        rw [eg]
        show z_u (fun q => if q < z_n h2 then z_kd h2 q else 0) (z_n h2) 2 q = _
        rw [u_ne _ _ (by omega)]
        exact if_neg (by omega)
      rw [this] at hq; cases hq
  have hA' : sc_at (L + 3) (L + 5) g c_S0 := sc_eqa (fun a ha => FE a (by omega)) hA
  have hc' : cd_at (L + 2) (L + 3) (L + 5) (L + 13) (L + 14) g (c_S0, fun _ => nI 0, fun _ => nI 0) := by
    have e2 := FE (L + 2) (by omega)
    have e13 := FE (L + 13) (by omega)
    have e14 := FE (L + 14) (by omega)
    exact ⟨by rw [e2.1]; exact c1, by rw [e2.2.2.2.1]; exact c2, ⟨by rw [e2.2.2.2.1]; exact c3, by rw [e13.1]; exact c4, by rw [e13.2.1]; exact c5⟩, ⟨by rw [e2.2.2.2.1]; exact c6, by rw [e14.1]; exact c7, by rw [e14.2.1]; exact c8⟩, hA', fun p hp => by rw [e13.2.2.2.2.1, e14.2.2.2.2.1]; exact c9 p hp⟩
  have hno' : sc_no (L + 3) (L + 5) g := by
    obtain ⟨⟨n8, n10, n11, n13, n14⟩, n12, d1, d2, d3⟩ := hno
    have e3 := FE (L + 3) (by omega)
    have e9 := FE (L + 5 + 4) (by omega)
    exact ⟨⟨by rw [e3.2.2.2.1]; exact n8, by rw [e3.2.2.2.1]; exact n10, by rw [e3.2.2.2.1]; exact n11, by rw [e3.2.2.2.1]; exact n13, by rw [e3.2.2.2.1]; exact n14⟩, by rw [e3.2.2.2.1]; exact n12, by rw [e9.1]; exact d1, by rw [e9.2.1]; exact d2, by rw [e9.2.2.2.2.2.2]; exact d3⟩
  obtain ⟨hI, hK⟩ := st_inv (K1 := fun _ => True) (by omega) hc' hno' k24
  have g7 := hF_eq (fun a h1 h2 => FE a (by omega)) f7
  have g5 := hF_eq (fun a h1 h2 => FE a (by omega)) f5
  have g4 := hF_eq (fun a h1 h2 => FE a (by omega)) f4
  have g2 := hF_eq (fun a h1 h2 => FE a (by omega)) f2
  have g6 := hF_eq (fun a h1 h2 => FE a (by omega)) f6
  have g9 := hF_eq (fun a h1 h2 => FE a (by omega)) f9
  have g10 := hF_eq (fun a h1 h2 => FE a (by omega)) f10
  have e0 := FE L (by omega)
  have e1 := FE (L + 1) (by omega)
  have e15 := FE (L + 15) (by omega)
  have oL := e0.2.2.2.1.trans i6
  have iL := e0.2.2.1.trans i7
  have kL : z_kd g L = 27 := e0.1.trans i5
  have kt : z_kd g (L + 1) = 1 := e1.1.trans t1
  have lt : z_ln g (L + 1) = 400 := e1.2.1.trans t2
  have hB : liB L g := ⟨kL, ⟨by rw [oL]; rfl, kt, lt⟩, ⟨by rw [oL]; rfl, e15.1.trans v1, e15.2.1.trans v2⟩, by rw [oL]; rfl, by rw [oL]; rfl, by rw [oL]; rfl, by rw [oL]; rfl, by rw [oL]; rfl, by rw [oL]; rfl, by rw [oL]; rfl⟩
  have hP : hps L 0 g := by
    refine ⟨?_, ?_, ?_, ?_, ?_, ?_, g9.1, ?_⟩
    · have r1 := g7.2.2.2 1 (by decide)
      have r2 := g7.2.2.2 2 (by decide)
      have r3 := g7.2.2.2 3 (by decide)
      exact ⟨g7.1, kt, lt, ⟨by rw [g7.2.1]; rfl, r1.1, r1.2.1⟩, ⟨by rw [g7.2.1]; rfl, r2.1, r2.2.1⟩, ⟨by rw [g7.2.1]; rfl, r3.1, r3.2.1⟩, by omega⟩
    · have r0 := g5.2.2.2 0 (by decide)
      have r1 := g5.2.2.2 1 (by decide)
      have r2 := g5.2.2.2 2 (by decide)
      refine ⟨⟨g5.1, ⟨by rw [g5.2.1]; rfl, r0.1, r0.2.1⟩, ⟨by rw [g5.2.1]; rfl, r1.1, r1.2.1⟩, ⟨by rw [g5.2.1]; rfl, r2.1, r2.2.1⟩⟩, fun q hq => ?_, fun q1 q2 hq _ => ?_⟩
      · rw [g5.2.1] at hq; cases hq
      · rw [g5.2.1] at hq; cases hq
    · have r0 := g4.2.2.2 0 (by decide)
      have r1 := g4.2.2.2 1 (by decide)
      have r2 := g4.2.2.2 2 (by decide)
      have r3 := g4.2.2.2 3 (by decide)
      have r4 := g4.2.2.2 4 (by decide)
      have r5 := g4.2.2.2 5 (by decide)
      have r6 := g4.2.2.2 6 (by decide)
      refine ⟨⟨g4.1, ⟨by rw [g4.2.1]; rfl, r0.1, r0.2.1⟩, ⟨by rw [g4.2.1]; rfl, r1.1, r1.2.1⟩, ⟨by rw [g4.2.1]; rfl, r2.1, r2.2.1⟩, ⟨by rw [g4.2.1]; rfl, r3.1, r3.2.1⟩, ⟨by rw [g4.2.1]; rfl, r4.1, r4.2.1⟩, ⟨by rw [g4.2.1]; rfl, r5.1, r5.2.1⟩, ⟨by rw [g4.2.1]; rfl, r6.1, r6.2.1⟩⟩, ⟨fun _ => 0, ?_, fun _ _ => (by decide : 0 < 128)⟩, ⟨fun _ => 1, ?_, fun _ => (by decide : 1 < 2 ^ 62)⟩, fun _ => 1, ?_, fun _ => (by decide : 1 < 2 ^ 62)⟩
      · exact r4.2.2.1 (Or.inl rfl)
      · exact r0.2.2.2.1 rfl
      · exact r1.2.2.2.1 rfl
    · exact ⟨by decide, by rw [g4.2.2.1]; rfl, fun m hm => absurd hm (Nat.not_lt_zero _)⟩
    · have r0 := g2.2.2.2 0 (by decide)
      have r1 := g2.2.2.2 1 (by decide)
      have r2 := g2.2.2.2 2 (by decide)
      have r3 := g2.2.2.2 3 (by decide)
      have r4 := g2.2.2.2 4 (by decide)
      have r5 := g2.2.2.2 5 (by decide)
      have r6 := g2.2.2.2 6 (by decide)
      refine ⟨⟨g2.1, ⟨by rw [g2.2.1]; rfl, r0.1, r0.2.1⟩, ⟨by rw [g2.2.1]; rfl, r1.1, r1.2.1⟩, ⟨by rw [g2.2.1]; rfl, r2.1, r2.2.1⟩, ⟨by rw [g2.2.1]; rfl, r3.1, r3.2.1⟩, ⟨by rw [g2.2.1]; rfl, r4.1, r4.2.1⟩, ⟨by rw [g2.2.1]; rfl, r5.1, r5.2.1⟩, ⟨by rw [g2.2.1]; rfl, r6.1, r6.2.1⟩⟩, fun i hi a ha => ?_⟩
      rw [r0.2.2.2.2 (Or.inr rfl)] at ha; cases ha
    · have r0 := g6.2.2.2 0 (by decide)
      have r1 := g6.2.2.2 1 (by decide)
      have r2 := g6.2.2.2 2 (by decide)
      refine ⟨⟨g6.1, ⟨by rw [g6.2.1]; rfl, r0.1, r0.2.1⟩, ⟨by rw [g6.2.1]; rfl, r1.1, r1.2.1⟩, ⟨by rw [g6.2.1]; rfl, r2.1, r2.2.1⟩⟩, ?_⟩
      rw [show L + 43 = L + 41 + 1 + 1 from rfl, r1.2.2.1 (Or.inl rfl)]; rfl
    · have r0 := g10.2.2.2 0 (by decide)
      exact ⟨g10.1, by rw [g10.2.1]; rfl, r0.1, r0.2.1⟩
  have hT : sT L g σ0 := by
    unfold sT sV
    rw [oL, iL, e15.2.2.2.2.2.2, v3]
    exact ⟨⟨rfl, by decide, fun i hi => absurd hi (Nat.not_lt_zero _)⟩, rfl, ⟨L + 2, rfl, hK, cok_0⟩, fun s _ => rfl, trivial, rfl, ⟨rfl, rfl⟩, rfl⟩
  refine ⟨σ0, rF0, rA0, 0, ⟨⟨⟨hB, hP, hI, by omega⟩, hT⟩, hM, hR, k74⟩, rI_0, rL_0, ?_⟩
  unfold LC
  omega
end C23
