theorem en_X8_twins {pu : Nat → Option ((List Value → z_H → Prop) × (List Value → z_H → Int32))} {G : z_G} {d : Nat} {r : z_Res} {h : z_H} {x0 : Nat} (hJ : z_J G d (m_X8_twins pu) r 0 [some (.ref x0), none, none, none] [] h) : z_Ev G d k_X8_twins [.ref x0] h r := z_enter (μ := m_X8_twins pu) rfl (by decide) rfl rfl (fun q => by cases q) (Nat.le_of_ble_eq_true rfl) hJ
def hd_X8_twins : Nat → Option (List Bool) := (fun k => (cond (Nat.blt k 78) (cond (Nat.blt k 24) (cond (Nat.beq k 14) (some [true, true, true, false]) none) (cond (Nat.beq k 24) (some [true, true, true, true]) none)) none))
set_option maxRecDepth 20000 in
theorem b_X8_twins_0 {G : z_G} {d : Nat} {r : z_Res} (hPu : z_PuV G d (t_X8 z_pu0)) {h : z_H} {x0 : Nat} (hT : (z_kd h x0 = 24 ∧ (z_rc (z_or h x0 13) (¬ (nI 8) < 0 ∧ Int32.toNatClampNeg (nI 8) ≤ 1000000 ∧ (z_J G (d + 1) (m_X8_twins z_pu0) r) 14 [some (.ref x0), some (.ref (z_n h)), some (.int (nI 0)), none] [] (z_nwi h 1 (Int32.toNatClampNeg (nI 8)) (fun _ => 0))) (fun x_1 => (z_kd h x0 = 24 ∧ (z_rc (z_or h x0 13) (r = (.inl (some (va_rf none)), h)) (fun x_2 => r = (.inl (some (va_rf (some x_2))), h)))))))) : (z_J G (d + 1) (m_X8_twins z_pu0) r) 0 [some (.ref x0), none, none, none] [] h := z_bq (v_X8 z_pu0 (vP_X8_twins z_pu0) hPu) hd_X8_twins 11 hT
set_option maxRecDepth 20000 in
theorem b_X8_twins_14 {G : z_G} {d : Nat} {r : z_Res} (hPu : z_PuV G d (t_X8 z_pu0)) {h : z_H} {x0 : Nat} {x1 : Nat} {x2 : Int32} (hT : (z_kd h x0 = 24 ∧ (if x2 < (z_oi h x0 0) then (z_J G (d + 1) (m_X8_twins z_pu0) r) 24 [some (.ref x0), some (.ref x1), some (.int x2), some (.int (nI 0))] [] h else (z_kd h x0 = 24 ∧ (z_kd (z_por h x0 13 (some x1)) x0 = 24 ∧ (z_rc (z_or (z_por h x0 13 (some x1)) x0 13) (r = (.inl (some (va_rf none)), z_por h x0 13 (some x1))) (fun x_1 => r = (.inl (some (va_rf (some x_1))), z_por h x0 13 (some x1))))))))) : (z_J G (d + 1) (m_X8_twins z_pu0) r) 14 [some (.ref x0), some (.ref x1), some (.int x2), none] [] h := z_bq (v_X8 z_pu0 (vP_X8_twins z_pu0) hPu) hd_X8_twins 12 hT
set_option maxRecDepth 20000 in
theorem b_X8_twins_24 {G : z_G} {d : Nat} {r : z_Res} (hPu : z_PuV G d (t_X8 z_pu0)) {h : z_H} {x0 : Nat} {x1 : Nat} {x2 : Int32} {x3 : Int32} (hT : (if x3 < x2 then (z_kd h x0 = 24 ∧ ∃ x_2 h_1, z_Ev G d k_X8_areTwins [.ref x0, .int x2, .int x3] h (.inl (some (.int x_2)), h_1) ∧ (if x_2 = (nI 0) then (z_J G (d + 1) (m_X8_twins z_pu0) r) 24 [some (.ref x0), some (.ref x1), some (.int x2), some (.int (x3 + (nI 1)))] [] h_1 else (z_kd h_1 x1 = 1 ∧ vp_in x2 (z_ln h_1 x1) ∧ (z_kd h_1 x1 = 1 ∧ vp_in x2 (z_ln h_1 x1) ∧ (z_kd (z_pai h_1 x1 (Int32.toNatClampNeg x2) ((z_ai h_1 x1 (Int32.toNatClampNeg x2)) ||| ((nI 1) <<< (x3 &&& (nI 31))))) x1 = 1 ∧ vp_in x3 (z_ln (z_pai h_1 x1 (Int32.toNatClampNeg x2) ((z_ai h_1 x1 (Int32.toNatClampNeg x2)) ||| ((nI 1) <<< (x3 &&& (nI 31))))) x1) ∧ (z_kd (z_pai h_1 x1 (Int32.toNatClampNeg x2) ((z_ai h_1 x1 (Int32.toNatClampNeg x2)) ||| ((nI 1) <<< (x3 &&& (nI 31))))) x1 = 1 ∧ vp_in x3 (z_ln (z_pai h_1 x1 (Int32.toNatClampNeg x2) ((z_ai h_1 x1 (Int32.toNatClampNeg x2)) ||| ((nI 1) <<< (x3 &&& (nI 31))))) x1) ∧ (z_J G (d + 1) (m_X8_twins z_pu0) r) 24 [some (.ref x0), some (.ref x1), some (.int x2), some (.int (x3 + (nI 1)))] [] (z_pai (z_pai h_1 x1 (Int32.toNatClampNeg x2) ((z_ai h_1 x1 (Int32.toNatClampNeg x2)) ||| ((nI 1) <<< (x3 &&& (nI 31))))) x1 (Int32.toNatClampNeg x3) ((z_ai (z_pai h_1 x1 (Int32.toNatClampNeg x2) ((z_ai h_1 x1 (Int32.toNatClampNeg x2)) ||| ((nI 1) <<< (x3 &&& (nI 31))))) x1 (Int32.toNatClampNeg x3)) ||| ((nI 1) <<< (x2 &&& (nI 31))))))))))) else (z_J G (d + 1) (m_X8_twins z_pu0) r) 14 [some (.ref x0), some (.ref x1), some (.int (x2 + (nI 1))), none] [] h)) : (z_J G (d + 1) (m_X8_twins z_pu0) r) 24 [some (.ref x0), some (.ref x1), some (.int x2), some (.int x3)] [] h := z_bq (v_X8 z_pu0 (vP_X8_twins z_pu0) hPu) hd_X8_twins 31 hT
theorem en_X8_makeTurned {pu : Nat → Option ((List Value → z_H → Prop) × (List Value → z_H → Int32))} {G : z_G} {d : Nat} {r : z_Res} {h : z_H} {x0 : Nat} (hJ : z_J G d (m_X8_makeTurned pu) r 0 [some (.ref x0), none, none, none] [] h) : z_Ev G d k_X8_makeTurned [.ref x0] h r := z_enter (μ := m_X8_makeTurned pu) rfl (by decide) rfl rfl (fun q => by cases q) (Nat.le_of_ble_eq_true rfl) hJ
def hd_X8_makeTurned : Nat → Option (List Bool) := (fun k => (cond (Nat.blt k 71) (cond (Nat.beq k 9) (some [true, true, true, true]) none) none))
set_option maxRecDepth 20000 in
theorem b_X8_makeTurned_0 {G : z_G} {d : Nat} {r : z_Res} (hPu : z_PuV G d (t_X8 z_pu0)) {h : z_H} {x0 : Nat} (hT : (¬ (nI 8) < 0 ∧ Int32.toNatClampNeg (nI 8) ≤ 1000000 ∧ (z_J G (d + 1) (m_X8_makeTurned z_pu0) r) 9 [some (.ref x0), some (.ref (z_n h)), some (.int (nI 0)), some (.int (nI 0))] [] (z_nwi h 1 (Int32.toNatClampNeg (nI 8)) (fun _ => 0)))) : (z_J G (d + 1) (m_X8_makeTurned z_pu0) r) 0 [some (.ref x0), none, none, none] [] h := z_bq (v_X8 z_pu0 (vP_X8_makeTurned z_pu0) hPu) hd_X8_makeTurned 10 hT
set_option maxRecDepth 20000 in
theorem b_X8_makeTurned_9 {G : z_G} {d : Nat} {r : z_Res} (hPu : z_PuV G d (t_X8 z_pu0)) {h : z_H} {x0 : Nat} {x1 : Nat} {x2 : Int32} {x3 : Int32} (hT : (z_kd h x0 = 24 ∧ (if x3 < (z_oi h x0 0) then (z_kd h x0 = 24 ∧ (z_rc (z_or h x0 5) False (fun x_1 => (z_kd h x_1 = 1 ∧ vp_in x3 (z_ln h x_1) ∧ (if (nI 4) < (z_ai h x_1 (Int32.toNatClampNeg x3)) then r = (.inl (some (va_rf none)), h) else (z_kd h x0 = 24 ∧ (z_rc (z_or h x0 5) False (fun x_2 => (z_kd h x_2 = 1 ∧ vp_in x3 (z_ln h x_2) ∧ (if (z_ai h x_2 (Int32.toNatClampNeg x3)) < (nI 2) then (z_J G (d + 1) (m_X8_makeTurned z_pu0) r) 9 [some (.ref x0), some (.ref x1), some (.int x2), some (.int (x3 + (nI 1)))] [] h else (z_kd h x0 = 24 ∧ (z_rc (z_or h x0 6) False (fun x_3 => (z_kd h x_3 = 1 ∧ vp_in x3 (z_ln h x_3) ∧ (z_kd h x1 = 1 ∧ vp_in x2 (z_ln h x1) ∧ (z_J G (d + 1) (m_X8_makeTurned z_pu0) r) 9 [some (.ref x0), some (.ref x1), some (.int (x2 + (nI 1))), some (.int (x3 + (nI 1)))] [] (z_pai h x1 (Int32.toNatClampNeg x2) (z_ai h x_3 (Int32.toNatClampNeg x3)))))))))))))))))) else (z_kd (z_nwo h 8 15) x0 = 24 ∧ (∃ h_4, z_Ev G d k_X8_init [.ref (z_n h), .int (z_oi (z_nwo h 8 15) x0 1), .ref x1, .int x2] (z_nwo h 8 15) (.inl none, h_4) ∧ r = (.inl (some (va_rf (some (z_n h)))), h_4)))))) : (z_J G (d + 1) (m_X8_makeTurned z_pu0) r) 9 [some (.ref x0), some (.ref x1), some (.int x2), some (.int x3)] [] h := z_bq (v_X8 z_pu0 (vP_X8_makeTurned z_pu0) hPu) hd_X8_makeTurned 29 hT
theorem en_X8_turned {pu : Nat → Option ((List Value → z_H → Prop) × (List Value → z_H → Int32))} {G : z_G} {d : Nat} {r : z_Res} {h : z_H} {x0 : Nat} (hJ : z_J G d (m_X8_turned pu) r 0 [some (.ref x0)] [] h) : z_Ev G d k_X8_turned [.ref x0] h r := z_enter (μ := m_X8_turned pu) rfl (by decide) rfl rfl (fun q => by cases q) (Nat.le_of_ble_eq_true rfl) hJ
def hd_X8_turned : Nat → Option (List Bool) := (fun k => none)
set_option maxRecDepth 20000 in
theorem b_X8_turned_0 {G : z_G} {d : Nat} {r : z_Res} (hPu : z_PuV G d (t_X8 z_pu0)) {h : z_H} {x0 : Nat} (hT : (z_kd h x0 = 24 ∧ (z_rc (z_or h x0 14) (z_kd h x0 = 24 ∧ (if (z_oi h x0 1) < (nI 1) then (z_kd h x0 = 24 ∧ (z_rc (z_or h x0 14) (r = (.inl (some (va_rf none)), h)) (fun x_2 => r = (.inl (some (va_rf (some x_2))), h)))) else (z_kd h x0 = 24 ∧ (if (nI 8) < (z_oi h x0 1) then (z_kd h x0 = 24 ∧ (z_rc (z_or h x0 14) (r = (.inl (some (va_rf none)), h)) (fun x_3 => r = (.inl (some (va_rf (some x_3))), h)))) else (z_kd h x0 = 24 ∧ ∃ o_5 h_4, z_Ev G d k_X8_makeTurned [.ref x0] h (.inl (some (va_rf o_5)), h_4) ∧ (z_rc o_5 (z_kd h_4 x0 = 24 ∧ (z_kd (z_por h_4 x0 14 none) x0 = 24 ∧ (z_rc (z_or (z_por h_4 x0 14 none) x0 14) (r = (.inl (some (va_rf none)), z_por h_4 x0 14 none)) (fun x_7 => r = (.inl (some (va_rf (some x_7))), z_por h_4 x0 14 none))))) (fun x_6 => (z_kd h_4 x0 = 24 ∧ (z_kd (z_por h_4 x0 14 (some x_6)) x0 = 24 ∧ (z_rc (z_or (z_por h_4 x0 14 (some x_6)) x0 14) (r = (.inl (some (va_rf none)), z_por h_4 x0 14 (some x_6))) (fun x_8 => r = (.inl (some (va_rf (some x_8))), z_por h_4 x0 14 (some x_6))))))))))))) (fun x_1 => (z_kd h x0 = 24 ∧ (z_rc (z_or h x0 14) (r = (.inl (some (va_rf none)), h)) (fun x_9 => r = (.inl (some (va_rf (some x_9))), h)))))))) : (z_J G (d + 1) (m_X8_turned z_pu0) r) 0 [some (.ref x0)] [] h := z_bq (v_X8 z_pu0 (vP_X8_turned z_pu0) hPu) hd_X8_turned 20 hT
theorem en_X8_withPoints {pu : Nat → Option ((List Value → z_H → Prop) × (List Value → z_H → Int32))} {G : z_G} {d : Nat} {r : z_Res} {h : z_H} {x0 : Nat} {x1 : Int32} (hJ : z_J G d (m_X8_withPoints pu) r 0 [some (.ref x0), some (.int x1)] [] h) : z_Ev G d k_X8_withPoints [.ref x0, .int x1] h r := z_enter (μ := m_X8_withPoints pu) rfl (by decide) rfl rfl (fun q => by cases q) (Nat.le_of_ble_eq_true rfl) hJ
def hd_X8_withPoints : Nat → Option (List Bool) := (fun k => none)
set_option maxRecDepth 20000 in
theorem b_X8_withPoints_0 {G : z_G} {d : Nat} {r : z_Res} (hPu : z_PuV G d (t_X8 z_pu0)) {h : z_H} {x0 : Nat} {x1 : Int32} (hT : (z_kd (z_nwo h 8 15) x0 = 24 ∧ (z_rc (z_or (z_nwo h 8 15) x0 2) (z_kd (z_nwo h 8 15) x0 = 24 ∧ (∃ h_2, z_Ev G d k_X8_init [.ref (z_n h), .int x1, .null, .int (z_oi (z_nwo h 8 15) x0 1)] (z_nwo h 8 15) (.inl none, h_2) ∧ r = (.inl (some (va_rf (some (z_n h)))), h_2))) (fun x_1 => (z_kd (z_nwo h 8 15) x0 = 24 ∧ (∃ h_3, z_Ev G d k_X8_init [.ref (z_n h), .int x1, .ref x_1, .int (z_oi (z_nwo h 8 15) x0 1)] (z_nwo h 8 15) (.inl none, h_3) ∧ r = (.inl (some (va_rf (some (z_n h)))), h_3))))))) : (z_J G (d + 1) (m_X8_withPoints z_pu0) r) 0 [some (.ref x0), some (.int x1)] [] h := z_bq (v_X8 z_pu0 (vP_X8_withPoints z_pu0) hPu) hd_X8_withPoints 11 hT
/-! a new scheme in the class's heap -/
section FT
variable {V : CV} {L q b c s : Nat} {h h0 h1 : z_H} {S : Sc} {X : Nat → Prop} {G : z_G} {d : Nat}
theorem inv_new (hI : inv V L h) (hL : L + 75 ≤ z_n h) (hq : z_n h ≤ q) (hqb : q < b) (e0 : ∀ a, a < z_n h → z_kd h0 a = z_kd h a ∧ z_ln h0 a = z_ln h a ∧ z_oi h0 a = z_oi h a ∧ z_or h0 a = z_or h a ∧ z_ai h0 a = z_ai h a ∧ z_al h0 a = z_al h a ∧ z_ar h0 a = z_ar h a) (k0 : ∀ a, z_n h ≤ a → a ≠ q → z_kd h0 a ≠ 24) (hn : z_n h1 = b + 8 ∧ ∀ a, b + 8 ≤ a → z_kd h1 a = z_kd h0 a) (hc : z_c h1 ≤ z_c h + c) (hs : z_s h1 ≤ z_s h + s) (hA : sc_at q b h1 S) (hN : sc_no q b h1) (hf : frq q b h0 h1) : inv V L h1 ∧ ex X c s h h1 := by
  have sm : ∀ a, a < z_n h → z_kd h1 a = z_kd h a ∧ z_ln h1 a = z_ln h a ∧ z_oi h1 a = z_oi h a ∧ z_or h1 a = z_or h a ∧ z_ai h1 a = z_ai h a ∧ z_al h1 a = z_al h a ∧ z_ar h1 a = z_ar h a := fun a ha => by
    obtain ⟨x1, x2, x3, x4, x5, x6, x7⟩ := e0 a ha
    obtain ⟨y1, y2, y3, y4, y5, y6, y7⟩ := hf a (by omega) (by omega)
    exact ⟨y1.trans x1, y2.trans x2, y3.trans x3, y4.trans x4, y5.trans x5, y6.trans x6, y7.trans x7⟩
  have e : ∀ X : Nat → Prop, ex X c s h h1 := fun X => ⟨⟨by omega, hc, hs⟩, fun a ha => ⟨(sm a ha).1, (sm a ha).2.1, fun _ => ⟨(sm a ha).2.2.1, (sm a ha).2.2.2.2.2.1, fun k => Or.inr (by rw [(sm a ha).2.2.2.1]), Or.inr ⟨(sm a ha).2.2.2.2.1, (sm a ha).2.2.2.2.2.2⟩⟩⟩⟩
  have hX : ∀ a, (fun _ : Nat => False) a → hl L a := fun _ f => f.elim
  have kb : ∀ a, q < a → a < b + 8 → z_kd h1 a ≠ 24 := fun a ha hb => by
    rcases Nat.lt_or_ge a b with c | c
    · rw [(hf a c (by omega)).1]; exact k0 a (by omega) (by omega)
    · have k := hA.1
      obtain ⟨j, rfl⟩ : ∃ j, a = b + j := ⟨a - b, by omega⟩
      have hj : j < 8 := by omega
      have k5 := (y_deg hA).2.1
      have k6 := (y_on hA).2.1
      have k7 := (y_join hA).2.1
      have k9 := (y_orb hA).2.1
      have k2 := (y_row hA).2.1
      have k3 := (y_size hA).2.1
      have k4 := (y_first hA).2.1
      have kd := hN.2.2.1
      match j, hj with
      | 0, _ => rw [Nat.add_zero, k5]; decide
      | 1, _ => rw [k6]; decide
      | 2, _ => rw [k7]; decide
      | 3, _ => rw [k9]; decide
      | 4, _ => rw [kd]; decide
      | 5, _ => rw [k2]; decide
      | 6, _ => rw [k3]; decide
      | 7, _ => rw [k4]; decide
  refine ⟨inv_g hI hX (e _) (fun q' hq' hk' => ?_) (fun q' b' S' hk' => ?_), e X⟩
  · have e1 : q' = q := by
      apply Classical.byContradiction
      intro n
      rcases Nat.lt_or_ge q' b with c | c
      · exact k0 q' hq' n ((hf q' c n).1 ▸ hk')
      · rcases Nat.lt_or_ge q' (b + 8) with c' | c'
        · exact kb q' (by omega) c' hk'
        · exact k0 q' hq' n ((hn.2 q' c') ▸ hk')
    subst e1
    refine ⟨b, S, hA, ⟨hqb, by omega, kb, fun a ha _ hh => by unfold hl at hh; omega⟩, ⟨hN.2.1, hN.2.2.1, hN.2.2.2.1⟩, fun k hk a ha => ?_, fun i hi a ha => ?_, fun h8 => absurd hN.1.1 h8, fun q2 hq2 => ?_⟩
    · obtain ⟨n1, n2, n3, n4, n5⟩ := hN.1
      rcases hk with rfl | rfl | rfl | rfl
      · rw [n1] at ha; cases ha
      · rw [n2] at ha; cases ha
      · rw [n3] at ha; cases ha
      · rw [n4] at ha; cases ha
    · rw [hN.2.2.2.2] at ha; cases ha
    · rw [hN.1.2.2.2.2] at hq2; cases hq2
  · have l := hk'.2.1
    exact cs_of hI hX (e _) hk' (fun k _ => by rw [(sm q' (by have := l.1; have := l.2.1; omega)).2.2.2.1]) (sm (b' + 3) (by have := l.2.1; omega)).2.2.2.2.1 (sm (b' + 4) (by have := l.2.1; omega)).2.2.2.2.2.2
theorem nwo_sm {ci N a : Nat} (ha : a < z_n h) : z_kd (z_nwo h ci N) a = z_kd h a ∧ z_ln (z_nwo h ci N) a = z_ln h a ∧ z_oi (z_nwo h ci N) a = z_oi h a ∧ z_or (z_nwo h ci N) a = z_or h a ∧ z_ai (z_nwo h ci N) a = z_ai h a ∧ z_al (z_nwo h ci N) a = z_al h a ∧ z_ar (z_nwo h ci N) a = z_ar h a := ⟨u_ne _ _ (by omega), rfl, u_ne _ _ (by omega), u_ne _ _ (by omega), rfl, rfl, rfl⟩
/-- new Scheme(points, numbers, lines) -/
theorem mk_sc (hI : inv V L h) (hL : L + 75 ≤ z_n h) (hS : c_sok S) {a La : Nat} (ha : a < z_n h) (k1 : z_kd h a = 1) (k2 : z_ln h a = La) (hLa : La < 2 ^ 31) (hL2 : S.2.1 ≤ La) (hrow : ∀ l, l < S.2.1 → z_ai h a l = nI (S.2.2 l)) : ∃ h1, z_Ev G (d + 5) k_X8_init [.ref (z_n h), .int (nI S.1), .ref a, .int (nI S.2.1)] (z_nwo h 8 15) (.inl none, h1) ∧ inv V L h1 ∧ ex X 9 144 h h1 ∧ sc_at (z_n h) (z_n h + 1) h1 S ∧ sc_no (z_n h) (z_n h + 1) h1 := by
  have hm := hS.2.1
  have f := nwo_sm (h := h) (ci := 8) (N := 15) ha
  obtain ⟨h1, ev, hn, hc, hs, hA, hN, hf⟩ := e8_init (G := G) (d := d) (h0 := z_nwo h 8 15) (q := z_n h) (b := z_n h + 1) (a := a) (La := La) hS rfl (u_eq _ _ _) (by omega) (by omega) (by omega) (by rw [f.1]; exact k1) (by rw [f.2.1]; exact k2) hLa hL2 (fun l hl => by rw [f.2.2.2.2.1]; exact hrow l hl)
  have := inv_new (X := X) (c := 9) (s := 144) (q := z_n h) (b := z_n h + 1) (h0 := z_nwo h 8 15) hI hL (Nat.le_refl _) (by omega) (fun a ha => nwo_sm ha) (fun a ha hq => by
    show z_u (z_kd h) (z_n h) 24 a ≠ 24
    rw [u_ne _ _ hq]; exact inv_n hI ha) hn (by rw [hc]; show z_c h + 1 + 8 ≤ _; omega) (by rw [hs]; show z_s h + 15 + _ ≤ _; omega) hA hN hf
  exact ⟨h1, ev, this.1, this.2, hA, hN⟩
end FT
/-! twins -/
def g_tw (S : Sc) (p q : Nat) : Bool := decide (n_pc (c_on S p) = n_pc (c_on S q)) && !c_any (fun i => decide (S.2.2 i &&& (2 ^ p ||| 2 ^ q) = 2 ^ p) && !c_any (fun l => decide (S.2.2 l = S.2.2 i ^^^ (2 ^ p ||| 2 ^ q))) S.2.1) S.2.1
def g_twT (S : Sc) : Nat → Nat := it (fun p T => it (fun q T => if g_tw S p q then z_u (z_u T p (T p ||| 2 ^ q)) q (z_u T p (T p ||| 2 ^ q) q ||| 2 ^ p) else T) T p) (fun _ => 0) S.1
theorem nu (T : Nat → Nat) (k v : Nat) : z_u (fun i => nI (T i)) k (nI v) = fun i => nI (z_u T k v i) := by
  funext i
  unfold z_u
  split <;> rfl
theorem nwi_pai (h : z_H) (tag m : Nat) (f : Nat → Int32) (k : Nat) (v : Int32) : z_pai (z_nwi h tag m f) (z_n h) k v = z_nwi h tag m (z_u f k v) := by
  have e : z_uu (z_u (z_ai h) (z_n h) f) (z_n h) k v = z_u (z_ai h) (z_n h) (z_u f k v) := by
    unfold z_uu
    rw [u_eq, u_u]
  show ((z_nwi h tag m f).1, z_kd (z_nwi h tag m f), z_ln (z_nwi h tag m f), z_oi h, z_or h, z_uu (z_u (z_ai h) (z_n h) f) (z_n h) k v, z_al h, z_ar h) = _
  rw [e]
  rfl
theorem nwi_ai (h : z_H) (tag m : Nat) (f : Nat → Int32) : z_ai (z_nwi h tag m f) (z_n h) = f := u_eq _ _ _
theorem nwi_kd (h : z_H) (tag m : Nat) (f : Nat → Int32) : z_kd (z_nwi h tag m f) (z_n h) = tag := u_eq _ _ _
theorem nwi_ln (h : z_H) (tag m : Nat) (f : Nat → Int32) : z_ln (z_nwi h tag m f) (z_n h) = m := u_eq _ _ _
section FU
variable {V : CV} {L q b : Nat} {h : z_H} {S : Sc} {X : Nat → Prop} {G : z_G} {d : Nat}
theorem xor_lt256 {a b : Nat} (ha : a < 256) (hb : b < 256) : a ^^^ b < 256 := Nat.xor_lt_two_pow (n := 8) ha hb
theorem e8_areTwins (hA : sc_at q b h S) {p r : Nat} (hp : p < 8) (hr : r < 8) : z_Ev G (d + 5) k_X8_areTwins [.ref q, .int (nI p), .int (nI r)] h (.inl (some (.int (nI (g_tw S p r).toNat))), h) := by
  have hm := y_m12 hA
  have hon := fun x => Nat.lt_of_lt_of_le (c_on_lt S x) (show 2 ^ S.2.1 ≤ 2 ^ 12 from Nat.pow_le_pow_right (by decide) hm)
  have l1 := n_pc12 _ (hon p)
  have l2 := n_pc12 _ (hon r)
  have pp := t_pow hp
  have pr := t_pow hr
  have pb := or_lt256 pp pr
  refine en_X8_areTwins (b_X8_areTwins_0 (z_pu0V rfl) ?_)
  simp (disch := omega) only [l0, l1, l2, l3, l4, l5, l6, l7, l8, l9, l10, l11, l12, l13, l14, l15, l16, l18, l20, l22, l24, l30, l31, l39, l40, l48, l60, l154, l255, l256, l400, l2000, l6160, l14000, lm1, q_lt, q_le, q_eq, q_mI, q_mI', q_ltmI, q_in, q_bz0, q_bz1, q_bzn0, q_bzn1, q_bzb, q_bn0, q_bn1, q_shr, q_shl, q_1s, b_one, b_two, fa_and, fa_or, nI_add, n_mul, nI_clamp, z_rcs, true_and, and_true, if_true, if_false, y_kd hA, y_n hA, y_m hA, (y_row hA).1, (y_row hA).2.1, (y_row hA).2.2, (y_size hA).1, (y_size hA).2.1, (y_size hA).2.2, (y_first hA).1, (y_first hA).2.1, (y_first hA).2.2, (y_deg hA).1, (y_deg hA).2.1, (y_deg hA).2.2, (y_on hA).1, (y_on hA).2.1, (y_on hA).2.2, (y_join hA).1, (y_join hA).2.1, (y_join hA).2.2, y_Ln hA, y_Sz hA, y_Ft hA, y_Dg hA, y_On hA, hp, hr]
  unfold g_tw
  by_cases c : n_pc (c_on S p) = n_pc (c_on S r)
  · rw [if_pos c, decide_eq_true c, Bool.true_and]
    refine z_fnd (fun l => [some (.ref q), some (.int (nI p)), none, some (.int (nI (2 ^ p ||| 2 ^ r))), some (.int (nI l))]) (fun i => decide (S.2.2 i &&& (2 ^ p ||| 2 ^ r) = 2 ^ p) && !c_any (fun l => decide (S.2.2 l = S.2.2 i ^^^ (2 ^ p ||| 2 ^ r))) S.2.1) S.2.1 ?_ ?_
    · intro l hl hno hJ
      have l3 := y_256 hA l
      have l4 := and_lt256 (b := 2 ^ p ||| 2 ^ r) l3
      have l5 := xor_lt256 l3 pb
      refine b_X8_areTwins_28 (z_pu0V rfl) ?_
      simp (disch := omega) only [l0, l1, l2, l3, l4, l5, l6, l7, l8, l9, l10, l11, l12, l13, l14, l15, l16, l18, l20, l22, l24, l30, l31, l39, l40, l48, l60, l154, l255, l256, l400, l2000, l6160, l14000, lm1, q_lt, q_le, q_eq, q_mI, q_mI', q_ltmI, q_in, q_bz0, q_bz1, q_bzn0, q_bzn1, q_bzb, q_bn0, q_bn1, q_shr, q_shl, q_1s, b_one, b_two, fa_and, fa_or, nI_add, n_mul, nI_clamp, z_rcs, true_and, and_true, if_true, if_false, y_kd hA, y_n hA, y_m hA, (y_row hA).1, (y_row hA).2.1, (y_row hA).2.2, (y_size hA).1, (y_size hA).2.1, (y_size hA).2.2, (y_first hA).1, (y_first hA).2.1, (y_first hA).2.2, (y_deg hA).1, (y_deg hA).2.1, (y_deg hA).2.2, (y_on hA).1, (y_on hA).2.1, (y_on hA).2.2, (y_join hA).1, (y_join hA).2.1, (y_join hA).2.2, y_Ln hA, y_Sz hA, y_Ft hA, y_Dg hA, y_On hA, hl, n_xor]
      by_cases c1 : S.2.2 l &&& (2 ^ p ||| 2 ^ r) = 2 ^ p
      · rw [if_pos c1]
        refine ⟨_, _, e8_isLine hA (by omega), ?_⟩
        rw [decide_eq_true c1, Bool.true_and] at hJ
        cases c2 : c_any (fun k => decide (S.2.2 k = S.2.2 l ^^^ (2 ^ p ||| 2 ^ r))) S.2.1
        · rw [if_pos (by rfl), any_t hl (by show (_ && _) = true; rw [decide_eq_true c1, c2]; rfl)]
          rfl
        · rw [if_neg (by decide)]
          exact hJ (by rw [c2]; rfl)
      · rw [if_neg c1]
        exact hJ (by rw [decide_eq_false c1]; rfl)
    · intro hno
      refine b_X8_areTwins_28 (z_pu0V rfl) ?_
      simp (disch := omega) only [l0, l1, l2, l3, l4, l5, l6, l7, l8, l9, l10, l11, l12, l13, l14, l15, l16, l18, l20, l22, l24, l30, l31, l39, l40, l48, l60, l154, l255, l256, l400, l2000, l6160, l14000, lm1, q_lt, q_le, q_eq, q_mI, q_mI', q_ltmI, q_in, q_bz0, q_bz1, q_bzn0, q_bzn1, q_bzb, q_bn0, q_bn1, q_shr, q_shl, q_1s, b_one, b_two, fa_and, fa_or, nI_add, n_mul, nI_clamp, z_rcs, true_and, and_true, if_true, if_false, y_kd hA, y_n hA, y_m hA, (y_row hA).1, (y_row hA).2.1, (y_row hA).2.2, (y_size hA).1, (y_size hA).2.1, (y_size hA).2.2, (y_first hA).1, (y_first hA).2.1, (y_first hA).2.2, (y_deg hA).1, (y_deg hA).2.1, (y_deg hA).2.2, (y_on hA).1, (y_on hA).2.1, (y_on hA).2.2, (y_join hA).1, (y_join hA).2.1, (y_join hA).2.2, y_Ln hA, y_Sz hA, y_Ft hA, y_Dg hA, y_On hA, Nat.lt_irrefl]
      rw [any_f hno]
      rfl
  · rw [if_neg c, decide_eq_false c]
    rfl
theorem e8_twins (hX0 : ∀ a, X a → hl L a) (hI : inv V L h) (hL : L + 75 ≤ z_n h) (hV : ∀ p, p < 8 → V 13 S p = nI (g_twT S p)) (hA : sc_at q b h S) : ∃ h' a, z_Ev G (d + 6) k_X8_twins [.ref q] h (.inl (some (va_rf (some a))), h') ∧ inv V L h' ∧ ex X 1 8 h h' ∧ z_or h' q 13 = some a ∧ (h' = h ∨ h' = z_por (z_nwi h 1 8 (fun i => nI (g_twT S i))) q 13 (some (z_n h))) := by
  have hm := y_m12 hA
  have hn := y_n8 hA
  have hk := inv_k hI hA
  cases h13 : z_or h q 13 with
  | some a =>
    refine ⟨h, a, en_X8_twins (b_X8_twins_0 (z_pu0V rfl) ?_), hI, ex_mono (ex_refl h) (by omega) (by omega), h13, Or.inl rfl⟩
    rw [h13, z_rcs, z_rcs]
    exact ⟨y_kd hA, y_kd hA, rfl⟩
  | none =>
    have hX : ∀ a, (fun _ : Nat => False) a → hl L a := fun _ f => f.elim
    have x1 : ∀ f (X : Nat → Prop), xt X h (z_nwi h 1 8 f) := fun f X => xt_nwi 1 8 f (by decide)
    have e1 : ∀ f (X : Nat → Prop), ex X 1 8 h (z_nwi h 1 8 f) := fun f X => xt_ex (x1 f X) (Nat.le_refl _) (Nat.le_refl _)
    have hA1 : ∀ f, sc_at q b (z_nwi h 1 8 f) S := fun f => ex_sc hI hX (e1 f _) hA
    have hI1 : ∀ f, inv V L (z_nwi h 1 8 f) := fun f => inv_xt hI hX (x1 f _)
    have hca : ca V L (z_nwi h 1 8 (fun i => nI (g_twT S i))) S 13 (some (z_n h)) := by
      intro a ha
      cases ha
      refine ⟨⟨Nat.lt_succ_self _, fun hh => by unfold hl at hh; omega, fun q' b' hb => ?_⟩, nwi_kd _ _ _ _, nwi_ln _ _ _ _, fun i hi => ?_⟩
      · rcases ex_bl hI hX (e1 _ _) hb with c | c
        · obtain ⟨S', k'⟩ := inv_b hI c
          right; exact k'.2.1.2.1
        · have := inv_n hI c
          have hb1 := hb.1
          by_cases e : q' = z_n h
          · rw [e, nwi_kd] at hb1; omega
          · have : z_kd (z_nwi h 1 8 (fun i => nI (g_twT S i))) q' = z_kd h q' := u_ne _ _ e
            omega
      · rw [nwi_ai]; exact (hV i hi).symm
    have fin := inv_por (X := X) (hI1 _) (hA1 _) (k := 13) (a := z_n h) (by omega) hca (fun e => by omega)
    refine ⟨z_por (z_nwi h 1 8 (fun i => nI (g_twT S i))) q 13 (some (z_n h)), z_n h, en_X8_twins (b_X8_twins_0 (z_pu0V rfl) ?_), fin.1, ?_, ?_, Or.inr rfl⟩
    · rw [h13, z_rcn]
      refine ⟨y_kd hA, by decide, by decide, ?_⟩
      rw [nI_clamp (by decide)]
      have key := z_forH (G := G) (d := d + 6) (μ := m_X8_twins z_pu0) (r := (.inl (some (va_rf (some (z_n h)))), z_por (z_nwi h 1 8 (fun i => nI (g_twT S i))) q 13 (some (z_n h)))) (pc := 14) (fun k (_ : Nat → Nat) => [some (.ref q), some (.ref (z_n h)), some (.int (nI k)), none]) (fun _ T => z_nwi h 1 8 (fun i => nI (T i))) (fun p T => it (fun q T => if g_tw S p q then z_u (z_u T p (T p ||| 2 ^ q)) q (z_u T p (T p ||| 2 ^ q) q ||| 2 ^ p) else T) T p) (fun _ => 0) S.1 ?_ ?_
      · exact key
      · intro p hp hJ
        obtain ⟨T0, eT0⟩ : ∃ T0, T0 = it (fun p T => it (fun q T => if g_tw S p q then z_u (z_u T p (T p ||| 2 ^ q)) q (z_u T p (T p ||| 2 ^ q) q ||| 2 ^ p) else T) T p) (fun _ => 0) p := ⟨_, rfl⟩
        rw [← eT0] at hJ ⊢
        refine b_X8_twins_14 (z_pu0V rfl) ⟨y_kd (hA1 _), ?_⟩
        rw [y_n (hA1 _), if_pos (nI_lt hp (by omega))]
        refine z_forH (fun k (_ : Nat → Nat) => [some (.ref q), some (.ref (z_n h)), some (.int (nI p)), some (.int (nI k))]) (fun _ T => z_nwi h 1 8 (fun i => nI (T i))) (fun q T => if g_tw S p q then z_u (z_u T p (T p ||| 2 ^ q)) q (z_u T p (T p ||| 2 ^ q) q ||| 2 ^ p) else T) T0 p ?_ ?_
        · intro r hr hJ2
          obtain ⟨T, eT⟩ : ∃ T, T = it (fun q T => if g_tw S p q then z_u (z_u T p (T p ||| 2 ^ q)) q (z_u T p (T p ||| 2 ^ q) q ||| 2 ^ p) else T) T0 r := ⟨_, rfl⟩
          rw [← eT] at hJ2 ⊢
          refine b_X8_twins_24 (z_pu0V rfl) ?_
          rw [if_pos (nI_lt hr (by omega))]
          refine ⟨y_kd (hA1 _), _, _, e8_areTwins (hA1 _) (by omega) (by omega), ?_⟩
          cases c : g_tw S p r
          · rw [c, if_neg (by decide)] at hJ2
            rw [if_pos (by rfl), nI_add]
            exact hJ2
          · rw [c, if_pos rfl] at hJ2
            rw [if_neg (by decide), nI_clamp (by omega), nI_clamp (by omega), nwi_ai, show nI 1 <<< (nI r &&& nI 31) = nI (2 ^ r) from n_one (by omega), show nI 1 <<< (nI p &&& nI 31) = nI (2 ^ p) from n_one (by omega), fa_or, nwi_pai, nu, nwi_ai, fa_or, nwi_pai, nu, nwi_kd, nwi_kd, nwi_ln, nwi_ln, nI_add]
            exact ⟨rfl, vp_in_nI (by omega) (by decide), rfl, vp_in_nI (by omega) (by decide), rfl, vp_in_nI (by omega) (by decide), rfl, vp_in_nI (by omega) (by decide), hJ2⟩
        · refine b_X8_twins_24 (z_pu0V rfl) ?_
          rw [if_neg (nI_nlt (Nat.le_refl _) (by omega)), nI_add]
          exact hJ
      · refine b_X8_twins_14 (z_pu0V rfl) ⟨y_kd (hA1 _), ?_⟩
        rw [y_n (hA1 _), if_neg (nI_nlt (Nat.le_refl _) (by omega))]
        refine ⟨y_kd (hA1 _), (show z_kd (z_nwi h 1 8 (fun i => nI (g_twT S i))) q = 24 from y_kd (hA1 _)), ?_⟩
        have e : ∀ f, z_or (z_por (z_nwi h 1 8 f) q 13 (some (z_n h))) q 13 = some (z_n h) := fun f => by
          show z_u (z_or h) q (z_u (z_or h q) 13 (some (z_n h))) q 13 = _
          rw [u_eq, u_eq]
        rw [e, z_rcs]
        rfl
    · exact ex_trans hI (hI1 _) (V := V) (L := L) (X := X) hX0 (e1 _ X) fin.2
    · show z_u (z_or h) q (z_u (z_or h q) 13 (some (z_n h))) q 13 = _
      rw [u_eq, u_eq]
end FU
