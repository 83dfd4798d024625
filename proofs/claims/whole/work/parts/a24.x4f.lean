/-! THE LEAST ROW: found, kept -/
theorem uN_nI {k : Nat} (h : k < 2 ^ 32) : uN (nI k) = k := by
  show (BitVec.ofNat 32 k).toNat = k
  rw [BitVec.toNat_ofNat]
  exact Nat.mod_eq_of_lt h
section HT
variable {V : CV} {G : z_G} {d L x q b tw c s : Nat} {h h' h'' g : z_H} {S : Sc} {A : Nat → Nat → Int32} {F : Nat → Int32} {P C E M B : Nat → Nat} {X : Nat → Prop}
theorem lH_lk (ls : lsh (L + 25) g) (hE : ∀ i, i < 12 → E i < 128) (hM : ∀ i, M i < 2 ^ 62 ∧ B i < 2 ^ 62) : lk L (lH g (L + 25) A F P C E M B) := ⟨ls, ⟨E, lH_E g (L + 25) A F P C E M B, hE⟩, ⟨M, lH_M g (L + 25) A F P C E M B, fun i => (hM i).1⟩, B, lH_B g (L + 25) A F P C E M B, fun i => (hM i).2⟩
theorem lH_km (hA : A = fun j => z_ai g (L + 25 + 1 + j)) (hF : F 11 = z_oi g (L + 25) 11) : lkm L g (lH g (L + 25) A F P C E M B) := by
  refine ⟨rfl, ?_, by rw [lH_oi]; exact hF⟩
  have := hb_ai g (L + 25) 7 F (z_u (z_u (z_u A 2 (fun i => nI (P i))) 3 (fun i => nI (C i))) 4 (fun i => nI (E i))) (j := 6) (by decide)
  rw [u_ne _ _ (by decide), u_ne _ _ (by decide), u_ne _ _ (by decide), hA] at this
  rw [hA]
  exact this
theorem lkm_t (e1 : lkm L h h') (e2 : lkm L h' h'') : lkm L h h'' := ⟨e2.1.trans e1.1, e2.2.1.trans e1.2.1, e2.2.2.trans e1.2.2⟩
theorem e4_leastRow (hV : vL V) (hI : inv V L h) (hL : L + 75 ≤ z_n h) (hk : lk L h) (hA : sc_at q b h S) : ∃ h' a, z_Ev G (d + 23) k_X4_leastRow [.ref (L + 25), .ref q] h (.inl (some (va_rf (some a))), h') ∧ inv V L h' ∧ ex (lX L) 2 20 h h' ∧ lk L h' ∧ lkm L h h' ∧ fr L h' a ∧ z_kd h' a = 1 ∧ z_ln h' a = S.2.1 ∧ ∀ i, i < S.2.1 → z_ai h' a i = V 10 S i := by
  have hX : ∀ a, lX L a → hl L a := fun _ hx => lX_hl hx
  have hFl : ∀ a, (fun _ : Nat => False) a → hl L a := fun _ f => f.elim
  have hS := hA.2.1
  have hn := hS.1
  have hm := hS.2.1
  cases h10 : z_or h q 10 with
  | some a =>
    refine ⟨h, a, en_X4_leastRow (b_X4_leastRow_0 (z_pu0V rfl) ⟨y_kd hA, ?_⟩), hI, ex_mono (ex_refl h) (by omega) (by omega), hk, ⟨rfl, rfl, rfl⟩, kept_row hI hA (k := 10) (by omega) h10⟩
    rw [h10, z_rcs]
    refine b_X4_leastRow_55 (z_pu0V rfl) ⟨y_kd hA, ?_⟩
    rw [h10, z_rcs]
  | none =>
    obtain ⟨v13, v10⟩ := hV S hS
    obtain ⟨g, tw, ev, Ig, eg, hw, o1, o5, o4, rws, -⟩ := e4_begin (G := G) (d := d + 15) hI hL hk.1 v13 hA false
    have hk' := hk
    obtain ⟨ls, ⟨E, e1, e2⟩, ⟨M, m1, m2⟩, B, b1, b2⟩ := hk'
    have e5 : z_ai g (L + 25 + 5) = fun i => nI (E i) := by rw [(rws 5 (by decide)).1]; exact e1
    have m1' : z_al g (L + 25 + 1) = fun i => k64 (M i) := by rw [(rws 1 (by decide)).2.1]; exact m1
    have b1' : z_al g (L + 25 + 2) = fun i => k64 (B i) := by rw [(rws 2 (by decide)).2.1]; exact b1
    have lg := hw.1
    have ng : z_n h ≤ z_n g := eg.1.1
    obtain ⟨A, eA⟩ : ∃ A : Nat → Nat → Int32, A = fun j => z_ai g (L + 25 + 1 + j) := ⟨_, rfl⟩
    obtain ⟨F, eF⟩ : ∃ F : Nat → Int32, F = z_oi g (L + 25) := ⟨_, rfl⟩
    obtain ⟨P, eP⟩ : ∃ P : Nat → Nat, P = fun i => uN (z_ai g (L + 25 + 3) i) := ⟨_, rfl⟩
    obtain ⟨C, eC⟩ : ∃ C : Nat → Nat, C = fun i => uN (z_ai g (L + 25 + 4) i) := ⟨_, rfl⟩
    obtain ⟨B', eB'⟩ : ∃ B' : Nat → Nat, B' = fun i => if i < 8 then 0 else B i := ⟨_, rfl⟩
    have sf : lH g (L + 25) A F P C E M B = g := by rw [eA, eF, eP, eC]; exact lH_self e5 m1' b1'
    have hF4 : z_u F 4 (nI (Bool.toNat false)) = F := by
      have e : F 4 = nI (Bool.toNat false) := by rw [eF]; exact o4
      rw [← e]; exact u_self F 4
    have fl : z_Ev G (d + 22) k_J7_fill_d0a16 [.ref (L + 25 + 2), .long (-1)] g (.inl none, lHs g (L + 25) A F (false, P, C, E, M, B')) := by
      have t := e_fillL (G := G) (d := d + 21) (h := g) (a := L + 25 + 2) (v := -1) lg.2.2.1.2.1 (by rw [lg.2.2.1.2.2]; decide)
      have xB := lH_xB g (L + 25) A F P C E M B B'
      rw [sf] at xB
      have ef : (fun j => if j < 8 then (-1 : Int64) else (fun i => k64 (B i)) j) = fun j => k64 (B' j) := by
        funext j
        rw [eB']
        show _ = k64 (if j < 8 then 0 else B j)
        split <;> rfl
      rw [lg.2.2.1.2.2, b1', ef, xB] at t
      have e : lHs g (L + 25) A F (false, P, C, E, M, B') = lH g (L + 25) A F P C E M B' := by
        show lH g (L + 25) A (z_u F 4 (nI (Bool.toNat false))) P C E M B' = _
        rw [hF4]
      rw [e]
      exact t
    have I0 : lI S 0 (false, P, C, E, M, B') := ⟨fun j i h1 h2 _ => by omega, e2, fun i => ⟨m2 i, by
      show B' i < _
      rw [eB']
      show (if i < 8 then 0 else B i) < _
      split
      · decide
      · exact b2 i⟩⟩
    obtain ⟨ev2, kp⟩ := e4_descend (G := G) (d := d + 2 * (8 - S.1)) (A := A) (F := F) hw (u := false) (by rw [eF]; exact o5) S.1 0 0 false (false, P, C, E, M, B') (by omega) (by decide) (fun _ => rfl) I0
    rw [show d + 2 * (8 - S.1) + 2 * S.1 + 6 = d + 22 by omega] at ev2
    have vv := v10 P C E M B' e2 (fun i hi => by rw [eB']; show (if i < 8 then 0 else B i) = 0; rw [if_pos hi])
    obtain ⟨s1, es1⟩ : ∃ s1, s1 = g_des S false S.1 0 0 false (false, P, C, E, M, B') := ⟨_, rfl⟩
    rw [← es1] at ev2 kp vv
    obtain ⟨g2, eg2⟩ : ∃ g2, g2 = lHs g (L + 25) A F s1 := ⟨_, rfl⟩
    rw [← eg2] at ev2
    have t2 : xt (lX L) g g2 := by rw [eg2]; exact lH_xt
    have I2 : inv V L g2 := inv_xt Ig hX t2
    have ex2 : ex (lX L) 0 0 g g2 := xt_ex t2 (by rw [eg2]; exact Nat.le_refl _) (by rw [eg2]; exact Nat.le_refl _)
    have A2 : sc_at q b g2 S := ex_sc Ig hX ex2 hw.2.2.1
    have lk2 : lk L g2 := by rw [eg2]; exact lH_lk lg kp.1.2.1 kp.1.2.2
    have km2 : lkm L g g2 := by
      rw [eg2]
      refine lH_km eA ?_
      rw [u_ne _ _ (by decide), eF]
    have kmg : lkm L h g := ⟨(rws 6 (by decide)).2.2, (rws 7 (by decide)).1, o1 11 (by decide) (by decide)⟩
    have c2 : z_ai g2 (L + 25 + 4) = fun i => nI (lC s1 i) := by
      rw [eg2]
      exact lH_C g (L + 25) A (z_u F 4 (nI s1.1.toNat)) (lP s1) (lC s1) (lE s1) (lM s1) (lB s1)
    have n2 : z_n g ≤ z_n g2 := t2.1
    obtain ⟨f, f1, -, evc⟩ := e_copyOf (G := G) (d := d + 19) (h := g2) (a := L + 25 + 4) (L := 12) (m := S.2.1) lk2.1.2.2.2.2.1.2.1 lk2.1.2.2.2.2.1.2.2 (by decide) (by omega) (by omega)
    obtain ⟨R, eR⟩ : ∃ R : Nat → Nat, R = fun i => uN (f i) := ⟨_, rfl⟩
    have fR : f = fun i => nI (R i) := by rw [eR]; exact row_u f
    have Rv : ∀ i, i < S.2.1 → R i = lC s1 i := fun i hi => by
      rw [eR]
      show uN (f i) = _
      rw [f1 i (by omega) hi, c2]
      exact uN_nI (Nat.lt_trans (vv i hi).2 (by decide))
    have evs := e4_sortUp (G := G) (d := d + 18) (h := z_nwi g2 1 S.2.1 f) (a := z_n g2) (N := S.2.1) (nwi_kd _ _ _ _) (nwi_ln _ _ _ _) (by omega) (R := R) (size := S.2.1) (Nat.le_refl _) (fun i hi => by rw [Rv i hi]; exact Nat.lt_trans (vv i hi).2 (by decide))
    rw [nwi_pax, nwi_pax, ← fR] at evs
    obtain ⟨T, eT⟩ : ∃ T : Nat → Int32, T = fun i => nI (srt R S.2.1 i) := ⟨_, rfl⟩
    rw [← eT] at evs
    have Tv : ∀ i, i < S.2.1 → T i = V 10 S i := fun i hi => by
      rw [eT, (vv i hi).1]
      show nI (srt R S.2.1 i) = _
      rw [srt_c (Nat.le_refl _) Rv i hi]
    have Im := nw_k I2 S.2.1 f (lX L)
    have nk := nw_k I2 S.2.1 T (fun _ => False)
    have A3 := nw_sc I2 S.2.1 T A2
    have A3f := nw_sc I2 S.2.1 f A2
    have frT := nw_fr I2 (by omega) S.2.1 T
    have hca : ca V L (z_nwi g2 1 S.2.1 T) S 10 (some (z_n g2)) := by
      intro a ha
      cases ha
      exact ⟨frT, nwi_kd _ _ _ _, nwi_ln _ _ _ _, fun i hi => by rw [nwi_ai]; exact Tv i hi⟩
    have fin := inv_por (X := fun _ => False) nk.1 A3 (k := 10) (a := z_n g2) (by omega) hca (fun e => by omega)
    have eF2 := ex_trans I2 nk.1 hFl nk.2 fin.2
    obtain ⟨g3, eg3⟩ : ∃ g3, g3 = z_por (z_nwi g2 1 S.2.1 T) q 10 (some (z_n g2)) := ⟨_, rfl⟩
    rw [← eg3] at fin eF2
    have A4 : sc_at q b g3 S := ex_sc I2 hFl eF2 A2
    have o10 : z_or g3 q 10 = some (z_n g2) := by
      rw [eg3]
      show z_u (z_or g2) q (z_u (z_or g2 q) 10 (some (z_n g2))) q 10 = _
      rw [u_eq, u_eq]
    have lk3 := lk_ex I2 (by omega) eF2 (fun _ _ f => f) lk2
    refine ⟨g3, z_n g2, en_X4_leastRow (b_X4_leastRow_0 (z_pu0V rfl) ⟨y_kd hA, ?_⟩), fin.1, ?_, lk3.1, lkm_t kmg (lkm_t km2 lk3.2), kept_row fin.1 A4 (k := 10) (by omega) o10⟩
    · rw [h10, z_rcn]
      refine ⟨ls.1, _, ev, b_X4_leastRow_13 (z_pu0V rfl) ⟨lg.1, ?_⟩⟩
      rw [lg.2.2.1.1, z_rcs]
      refine ⟨_, fl, b_X4_leastRow_23 (z_pu0V rfl) ⟨lg.1, _, ev2, b_X4_leastRow_30 (z_pu0V rfl) ⟨lk2.1.1, ?_⟩⟩⟩
      rw [lk2.1.2.2.2.2.1.1, z_rcs, y_m A2]
      refine ⟨y_kd A2, _, _, evc, ?_⟩
      rw [z_rcs]
      refine b_X4_leastRow_42b (z_pu0V rfl) ⟨y_kd A3f, ?_⟩
      rw [y_m A3f]
      refine ⟨_, evs, b_X4_leastRow_50b (z_pu0V rfl) ⟨y_kd A3, ?_⟩⟩
      rw [← eg3]
      refine b_X4_leastRow_55 (z_pu0V rfl) ⟨y_kd A4, ?_⟩
      rw [o10, z_rcs]
    · exact ex_mono (ex_trans hI I2 hX (ex_trans hI Ig hX eg ex2) (ex_X eF2 (fun _ f => f.elim))) (by omega) (by omega)
end HT
