/-! a scheme's object made, whole -/
section EN
variable {G : z_G} {d q b a La : Nat} {h0 : z_H} {S : Sc}
/-- the maker: the rows are those that the flags leave -/
theorem e8_init0 (hS : c_sok S) (hn : z_n h0 = b) (hk : z_kd h0 q = 24) (hq : q < b) (ha : a < b) (haq : a ≠ q) (k1 : z_kd h0 a = 1) (k2 : z_ln h0 a = La) (hLa : La < 2 ^ 31) (hL2 : S.2.1 ≤ La) (hrow : ∀ l, l < S.2.1 → z_ai h0 a l = nI (S.2.2 l)) : ∃ h t O F A, yI h0 q b 8 t yK (yL S.2.1) (fun j => z_ai h (b + j)) O F h ∧ t = 93 + 3 * S.2.1 ∧ sc_sh q b S.2.1 h ∧ (O 12 = some (b + 4) ∧ O 8 = none ∧ O 10 = none ∧ O 11 = none ∧ O 13 = none ∧ O 14 = none) ∧ (F 0 = nI S.1 ∧ F 1 = nI S.2.1) ∧ (∀ l, l < S.2.1 → A 5 l = nI (S.2.2 l)) ∧ (A 0 = fun _ => 0) ∧ (A 1 = fun _ => 0) ∧ (∀ k, k < 64 → A 2 k = mI) ∧ (A 3 = fun _ => 0) ∧ (A 6 = fun _ => 0) ∧ (A 7 = fun _ => 0) ∧ z_Ev G (d + 5) k_X8_init [.ref q, .int (nI S.1), .ref a, .int (nI S.2.1)] h0 (.inl none, z_bk h b 8 (flAll S A)) := by
  have hm := hS.2.1
  obtain ⟨h, t, O, F, f, yi, et, f1, f2, ⟨o5, o6, o7, o9, o12, o2, o3, o4⟩, ⟨o8, o10, o11, o13, o14⟩, hF, run⟩ := y_init0 (G := G) (d := d + 1) (np := S.1) (m := S.2.1) hn hk hq ha haq k1 k2 hLa hm
  have yi' := yi
  obtain ⟨i1, i2, i3, i4, i5, i6, i7, i8⟩ := yi'
  have kd : ∀ j, j < 8 → j ≠ 4 → z_kd h (b + j) = 1 := fun j hj h4 => by
    rw [(i7 j hj).1]; unfold yK; rw [if_neg h4]
  have wz : ∀ j, j < 8 → j ≠ 4 → j ≠ 5 → z_ai h (b + j) = fun _ => 0 := fun j hj h4 h5 => by
    rw [(i7 j hj).2.2.1 (by unfold yK; rw [if_neg h4])]; show (if j = 5 then f else fun _ => 0) = _; rw [if_neg h5]
  have w5 : z_ai h (b + 5) = f := by
    rw [(i7 5 (by decide)).2.2.1 (by rfl)]; rfl
  have sh : sc_sh q b S.2.1 h := by
    refine ⟨i4, ⟨by rw [i5]; exact o5, kd 0 (by decide) (by decide), (i7 0 (by decide)).2.1⟩, ⟨by rw [i5]; exact o6, kd 1 (by decide) (by decide), (i7 1 (by decide)).2.1⟩, ⟨by rw [i5]; exact o7, kd 2 (by decide) (by decide), (i7 2 (by decide)).2.1⟩, ⟨by rw [i5]; exact o9, kd 3 (by decide) (by decide), (i7 3 (by decide)).2.1⟩, ⟨by rw [i5]; exact o2, kd 5 (by decide) (by decide), (i7 5 (by decide)).2.1⟩, ⟨by rw [i5]; exact o3, kd 6 (by decide) (by decide), (i7 6 (by decide)).2.1⟩, ⟨by rw [i5]; exact o4, kd 7 (by decide) (by decide), (i7 7 (by decide)).2.1⟩⟩
  have l2 : z_ln h (b + 2) = 64 := (i7 2 (by decide)).2.1
  have ef := e_fill (G := G) (d := d + 3) (h := h) (a := b + 2) (v := mI) (kd 2 (by decide) (by decide)) (by rw [l2]; decide)
  have eh : z_pax h (b + 2) (fa_fill (fun _ => mI) (z_ai h (b + 2)) (z_ln h (b + 2))) = z_bk h b 8 (z_u (fun j => z_ai h (b + j)) 2 (fa_fill (fun _ => mI) (z_ai h (b + 2)) 64)) := by
    have e1 := bk_pax h b 8 (fun j => z_ai h (b + j)) (show 2 < 8 by decide) (fa_fill (fun _ => mI) (z_ai h (b + 2)) 64)
    rw [bk_id] at e1
    rw [l2]
    exact e1
  rw [eh] at ef
  have hr5 : ∀ l, l < S.2.1 → z_u (fun j => z_ai h (b + j)) 2 (fa_fill (fun _ => mI) (z_ai h (b + 2)) 64) 5 l = nI (S.2.2 l) := fun l hl => by
    rw [u_ne _ _ (by decide)]
    show z_ai h (b + 5) l = _
    rw [w5, f1 l (by omega) hl]; exact hrow l hl
  refine ⟨h, t, O, F, z_u (fun j => z_ai h (b + j)) 2 (fa_fill (fun _ => mI) (z_ai h (b + 2)) 64), ⟨i1, i2, i3, i4, i5, i6, fun j hj => ⟨(i7 j hj).1, (i7 j hj).2.1, fun _ => rfl, (i7 j hj).2.2.2⟩, i8⟩, et, sh, ⟨o12, o8, o10, o11, o13, o14⟩, hF, hr5, ?_, ?_, ?_, ?_, ?_, ?_, run _ (b_X8_init_102 (z_pu0V rfl) ⟨i4, ?_⟩)⟩
  · rw [u_ne _ _ (by decide)]; exact wz 0 (by decide) (by decide) (by decide)
  · rw [u_ne _ _ (by decide)]; exact wz 1 (by decide) (by decide) (by decide)
  · intro k hk
    rw [u_eq]
    unfold fa_fill
    rw [if_pos hk]
  · rw [u_ne _ _ (by decide)]; exact wz 3 (by decide) (by decide) (by decide)
  · rw [u_ne _ _ (by decide)]; exact wz 6 (by decide) (by decide) (by decide)
  · rw [u_ne _ _ (by decide)]; exact wz 7 (by decide) (by decide) (by decide)
  · rw [show z_or h q 7 = some (b + 2) by rw [i5]; exact o7, z_rcs]
    exact ⟨_, ef, b_X8_init_110 (z_pu0V rfl) (l_init sh hS hr5)⟩
end EN
