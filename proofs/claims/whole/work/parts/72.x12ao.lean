/-! the reference as it is made -/
def σ0 : RSt := ((fun _ => 0, 0, mI), (c_c0, fun _ => none), [], (0, 0), none)
theorem rs_id (h : z_H) (M : Nat) : z_rs h M (z_oi h M) (fun j => z_ai h (M + j)) = h := by
  unfold z_rs
  rw [show z_u (z_oi h) M (z_oi h M) = z_oi h from u_self _ _]
  have e : (fun q => if M < q ∧ q ≤ M + 25 then (fun j => z_ai h (M + j)) (q - M) else z_ai h q) = z_ai h := by
    funext q
    split
    · show z_ai h (M + (q - M)) = z_ai h q
      rw [show M + (q - M) = q by omega]
    · rfl
  rw [e]
  rfl
def rF0 : Nat → Int32 := z_u (z_u (fun _ => 0) 14 mI) 28 mI
def rA0 : Nat → Nat → Int32 := z_u (fun _ _ => 0) 1 (z_u (fun _ => 0) 0 (nI 7))
theorem rI_0 : rI rF0 rA0 σ0 := by
  refine ⟨fun i _ => ?_, ⟨rfl, by decide, fun i hi => absurd hi (Nat.not_lt_zero _)⟩, rfl, ⟨cok_0, fun k hk => ?_, fun s hs => ?_⟩, rfl, phist_nil _, ⟨rfl, rfl⟩, rfl⟩
  · exact ⟨rfl, (by decide : (0 : Nat) < 8)⟩
  · show z_u (fun _ => 0) 0 (nI 7) k = rowC c_c0 k
    by_cases k0 : k = 0
    · subst k0; rfl
    · rw [u_ne _ _ k0]
      unfold rowC c_c0
      rw [if_neg k0]
      split
      · rfl
      · split
        · rfl
        · split <;> rfl
  · show z_u (fun _ => 0) 0 (nI 7) (30 + 31 * s) = nI 0
    rw [u_ne _ _ (by omega)]; rfl
theorem rL_0 : rL rF0 rA0 := Or.inl rfl
section DN
variable {G : z_G} {d : Nat} {h0 : z_H} {M : Nat}
/-- the reference is made: it stands at M, its rows behind it; what lay before stays -/
theorem e_init (hn : z_n h0 = M + 1) (hk : z_kd h0 M = 28) (hf : z_oi h0 M = fun _ => 0) : ∃ h, z_sh M h ∧ z_n h = M + 26 ∧ z_c h = z_c h0 + 25 ∧ z_s h = z_s h0 + xs 25 ∧ frm M h0 h ∧ z_Ev G (d + 4) k_X12_init [.ref M] h0 (.inl none, z_rs h M rF0 rA0) := by
  obtain ⟨h1, hI, he⟩ := x_init (G := G) (d := d) hn hk hf
  obtain ⟨i1, i2, i3, i4, i5, i6, i7⟩ := hI
  refine ⟨z_pai h1 (M + 1) 0 (nI 7), ⟨i4, ⟨(i6 1 (by decide) (by decide)).1, (i6 1 (by decide) (by decide)).2.1, (i6 1 (by decide) (by decide)).2.2.1⟩, ⟨(i6 2 (by decide) (by decide)).1, (i6 2 (by decide) (by decide)).2.1, (i6 2 (by decide) (by decide)).2.2.1⟩, ⟨(i6 3 (by decide) (by decide)).1, (i6 3 (by decide) (by decide)).2.1, (i6 3 (by decide) (by decide)).2.2.1⟩, ⟨(i6 4 (by decide) (by decide)).1, (i6 4 (by decide) (by decide)).2.1, (i6 4 (by decide) (by decide)).2.2.1⟩, ⟨(i6 5 (by decide) (by decide)).1, (i6 5 (by decide) (by decide)).2.1, (i6 5 (by decide) (by decide)).2.2.1⟩, ⟨(i6 6 (by decide) (by decide)).1, (i6 6 (by decide) (by decide)).2.1, (i6 6 (by decide) (by decide)).2.2.1⟩, ⟨(i6 7 (by decide) (by decide)).1, (i6 7 (by decide) (by decide)).2.1, (i6 7 (by decide) (by decide)).2.2.1⟩, ⟨(i6 8 (by decide) (by decide)).1, (i6 8 (by decide) (by decide)).2.1, (i6 8 (by decide) (by decide)).2.2.1⟩, ⟨(i6 9 (by decide) (by decide)).1, (i6 9 (by decide) (by decide)).2.1, (i6 9 (by decide) (by decide)).2.2.1⟩, ⟨(i6 10 (by decide) (by decide)).1, (i6 10 (by decide) (by decide)).2.1, (i6 10 (by decide) (by decide)).2.2.1⟩, ⟨(i6 11 (by decide) (by decide)).1, (i6 11 (by decide) (by decide)).2.1, (i6 11 (by decide) (by decide)).2.2.1⟩, ⟨(i6 12 (by decide) (by decide)).1, (i6 12 (by decide) (by decide)).2.1, (i6 12 (by decide) (by decide)).2.2.1⟩, ⟨(i6 13 (by decide) (by decide)).1, (i6 13 (by decide) (by decide)).2.1, (i6 13 (by decide) (by decide)).2.2.1⟩, ⟨(i6 14 (by decide) (by decide)).1, (i6 14 (by decide) (by decide)).2.1, (i6 14 (by decide) (by decide)).2.2.1⟩, ⟨(i6 15 (by decide) (by decide)).1, (i6 15 (by decide) (by decide)).2.1, (i6 15 (by decide) (by decide)).2.2.1⟩, ⟨(i6 16 (by decide) (by decide)).1, (i6 16 (by decide) (by decide)).2.1, (i6 16 (by decide) (by decide)).2.2.1⟩, ⟨(i6 17 (by decide) (by decide)).1, (i6 17 (by decide) (by decide)).2.1, (i6 17 (by decide) (by decide)).2.2.1⟩, ⟨(i6 18 (by decide) (by decide)).1, (i6 18 (by decide) (by decide)).2.1, (i6 18 (by decide) (by decide)).2.2.1⟩, ⟨(i6 19 (by decide) (by decide)).1, (i6 19 (by decide) (by decide)).2.1, (i6 19 (by decide) (by decide)).2.2.1⟩, ⟨(i6 20 (by decide) (by decide)).1, (i6 20 (by decide) (by decide)).2.1, (i6 20 (by decide) (by decide)).2.2.1⟩, ⟨(i6 21 (by decide) (by decide)).1, (i6 21 (by decide) (by decide)).2.1, (i6 21 (by decide) (by decide)).2.2.1⟩, ⟨(i6 22 (by decide) (by decide)).1, (i6 22 (by decide) (by decide)).2.1, (i6 22 (by decide) (by decide)).2.2.1⟩, ⟨(i6 23 (by decide) (by decide)).1, (i6 23 (by decide) (by decide)).2.1, (i6 23 (by decide) (by decide)).2.2.1⟩, ⟨(i6 24 (by decide) (by decide)).1, (i6 24 (by decide) (by decide)).2.1, (i6 24 (by decide) (by decide)).2.2.1⟩, ⟨(i6 25 (by decide) (by decide)).1, (i6 25 (by decide) (by decide)).2.1, (i6 25 (by decide) (by decide)).2.2.1⟩⟩, i1, i2, i3, fun q hq => ?_, ?_⟩
  · obtain ⟨q1, q2, q3, q4, q5, q6, q7⟩ := i7 q hq
    refine ⟨q1, q2, q3, q4, ?_, q6, q7⟩
    show z_u (z_ai h1) (M + 1) (z_u (z_ai h1 (M + 1)) 0 (nI 7)) q = _
    rw [u_ne _ _ (by omega)]; exact q5
  · have e : z_rs (z_pai h1 (M + 1) 0 (nI 7)) M rF0 rA0 = z_pai h1 (M + 1) 0 (nI 7) := by
      have e1 := rs_id (z_pai h1 (M + 1) 0 (nI 7)) M
      have eF : z_oi (z_pai h1 (M + 1) 0 (nI 7)) M = rF0 := i5
      have eA : ∀ q, M < q ∧ q ≤ M + 25 → z_ai (z_pai h1 (M + 1) 0 (nI 7)) (M + (q - M)) = rA0 (q - M) := by
        intro q hq
        show z_u (z_ai h1) (M + 1) (z_u (z_ai h1 (M + 1)) 0 (nI 7)) (M + (q - M)) = _
        by_cases c : q - M = 1
        · rw [c, u_eq, (i6 1 (by decide) (by decide)).2.2.2]
          unfold rA0
          rw [u_eq]
        · rw [u_ne _ _ (by omega), (i6 (q - M) (by omega) (by omega)).2.2.2]
          unfold rA0
          rw [u_ne _ _ c]
      have e2 : (fun q => if M < q ∧ q ≤ M + 25 then (fun j => z_ai (z_pai h1 (M + 1) 0 (nI 7)) (M + j)) (q - M) else z_ai (z_pai h1 (M + 1) 0 (nI 7)) q) = (fun q => if M < q ∧ q ≤ M + 25 then rA0 (q - M) else z_ai (z_pai h1 (M + 1) 0 (nI 7)) q) := by
        funext q
        by_cases c : M < q ∧ q ≤ M + 25
        · rw [if_pos c, if_pos c]; exact eA q c
        · rw [if_neg c, if_neg c]
      rw [eF] at e1
      unfold z_rs at e1 ⊢
      rw [e2] at e1
      exact e1
    rw [e]
    exact he
end DN
