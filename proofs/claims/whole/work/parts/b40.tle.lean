/-! MATHEMATICS: the least row is the reference's -/
section B40
variable {S : Sc}
theorem lxn_tot {m : Nat} {A B : Nat → Nat} (h : ¬ lxn m A B) : ble m B A := by
  by_cases c : ∀ j, j < m → B j = A j
  · exact Or.inl c
  · right
    have : ∃ j, j < m ∧ B j ≠ A j := by
      apply Classical.byContradiction
      intro no
      refine c (fun j hj => ?_)
      apply Classical.byContradiction
      intro q
      exact no ⟨j, hj, q⟩
    have key : ∀ n j, j ≤ n → j < m → B j ≠ A j → ∃ d, d < m ∧ (∀ i, i < d → B i = A i) ∧ B d ≠ A d := by
      intro n
      induction n with
      | zero => intro j hj h1 h2; exact ⟨j, h1, fun i hi => by omega, h2⟩
      | succ n ih =>
        intro j hj h1 h2
        by_cases c : ∃ i, i < j ∧ B i ≠ A i
        · obtain ⟨i, i1, i2⟩ := c
          exact ih i (by omega) (by omega) i2
        · exact ⟨j, h1, fun i hi => Classical.byContradiction fun q => c ⟨i, hi, q⟩, h2⟩
    obtain ⟨j, j1, j2⟩ := this
    obtain ⟨d, d1, d2, d3⟩ := key j j (Nat.le_refl _) j1 j2
    rcases Nat.lt_trichotomy (A d) (B d) with q | q | q
    · exact absurd ⟨d, d1, fun i hi => (d2 i hi).symm, q⟩ h
    · exact absurd q.symm d3
    · exact ⟨d, d1, d2, q⟩
theorem tl_fold (hS : c_sok S) : ∀ (L : List (Nat → Nat)) (N0 : Nat → Nat) (a : tL), a.1 = false → fn S.1 N0 → (∀ i, i < S.2.1 → a.2.2 i = nI (rr S N0 i)) → (∀ N, N ∈ L → fn S.1 N) → ∃ N1, fn S.1 N1 ∧ (∀ i, i < S.2.1 → (L.foldl (fun a N => c_tlF S N a) a).2.2 i = nI (rr S N1 i)) ∧ ble S.2.1 (rr S N1) (rr S N0) ∧ ∀ N, N ∈ L → ble S.2.1 (rr S N1) (rr S N)
  | [], N0, a, _, h0, h1, _ => ⟨N0, h0, h1, Or.inl fun _ _ => rfl, fun N h => absurd h (by simp)⟩
  | N :: L, N0, a, ha, h0, h1, hL => by
    have hN := hL N List.mem_cons_self
    obtain ⟨_, _, _, _, v0, _, _⟩ := row_ref hS h0
    obtain ⟨_, _, _, _, vN, _, rN⟩ := row_ref hS hN
    have ec : c_cmp (c_row S N a.2.1 S.2.1) a.2.2 S.2.1 < nI 0 ↔ lxn S.2.1 (rr S N) (rr S N0) := by
      rw [cmp_cg (P' := fun i => nI (rr S N i)) (Q' := fun i => nI (rr S N0 i)) (fun i hi => rN _ i hi) h1]
      exact cmp_i vN v0
    rw [List.foldl_cons]
    by_cases c : lxn S.2.1 (rr S N) (rr S N0)
    · have e2 : ∀ i, i < S.2.1 → (c_tlF S N a).2.2 i = nI (rr S N i) := fun i hi => by
        unfold c_tlF
        show (if a.1 = true ∨ c_cmp (c_row S N a.2.1 S.2.1) a.2.2 S.2.1 < nI 0 then fa_fill (c_row S N a.2.1 S.2.1) a.2.2 S.2.1 else a.2.2) i = _
        rw [if_pos (Or.inr (ec.mpr c))]
        unfold fa_fill
        rw [if_pos hi]
        exact rN _ i hi
      obtain ⟨N1, n1, n2, n3, n4⟩ := tl_fold hS L N (c_tlF S N a) rfl hN e2 (fun N' h => hL N' (List.mem_cons_of_mem _ h))
      refine ⟨N1, n1, n2, ble_tr n3 (Or.inr c), fun N' h => ?_⟩
      rcases List.mem_cons.mp h with q | q
      · rw [q]; exact n3
      · exact n4 N' q
    · have e2 : ∀ i, i < S.2.1 → (c_tlF S N a).2.2 i = nI (rr S N0 i) := fun i hi => by
        unfold c_tlF
        show (if a.1 = true ∨ c_cmp (c_row S N a.2.1 S.2.1) a.2.2 S.2.1 < nI 0 then fa_fill (c_row S N a.2.1 S.2.1) a.2.2 S.2.1 else a.2.2) i = _
        rw [if_neg (fun q => by
          rcases q with q | q
          · rw [ha] at q; cases q
          · exact c (ec.mp q))]
        exact h1 i hi
      obtain ⟨N1, n1, n2, n3, n4⟩ := tl_fold hS L N0 (c_tlF S N a) rfl h0 e2 (fun N' h => hL N' (List.mem_cons_of_mem _ h))
      refine ⟨N1, n1, n2, n3, fun N' h => ?_⟩
      rcases List.mem_cons.mp h with q | q
      · rw [q]; exact ble_tr n3 (lxn_tot c)
      · exact n4 N' q
theorem pms_fn {n : Nat} {N : Nat → Nat} (h : N ∈ pms n) : fn n N := pms_inj h
theorem fn_pms {n : Nat} {N : Nat → Nat} (h : fn n N) (h0 : ∀ i, n ≤ i → N i = 0) : N ∈ pms n := by
  rw [pms_ij, ij_mem]
  refine ⟨fun i hi => ?_, fun i _ hi => h.1 i (by omega), fun i j hij _ hj e => ?_⟩
  · rcases hi with q | q
    · exact absurd q (Nat.not_lt_zero _)
    · exact h0 i (by omega)
  · have := h.2 i j (by omega) (by omega) e
    omega
theorem tl_best (hS : c_sok S) (f g : Nat → Int32) : ∃ N1, fn S.1 N1 ∧ (∀ i, i < S.2.1 → (c_tl S f g).2.2 i = nI (rr S N1 i)) ∧ ∀ N, N ∈ pms S.1 → ble S.2.1 (rr S N1) (rr S N) := by
  unfold c_tl
  have hh := (pms_spec S.1).2.1
  have hm : ∀ N, N ∈ pms S.1 → fn S.1 N := fun N h => pms_fn h
  cases e : pms S.1 with
  | nil => rw [e] at hh; cases hh
  | cons N L =>
    rw [e] at hm
    have hN := hm N List.mem_cons_self
    obtain ⟨_, _, _, _, _, _, rN⟩ := row_ref hS hN
    rw [List.foldl_cons]
    obtain ⟨N1, n1, n2, n3, n4⟩ := tl_fold hS L N (c_tlF S N (true, f, g)) rfl hN (fun i hi => by
      unfold c_tlF
      show (if true = true ∨ c_cmp (c_row S N f S.2.1) g S.2.1 < nI 0 then fa_fill (c_row S N f S.2.1) g S.2.1 else g) i = _
      rw [if_pos (Or.inl rfl)]
      unfold fa_fill
      rw [if_pos hi]
      exact rN _ i hi) (fun N' h => hm N' (List.mem_cons_of_mem _ h))
    refine ⟨N1, n1, n2, fun N' h => ?_⟩
    rcases List.mem_cons.mp h with q | q
    · rw [q]; exact n3
    · exact n4 N' q
/-- no row is less than a row that is none's greater -/
theorem Rw_min (hS : c_sok S) {N1 Q Q1 : Nat → Nat} (hQ : fn S.1 Q) (i1 : inc (rr S N1) S.2.1) (e1 : ∀ x, ast (rr S N1) S.2.1 x ↔ Rw S Q1 x) (hb : ∀ N, N ∈ pms S.1 → ble S.2.1 (rr S N1) (rr S N)) : ¬ slt (Rw S Q) (Rw S Q1) := fun l => by
  obtain ⟨N, a1, a2, a3, a4⟩ := iv_ex hQ
  have en := nm_par hS a1 a2 hQ.1
  obtain ⟨Q2, _, i2, e2, _, en2, _⟩ := row_ref hS a4
  have eq : ∀ x, ast (rr S N) S.2.1 x ↔ Rw S Q x := fun x => by
    rw [e2]
    unfold Rw
    constructor
    · rintro ⟨i, h1, h2⟩; exact ⟨i, h1, by rw [← en, en2]; exact h2⟩
    · rintro ⟨i, h1, h2⟩; exact ⟨i, h1, by rw [← en2, en]; exact h2⟩
  rcases hb N (fn_pms a4 a3) with q | ⟨i, h1, h2, h3⟩
  · refine slt_eq l (fun x => ?_)
    rw [← eq, ← e1]
    constructor
    · rintro ⟨i, h1, h2⟩; exact ⟨i, h1, by rw [q i h1]; exact h2⟩
    · rintro ⟨i, h1, h2⟩; exact ⟨i, h1, by rw [← q i h1]; exact h2⟩
  · have := ast_slt (i := i) i2 i1 (fun j hj => ⟨by omega, (h2 j hj).symm⟩) h1 (Or.inr h3)
    exact slt_as l (slt_cg e1 eq this)
theorem tl_eq (hS : c_sok S) (f g : Nat → Int32) {P C E M B : Nat → Nat} (hB : ∀ i, i < 8 → B i = 0) : ∀ i, i < S.2.1 → (c_tl S f g).2.2 i = nI (srt (lC (g_des S false S.1 0 0 false (false, P, C, E, M, B))) S.2.1 i) ∧ lC (g_des S false S.1 0 0 false (false, P, C, E, M, B)) i < 256 := by
  have hs := hS.1.2
  obtain ⟨Q, q1, q2, q3⟩ := des_best hS (P := P) (C := C) (E := E) (M := M) hB
  obtain ⟨D, eD⟩ : ∃ D, D = lC (g_des S false S.1 0 0 false (false, P, C, E, M, B)) := ⟨_, rfl⟩
  rw [← eD] at q2 ⊢
  obtain ⟨N1, n1, n2, n3⟩ := tl_best hS f g
  obtain ⟨Q1, r1, r2, r3, r4, r5, r6⟩ := row_ref hS n1
  have hR := Rw_un hS q1 r1 (q3 Q1 r1) (Rw_min hS q1 r2 r3 n3)
  obtain ⟨s1, s2⟩ := srt_spec (R := D) (s := S.2.1) (fun i j hij hj e => by
    rw [q2 i (by omega), q2 j hj] at e
    have := par_inj hS q1 (by omega) e
    omega)
  have ea : ∀ x, ast (rr S N1) S.2.1 x ↔ ast (srt D S.2.1) S.2.1 x := fun x => by
    rw [r3, ← hR, s2]
    unfold Rw
    constructor
    · rintro ⟨i, h1, h2⟩; exact ⟨i, h1, by rw [q2 i h1]; exact h2⟩
    · rintro ⟨i, h1, h2⟩; exact ⟨i, h1, by rw [← q2 i h1]; exact h2⟩
  intro i hi
  refine ⟨by rw [n2 i hi, ast_eq r2 s1 ea i hi], ?_⟩
  rw [q2 i hi]
  exact Nat.lt_of_lt_of_le (par_lt Q S.1 i) (Nat.pow_le_pow_right (n := 2) (by decide) hs)
end B40
