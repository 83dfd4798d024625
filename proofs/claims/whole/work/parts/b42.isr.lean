/-! MATHEMATICS: whether a row is least, against the reference -/
section B42
variable {S : Sc}
noncomputable def ilq (S : Sc) : Bool := @decide (∀ Q', fn S.1 Q' → ¬ lxn S.1 (kap S (fun j => j)) (kap S Q')) (Classical.propDecidable _)
theorem ilq_i : ilq S = true ↔ ∀ Q', fn S.1 Q' → ¬ lxn S.1 (kap S (fun j => j)) (kap S Q') := @decide_eq_true_iff _ (Classical.propDecidable _)
theorem isl_q (hS : c_sok S) (s : lS) (h0 : s.1 = false) : g_isl S s = ilq S := by
  apply Bool.eq_iff_iff.mpr
  rw [isl_i hS s h0, ilq_i]
theorem par_id (hS : c_sok S) (i : Nat) : par S (fun j => j) S.1 i = S.2.2 i := by
  apply Nat.eq_of_testBit_eq
  intro j
  rw [par_b]
  cases b : (S.2.2 i).testBit j
  · rw [Bool.and_false]
  · rw [decide_eq_true (on_lt hS b)]; rfl
theorem id_fn (n : Nat) : fn n (fun j => j) := ⟨fun _ h => h, fun _ _ _ _ e => e⟩
theorem Rw_id (hS : c_sok S) (x : Nat) : ast S.2.2 S.2.1 x ↔ Rw S (fun j => j) x := by
  unfold ast Rw
  constructor
  · rintro ⟨i, h1, h2⟩; exact ⟨i, h1, by rw [par_id hS]; exact h2⟩
  · rintro ⟨i, h1, h2⟩; exact ⟨i, h1, by rw [← par_id hS]; exact h2⟩
theorem lsN_i (hS : c_sok S) {N : Nat → Nat} (hN : fn S.1 N) : c_lsN S.2.2 N S.2.1 = true ↔ ¬ lxn S.2.1 (rr S N) S.2.2 := by
  obtain ⟨_, _, _, _, v, _, r⟩ := row_ref hS hN
  unfold c_lsN
  rw [decide_eq_true_iff]
  show ¬ c_cmp (c_row S N (fun _ => nI 0) S.2.1) (fun l => nI (S.2.2 l)) S.2.1 < nI 0 ↔ _
  rw [cmp_cg (P' := fun i => nI (rr S N i)) (Q' := fun l => nI (S.2.2 l)) (fun i hi => r (fun _ => nI 0) i hi) (fun _ _ => rfl), cmp_i v (fun i _ => sok_256 hS i)]
theorem lst_i (hS : c_sok S) (hi : inc S.2.2 S.2.1) : c_isLst S.1 S.2.2 S.2.1 = ilq S := by
  apply Bool.eq_iff_iff.mpr
  unfold c_isLst
  rw [List.all_eq_true, ilq_i]
  constructor
  · intro h Q' hQ l
    have l1 := kap_slt hS hQ (id_fn _) l
    obtain ⟨N, a1, a2, a3, a4⟩ := iv_ex hQ
    have en := nm_par hS a1 a2 hQ.1
    obtain ⟨Q2, _, i2, e2, _, en2, _⟩ := row_ref hS a4
    have eq : ∀ x, ast (rr S N) S.2.1 x ↔ Rw S Q' x := fun x => by
      rw [e2]
      unfold Rw
      constructor
      · rintro ⟨i, h1, h2⟩; exact ⟨i, h1, by rw [← en, en2]; exact h2⟩
      · rintro ⟨i, h1, h2⟩; exact ⟨i, h1, by rw [← en2, en]; exact h2⟩
    rcases lxn_tot ((lsN_i hS a4).mp (h N (fn_pms a4 a3))) with q | ⟨i, h1, h2, h3⟩
    · refine slt_eq l1 (fun x => ?_)
      rw [← eq, ← Rw_id hS]
      constructor
      · rintro ⟨i, h1, h2⟩; exact ⟨i, h1, by rw [q i h1]; exact h2⟩
      · rintro ⟨i, h1, h2⟩; exact ⟨i, h1, by rw [← q i h1]; exact h2⟩
    · have := ast_slt (i := i) i2 hi (fun j hj => ⟨by omega, (h2 j hj).symm⟩) h1 (Or.inr h3)
      exact slt_as l1 (slt_cg (Rw_id hS) eq this)
  · intro h N hN
    have hf := pms_fn hN
    refine (lsN_i hS hf).mpr (fun ⟨i, h1, h2, h3⟩ => ?_)
    obtain ⟨Q, q1, i2, e2, _, _, _⟩ := row_ref hS hf
    have l1 := slt_cg e2 (Rw_id hS) (ast_slt (i := i) hi i2 (fun j hj => ⟨by omega, (h2 j hj).symm⟩) h1 (Or.inr h3))
    rcases lxn_tot (h Q q1) with q | q
    · exact slt_eq l1 (kap_Rw hS q1 (id_fn _) q)
    · exact slt_as l1 (kap_slt hS (id_fn _) q1 q)
end B42
