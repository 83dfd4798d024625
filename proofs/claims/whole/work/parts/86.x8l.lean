/-! what the flags leave: rows that stay; one line's flags touch its own size and first only -/
theorem fl2_st (S : Sc) (i p : Nat) (A : Nat → Nat → Int32) {j : Nat} (hj : j = 3 ∨ j = 4 ∨ j = 5) : fl2 S i p A j = A j := by
  unfold fl2
  split
  · rcases hj with rfl | rfl | rfl <;> rfl
  · rfl
theorem flL_st (S : Sc) (i : Nat) (A : Nat → Nat → Int32) {j : Nat} (hj : j = 3 ∨ j = 4 ∨ j = 5) : ∀ k, it (fun p A => fl2 S i p A) A k j = A j := by
  intro k
  induction k with
  | zero => rfl
  | succ k ih => rw [it_s, fl2_st S _ _ _ hj, ih]
theorem flAll_st (S : Sc) (A : Nat → Nat → Int32) {j : Nat} (hj : j = 3 ∨ j = 4 ∨ j = 5) : flAll S A j = A j := by
  unfold flAll
  have key : ∀ m, it (fun i A => it (fun p A => fl2 S i p A) A S.1) A m j = A j := by
    intro m
    induction m with
    | zero => rfl
    | succ m ih => rw [it_s, flL_st S _ _ hj, ih]
  exact key _
theorem fl2_o6 (S : Sc) (i p : Nat) (A : Nat → Nat → Int32) {l : Nat} (hl : l ≠ i) : fl2 S i p A 6 l = A 6 l := by
  unfold fl2
  split
  · show z_u (A 6) i (A 6 i + nI 1) l = _
    rw [u_ne _ _ hl]
  · rfl
