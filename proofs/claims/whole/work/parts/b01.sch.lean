/-! MATHEMATICS: points on lines -/
def on (S : Sc) (l i : Nat) : Prop := (S.2.2 l).testBit i = true
section B1
variable {S : Sc}
theorem on_lt (hS : c_sok S) {l i : Nat} (h : on S l i) : i < S.1 := by
  apply Classical.byContradiction
  intro n
  have := sok_w hS l
  unfold on at h
  rw [Nat.testBit_lt_two_pow (Nat.lt_of_lt_of_le this (Nat.pow_le_pow_right (by decide) (by omega)))] at h
  cases h
theorem on_8 (hS : c_sok S) {l i : Nat} (h : on S l i) : i < 8 := by
  have := on_lt hS h
  have := hS.1.2
  omega
theorem on_m (hS : c_sok S) {l i : Nat} (h : on S l i) : l < S.2.1 := by
  apply Classical.byContradiction
  intro n
  unfold on at h
  rw [hS.2.2.2.1 l (by omega), Nat.zero_testBit] at h
  cases h
/-- two points are on one line at most -/
theorem ln_un (hS : c_sok S) {a b l l' : Nat} (hab : a ≠ b) (h1 : on S l a) (h2 : on S l b) (h3 : on S l' a) (h4 : on S l' b) : l = l' := by
  have key : ∀ a b l l', a < b → l < l' → on S l a → on S l b → on S l' a → on S l' b → False := by
    intro a b l l' hab hl h1 h2 h3 h4
    have p := hS.2.2.2.2 l l' hl (on_m hS h3)
    exact pc_one (and_lt256 (sok_256 hS l)) p (on_8 hS h1) (on_8 hS h2) hab (by rw [Nat.testBit_and]; unfold on at h1 h3; rw [h1, h3]; rfl) (by rw [Nat.testBit_and]; unfold on at h2 h4; rw [h2, h4]; rfl)
  apply Classical.byContradiction
  intro n
  rcases Nat.lt_or_gt_of_ne hab with c | c
  · rcases Nat.lt_or_gt_of_ne n with d | d
    · exact key a b l l' c d h1 h2 h3 h4
    · exact key a b l' l c d h3 h4 h1 h2
  · rcases Nat.lt_or_gt_of_ne n with d | d
    · exact key b a l l' c d h2 h1 h4 h3
    · exact key b a l' l c d h4 h3 h2 h1
theorem jn_s (hS : c_sok S) {a b l : Nat} : jn S a b = some l ↔ a ≠ b ∧ on S l a ∧ on S l b := by
  constructor
  · intro e
    refine ⟨fun q => ?_, jn_bits e⟩
    unfold jn at e
    rw [if_pos q] at e
    cases e
  · rintro ⟨hab, h1, h2⟩
    have hy : (S.2.2 l &&& (2 ^ a ||| 2 ^ b) == 2 ^ a ||| 2 ^ b) = true := by
      rw [two_in, Bool.and_eq_true]
      exact ⟨h1, h2⟩
    have hlt : c_of S (2 ^ a ||| 2 ^ b) < S.2.1 := by
      apply Classical.byContradiction
      intro n
      have := fa_first_no (fun l => S.2.2 l &&& (2 ^ a ||| 2 ^ b) == 2 ^ a ||| 2 ^ b) S.2.1 l (Nat.lt_of_lt_of_le (on_m hS h1) (Nat.not_lt.mp n))
      rw [hy] at this
      cases this
    have y := fa_first_yes (fun l => S.2.2 l &&& (2 ^ a ||| 2 ^ b) == 2 ^ a ||| 2 ^ b) S.2.1 hlt
    rw [two_in, Bool.and_eq_true] at y
    unfold jn
    rw [if_neg hab, if_pos hlt]
    exact congrArg some (ln_un hS hab y.1 y.2 h1 h2)
theorem jn_n (hS : c_sok S) {a b : Nat} : jn S a b = none ↔ a = b ∨ ∀ l, on S l a → ¬ on S l b := by
  constructor
  · intro e
    by_cases q : a = b
    · exact Or.inl q
    · right
      intro l h1 h2
      rw [(jn_s hS).mpr ⟨q, h1, h2⟩] at e
      cases e
  · intro h
    cases e : jn S a b with
    | none => rfl
    | some l =>
      obtain ⟨q, h1, h2⟩ := (jn_s hS).mp e
      rcases h with h | h
      · exact absurd h q
      · exact absurd h2 (h l h1)
theorem jn_c (hS : c_sok S) (a b : Nat) : jn S a b = jn S b a := by
  cases e : jn S a b with
  | none =>
    refine ((jn_n hS).mpr ?_).symm
    rcases (jn_n hS).mp e with h | h
    · exact Or.inl h.symm
    · exact Or.inr (fun l h1 h2 => h l h2 h1)
  | some l =>
    obtain ⟨q, h1, h2⟩ := (jn_s hS).mp e
    exact ((jn_s hS).mpr ⟨fun h => q h.symm, h2, h1⟩).symm
/-- a line's first point -/
theorem tz_on : ∀ x, x < 256 → x ≠ 0 → x.testBit (n_tz x) = true := fun x h1 h2 => (n_tzB x h1 h2).2.1
theorem ln_ne (hS : c_sok S) {l : Nat} (hl : l < S.2.1) : S.2.2 l ≠ 0 := fun e => by
  have := (hS.2.2.1 l hl).2.1
  rw [e] at this
  exact absurd this (by decide)
theorem tz_o (hS : c_sok S) {l : Nat} (hl : l < S.2.1) : on S l (n_tz (S.2.2 l)) := tz_on _ (sok_256 hS l) (ln_ne hS hl)
theorem tz_l (hS : c_sok S) {l i : Nat} (h : on S l i) : n_tz (S.2.2 l) ≤ i := tz_le _ (sok_256 hS l) i (on_8 hS h) h
/-- a line has two points -/
theorem ln_two (hS : c_sok S) {l : Nat} (hl : l < S.2.1) : ∃ a b, a < b ∧ on S l a ∧ on S l b := by
  obtain ⟨i, _, j, _, h1, h2, h3⟩ := pc_two (S.2.2 l) (Nat.lt_trans (sok_256 hS l) (by decide)) (hS.2.2.1 l hl).2.1
  exact ⟨i, j, h1, h2, h3⟩
/-- below p the line has the one point q -/
def fst1 (S : Sc) (l p q : Nat) : Prop := S.2.2 l &&& (2 ^ p - 1) = 2 ^ q
theorem fst1_i {l p q : Nat} : fst1 S l p q ↔ (∀ i, i < p → (on S l i ↔ i = q)) ∧ (q < p ∧ on S l q) := by
  unfold fst1
  constructor
  · intro e
    have b : ∀ i, (decide (i < p) && (S.2.2 l).testBit i) = decide (q = i) := fun i => by
      have := congrArg (fun x => x.testBit i) e
      simp only [Nat.testBit_and, Nat.testBit_two_pow_sub_one, Nat.testBit_two_pow] at this
      rw [Bool.and_comm]
      exact this
    have hq := b q
    rw [decide_eq_true (rfl : q = q), Bool.and_eq_true] at hq
    refine ⟨fun i hi => ?_, of_decide_eq_true hq.1, hq.2⟩
    have := b i
    rw [decide_eq_true hi, Bool.true_and] at this
    unfold on
    rw [this, decide_eq_true_iff]
    exact ⟨fun h => h.symm, fun h => h.symm⟩
  · rintro ⟨h1, h2, h3⟩
    apply Nat.eq_of_testBit_eq
    intro i
    rw [Nat.testBit_and, Nat.testBit_two_pow_sub_one, Nat.testBit_two_pow]
    by_cases hi : i < p
    · rw [decide_eq_true hi, Bool.and_true]
      by_cases e : q = i
      · rw [decide_eq_true e, ← e]; exact h3
      · rw [decide_eq_false e]
        apply Bool.eq_false_iff.mpr
        intro q1
        exact e ((h1 i hi).mp q1).symm
    · rw [decide_eq_false hi, Bool.and_false, decide_eq_false (fun (e : q = i) => hi (by omega))]
end B1
