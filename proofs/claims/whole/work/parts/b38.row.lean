/-! MATHEMATICS: better keys, lesser row -/
section B38
variable {S : Sc}
def Rw (S : Sc) (Q : Nat → Nat) (x : Nat) : Prop := ∃ i, i < S.2.1 ∧ par S Q S.1 i = x
theorem par_full (hS : c_sok S) {Q : Nat → Nat} (hQ : fn S.1 Q) {d i : Nat} (hd : d < S.1) (h : ens S Q d (Q d) i) : par S Q S.1 i = 2 ^ d + par S Q d i := by
  have e : 2 ^ d + par S Q d i = 2 ^ d ||| par S Q d i := by
    have := Nat.two_pow_add_eq_or_of_lt (par_lt (S := S) Q d i) 1
    rw [Nat.mul_one] at this
    exact this
  rw [e]
  apply Nat.eq_of_testBit_eq
  intro j
  rw [par_b, Nat.testBit_or, par_b, Nat.testBit_two_pow]
  by_cases c : j < S.1
  · rw [decide_eq_true c, Bool.true_and]
    by_cases c1 : d = j
    · subst c1
      rw [decide_eq_true rfl, Bool.true_or]
      exact h.1
    · rw [decide_eq_false c1, Bool.false_or]
      by_cases c2 : j < d
      · rw [decide_eq_true c2, Bool.true_and]
      · rw [decide_eq_false c2, Bool.false_and]
        cases b : (S.2.2 i).testBit (Q j)
        · rfl
        · rcases h.2.2 (Q j) b with f | ⟨j', j1, j2⟩
          · exact absurd (hQ.2 _ _ c hd f).symm c1
          · have := hQ.2 j' j (by omega) c j2
            omega
  · rw [decide_eq_false c, Bool.false_and, decide_eq_false (by omega : ¬ d = j), decide_eq_false (by omega : ¬ j < d)]
    rfl
theorem ens_ex (hS : c_sok S) {Q : Nat → Nat} (hQ : fn S.1 Q) {i : Nat} (hi : i < S.2.1) : ∃ d, d < S.1 ∧ ens S Q d (Q d) i := by
  -- the last name on the line
  have sur : ∀ p, on S i p → ∃ j, j < S.1 ∧ Q j = p := fun p hp => rg_onto hQ.1 hQ.2 p (on_lt hS hp)
  have key : ∀ k, k ≤ S.1 → (∀ j, k ≤ j → j < S.1 → ¬ on S i (Q j)) → (∃ j, j < k ∧ on S i (Q j)) → ∃ d, d < k ∧ on S i (Q d) ∧ ∀ j, d < j → j < S.1 → ¬ on S i (Q j) := by
    intro k
    induction k with
    | zero => rintro _ _ ⟨j, hj, _⟩; omega
    | succ k ih =>
      rintro hk h1 ⟨j, j1, j2⟩
      by_cases c : on S i (Q k)
      · exact ⟨k, by omega, c, fun j hj hj2 => h1 j (by omega) hj2⟩
      · obtain ⟨d, d1, d2⟩ := ih (by omega) (fun j hj hj2 => by
          by_cases e : j = k
          · rw [e]; exact c
          · exact h1 j (by omega) hj2) ⟨j, by
          by_cases e : j = k
          · rw [e] at j2; exact absurd j2 c
          · omega, j2⟩
        exact ⟨d, by omega, d2⟩
  obtain ⟨a, b, _, ha, _⟩ := ln_two hS hi
  obtain ⟨j, j1, j2⟩ := sur a ha
  obtain ⟨d, d1, d2, d3⟩ := key S.1 (Nat.le_refl _) (fun j h1 h2 => by omega) ⟨j, j1, by rw [j2]; exact ha⟩
  refine ⟨d, d1, d2, fun j hj e => ?_, fun q hq => ?_⟩
  · have := hQ.2 j d (by omega) d1 e
    omega
  · obtain ⟨j, j1, j2⟩ := sur q hq
    rcases Nat.lt_trichotomy j d with c | c | c
    · exact Or.inr ⟨j, c, j2⟩
    · left; rw [← j2, c]
    · rw [← j2] at hq; exact absurd hq (d3 j c j1)
theorem Rw_i (hS : c_sok S) {Q : Nat → Nat} (hQ : fn S.1 Q) (x : Nat) : Rw S Q x ↔ ∃ d y, d < S.1 ∧ eS S Q d (Q d) y ∧ x = 2 ^ d + y := by
  constructor
  · rintro ⟨i, hi, e⟩
    obtain ⟨d, d1, d2⟩ := ens_ex hS hQ hi
    exact ⟨d, par S Q d i, d1, ⟨i, hi, d2, rfl⟩, by rw [← e]; exact par_full hS hQ d1 d2⟩
  · rintro ⟨d, y, d1, ⟨i, hi, h, e⟩, f⟩
    exact ⟨i, hi, by rw [par_full hS hQ d1 h, e, f]⟩
theorem eS_lt {Q : Nat → Nat} {d p y : Nat} (h : eS S Q d p y) : y < 2 ^ d := by
  obtain ⟨i, _, _, e⟩ := h
  rw [← e]
  exact par_lt Q d i
theorem pw_un {d d' y y' : Nat} (h : y < 2 ^ d) (h' : y' < 2 ^ d') (e : 2 ^ d + y = 2 ^ d' + y') : d = d' ∧ y = y' := by
  have key : ∀ a b u v : Nat, u < 2 ^ a → v < 2 ^ b → 2 ^ a + u = 2 ^ b + v → a < b → False := fun a b u v h1 h2 h3 h4 => by
    have := Nat.pow_le_pow_right (show 0 < 2 by decide) (show a + 1 ≤ b by omega)
    rw [Nat.pow_succ] at this
    omega
  rcases Nat.lt_trichotomy d d' with c | c | c
  · exact (key _ _ _ _ h h' e c).elim
  · subst c; exact ⟨rfl, by omega⟩
  · exact (key _ _ _ _ h' h e.symm c).elim
theorem kap_slt (hS : c_sok S) {Q Q' : Nat → Nat} (hQ : fn S.1 Q) (hQ' : fn S.1 Q') (h : lxn S.1 (kap S Q') (kap S Q)) : slt (Rw S Q) (Rw S Q') := by
  have hs := hS.1.2
  obtain ⟨d, d1, d2, d3⟩ := h
  have low : ∀ j, j < d → ∀ x, eS S Q j (Q j) x ↔ eS S Q' j (Q' j) x := fun j hj => by
    have a := kc_isK hS Q (show j ≤ 7 by omega) (Q j)
    have b := kc_isK hS Q' (show j ≤ 7 by omega) (Q' j)
    have e : kc S Q' j (Q' j) = kc S Q j (Q j) := d2 j hj
    rw [e] at b
    exact isK_eq a b
  obtain ⟨y, y1, y2, y3⟩ := isK_lt (kc_isK hS Q' (show d ≤ 7 by omega) (Q' d)) (kc_isK hS Q (show d ≤ 7 by omega) (Q d)) d3
  have yl := eS_lt y1
  have lt : ∀ j z, z < 2 ^ j → 2 ^ j + z < 2 ^ d + y → j < d ∨ (j = d ∧ z < y) := fun j z hz hlt => by
    rcases Nat.lt_trichotomy j d with c | c | c
    · exact Or.inl c
    · right; subst c; exact ⟨rfl, by omega⟩
    · have := Nat.pow_le_pow_right (show 0 < 2 by decide) (show d + 1 ≤ j by omega)
      rw [Nat.pow_succ] at this
      omega
  refine ⟨2 ^ d + y, (Rw_i hS hQ _).mpr ⟨d, y, d1, y1, rfl⟩, fun q => ?_, fun x hx => ?_⟩
  · obtain ⟨d', y', e1, e2, e3⟩ := (Rw_i hS hQ' _).mp q
    obtain ⟨f1, f2⟩ := pw_un yl (eS_lt e2) e3
    subst f1
    subst f2
    exact y2 e2
  · rw [Rw_i hS hQ, Rw_i hS hQ']
    constructor
    · rintro ⟨j, z, j1, j2, j3⟩
      refine ⟨j, z, j1, ?_, j3⟩
      rcases lt j z (eS_lt j2) (by omega) with c | ⟨c1, c2⟩
      · exact (low j c z).mp j2
      · subst c1; exact (y3 z c2).mp j2
    · rintro ⟨j, z, j1, j2, j3⟩
      refine ⟨j, z, j1, ?_, j3⟩
      rcases lt j z (eS_lt j2) (by omega) with c | ⟨c1, c2⟩
      · exact (low j c z).mpr j2
      · subst c1; exact (y3 z c2).mpr j2
theorem kap_Rw (hS : c_sok S) {Q Q' : Nat → Nat} (hQ : fn S.1 Q) (hQ' : fn S.1 Q') (h : ∀ j, j < S.1 → kap S Q j = kap S Q' j) (x : Nat) : Rw S Q x ↔ Rw S Q' x := by
  have hs := hS.1.2
  have low : ∀ j, j < S.1 → ∀ x, eS S Q j (Q j) x ↔ eS S Q' j (Q' j) x := fun j hj => by
    have a := kc_isK hS Q (show j ≤ 7 by omega) (Q j)
    have b := kc_isK hS Q' (show j ≤ 7 by omega) (Q' j)
    have e : kc S Q j (Q j) = kc S Q' j (Q' j) := h j hj
    rw [← e] at b
    exact isK_eq a b
  rw [Rw_i hS hQ, Rw_i hS hQ']
  constructor
  · rintro ⟨j, z, j1, j2, j3⟩
    exact ⟨j, z, j1, (low j j1 z).mp j2, j3⟩
  · rintro ⟨j, z, j1, j2, j3⟩
    exact ⟨j, z, j1, (low j j1 z).mpr j2, j3⟩
/-- no better keys and no lesser row: one row -/
theorem Rw_un (hS : c_sok S) {Q Q' : Nat → Nat} (hQ : fn S.1 Q) (hQ' : fn S.1 Q') (h1 : ¬ lxn S.1 (kap S Q) (kap S Q')) (h2 : ¬ slt (Rw S Q) (Rw S Q')) (x : Nat) : Rw S Q x ↔ Rw S Q' x := by
  by_cases c : ∀ j, j < S.1 → kap S Q j = kap S Q' j
  · exact kap_Rw hS hQ hQ' c x
  · exfalso
    have : ∃ j, j < S.1 ∧ kap S Q j ≠ kap S Q' j := by
      apply Classical.byContradiction
      intro no
      refine c (fun j hj => ?_)
      apply Classical.byContradiction
      intro q
      exact no ⟨j, hj, q⟩
    have key : ∀ n j, j ≤ n → j < S.1 → kap S Q j ≠ kap S Q' j → ∃ d, d < S.1 ∧ (∀ i, i < d → kap S Q i = kap S Q' i) ∧ kap S Q d ≠ kap S Q' d := by
      intro n
      induction n with
      | zero => intro j hj h1 h2; exact ⟨j, h1, fun i hi => by omega, h2⟩
      | succ n ih =>
        intro j hj h1 h2
        by_cases c : ∃ i, i < j ∧ kap S Q i ≠ kap S Q' i
        · obtain ⟨i, i1, i2⟩ := c
          exact ih i (by omega) (by omega) i2
        · exact ⟨j, h1, fun i hi => Classical.byContradiction fun q => c ⟨i, hi, q⟩, h2⟩
    obtain ⟨j, j1, j2⟩ := this
    obtain ⟨d, d1, d2, d3⟩ := key j j (Nat.le_refl _) j1 j2
    rcases Nat.lt_trichotomy (kap S Q d) (kap S Q' d) with q | q | q
    · exact h1 ⟨d, d1, d2, q⟩
    · exact d3 q
    · exact h2 (kap_slt hS hQ hQ' ⟨d, d1, fun i hi => (d2 i hi).symm, q⟩)
end B38
