/-! MATHEMATICS: the game -/
def rmv (S : Sc) (f : Nat → Nat → Int32) (a b p : Nat) : Int32 := if c_has S (a ||| 2 ^ p) && !c_has S a then 1 else -(f b (a ||| 2 ^ p))
def rmx (m : Nat → Int32) (u n : Nat) : Int32 := it (fun p x => if u.testBit p then x else if x < m p then m p else x) (-nI 2) n
def rW (S : Sc) : Nat → Nat → Nat → Int32
  | 0, _, _ => nI 0
  | k + 1, a, b => if rmx (rmv S (rW S k) a b) (a ||| b) S.1 = -nI 2 then nI 0 else rmx (rmv S (rW S k) a b) (a ||| b) S.1
section B20
variable {S : Sc}
theorem w3_i {v : Int32} (h : w3 v) : (v.toInt = -1 ∨ v.toInt = 0 ∨ v.toInt = 1) ∧ (-v).toInt = -v.toInt := by
  rcases h with rfl | rfl | rfl
  · exact ⟨Or.inl (by decide), by decide⟩
  · exact ⟨Or.inr (Or.inl (by decide)), by decide⟩
  · exact ⟨Or.inr (Or.inr (by decide)), by decide⟩
theorem m2_i : (-nI 2).toInt = -2 := by decide
theorem rmx_s {m : Nat → Int32} {u : Nat} : ∀ n, (∀ p, p < n → u.testBit p = false → w3 (m p)) → ((∀ p, p < n → u.testBit p = true) ∧ rmx m u n = -nI 2) ∨ ∃ q, q < n ∧ u.testBit q = false ∧ rmx m u n = m q ∧ ∀ p, p < n → u.testBit p = false → (m p).toInt ≤ (m q).toInt := by
  intro n
  induction n with
  | zero => intro _; exact Or.inl ⟨fun p hp => absurd hp (Nat.not_lt_zero _), rfl⟩
  | succ n ih =>
    intro hw
    have ih := ih (fun p hp => hw p (by omega))
    have e : rmx m u (n + 1) = if u.testBit n then rmx m u n else if rmx m u n < m n then m n else rmx m u n := rfl
    rw [e]
    cases hb : u.testBit n
    · rw [if_neg (by decide)]
      right
      have wn := w3_i (hw n (by omega) hb)
      rcases ih with ⟨h1, h2⟩ | ⟨q, q1, q2, q3, q4⟩
      · rw [h2, if_pos ((fa_lt _ _).mpr (by rw [m2_i]; omega))]
        refine ⟨n, by omega, hb, rfl, fun p hp hf => ?_⟩
        by_cases ep : p = n
        · rw [ep]; exact Int.le_refl _
        · rw [h1 p (by omega)] at hf; cases hf
      · rw [q3]
        by_cases c : m q < m n
        · rw [if_pos c]
          have := (fa_lt _ _).mp c
          refine ⟨n, by omega, hb, rfl, fun p hp hf => ?_⟩
          by_cases ep : p = n
          · rw [ep]; exact Int.le_refl _
          · have := q4 p (by omega) hf; omega
        · rw [if_neg c]
          have : ¬ (m q).toInt < (m n).toInt := fun h => c ((fa_lt _ _).mpr h)
          refine ⟨q, by omega, q2, rfl, fun p hp hf => ?_⟩
          by_cases ep : p = n
          · rw [ep]; omega
          · exact q4 p (by omega) hf
    · rw [if_pos rfl]
      rcases ih with ⟨h1, h2⟩ | ⟨q, q1, q2, q3, q4⟩
      · exact Or.inl ⟨fun p hp => by
          by_cases ep : p = n
          · rw [ep]; exact hb
          · exact h1 p (by omega), h2⟩
      · refine Or.inr ⟨q, by omega, q2, q3, fun p hp hf => ?_⟩
        by_cases ep : p = n
        · rw [ep, hb] at hf; cases hf
        · exact q4 p (by omega) hf
theorem rW_w3 (S : Sc) : ∀ k a b, w3 (rW S k a b) := by
  intro k
  induction k with
  | zero => intro a b; exact Or.inr (Or.inl rfl)
  | succ k ih =>
    intro a b
    have wm : ∀ p, w3 (rmv S (rW S k) a b p) := fun p => by
      unfold rmv
      split
      · exact Or.inr (Or.inr rfl)
      · exact w3_neg (ih _ _)
    unfold rW
    rcases rmx_s (m := rmv S (rW S k) a b) (u := a ||| b) S.1 (fun p _ _ => wm p) with ⟨_, h2⟩ | ⟨q, _, _, q3, _⟩
    · rw [if_pos h2]; exact Or.inr (Or.inl rfl)
    · rw [q3]
      have := w3_i (wm q)
      rw [if_neg (fun e => by
        have h := congrArg Int32.toInt e
        rw [m2_i] at h
        omega)]
      exact wm q
theorem rmv_w3 (S : Sc) (k a b p : Nat) : w3 (rmv S (rW S k) a b p) := by
  unfold rmv
  split
  · exact Or.inr (Or.inr rfl)
  · exact w3_neg (rW_w3 S k _ _)
theorem rW_s {k a b : Nat} (hf : ∃ p, p < S.1 ∧ (a ||| b).testBit p = false) : ∃ q, q < S.1 ∧ (a ||| b).testBit q = false ∧ rW S (k + 1) a b = rmv S (rW S k) a b q ∧ ∀ p, p < S.1 → (a ||| b).testBit p = false → (rmv S (rW S k) a b p).toInt ≤ (rmv S (rW S k) a b q).toInt := by
  obtain ⟨p, p1, p2⟩ := hf
  rcases rmx_s (m := rmv S (rW S k) a b) (u := a ||| b) S.1 (fun p _ _ => rmv_w3 S k a b p) with ⟨h1, _⟩ | ⟨q, q1, q2, q3, q4⟩
  · rw [h1 p p1] at p2; cases p2
  · refine ⟨q, q1, q2, ?_, q4⟩
    have := w3_i (rmv_w3 S k a b q)
    unfold rW
    rw [q3, if_neg (fun e => by
      have h := congrArg Int32.toInt e
      rw [m2_i] at h
      omega)]
/-! the class's way -/
theorem gL_s {f : Nat → Int32} {u : Nat} (hf : ∀ p, w3 (f p)) : ∀ r p b, w3 b → b.toInt ≤ (gL f u r p b).toInt ∧ (∀ q, p ≤ q → q < p + r → u.testBit q = false → (-(f q)).toInt ≤ (gL f u r p b).toInt) ∧ (gL f u r p b = b ∨ ∃ q, p ≤ q ∧ q < p + r ∧ u.testBit q = false ∧ gL f u r p b = -(f q)) := by
  intro r
  induction r with
  | zero => intro p b _; exact ⟨Int.le_refl _, fun q h1 h2 => by omega, Or.inl rfl⟩
  | succ r ih =>
    intro p b hb
    have wb := w3_i hb
    unfold gL
    by_cases c : b < nI 1
    · rw [if_pos c]
      cases hu : u.testBit p
      · rw [if_pos rfl]
        have wn := w3_i (w3_neg (hf p))
        by_cases d : b < -(f p)
        · rw [if_pos d]
          obtain ⟨h1, h2, h3⟩ := ih (p + 1) (-(f p)) (w3_neg (hf p))
          have := (fa_lt _ _).mp d
          refine ⟨by omega, fun q q1 q2 q3 => ?_, Or.inr ?_⟩
          · by_cases e : q = p
            · rw [e]; exact h1
            · exact h2 q (by omega) (by omega) q3
          · rcases h3 with h3 | ⟨q, q1, q2, q3, q4⟩
            · exact ⟨p, Nat.le_refl _, by omega, hu, h3⟩
            · exact ⟨q, by omega, by omega, q3, q4⟩
        · rw [if_neg d]
          obtain ⟨h1, h2, h3⟩ := ih (p + 1) b hb
          have : ¬ b.toInt < (-(f p)).toInt := fun h => d ((fa_lt _ _).mpr h)
          refine ⟨h1, fun q q1 q2 q3 => ?_, ?_⟩
          · by_cases e : q = p
            · rw [e]; omega
            · exact h2 q (by omega) (by omega) q3
          · rcases h3 with h3 | ⟨q, q1, q2, q3, q4⟩
            · exact Or.inl h3
            · exact Or.inr ⟨q, by omega, by omega, q3, q4⟩
      · rw [if_neg (by decide)]
        obtain ⟨h1, h2, h3⟩ := ih (p + 1) b hb
        refine ⟨h1, fun q q1 q2 q3 => ?_, ?_⟩
        · by_cases e : q = p
          · rw [e, hu] at q3; cases q3
          · exact h2 q (by omega) (by omega) q3
        · rcases h3 with h3 | ⟨q, q1, q2, q3, q4⟩
          · exact Or.inl h3
          · exact Or.inr ⟨q, by omega, by omega, q3, q4⟩
    · rw [if_neg c]
      have c1 : ¬ b.toInt < 1 := fun h => c ((fa_lt _ _).mpr (by rw [show (nI 1).toInt = 1 by decide]; exact h))
      refine ⟨Int.le_refl _, fun q _ _ _ => ?_, Or.inl rfl⟩
      have := w3_i (w3_neg (hf q))
      omega
theorem i_eq {x y : Int32} (h : x.toInt = y.toInt) : x = y := Int32.toInt_inj.mp h
theorem gE_s {a u : Nat} : (gE S a u = none ∧ ∀ p, p < S.1 → u.testBit p = false → c_has S (a ||| 2 ^ p) = false) ∨ ∃ t, gE S a u = some t ∧ t < S.1 ∧ u.testBit t = false ∧ c_has S (a ||| 2 ^ t) = true := by
  unfold gE
  by_cases c : fa_first (fun p => !u.testBit p && c_has S (a ||| 2 ^ p)) S.1 < S.1
  · rw [if_pos c]
    have y := fa_first_yes (fun p => !u.testBit p && c_has S (a ||| 2 ^ p)) S.1 c
    rw [Bool.and_eq_true, Bool.not_eq_true'] at y
    exact Or.inr ⟨_, rfl, c, y.1, y.2⟩
  · rw [if_neg c]
    refine Or.inl ⟨rfl, fun p hp hf => ?_⟩
    have := fa_first_no (fun p => !u.testBit p && c_has S (a ||| 2 ^ p)) S.1 p (by omega)
    rw [hf, Bool.not_false, Bool.true_and] at this
    exact this
/-- so many points are free -/
def fre (S : Sc) (u k : Nat) : Prop := u < 2 ^ S.1 ∧ n_pc u + k = S.1
theorem fre_s (hS : c_sok S) {u k p : Nat} (h : fre S u (k + 1)) (hp : p < S.1) (hf : u.testBit p = false) : fre S (u ||| 2 ^ p) k := by
  obtain ⟨h1, h2⟩ := h
  have n8 := hS.1.2
  refine ⟨Nat.or_lt_two_pow h1 (Nat.pow_lt_pow_right (by decide) hp), ?_⟩
  have po := pc_or u (2 ^ p)
  have z : u &&& 2 ^ p = 0 := by
    apply Nat.eq_of_testBit_eq
    intro i
    rw [Nat.testBit_and, Nat.zero_testBit, Nat.testBit_two_pow]
    by_cases e : p = i
    · rw [← e, hf]; rfl
    · rw [decide_eq_false e, Bool.and_false]
  have z0 : n_pc 0 = 0 := by decide
  rw [z, z0, pc_2p (by omega)] at po
  omega
theorem fre_p (hS : c_sok S) {u k : Nat} (h : fre S u (k + 1)) : ∃ p, p < S.1 ∧ u.testBit p = false := by
  obtain ⟨h1, h2⟩ := h
  have n8 := hS.1.2
  apply Classical.byContradiction
  intro n
  have e : u = 2 ^ S.1 - 1 := by
    apply Nat.eq_of_testBit_eq
    intro i
    rw [Nat.testBit_two_pow_sub_one]
    by_cases c : i < S.1
    · rw [decide_eq_true c]
      cases hb : u.testBit i
      · exact absurd ⟨i, c, hb⟩ n
      · rfl
    · rw [decide_eq_false c]
      exact Nat.testBit_lt_two_pow (Nat.lt_of_lt_of_le h1 (Nat.pow_le_pow_right (by decide) (by omega)))
  have : ∀ n, n < 9 → n_pc (2 ^ n - 1) = n := by decide +kernel
  rw [e, this S.1 (by omega)] at h2
  omega
theorem or_sw (a b p : Nat) : b ||| (a ||| 2 ^ p) = (a ||| b) ||| 2 ^ p := by rw [← Nat.or_assoc, Nat.or_comm b a]
theorem gW_rW (hS : c_sok S) : ∀ k a b, fre S (a ||| b) k → c_has S a = false → c_has S b = false → gW S k a b = rW S k a b := by
  intro k
  induction k with
  | zero => intro a b _ _ _; rfl
  | succ k ih =>
    intro a b hfr ha hb
    obtain ⟨q, q1, q2, q3, q4⟩ := rW_s (k := k) (fre_p hS hfr)
    have rm0 : ∀ p, c_has S (a ||| 2 ^ p) = false → rmv S (rW S k) a b p = -(rW S k b (a ||| 2 ^ p)) := fun p h => by
      unfold rmv; rw [h, Bool.false_and, if_neg (by decide)]
    have rm1 : ∀ p, c_has S (a ||| 2 ^ p) = true → rmv S (rW S k) a b p = 1 := fun p h => by
      unfold rmv; rw [h, ha]; rfl
    have i1 : (1 : Int32).toInt = 1 := by decide
    show gF S (gW S k) a b = _
    unfold gF
    rcases gE_s (S := S) (a := a) (u := a ||| b) with ⟨e1, e2⟩ | ⟨t, e1, e2, e3, e4⟩
    · rw [e1, if_neg (fun h => h rfl)]
      have nx : ∀ p, p < S.1 → (a ||| b).testBit p = false → rmv S (rW S k) a b p = -(gW S k b (a ||| 2 ^ p)) := fun p hp hf => by
        rw [rm0 p (e2 p hp hf), ih b (a ||| 2 ^ p) (by rw [or_sw]; exact fre_s hS hfr hp hf) hb (e2 p hp hf)]
      rcases gE_s (S := S) (a := b) (u := a ||| b) with ⟨f1, f2⟩ | ⟨t, f1, f2, f3, f4⟩
      · rw [f1]
        dsimp only
        obtain ⟨g1, g2, g3⟩ := gL_s (f := fun p => gW S k b (a ||| 2 ^ p)) (u := a ||| b) (fun p => gW_w3 S k _ _) S.1 0 mI (Or.inl rfl)
        apply i_eq
        rw [q3]
        have lo := g2 q (Nat.zero_le _) (by omega) q2
        rw [← nx q q1 q2] at lo
        have wq := w3_i (rmv_w3 S k a b q)
        rcases g3 with g3 | ⟨p, _, p2, p3, p4⟩
        · rw [g3] at lo ⊢
          have : mI.toInt = -1 := by decide
          omega
        · rw [p4]
          rw [p4] at lo
          have hi := q4 p (by omega) p3
          rw [nx p (by omega) p3] at hi
          have e5 : -((fun p => gW S k b (a ||| 2 ^ p)) p) = -(gW S k b (a ||| 2 ^ p)) := rfl
          rw [e5] at lo ⊢
          omega
      · rw [f1]
        dsimp only
        rw [q3, ← nx t f2 f3]
        apply i_eq
        have hi := q4 t f2 f3
        have wt := w3_i (rmv_w3 S k a b t)
        by_cases eq : q = t
        · rw [eq]
        · -- any other move loses
          have hq : (rmv S (rW S k) a b q).toInt = -1 := by
            rw [rm0 q (e2 q q1 q2)]
            have fr2 : fre S (b ||| (a ||| 2 ^ q)) k := by rw [or_sw]; exact fre_s hS hfr q1 q2
            have tf : (b ||| (a ||| 2 ^ q)).testBit t = false := by
              rw [or_sw, Nat.testBit_or, f3, Nat.testBit_two_pow, decide_eq_false eq]; rfl
            have : (rW S k b (a ||| 2 ^ q)).toInt = 1 := by
              cases k with
              | zero =>
                exfalso
                have h5 := fr2.2
                obtain ⟨u1, u2⟩ := fr2
                have lt := sb_lt (x := b ||| (a ||| 2 ^ q)) (y := 2 ^ S.1 - 1) (Nat.lt_of_lt_of_le (Nat.sub_lt (Nat.two_pow_pos _) (by decide)) (Nat.pow_le_pow_right (by decide) (by have := hS.1.2; omega))) (fun i hi => by
                  rw [Nat.testBit_two_pow_sub_one]
                  apply decide_eq_true
                  apply Classical.byContradiction
                  intro c
                  rw [Nat.testBit_lt_two_pow (Nat.lt_of_lt_of_le u1 (Nat.pow_le_pow_right (by decide) (by omega)))] at hi
                  cases hi) (fun e => by rw [e, Nat.testBit_two_pow_sub_one, decide_eq_true f2] at tf; cases tf)
                have : ∀ n, n < 9 → n_pc (2 ^ n - 1) = n := by decide +kernel
                rw [this S.1 (by have := hS.1.2; omega)] at lt
                omega
              | succ k =>
                obtain ⟨r, r1, r2, r3, r4⟩ := rW_s (k := k) (a := b) (b := a ||| 2 ^ q) ⟨t, f2, tf⟩
                rw [r3]
                have h5 := r4 t f2 tf
                have e6 : rmv S (rW S k) b (a ||| 2 ^ q) t = 1 := by unfold rmv; rw [f4, hb]; rfl
                rw [e6, i1] at h5
                have := w3_i (rmv_w3 S k b (a ||| 2 ^ q) r)
                omega
            rw [(w3_i (rW_w3 S k _ _)).2, this]
          omega
    · rw [e1, if_pos (by intro h; cases h), q3]
      apply i_eq
      have h5 := q4 t e2 e3
      rw [rm1 t e4, i1] at h5
      have := w3_i (rmv_w3 S k a b q)
      rw [show (nI 1).toInt = 1 by decide]
      omega
end B20
