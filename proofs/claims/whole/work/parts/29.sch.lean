/-! A SCHEME, in numbers: how many points, how many lines, each line a set -/
abbrev Sc : Type := Nat × Nat × (Nat → Nat)
def r_S (R : Nat → Int32) : Sc := ((R 0).toNatClampNeg, (R 1).toNatClampNeg, fun l => if l < (R 1).toNatClampNeg then (R (2 + l)).toNatClampNeg else 0)
/-- a row says a scheme -/
def r_is (R : Nat → Int32) (S : Sc) : Prop := R 0 = nI S.1 ∧ R 1 = nI S.2.1 ∧ (1 ≤ S.1 ∧ S.1 ≤ 8) ∧ S.2.1 ≤ 12 ∧ ∀ l, l < S.2.1 → R (2 + l) = nI (S.2.2 l) ∧ S.2.2 l < 256
def r_ok (R : Nat → Int32) : Prop := r_is R (r_S R)
theorem r_isS {R : Nat → Int32} {S : Sc} (h : r_is R S) (h0 : ∀ l, S.2.1 ≤ l → S.2.2 l = 0) : r_S R = S := by
  obtain ⟨h1, h2, h3, h4, h5⟩ := h
  obtain ⟨n, m, L⟩ := S
  have e1 : (R 0).toNatClampNeg = n := by rw [h1]; exact nI_clamp (by show n < 2 ^ 31; have : n ≤ 8 := h3.2; omega)
  have e2 : (R 1).toNatClampNeg = m := by rw [h2]; exact nI_clamp (by show m < 2 ^ 31; have : m ≤ 12 := h4; omega)
  unfold r_S
  rw [e1, e2]
  congr 2
  funext l
  split
  · rename_i hl
    have := h5 l hl
    rw [this.1]
    exact nI_clamp (by show L l < 2 ^ 31; have : L l < 256 := this.2; omega)
  · rename_i hl
    exact (h0 l (by show m ≤ l; omega)).symm
theorem r_isok {R : Nat → Int32} {S : Sc} (h : r_is R S) (h0 : ∀ l, S.2.1 ≤ l → S.2.2 l = 0) : r_ok R := by
  unfold r_ok; rw [r_isS h h0]; exact h
theorem r_S0 (R : Nat → Int32) : ∀ l, (r_S R).2.1 ≤ l → (r_S R).2.2 l = 0 := fun l hl => if_neg (Nat.not_lt.mpr hl)
/-- so many steps of a walk -/
def it {α : Type} (f : Nat → α → α) (a : α) : Nat → α
  | 0 => a
  | k + 1 => f k (it f a k)
/-- the lines on a point -/
def c_on (S : Sc) (p : Nat) : Nat := it (fun l a => a ||| ((S.2.2 l).testBit p).toNat <<< l) 0 S.2.1
/-- the first line that holds a set (its number; m: none) -/
def c_of (S : Sc) (a : Nat) : Nat := fa_first (fun l => S.2.2 l &&& a == a) S.2.1
/-- whether a set holds a line -/
def c_has (S : Sc) (a : Nat) : Bool := it (fun l b => b || S.2.2 l &&& a == S.2.2 l) false S.2.1
/-- whether a set shares two points with a line -/
def c_two (S : Sc) (a : Nat) : Bool := it (fun l b => b || decide (1 < n_pc (S.2.2 l &&& a))) false S.2.1
/-- the set that a naming makes of a set -/
def c_nm (N : Nat → Nat) (a : Nat) : Nat := it (fun i v => if a.testBit i then v ||| 2 ^ N i else v) 0 8
theorem n_sub_iff {x a : Nat} (hx : x < 2 ^ 31) : (nI x &&& (nI a ^^^ (-1))) = 0 ↔ x &&& a = x := by
  have key : ∀ i, i < 32 → (bt (nI x &&& (nI a ^^^ (-1))) i = (x.testBit i && !a.testBit i)) := by
    intro i hi
    rw [b_and, b_xor, n_bt, n_bt, b_m1 i hi]
    simp [hi]
  constructor
  · intro h
    apply Nat.eq_of_testBit_eq
    intro i
    rw [Nat.testBit_and]
    by_cases hi : i < 32
    · have := key i hi
      rw [h, b_0] at this
      cases hx1 : x.testBit i <;> cases ha1 : a.testBit i <;> simp_all
    · rw [Nat.testBit_lt_two_pow (Nat.lt_of_lt_of_le hx (Nat.pow_le_pow_right (by decide) (by omega)))]
      rfl
  · intro h
    apply b_ext
    intro i hi
    rw [key i hi, b_0, ← h, Nat.testBit_and]
    cases x.testBit i <;> cases a.testBit i <;> rfl
theorem and_lt256 {a b : Nat} (h : a < 256) : a &&& b < 256 := Nat.lt_of_le_of_lt Nat.and_le_left h
theorem n_eqn {a b : Nat} (ha : a < 4096) (hb : b < 4096) : nI a = nI b ↔ a = b := nI_eq (by omega) (by omega)
theorem n_tzB : ∀ s, s < 256 → s ≠ 0 → n_tz s < 8 ∧ s.testBit (n_tz s) = true ∧ (s &&& (s - 1)) < s ∧ ∀ i, i < 8 → (s &&& (s - 1)).testBit i = (s.testBit i && (i != n_tz s)) := by decide +kernel
theorem it_congr {α : Type} {f g : Nat → α → α} {a : α} : ∀ k, (∀ i x, i < k → f i x = g i x) → it f a k = it g a k
  | 0, _ => rfl
  | k + 1, h => by
    show f k (it f a k) = g k (it g a k)
    rw [it_congr k (fun i x hi => h i x (by omega)), h k _ (by omega)]
/-- the bits of a named set -/
theorem c_nm_bit (N : Nat → Nat) (a j : Nat) : (c_nm N a).testBit j = (List.range 8).any (fun i => a.testBit i && N i == j) := by
  have : ∀ k, (it (fun i v => if a.testBit i then v ||| 2 ^ N i else v) 0 k).testBit j = (List.range k).any (fun i => a.testBit i && N i == j) := by
    intro k
    induction k with
    | zero => simp [it]
    | succ k ih =>
      show (if a.testBit k then _ ||| 2 ^ N k else _ : Nat).testBit j = _
      rw [List.range_succ, List.any_append]
      cases h : a.testBit k
      · simp [ih, h]
      · simp [ih, h, Nat.testBit_or, Nat.testBit_two_pow]
        congr 1
  exact this 8
theorem c_nm_step (N : Nat → Nat) {s : Nat} (hs : s < 256) (h0 : s ≠ 0) : c_nm N s = 2 ^ N (n_tz s) ||| c_nm N (s &&& (s - 1)) := by
  obtain ⟨h1, h2, -, h4⟩ := n_tzB s hs h0
  apply Nat.eq_of_testBit_eq
  intro j
  rw [Nat.testBit_or, c_nm_bit, c_nm_bit, Nat.testBit_two_pow]
  apply Bool.eq_iff_iff.mpr
  simp only [List.any_eq_true, List.mem_range, Bool.and_eq_true, beq_iff_eq, Bool.or_eq_true, decide_eq_true_eq]
  constructor
  · rintro ⟨i, hi, hb, hj⟩
    by_cases hq : i = n_tz s
    · left; rw [← hq]; exact hj
    · right
      exact ⟨i, hi, by rw [h4 i hi, hb]; simp [hq], hj⟩
  · rintro (hj | ⟨i, hi, hb, hj⟩)
    · exact ⟨_, h1, h2, hj⟩
    · rw [h4 i hi] at hb
      exact ⟨i, hi, (Bool.and_eq_true _ _ ▸ hb).1, hj⟩
