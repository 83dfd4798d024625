/-! what the flags leave, all lines -/
theorem pck_pc : ∀ n, n < 9 → ∀ x, x < 256 → x < 2 ^ n → pck x n = n_pc x := by decide +kernel
theorem pc_top : ∀ a, a < 4096 → ∀ m, m < 12 → a < 2 ^ m → n_pc (a ||| 2 ^ m) = n_pc a + 1 := n_64 (by decide +kernel)
def onK (S : Sc) (r k : Nat) : Nat := it (fun l a => a ||| ((S.2.2 l).testBit r).toNat <<< l) 0 k
theorem onK_lt (S : Sc) (r : Nat) : ∀ k, onK S r k < 2 ^ k := by
  intro k
  induction k with
  | zero => show 0 < 1; decide
  | succ k ih =>
    refine Nat.or_lt_two_pow (Nat.lt_of_lt_of_le ih (Nat.pow_le_pow_right (by decide) (by omega))) ?_
    cases (S.2.2 k).testBit r
    · simp; exact Nat.two_pow_pos _
    · simp [Nat.shiftLeft_eq]; exact Nat.pow_lt_pow_right (by decide) (by omega)
def flM (S : Sc) (A : Nat → Nat → Int32) (k : Nat) : Nat → Nat → Int32 := it (fun i A => it (fun p A => fl2 S i p A) A S.1) A k
theorem flM_s (S : Sc) (A : Nat → Nat → Int32) (k : Nat) : flM S A (k + 1) = flL S k (flM S A k) S.1 := rfl
section EP
variable {S : Sc} {A : Nat → Nat → Int32}
theorem flM_6 (hS : c_sok S) (h6 : A 6 = fun _ => 0) : ∀ k, k ≤ S.2.1 → ∀ l, flM S A k 6 l = if l < k then nI (n_pc (S.2.2 l)) else nI 0 := by
  have hn := hS.1
  intro k
  induction k with
  | zero => intro _ l; rw [if_neg (Nat.not_lt_zero _)]; show A 6 l = _; rw [h6]; rfl
  | succ k ih =>
    intro hk l
    have ih' := ih (by omega)
    rw [flM_s]
    by_cases e : l = k
    · subst e
      rw [fl_6 (by rw [ih', if_neg (by omega)]), if_pos (by omega), pck_pc _ (by omega) _ (sok_256 hS l) (hS.2.2.1 l (by omega)).1]
    · rw [fl_6o e, ih']
      by_cases c : l < k
      · rw [if_pos c, if_pos (by omega)]
      · rw [if_neg c, if_neg (by omega)]
theorem flM_7 (hS : c_sok S) (h6 : A 6 = fun _ => 0) : ∀ k, k ≤ S.2.1 → ∀ l, l < k → flM S A k 7 l = nI (n_tz (S.2.2 l)) := by
  have hn := hS.1
  intro k
  induction k with
  | zero => intro _ l h; exact absurd h (Nat.not_lt_zero _)
  | succ k ih =>
    intro hk l hl
    rw [flM_s]
    by_cases e : l = k
    · subst e
      rw [fl_7 (by rw [flM_6 hS h6 l (by omega), if_neg (by omega)]) (sok_256 hS l) _ hn.2, pck_pc _ (by omega) _ (sok_256 hS l) (hS.2.2.1 l (by omega)).1, if_neg (by have := (hS.2.2.1 l (by omega)).2.1; omega)]
    · rw [fl_7o e]
      exact ih (by omega) l (by omega)
theorem sok_bit (hS : c_sok S) {r : Nat} (hr : S.1 ≤ r) (l : Nat) : (S.2.2 l).testBit r = false := Nat.testBit_lt_two_pow (Nat.lt_of_lt_of_le (sok_w hS l) (Nat.pow_le_pow_right (by decide) hr))
theorem flM_0 (hS : c_sok S) (h0 : A 0 = fun _ => 0) (r : Nat) : ∀ k, k ≤ S.2.1 → flM S A k 0 r = nI (n_pc (onK S r k)) := by
  have hm := hS.2.1
  intro k
  induction k with
  | zero => intro _; show A 0 r = _; rw [h0, show onK S r 0 = 0 from rfl, show n_pc 0 = 0 by decide]; rfl
  | succ k ih =>
    intro hk
    have hlt := onK_lt S r k
    rw [flM_s, fl_0, ih (by omega), nI_add]
    have e : onK S r (k + 1) = onK S r k ||| ((S.2.2 k).testBit r).toNat <<< k := rfl
    rw [e]
    cases c : (S.2.2 k).testBit r
    · rw [show Bool.toNat false <<< k = 0 from Nat.zero_shiftLeft k, Nat.or_zero, show (if r < S.1 then Bool.toNat false else 0) = 0 by split <;> rfl, Nat.add_zero]
    · have hr : r < S.1 := by
        apply Classical.byContradiction
        intro h
        rw [sok_bit hS (by omega) k] at c; cases c
      rw [if_pos hr, show Bool.toNat true <<< k = 2 ^ k from q_1s k, pc_top _ (Nat.lt_of_lt_of_le hlt (show 2 ^ k ≤ 2 ^ 12 from Nat.pow_le_pow_right (by decide) (by omega))) k (by omega) hlt]; rfl
theorem flM_1 (hS : c_sok S) (h1 : A 1 = fun _ => 0) (r : Nat) : ∀ k, k ≤ S.2.1 → flM S A k 1 r = nI (onK S r k) := by
  intro k
  induction k with
  | zero => intro _; show A 1 r = _; rw [h1]; rfl
  | succ k ih =>
    intro hk
    rw [flM_s, fl_1, ih (by omega), fa_or]
    have e : onK S r (k + 1) = onK S r k ||| ((S.2.2 k).testBit r).toNat <<< k := rfl
    rw [e]
    by_cases hr : r < S.1
    · rw [if_pos hr]
    · rw [if_neg hr, sok_bit hS (by omega) k, show Bool.toNat false <<< k = 0 from Nat.zero_shiftLeft k]
theorem two_in {x u v : Nat} : (x &&& (2 ^ u ||| 2 ^ v) == 2 ^ u ||| 2 ^ v) = (x.testBit u && x.testBit v) := by
  apply Bool.eq_iff_iff.mpr
  rw [beq_iff_eq, Bool.and_eq_true]
  constructor
  · intro e
    have e2 := congrArg (fun z => z.testBit u) e
    have e3 := congrArg (fun z => z.testBit v) e
    simp only [Nat.testBit_and, Nat.testBit_or, Nat.testBit_two_pow_self, Bool.true_or, Bool.or_true, Bool.and_true] at e2 e3
    exact ⟨e2, e3⟩
  · rintro ⟨h1, h2⟩
    apply Nat.eq_of_testBit_eq
    intro j
    rw [Nat.testBit_and, Nat.testBit_or, Nat.testBit_two_pow, Nat.testBit_two_pow]
    by_cases a : u = j
    · rw [decide_eq_true a, ← a, h1]; rfl
    · by_cases b : v = j
      · rw [decide_eq_true b, ← b, h2, Bool.or_true]; rfl
      · rw [decide_eq_false a, decide_eq_false b, Bool.or_false, Bool.and_false]
theorem sok_one (hS : c_sok S) {i j u v : Nat} (hij : i < j) (hj : j < S.2.1) (hu : u < 8) (hv : v < 8) (huv : u ≠ v) (a1 : (S.2.2 i).testBit u = true) (a2 : (S.2.2 i).testBit v = true) (a3 : (S.2.2 j).testBit u = true) (a4 : (S.2.2 j).testBit v = true) : False := by
  have hp := hS.2.2.2.2 i j hij hj
  have b1 : (S.2.2 i &&& S.2.2 j).testBit u = true := by rw [Nat.testBit_and, a1, a3]; rfl
  have b2 : (S.2.2 i &&& S.2.2 j).testBit v = true := by rw [Nat.testBit_and, a2, a4]; rfl
  rcases Nat.lt_or_ge u v with c | c
  · exact pc_one (and_lt256 (sok_256 hS i)) hp hu hv c b1 b2
  · exact pc_one (and_lt256 (sok_256 hS i)) hp hv hu (by omega) b2 b1
theorem flM_2 (hS : c_sok S) (h2 : ∀ k, k < 64 → A 2 k = mI) {u v : Nat} (hu : u < 8) (hv : v < 8) : ∀ k, k ≤ S.2.1 → flM S A k 2 (8 * u + v) = if u = v then mI else if fa_first (fun l => S.2.2 l &&& (2 ^ u ||| 2 ^ v) == 2 ^ u ||| 2 ^ v) k < k then nI (fa_first (fun l => S.2.2 l &&& (2 ^ u ||| 2 ^ v) == 2 ^ u ||| 2 ^ v) k) else mI := by
  have hn := hS.1
  intro k
  induction k with
  | zero => intro _; rw [if_neg (Nat.not_lt_zero _)]; show A 2 (8 * u + v) = _; rw [h2 _ (by omega)]; split <;> rfl
  | succ k ih =>
    intro hk
    rw [flM_s, fl_2 hu hv _ hn.2, ih (by omega)]
    by_cases huv : u = v
    · rw [if_pos huv, if_pos huv, if_neg (fun e => e.2.2.1 huv)]
    rw [if_neg huv, if_neg huv]
    obtain ⟨P, eP⟩ : ∃ P : Nat → Bool, P = (fun l => S.2.2 l &&& (2 ^ u ||| 2 ^ v) == 2 ^ u ||| 2 ^ v) := ⟨_, rfl⟩
    have hP : ∀ l, P l = ((S.2.2 l).testBit u && (S.2.2 l).testBit v) := fun l => by rw [eP]; exact two_in
    rw [← eP]
    have ef : fa_first P (k + 1) = if fa_first P k < k then fa_first P k else if P k then k else k + 1 := rfl
    rw [ef]
    cases c : P k
    · rw [if_neg (c := _ ∧ _) (by rintro ⟨_, _, _, d, e⟩; rw [hP, d, e] at c; cases c)]
      by_cases c2 : fa_first P k < k
      · rw [if_pos c2, if_pos c2, if_pos (by omega)]
      · rw [if_neg c2, if_neg c2, show (if false = true then k else k + 1) = k + 1 from rfl, if_neg (Nat.lt_irrefl _)]
    · have c' := c
      rw [hP, Bool.and_eq_true] at c'
      have lu : u < S.1 := by
        apply Classical.byContradiction
        intro h
        have := c'.1
        rw [sok_bit hS (by omega) k] at this; cases this
      have lv : v < S.1 := by
        apply Classical.byContradiction
        intro h
        have := c'.2
        rw [sok_bit hS (by omega) k] at this; cases this
      have c2 : ¬ fa_first P k < k := fun h => by
        have y := fa_first_yes P k h
        rw [hP, Bool.and_eq_true] at y
        exact sok_one hS h (by omega) hu hv huv y.1 y.2 c'.1 c'.2
      rw [if_pos ⟨lu, lv, huv, c'.1, c'.2⟩, if_neg c2, if_pos rfl, if_pos (by omega)]
end EP
