/-! what the flags leave: the rows' values -/
theorem if_cg {α : Type} {p q : Prop} [Decidable p] [Decidable q] {x y : α} (e : p ↔ q) : (if p then x else y) = if q then x else y := by
  by_cases h : p
  · rw [if_pos h, if_pos (e.mp h)]
  · rw [if_neg h, if_neg (fun f => h (e.mpr f))]
def flL (S : Sc) (i : Nat) (A : Nat → Nat → Int32) (k : Nat) : Nat → Nat → Int32 := it (fun p A => fl2 S i p A) A k
theorem flL_s (S : Sc) (i : Nat) (A : Nat → Nat → Int32) (k : Nat) : flL S i A (k + 1) = fl2 S i k (flL S i A k) := rfl
def pck (x k : Nat) : Nat := fa_cnt (fun i => x.testBit i) k
theorem pck_s (x k : Nat) : pck x (k + 1) = pck x k + (x.testBit k).toNat := by
  unfold pck
  cases c : x.testBit k
  · exact fa_cnt_no c
  · exact fa_cnt_yes c
theorem fl_jv {l p x : Nat} {J : Nat → Int32} (hp : p < 8) {u v : Nat} (hu : u < 8) (hv : v < 8) : ∀ k, k ≤ p → fl_j l p x J k (8 * u + v) = if (u = p ∧ v < k ∧ x.testBit v = true) ∨ (v = p ∧ u < k ∧ x.testBit u = true) then nI l else J (8 * u + v) := by
  intro k
  induction k with
  | zero => intro _; rw [if_neg (by omega)]; rfl
  | succ k ih =>
    intro hk
    have ih' := ih (by omega)
    have e : fl_j l p x J (k + 1) = if x.testBit k then z_u (z_u (fl_j l p x J k) (p * 8 + k) (nI l)) (k * 8 + p) (nI l) else fl_j l p x J k := rfl
    rw [e]
    cases c : x.testBit k
    · rw [if_neg (by decide), ih']
      by_cases c1 : (u = p ∧ v < k ∧ x.testBit v = true) ∨ (v = p ∧ u < k ∧ x.testBit u = true)
      · rw [if_pos c1, if_pos (by rcases c1 with ⟨a, b, c⟩ | ⟨a, b, c⟩; exact Or.inl ⟨a, by omega, c⟩; exact Or.inr ⟨a, by omega, c⟩)]
      · rw [if_neg c1, if_neg]
        rintro (⟨a, b, c'⟩ | ⟨a, b, c'⟩)
        · by_cases e : v = k
          · rw [e, c] at c'; cases c'
          · exact c1 (Or.inl ⟨a, by omega, c'⟩)
        · by_cases e : u = k
          · rw [e, c] at c'; cases c'
          · exact c1 (Or.inr ⟨a, by omega, c'⟩)
    · rw [if_pos rfl]
      by_cases c2 : v = p ∧ u = k
      · rw [show 8 * u + v = k * 8 + p by omega, u_eq, if_pos (Or.inr ⟨c2.1, by omega, by rw [c2.2]; exact c⟩)]
      · rw [u_ne _ _ (by omega)]
        by_cases c3 : u = p ∧ v = k
        · rw [show 8 * u + v = p * 8 + k by omega, u_eq, if_pos (Or.inl ⟨c3.1, by omega, by rw [c3.2]; exact c⟩)]
        · rw [u_ne _ _ (by omega), ih']
          by_cases c1 : (u = p ∧ v < k ∧ x.testBit v = true) ∨ (v = p ∧ u < k ∧ x.testBit u = true)
          · rw [if_pos c1, if_pos (by rcases c1 with ⟨a, b, c⟩ | ⟨a, b, c⟩; exact Or.inl ⟨a, by omega, c⟩; exact Or.inr ⟨a, by omega, c⟩)]
          · rw [if_neg c1, if_neg]
            rintro (⟨a, b, c'⟩ | ⟨a, b, c'⟩)
            · exact c1 (Or.inl ⟨a, by omega, c'⟩)
            · exact c1 (Or.inr ⟨a, by omega, c'⟩)
section EO
variable {S : Sc} {A : Nat → Nat → Int32} {i : Nat}
theorem fl_6o {l : Nat} (hl : l ≠ i) : ∀ k, flL S i A k 6 l = A 6 l := by
  intro k
  induction k with
  | zero => rfl
  | succ k ih => rw [flL_s, fl2_o6 S i k _ hl, ih]
theorem fl_6 (h0 : A 6 i = nI 0) : ∀ k, flL S i A k 6 i = nI (pck (S.2.2 i) k) := by
  intro k
  induction k with
  | zero => exact h0
  | succ k ih =>
    rw [flL_s, pck_s]
    unfold fl2
    cases c : (S.2.2 i).testBit k
    · rw [if_neg (by decide), ih]; rfl
    · rw [if_pos rfl]
      show z_u (flL S i A k 6) i (flL S i A k 6 i + nI 1) i = _
      rw [u_eq, ih, nI_add]; rfl
theorem fl_7o {l : Nat} (hl : l ≠ i) : ∀ k, flL S i A k 7 l = A 7 l := by
  intro k
  induction k with
  | zero => rfl
  | succ k ih =>
    rw [flL_s]
    unfold fl2
    split
    · show (if flL S i A k 6 i = nI 0 then z_u (flL S i A k 7) i (nI k) else flL S i A k 7) l = _
      split
      · rw [u_ne _ _ hl, ih]
      · exact ih
    · exact ih
theorem tz_first : ∀ x, x < 256 → ∀ p, p < 8 → (x.testBit p && decide (pck x p = 0)) = true → n_tz x = p := by decide +kernel
theorem pck_le (x k : Nat) : pck x k ≤ k := fa_cnt_le _ _
theorem fl_7 (h0 : A 6 i = nI 0) (hx : S.2.2 i < 256) : ∀ k, k ≤ 8 → flL S i A k 7 i = if pck (S.2.2 i) k = 0 then A 7 i else nI (n_tz (S.2.2 i)) := by
  intro k
  induction k with
  | zero => intro _; rfl
  | succ k ih =>
    intro hk
    have ih' := ih (by omega)
    have hl := pck_le (S.2.2 i) k
    rw [flL_s, pck_s]
    unfold fl2
    cases c : (S.2.2 i).testBit k
    · rw [if_neg (by decide), ih']; rfl
    · rw [if_pos rfl]
      show (if flL S i A k 6 i = nI 0 then z_u (flL S i A k 7) i (nI k) else flL S i A k 7) i = _
      rw [fl_6 h0 k, if_neg (show ¬ pck (S.2.2 i) k + Bool.toNat true = 0 from Nat.succ_ne_zero _)]
      by_cases c2 : pck (S.2.2 i) k = 0
      · rw [if_pos (by rw [c2]), u_eq, tz_first _ hx k (by omega) (by rw [c, decide_eq_true c2]; rfl)]
      · rw [if_neg (fun e => c2 ((nI_eq (by omega) (by decide)).mp e)), ih', if_neg c2]
theorem fl_0 {r : Nat} : ∀ k, flL S i A k 0 r = A 0 r + nI (if r < k then ((S.2.2 i).testBit r).toNat else 0) := by
  intro k
  induction k with
  | zero => rw [if_neg (Nat.not_lt_zero _)]; exact (Int32.add_zero _).symm
  | succ k ih =>
    rw [flL_s]
    unfold fl2
    cases c : (S.2.2 i).testBit k
    · rw [if_neg (by decide), ih]
      by_cases e : r = k
      · rw [if_neg (by omega), if_pos (by omega), e, c]; rfl
      · by_cases c3 : r < k
        · rw [if_pos c3, if_pos (by omega)]
        · rw [if_neg c3, if_neg (by omega)]
    · rw [if_pos rfl]
      show z_u (flL S i A k 0) k (flL S i A k 0 k + nI 1) r = _
      by_cases e : r = k
      · subst e
        rw [u_eq, ih, if_neg (by omega), if_pos (by omega), c, show nI 0 = 0 from rfl, Int32.add_zero]; rfl
      · rw [u_ne _ _ e, ih]
        by_cases c3 : r < k
        · rw [if_pos c3, if_pos (by omega)]
        · rw [if_neg c3, if_neg (by omega)]
theorem or0I (x : Int32) : x ||| nI 0 = x := b_ext (fun i _ => by rw [b_or, n_bt, Nat.zero_testBit, Bool.and_false, Bool.or_false])
theorem fl_1 {r : Nat} : ∀ k, flL S i A k 1 r = A 1 r ||| nI (if r < k then ((S.2.2 i).testBit r).toNat <<< i else 0) := by
  intro k
  induction k with
  | zero => rw [if_neg (Nat.not_lt_zero _)]; exact (or0I _).symm
  | succ k ih =>
    rw [flL_s]
    unfold fl2
    cases c : (S.2.2 i).testBit k
    · rw [if_neg (by decide), ih]
      by_cases e : r = k
      · rw [if_neg (by omega), if_pos (by omega), e, c, show Bool.toNat false <<< i = 0 from Nat.zero_shiftLeft i]
      · by_cases c3 : r < k
        · rw [if_pos c3, if_pos (by omega)]
        · rw [if_neg c3, if_neg (by omega)]
    · rw [if_pos rfl]
      show z_u (flL S i A k 1) k (flL S i A k 1 k ||| nI (2 ^ i)) r = _
      by_cases e : r = k
      · subst e
        rw [u_eq, ih, if_neg (by omega), if_pos (by omega), c, or0I, show Bool.toNat true <<< i = 2 ^ i from q_1s i]
      · rw [u_ne _ _ e, ih]
        by_cases c3 : r < k
        · rw [if_pos c3, if_pos (by omega)]
        · rw [if_neg c3, if_neg (by omega)]
theorem fl_2 {u v : Nat} (hu : u < 8) (hv : v < 8) : ∀ k, k ≤ 8 → flL S i A k 2 (8 * u + v) = if u < k ∧ v < k ∧ u ≠ v ∧ (S.2.2 i).testBit u = true ∧ (S.2.2 i).testBit v = true then nI i else A 2 (8 * u + v) := by
  intro k
  induction k with
  | zero => intro _; rw [if_neg (by omega)]; rfl
  | succ k ih =>
    intro hk
    have ih' := ih (by omega)
    rw [flL_s]
    unfold fl2
    cases c : (S.2.2 i).testBit k
    · rw [if_neg (by decide), ih']
      refine if_cg ?_
      constructor
      · rintro ⟨a, b, n, d, e⟩; exact ⟨by omega, by omega, n, d, e⟩
      · rintro ⟨a, b, n, d, e⟩
        have nu : u ≠ k := fun f => by rw [f, c] at d; cases d
        have nv : v ≠ k := fun f => by rw [f, c] at e; cases e
        exact ⟨by omega, by omega, n, d, e⟩
    · rw [if_pos rfl]
      show fl_j i k (S.2.2 i) (flL S i A k 2) k (8 * u + v) = _
      rw [fl_jv (by omega) hu hv k (Nat.le_refl _), ih']
      by_cases c1 : (u = k ∧ v < k ∧ (S.2.2 i).testBit v = true) ∨ (v = k ∧ u < k ∧ (S.2.2 i).testBit u = true)
      · rw [if_pos c1, if_pos]
        rcases c1 with ⟨a, b, d⟩ | ⟨a, b, d⟩
        · exact ⟨by omega, by omega, by omega, by rw [a]; exact c, d⟩
        · exact ⟨by omega, by omega, by omega, d, by rw [a]; exact c⟩
      · rw [if_neg c1]
        refine if_cg ?_
        constructor
        · rintro ⟨a, b, n, d, e⟩; exact ⟨by omega, by omega, n, d, e⟩
        · rintro ⟨a, b, n, d, e⟩
          have nu : u ≠ k := fun f => c1 (Or.inl ⟨f, by omega, e⟩)
          have nv : v ≠ k := fun f => c1 (Or.inr ⟨f, by omega, d⟩)
          exact ⟨by omega, by omega, n, d, e⟩
end EO
