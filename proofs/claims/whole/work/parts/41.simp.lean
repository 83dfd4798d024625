/-! rewriting of numbers, with bounds that omega finds -/
section QS
variable {a b k n : Nat}
theorem q_lt (ha : a < 2 ^ 31) (hb : b < 2 ^ 31) : (nI a < nI b) = (a < b) := propext (nI_ltI ha hb)
theorem q_le (ha : a < 2 ^ 31) (hb : b < 2 ^ 31) : (nI a ≤ nI b) = (a ≤ b) := propext (nI_leI ha hb)
theorem q_eq (ha : a < 2 ^ 31) (hb : b < 2 ^ 31) : (nI a = nI b) = (a = b) := propext (nI_eq ha hb)
theorem q_m1 (ha : a < 2 ^ 31) : (nI a = -1) = False := eq_false (t_ne1 ha)
theorem q_ltm1 (ha : a < 2 ^ 31) : (nI a < -1) = False := eq_false (fun h => by
  have h2 := (fa_lt _ _).mp h
  rw [nI_toInt ha] at h2
  have h3 : (-1 : Int32).toInt = -1 := by decide
  omega)
theorem q_in (h : k < n) (hn : n < 2 ^ 31) : vp_in (nI k) n = True := eq_true (vp_in_nI h hn)
theorem q_bz0 : z_bz 0 = True := eq_true (Or.inl rfl)
theorem q_bz1 : z_bz 1 = True := eq_true (Or.inr rfl)
theorem q_bzn0 : z_bz (nI 0) = True := eq_true (Or.inl rfl)
theorem q_bzn1 : z_bz (nI 1) = True := eq_true (Or.inr rfl)
theorem q_bzb (b : Bool) : z_bz (nI b.toNat) = True := eq_true (a_bz b)
theorem q_b0 (b : Bool) : (nI b.toNat = 0) = (b = false) := propext (a_b0 b)
theorem q_bn0 (b : Bool) : (nI b.toNat = nI 0) = (b = false) := propext (a_b0 b)
theorem q_bn1 (b : Bool) : (nI b.toNat = nI 1) = (b = true) := by cases b <;> simp [nI_eq]
/-- numbers that are written -/
theorem l0 : (0 : Int32) = nI 0 := rfl
theorem l1 : (1 : Int32) = nI 1 := rfl
theorem l2 : (2 : Int32) = nI 2 := rfl
theorem l3 : (3 : Int32) = nI 3 := rfl
theorem l4 : (4 : Int32) = nI 4 := rfl
theorem l5 : (5 : Int32) = nI 5 := rfl
theorem l6 : (6 : Int32) = nI 6 := rfl
theorem l7 : (7 : Int32) = nI 7 := rfl
theorem l8 : (8 : Int32) = nI 8 := rfl
theorem l9 : (9 : Int32) = nI 9 := rfl
theorem l10 : (10 : Int32) = nI 10 := rfl
theorem l11 : (11 : Int32) = nI 11 := rfl
theorem l12 : (12 : Int32) = nI 12 := rfl
theorem l13 : (13 : Int32) = nI 13 := rfl
theorem l14 : (14 : Int32) = nI 14 := rfl
theorem l15 : (15 : Int32) = nI 15 := rfl
theorem l16 : (16 : Int32) = nI 16 := rfl
theorem l18 : (18 : Int32) = nI 18 := rfl
theorem l20 : (20 : Int32) = nI 20 := rfl
theorem l22 : (22 : Int32) = nI 22 := rfl
theorem l24 : (24 : Int32) = nI 24 := rfl
theorem l30 : (30 : Int32) = nI 30 := rfl
theorem l31 : (31 : Int32) = nI 31 := rfl
theorem l39 : (39 : Int32) = nI 39 := rfl
theorem l40 : (40 : Int32) = nI 40 := rfl
theorem l48 : (48 : Int32) = nI 48 := rfl
theorem l60 : (60 : Int32) = nI 60 := rfl
theorem l154 : (154 : Int32) = nI 154 := rfl
theorem l255 : (255 : Int32) = nI 255 := rfl
theorem l256 : (256 : Int32) = nI 256 := rfl
theorem l400 : (400 : Int32) = nI 400 := rfl
theorem l2000 : (2000 : Int32) = nI 2000 := rfl
theorem l6160 : (6160 : Int32) = nI 6160 := rfl
theorem l14000 : (14000 : Int32) = nI 14000 := rfl
def mI : Int32 := -1
theorem lm1 : -(nI 1) = mI := by decide
theorem q_mI (ha : a < 2 ^ 31) : (nI a = mI) = False := eq_false (t_ne1 ha)
theorem q_mI' (ha : a < 2 ^ 31) : (mI = nI a) = False := eq_false (fun e => t_ne1 ha e.symm)
theorem q_ltmI (ha : a < 2 ^ 31) : (nI a < mI) = False := q_ltm1 ha
theorem q_sub (h : b ≤ a) : nI a - nI b = nI (a - b) := n_sub h
theorem q_pred (a : Nat) : nI (a + 1) + mI = nI a := by
  show nI (a + 1) + (-1) = nI a
  rw [← Int32.sub_eq_add_neg]; exact nI_pred a
/-- shifts -/
theorem q_31 {p : Nat} (hp : p < 32) : nI (p &&& 31) = nI p := by
  rw [show (31 : Nat) = 2 ^ 5 - 1 from rfl, Nat.and_two_pow_sub_one_eq_mod, Nat.mod_eq_of_lt hp]
theorem q_shr {x p : Nat} (hx : x < 2 ^ 31) (hp : p < 32) : nI x >>> nI (p &&& 31) = nI (x >>> p) := by
  rw [← n_shr hx hp, ← fa_and p 31]; rfl
theorem q_shl (x : Nat) {p : Nat} (hp : p < 32) : nI x <<< nI (p &&& 31) = nI (x <<< p) := by
  rw [← n_shl x hp, ← fa_and p 31]; rfl
theorem q_1s (p : Nat) : 1 <<< p = 2 ^ p := by rw [Nat.shiftLeft_eq, Nat.one_mul]
theorem b_one (x p : Nat) : (x >>> p) &&& 1 = (x.testBit p).toNat := by
  rw [Nat.and_one_is_mod, Nat.testBit_eq_decide_div_mod_eq, Nat.shiftRight_eq_div_pow]
  have := Nat.mod_two_eq_zero_or_one (x / 2 ^ p)
  rcases this with e | e <;> rw [e] <;> rfl
theorem b_two (x y p q : Nat) : (x >>> p &&& y >>> q) &&& 1 = (x.testBit p && y.testBit q).toNat := by
  have e : (x >>> p &&& y >>> q) &&& 1 = ((x >>> p &&& y >>> q) >>> 0) &&& 1 := rfl
  rw [e, b_one, Nat.testBit_and, Nat.testBit_shiftRight, Nat.testBit_shiftRight, Nat.add_zero, Nat.add_zero]
end QS
section QH
variable (h : z_H) (M : Nat) (F : Nat → Int32) (A : Nat → Nat → Int32)
theorem rs_rs (F' : Nat → Int32) (A' : Nat → Nat → Int32) : z_rs (z_rs h M F A) M F' A' = z_rs h M F' A' := by
  unfold z_rs
  have e1 : z_u (z_oi (h.1, z_kd h, z_ln h, z_u (z_oi h) M F, z_or h, (fun q => if M < q ∧ q ≤ M + 25 then A (q - M) else z_ai h q), z_al h, z_ar h)) M F' = z_u (z_oi h) M F' := z_u_u (z_oi h) M F F'
  have e2 : (fun q => if M < q ∧ q ≤ M + 25 then A' (q - M) else z_ai (h.1, z_kd h, z_ln h, z_u (z_oi h) M F, z_or h, (fun q => if M < q ∧ q ≤ M + 25 then A (q - M) else z_ai h q), z_al h, z_ar h) q) = (fun q => if M < q ∧ q ≤ M + 25 then A' (q - M) else z_ai h q) := by
    funext q
    by_cases hq : M < q ∧ q ≤ M + 25
    · rw [if_pos hq, if_pos hq]
    · rw [if_neg hq, if_neg hq]
      exact if_neg hq
  show (h.1, z_kd h, z_ln h, z_u (z_oi (h.1, z_kd h, z_ln h, z_u (z_oi h) M F, z_or h, (fun q => if M < q ∧ q ≤ M + 25 then A (q - M) else z_ai h q), z_al h, z_ar h)) M F', z_or h, (fun q => if M < q ∧ q ≤ M + 25 then A' (q - M) else z_ai (h.1, z_kd h, z_ln h, z_u (z_oi h) M F, z_or h, (fun q => if M < q ∧ q ≤ M + 25 then A (q - M) else z_ai h q), z_al h, z_ar h) q), z_al h, z_ar h) = _
  rw [e1, e2]
theorem u_eq {α : Type} (f : Nat → α) (a : Nat) (v : α) : z_u f a v a = v := z_u_eq f a v
theorem u_ne {α : Type} (f : Nat → α) {a x : Nat} (v : α) (h : x ≠ a) : z_u f a v x = f x := if_neg h
theorem u_u {α : Type} (f : Nat → α) (a : Nat) (v w : α) : z_u (z_u f a v) a w = z_u f a w := by
  funext x; unfold z_u; split <;> rfl
theorem u_self {α : Type} (f : Nat → α) (a : Nat) : z_u f a (f a) = f := by
  funext x; unfold z_u; split
  · rename_i e; rw [e]
  · rfl
theorem u_comm {α : Type} (f : Nat → α) {a b : Nat} (v w : α) (h : a ≠ b) : z_u (z_u f a v) b w = z_u (z_u f b w) a v := by
  funext x
  unfold z_u
  by_cases h1 : x = a
  · by_cases h2 : x = b
    · omega
    · rw [if_neg h2, if_pos h1, if_pos h1]
  · by_cases h2 : x = b
    · rw [if_pos h2, if_neg h1, if_pos h2]
    · rw [if_neg h2, if_neg h1, if_neg h1, if_neg h2]
end QH
/-- the reference stands at a scheme, its rows and numbers told apart -/
theorem at_rs {M : Nat} {h : z_H} {F : Nat → Int32} {A : Nat → Nat → Int32} {S : Sc} (hM : z_sh M h) (hR : r_ok (A 1)) (hS : r_S (A 1) = S) : z_at M (z_rs h M F A) S :=
  ⟨hM, by rw [rs_ai h M F A (by omega) (by omega)]; exact hR, by rw [rs_ai h M F A (by omega) (by omega)]; exact hS⟩
