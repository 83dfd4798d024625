/-! MATHEMATICS: the reference's least row -/
section B39
variable {S : Sc}
theorem neg_c : ∀ c, c < 256 → 1 ≤ c → -(nI c) < nI 0 := by decide +kernel
theorem sub_neg {a b : Nat} (ha : a < 256) (hb : b < 256) : nI a - nI b < nI 0 ↔ a < b := by
  constructor
  · intro h
    apply Classical.byContradiction
    intro c
    rw [n_sub (by omega)] at h
    exact nI_nlt (Nat.zero_le _) (by omega) h
  · intro h
    have e : nI a - nI b = -(nI b - nI a) := (Int32.neg_sub).symm
    rw [e, n_sub (by omega)]
    exact neg_c (b - a) (by omega) (by omega)
theorem nI_ij {a b : Nat} (ha : a < 256) (hb : b < 256) (h : nI a = nI b) : a = b := by
  rcases Nat.lt_trichotomy a b with c | c | c
  · have := nI_lt c (by omega)
    rw [h] at this
    exact absurd this (nI_nlt (Nat.le_refl _) (by omega))
  · exact c
  · have := nI_lt c (by omega)
    rw [h] at this
    exact absurd this (nI_nlt (Nat.le_refl _) (by omega))
theorem cmp_i {R R' : Nat → Nat} {m : Nat} (h : ∀ i, i < m → R i < 256) (h' : ∀ i, i < m → R' i < 256) : c_cmp (fun i => nI (R i)) (fun i => nI (R' i)) m < nI 0 ↔ lxn m R R' := by
  unfold c_cmp
  obtain ⟨k, ek⟩ : ∃ k, k = fa_first (fun i => decide (nI (R i) ≠ nI (R' i))) m := ⟨_, rfl⟩
  rw [← ek]
  have hno : ∀ j, j < k → j < m → R j = R' j := fun j hj hm => by
    have := fa_first_no (fun i => decide (nI (R i) ≠ nI (R' i))) m j (by rw [← ek]; exact hj)
    have := of_decide_eq_false this
    exact nI_ij (h j hm) (h' j hm) (Classical.not_not.mp this)
  by_cases c : k < m
  · rw [if_pos c]
    have hy := fa_first_yes (fun i => decide (nI (R i) ≠ nI (R' i))) m (by rw [← ek]; exact c)
    rw [← ek] at hy
    have hy : nI (R k) ≠ nI (R' k) := of_decide_eq_true hy
    show nI (R k) - nI (R' k) < nI 0 ↔ _
    rw [sub_neg (h k c) (h' k c)]
    constructor
    · intro q
      exact ⟨k, c, fun j hj => hno j hj (by omega), q⟩
    · rintro ⟨i, i1, i2, i3⟩
      rcases Nat.lt_trichotomy i k with z | z | z
      · have := hno i z i1; omega
      · rw [← z]; exact i3
      · exact absurd (by rw [i2 k z]) hy
  · rw [if_neg c]
    have hle := fa_first_le (fun i => decide (nI (R i) ≠ nI (R' i))) m
    constructor
    · intro q
      exact absurd q (by decide)
    · rintro ⟨i, i1, i2, i3⟩
      have := hno i (by omega) i1
      omega
theorem put_ins : ∀ k (R : Nat → Nat) (v : Nat), v < 2 ^ 31 → (∀ j, j < k → R j < 2 ^ 31) → c_put (nI v) k (fun j => nI (R j)) = fun j => nI (insW v k R j) := by
  intro k
  induction k with
  | zero => intro R v _ _; exact nu R 0 v
  | succ k ih =>
    intro R v hv hR
    show (if nI v < nI (R k) then c_put (nI v) k (z_u (fun j => nI (R j)) (k + 1) (nI (R k))) else z_u (fun j => nI (R j)) (k + 1) (nI v)) = fun j => nI ((if v < R k then insW v k (z_u R (k + 1) (R k)) else z_u R (k + 1) v) j)
    by_cases c : v < R k
    · rw [if_pos (nI_lt c (hR k (by omega))), if_pos c, nu]
      refine ih _ v hv (fun j hj => ?_)
      rw [u_ne _ _ (by omega)]
      exact hR j (by omega)
    · rw [if_neg (nI_nlt (by omega) hv), if_neg c, nu]
def Zr (v : Nat → Nat) (k : Nat) : Nat → Nat := it (fun l R => insW (v l) l R) (fun _ => 0) k
theorem Zr_spec {v : Nat → Nat} {m : Nat} (hd : ∀ i j, i < j → j < m → v i ≠ v j) : ∀ k, k ≤ m → inc (Zr v k) k ∧ ∀ x, ast (Zr v k) k x ↔ ∃ l, l < k ∧ v l = x := by
  intro k
  induction k with
  | zero => exact fun _ => ⟨fun i j _ h => absurd h (Nat.not_lt_zero _), fun x => ⟨fun ⟨i, h, _⟩ => absurd h (Nat.not_lt_zero _), fun ⟨i, h, _⟩ => absurd h (Nat.not_lt_zero _)⟩⟩
  | succ k ih =>
    intro hk
    obtain ⟨i1, i2⟩ := ih (by omega)
    have e : Zr v (k + 1) = insW (v k) k (Zr v k) := rfl
    rw [e]
    obtain ⟨j1, j2, _⟩ := ins_spec (num := v k) k (Zr v k) i1 (fun i hi q => by
      obtain ⟨l, l1, l2⟩ := (i2 _).mp ⟨i, hi, rfl⟩
      exact hd l k l1 (by omega) (by rw [l2, q]))
    refine ⟨j1, fun x => ?_⟩
    rw [j2, i2]
    constructor
    · rintro (f | ⟨l, l1, l2⟩)
      · exact ⟨k, by omega, f.symm⟩
      · exact ⟨l, by omega, l2⟩
    · rintro ⟨l, l1, l2⟩
      by_cases f : l = k
      · left; rw [← l2, f]
      · exact Or.inr ⟨l, by omega, l2⟩
theorem Zr_row {f N : Nat → Nat} {m : Nat} (hd : ∀ i j, i < j → j < m → c_nm N (f i) ≠ c_nm N (f j)) (hv : ∀ i, i < m → c_nm N (f i) < 256) : ∀ k, k ≤ m → c_rwP f N (fun _ => nI 0) k = fun i => nI (Zr (fun l => c_nm N (f l)) k i) := by
  intro k
  induction k with
  | zero => intro _; rfl
  | succ k ih =>
    intro hk
    show c_put (nI (c_nm N (f k))) k (c_rwP f N (fun _ => nI 0) k) = fun i => nI (insW (c_nm N (f k)) k (Zr (fun l => c_nm N (f l)) k) i)
    rw [ih (by omega)]
    refine put_ins k _ _ (Nat.lt_trans (hv k (by omega)) (by decide)) (fun j hj => ?_)
    obtain ⟨l, l1, l2⟩ := ((Zr_spec hd k (by omega)).2 _).mp ⟨j, hj, rfl⟩
    rw [← l2]
    exact Nat.lt_trans (hv l (by omega)) (by decide)
/-- the other way round -/
theorem iv_ex {n : Nat} {Q : Nat → Nat} (hQ : fn n Q) : ∃ N : Nat → Nat, (∀ p, p < n → N p < n ∧ Q (N p) = p) ∧ (∀ j, j < n → N (Q j) = j) ∧ (∀ i, n ≤ i → N i = 0) ∧ fn n N := by
  have h := rg_onto hQ.1 hQ.2
  obtain ⟨N, eN⟩ : ∃ N : Nat → Nat, N = fun p => if hp : p < n then Classical.choose (h p hp) else 0 := ⟨_, rfl⟩
  have h1 : ∀ p, p < n → N p < n ∧ Q (N p) = p := fun p hp => by
    rw [eN]
    show (if hp : p < n then Classical.choose (h p hp) else 0) < n ∧ Q (if hp : p < n then Classical.choose (h p hp) else 0) = p
    rw [dif_pos hp]
    exact Classical.choose_spec (h p hp)
  refine ⟨N, h1, fun j hj => ?_, fun i hi => by rw [eN]; exact dif_neg (by omega), fun p hp => (h1 p hp).1, fun p q hp hq e => ?_⟩
  · exact hQ.2 _ _ (h1 _ (hQ.1 j hj)).1 hj (h1 _ (hQ.1 j hj)).2
  · rw [← (h1 p hp).2, ← (h1 q hq).2, e]
theorem nm_par (hS : c_sok S) {Q N : Nat → Nat} (h1 : ∀ p, p < S.1 → N p < S.1 ∧ Q (N p) = p) (h2 : ∀ j, j < S.1 → N (Q j) = j) (hQ : ∀ j, j < S.1 → Q j < S.1) (i : Nat) : c_nm N (S.2.2 i) = par S Q S.1 i := by
  have hs := hS.1.2
  apply Nat.eq_of_testBit_eq
  intro j
  rw [c_nm_bit, par_b]
  apply Bool.eq_iff_iff.mpr
  rw [List.any_eq_true, Bool.and_eq_true, decide_eq_true_iff]
  constructor
  · rintro ⟨p, p1, p2⟩
    rw [Bool.and_eq_true, beq_iff_eq] at p2
    have hp : p < S.1 := on_lt hS p2.1
    have := h1 p hp
    rw [p2.2] at this
    exact ⟨this.1, by rw [this.2]; exact p2.1⟩
  · rintro ⟨hj, hb⟩
    refine ⟨Q j, List.mem_range.mpr (by have := hQ j hj; omega), ?_⟩
    rw [Bool.and_eq_true, beq_iff_eq]
    exact ⟨hb, h2 j hj⟩
theorem par_inj (hS : c_sok S) {Q : Nat → Nat} (hQ : fn S.1 Q) {i j : Nat} (hi : i < S.2.1) (e : par S Q S.1 i = par S Q S.1 j) : i = j := by
  refine ln_ext hS hi (fun p hp => ?_)
  obtain ⟨k, k1, k2⟩ := rg_onto hQ.1 hQ.2 p (on_lt hS hp)
  have := congrArg (fun x => Nat.testBit x k) e
  simp only [par_b, decide_eq_true k1, Bool.true_and, k2] at this
  show (S.2.2 j).testBit p = true
  rw [← this]
  exact hp
/-- a row of the reference -/
def rr (S : Sc) (N : Nat → Nat) : Nat → Nat := Zr (fun l => c_nm N (S.2.2 l)) S.2.1
theorem row_ref (hS : c_sok S) {N : Nat → Nat} (hN : fn S.1 N) : ∃ Q, fn S.1 Q ∧ inc (rr S N) S.2.1 ∧ (∀ x, ast (rr S N) S.2.1 x ↔ Rw S Q x) ∧ (∀ i, i < S.2.1 → rr S N i < 256) ∧ (∀ i, c_nm N (S.2.2 i) = par S Q S.1 i) ∧ ∀ f i, i < S.2.1 → c_row S N f S.2.1 i = nI (rr S N i) := by
  have hs := hS.1.2
  obtain ⟨Q, q1, q2, _, q4⟩ := iv_ex hN
  have en : ∀ i, c_nm N (S.2.2 i) = par S Q S.1 i := nm_par hS (fun p hp => ⟨hN.1 p hp, q2 p hp⟩) (fun j hj => (q1 j hj).2) q4.1
  have hd : ∀ i j, i < j → j < S.2.1 → c_nm N (S.2.2 i) ≠ c_nm N (S.2.2 j) := fun i j hij hj e => by
    rw [en, en] at e
    have := par_inj hS q4 (by omega) e
    omega
  have hv : ∀ i, i < S.2.1 → c_nm N (S.2.2 i) < 256 := fun i hi => by
    rw [en]
    exact Nat.lt_of_lt_of_le (par_lt Q S.1 i) (Nat.pow_le_pow_right (n := 2) (by decide) hs)
  obtain ⟨z1, z2⟩ := Zr_spec hd S.2.1 (Nat.le_refl _)
  unfold rr
  refine ⟨Q, q4, z1, fun x => ?_, fun i hi => ?_, en, fun f i hi => ?_⟩
  · rw [z2]
    unfold Rw
    constructor
    · rintro ⟨l, l1, l2⟩; exact ⟨l, l1, by rw [← en]; exact l2⟩
    · rintro ⟨l, l1, l2⟩; exact ⟨l, l1, by rw [en]; exact l2⟩
  · obtain ⟨l, l1, l2⟩ := (z2 _).mp ⟨i, hi, rfl⟩
    rw [← l2]
    exact hv l l1
  · have e1 : c_row S N f S.2.1 i = c_rwP S.2.2 N (fun _ => nI 0) S.2.1 i := rwP_cg S.2.2 N f (fun _ => nI 0) S.2.1 i hi
    rw [e1, Zr_row hd hv S.2.1 (Nat.le_refl _)]
end B39
