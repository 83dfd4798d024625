/-! loops -/
theorem z_for {G : z_G} {d : Nat} {μ : z_M} {r : z_Res} {pc : Nat} {h : z_H} {α : Type} (mkl : Nat → α → List (Option Value)) (f : Nat → α → α) (a : α) (m : Nat)
    (hstep : ∀ l, l < m → z_J G d μ r pc (mkl (l + 1) (f l (it f a l))) [] h → z_J G d μ r pc (mkl l (it f a l)) [] h)
    (hend : z_J G d μ r pc (mkl m (it f a m)) [] h) : z_J G d μ r pc (mkl 0 a) [] h := by
  have key : ∀ k l, l + k = m → z_J G d μ r pc (mkl l (it f a l)) [] h := by
    intro k
    induction k with
    | zero => intro l hl; rw [show l = m by omega]; exact hend
    | succ k ih => intro l hl; exact hstep l (by omega) (ih (l + 1) (by omega))
  exact key m 0 (Nat.zero_add m)
/-- with a heap that goes along -/
theorem z_forH {G : z_G} {d : Nat} {μ : z_M} {r : z_Res} {pc : Nat} {α : Type} (mkl : Nat → α → List (Option Value)) (H : Nat → α → z_H) (f : Nat → α → α) (a : α) (m : Nat)
    (hstep : ∀ l, l < m → z_J G d μ r pc (mkl (l + 1) (f l (it f a l))) [] (H (l + 1) (f l (it f a l))) → z_J G d μ r pc (mkl l (it f a l)) [] (H l (it f a l)))
    (hend : z_J G d μ r pc (mkl m (it f a m)) [] (H m (it f a m))) : z_J G d μ r pc (mkl 0 a) [] (H 0 a) := by
  have key : ∀ k l, l + k = m → z_J G d μ r pc (mkl l (it f a l)) [] (H l (it f a l)) := by
    intro k
    induction k with
    | zero => intro l hl; rw [show l = m by omega]; exact hend
    | succ k ih => intro l hl; exact hstep l (by omega) (ih (l + 1) (by omega))
  exact key m 0 (Nat.zero_add m)
/-- up to the first that fits -/
theorem z_fnd {G : z_G} {d : Nat} {μ : z_M} {r : z_Res} {pc : Nat} {h : z_H} (mkl : Nat → List (Option Value)) (p : Nat → Bool) (m : Nat)
    (hstep : ∀ l, l < m → (∀ i, i < l → p i = false) → (p l = false → z_J G d μ r pc (mkl (l + 1)) [] h) → z_J G d μ r pc (mkl l) [] h)
    (hend : (∀ i, i < m → p i = false) → z_J G d μ r pc (mkl m) [] h) : z_J G d μ r pc (mkl 0) [] h := by
  have key : ∀ k l, l + k = m → (∀ i, i < l → p i = false) → z_J G d μ r pc (mkl l) [] h := by
    intro k
    induction k with
    | zero => intro l hl h0; rw [show l = m by omega] at h0 ⊢; exact hend h0
    | succ k ih =>
      intro l hl h0
      refine hstep l (by omega) h0 (fun hp => ih (l + 1) (by omega) (fun i hi => ?_))
      by_cases hil : i = l
      · rw [hil]; exact hp
      · exact h0 i (by omega)
  exact key m 0 (Nat.zero_add m) (fun i hi => absurd hi (Nat.not_lt_zero i))
/-- from a place on -/
def itr {α : Type} (f : Nat → α → α) (a : α) (s m : Nat) : α := it (fun k => f (s + k)) a (m - s)
theorem nI_a0 (a : Nat) : nI a + 0 = nI a := nI_add a 0
/-! the reference stands at a scheme -/
def z_at (M : Nat) (h : z_H) (S : Sc) : Prop := z_sh M h ∧ r_ok (z_ai h (M + 1)) ∧ r_S (z_ai h (M + 1)) = S
section AT
variable {M : Nat} {h : z_H} {S : Sc}
theorem t_kd (hA : z_at M h S) : z_kd h M = 28 := sh_kd hA.1
theorem t_m (hA : z_at M h S) : f_X12_lines M h = nI S.2.1 := by obtain ⟨h1, h2, rfl⟩ := hA; exact a_m h2
theorem t_n (hA : z_at M h S) : f_X12_points M h = nI S.1 := by obtain ⟨h1, h2, rfl⟩ := hA; exact a_n h2
theorem t_m12 (hA : z_at M h S) : S.2.1 ≤ 12 := by obtain ⟨h1, h2, rfl⟩ := hA; exact a_m12 h2
theorem t_n8 (hA : z_at M h S) : 1 ≤ S.1 ∧ S.1 ≤ 8 := by obtain ⟨h1, h2, rfl⟩ := hA; exact a_n8 h2
theorem t_L256 (hA : z_at M h S) (l : Nat) : S.2.2 l < 256 := by obtain ⟨h1, h2, rfl⟩ := hA; exact a_L256 h2 l
theorem t_Ln (hA : z_at M h S) {l : Nat} (hl : l < S.2.1) : f_X12_lineAt M (nI l) h = nI (S.2.2 l) := by obtain ⟨h1, h2, rfl⟩ := hA; exact a_L h2 hl
theorem t_sL (hA : z_at M h S) {l : Nat} (hl : l < 152) : s_X12_lineAt M (nI l) h := a_sL hA.1 hl
theorem t_son (hA : z_at M h S) {p : Nat} (hp : p < 32) : s_X12_linesOn M (nI p) h := ⟨hA.1, hA.2.1, p, hp, rfl⟩
theorem t_on (hA : z_at M h S) {p : Nat} (hp : p < 32) : f_X12_linesOn M (nI p) h = nI (c_on S p) := by
  obtain ⟨h1, h2, rfl⟩ := hA; unfold f_X12_linesOn; rw [nI_clamp (by omega)]
theorem t_sof (hA : z_at M h S) {a : Nat} (ha : a < 256) : s_X12_lineOf M (nI a) h := ⟨hA.1, hA.2.1, a, ha, rfl⟩
theorem t_of (hA : z_at M h S) {a : Nat} (ha : a < 256) : f_X12_lineOf M (nI a) h = if c_of S a < S.2.1 then nI (c_of S a) else -1 := by
  obtain ⟨h1, h2, rfl⟩ := hA; unfold f_X12_lineOf; rw [nI_clamp (by omega)]
theorem t_shas (hA : z_at M h S) {a : Nat} (ha : a < 256) : s_X12_hasLine M (nI a) h := ⟨hA.1, hA.2.1, a, ha, rfl⟩
theorem t_has (hA : z_at M h S) {a : Nat} (ha : a < 256) : f_X12_hasLine M (nI a) h = nI (c_has S a).toNat := by
  obtain ⟨h1, h2, rfl⟩ := hA; unfold f_X12_hasLine; rw [nI_clamp (by omega)]
theorem t_all (hA : z_at M h S) : f_X12_all M h = nI (2 ^ S.1 - 1) := by obtain ⟨h1, h2, rfl⟩ := hA; rfl
theorem t_bits {a : Nat} (ha : a < 4096) : f_X12_bits (nI a) h = nI (n_pc a) := n_bc a ha
theorem t_tz {a : Nat} (ha : a < 4096) : f_J6_numberOfTrailingZeros_0f7a4 (nI a) h = nI (n_tz a) := n_tzv a ha
theorem t_stz {a : Nat} (ha : a < 4096) : s_J6_numberOfTrailingZeros_0f7a4 (nI a) h := n_tzK a ha
theorem t_ne1 {a : Nat} (ha : a < 2 ^ 31) : nI a ≠ -1 := by
  intro e
  have := nI_pos ha
  rw [e] at this
  exact this (by decide)
theorem t_ofN (hA : z_at M h S) {a : Nat} (ha : a < 256) : f_X12_lineOf M (nI a) h = -1 ↔ ¬ c_of S a < S.2.1 := by
  have := t_m12 hA
  rw [t_of hA ha]
  by_cases hc : c_of S a < S.2.1
  · rw [if_pos hc]; exact ⟨fun e => absurd e (t_ne1 (by omega)), fun e => absurd hc e⟩
  · rw [if_neg hc]; exact ⟨fun _ => hc, fun _ => rfl⟩
theorem t_pow {p : Nat} (hp : p < 8) : 2 ^ p < 256 := Nat.lt_of_lt_of_le (Nat.pow_lt_pow_right (by decide) hp) (by decide)
theorem or_lt256 {a b : Nat} (ha : a < 256) (hb : b < 256) : a ||| b < 256 := Nat.or_lt_two_pow (n := 8) ha hb
theorem c_on_lt (S : Sc) (p : Nat) : c_on S p < 2 ^ S.2.1 := by
  unfold c_on
  have : ∀ k, it (fun l a => a ||| ((S.2.2 l).testBit p).toNat <<< l) 0 k < 2 ^ k := by
    intro k
    induction k with
    | zero => show 0 < 1; decide
    | succ k ih =>
      refine Nat.or_lt_two_pow (Nat.lt_of_lt_of_le ih (Nat.pow_le_pow_right (by decide) (by omega))) ?_
      cases (S.2.2 k).testBit p
      · simp; exact Nat.two_pow_pos _
      · simp [Nat.shiftLeft_eq]; exact Nat.pow_lt_pow_right (by decide) (by omega)
  exact this _
theorem t_on4096 (hA : z_at M h S) (p : Nat) : c_on S p < 4096 := Nat.lt_of_lt_of_le (c_on_lt S p) (show 2 ^ S.2.1 ≤ 2 ^ 12 from Nat.pow_le_pow_right (by decide) (t_m12 hA))
end AT
