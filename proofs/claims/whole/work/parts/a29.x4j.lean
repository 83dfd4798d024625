/-! THE LISTS: all numbers behind all rows -/
def lnU (il : Sc → Bool) (m : Nat) (row : Nat → Nat) : Nat → Nat → (Nat → Nat) × Nat → (Nat → Nat) × Nat
  | 0, _, st => st
  | r + 1, t, st => lnU il m row r (t + 1) (lnB il m row t st)
theorem lnB_le (il : Sc → Bool) (m : Nat) (row : Nat → Nat) (t : Nat) (st : (Nat → Nat) × Nat) : st.2 ≤ (lnB il m row t st).2 := by
  unfold lnB
  split
  · exact Nat.le_add_right _ _
  · exact Nat.le_refl _
theorem lnU_le (il : Sc → Bool) (m : Nat) (row : Nat → Nat) : ∀ r t st, st.2 ≤ (lnU il m row r t st).2 := by
  intro r
  induction r with
  | zero => intro t st; exact Nat.le_refl _
  | succ r ih => intro t st; exact Nat.le_trans (lnB_le il m row t st) (ih (t + 1) _)
section HY
variable {V : CV} {G : z_G} {d L r c s : Nat} {h0 h : z_H} {N : Nat → Nat} {W : Nat → Nat → Nat} {il : Sc → Bool}
theorem ln_nums (hv : vI V il) (hI0 : inv V L h0) (hL : L + 75 ≤ z_n h0) {ra m k : Nat} {row : Nat → Nat} (h1 : 1 ≤ m) (h7 : m ≤ 7) (hr : c_sok (c_rw row (m - 1))) : ∀ r t h fa st c s, t + r = 128 → (lnU il m row r t st).2 ≤ 448 → lnI V L h0 ra m row h fa st c s → ∃ h' fa', lnI V L h0 ra m row h' fa' (lnU il m row r t st) (c + 11 * r) (s + 600 * r) ∧ ∀ R, z_J G (d + 24) (m_X4_lengthen z_pu0) R 14 [some (.ref (L + 25)), some (.int (nI m)), some (.ref ra), some (.ref fa'), some (.int (nI (lnU il m row r t st).2)), some (.int (nI (k + 1))), none, none] [] h' → z_J G (d + 24) (m_X4_lengthen z_pu0) R 86 [some (.ref (L + 25)), some (.int (nI m)), some (.ref ra), some (.ref fa), some (.int (nI st.2)), some (.int (nI k)), none, some (.int (nI t))] [] h := by
  intro r
  induction r with
  | zero =>
    intro t h fa st c s ht hz hi
    refine ⟨h, fa, hi, fun R hR => b_X4_lengthen_86 (z_pu0V rfl) ?_⟩
    rw [if_neg (nI_nlt (by omega) (by omega)), nI_add]
    exact hR
  | succ r ih =>
    intro t h fa st c s ht hz hi
    obtain ⟨g, fg, ig, jg⟩ := ln_step (G := G) (d := d) (k := k) (t := t) hv hI0 hL h1 h7 hr (by omega) (Nat.le_trans (lnU_le il m row r (t + 1) _) hz) hi
    obtain ⟨h', fa', i', j'⟩ := ih (t + 1) g fg _ _ _ (by omega) hz ig
    refine ⟨h', fa', ?_, fun R hR => jg R (j' R hR)⟩
    have e1 : c + 11 + 11 * r = c + 11 * (r + 1) := by omega
    have e2 : s + 600 + 600 * r = s + 600 * (r + 1) := by omega
    rw [e1, e2] at i'
    exact i'
theorem ln_row {ra m fa : Nat} {row row' : Nat → Nat} {st : (Nat → Nat) × Nat} (hr : ∀ l, l + 1 < m → row l = row' l) (hi : lnI V L h0 ra m row h fa st c s) : lnI V L h0 ra m row' h fa st c s := ⟨hi.1, ⟨hi.2.1.1, hi.2.1.2.1, hi.2.1.2.2.1, hi.2.1.2.2.2.1, fun l hl => by rw [← hr l hl]; exact hi.2.1.2.2.2.2 l hl⟩, hi.2.2⟩
theorem ln_put {ra m fa j v : Nat} {row : Nat → Nat} {st : (Nat → Nat) × Nat} (hi : lnI V L h0 ra m row h fa st c s) : lnI V L h0 ra m (z_u row j v) (z_pai h ra j (nI v)) fa st c s := by
  obtain ⟨⟨hI, hk, he, hkm⟩, ⟨ho, k1, k2, hra, hrow⟩, f1, f2, f3, f4, f5⟩ := hi
  obtain ⟨T, eT⟩ : ∃ T, T = z_u (z_ai h ra) j (nI v) := ⟨_, rfl⟩
  have eg : z_pai h ra j (nI v) = z_pax h ra T := by rw [eT]; rfl
  have nh : ¬ hl L ra := ho.1.2.1
  have nl : ∀ j, j < 8 → L + 25 + j ≠ ra := fun j hj e => nh (by unfold hl; omega)
  have out : ∀ a, a ≠ ra → z_ai (z_pax h ra T) a = z_ai h a := fun a ha => u_ne _ _ ha
  rw [eg]
  refine ⟨⟨inv_own hI ho _, ?_, ex_px he (Or.inr (Or.inl hra)), hkm.1, by rw [out _ (nl 7 (by decide))]; exact hkm.2.1, hkm.2.2⟩, ⟨own_pax ho _ _, k1, k2, hra, fun l hl => ?_⟩, f1, f2, f3, f4, fun i hi => by rw [out _ f2]; exact f5 i hi⟩
  · obtain ⟨ls, ⟨E, e1, e2⟩, m1, b1⟩ := hk
    exact ⟨ls, ⟨E, by rw [out _ (nl 5 (by decide))]; exact e1, e2⟩, m1, b1⟩
  · show z_u (z_ai h) ra T ra l = _
    rw [u_eq, eT]
    by_cases e : l = j
    · rw [e, u_eq, u_eq]
    · rw [u_ne _ _ e, u_ne _ _ e]; exact hrow l hl
/-- the k-th row of a list -/
def rwk (W : Nat → Nat → Nat) (m k : Nat) (l : Nat) : Nat := W m (k * m + l)
def lnO (W : Nat → Nat → Nat) (m k : Nat) : Nat := if m < 2 then 1 else rwk W (m - 1) k (m - 2) + 1
def lnQ (il : Sc → Bool) (W : Nat → Nat → Nat) (m k : Nat) (st : (Nat → Nat) × Nat) : (Nat → Nat) × Nat := lnU il m (rwk W (m - 1) k) (128 - lnO W m k) (lnO W m k) st
theorem ln_k (hv : vI V il) (hN : vN N W) (hI0 : inv V L h0) (hL : L + 75 ≤ z_n h0) (hl0 : lst N W L r h0) {ra m k fa : Nat} {row : Nat → Nat} {st : (Nat → Nat) × Nat} (h1 : 1 ≤ m) (h7 : m ≤ 7) (hmr : m ≤ r) (hk : k < N (m - 1)) (hr : c_sok (c_rw (rwk W (m - 1) k) (m - 1))) (hz : (lnQ il W m k st).2 ≤ 448) (hi : lnI V L h0 ra m row h fa st c s) : ∃ h' fa', lnI V L h0 ra m (rwk W (m - 1) k) h' fa' (lnQ il W m k st) (c + 1408) (s + 76800) ∧ ∀ R, z_J G (d + 24) (m_X4_lengthen z_pu0) R 14 [some (.ref (L + 25)), some (.int (nI m)), some (.ref ra), some (.ref fa'), some (.int (nI (lnQ il W m k st).2)), some (.int (nI (k + 1))), none, none] [] h' → z_J G (d + 24) (m_X4_lengthen z_pu0) R 14 [some (.ref (L + 25)), some (.int (nI m)), some (.ref ra), some (.ref fa), some (.int (nI st.2)), some (.int (nI k)), none, none] [] h := by
  have hX : ∀ a, lX L a → hl L a := fun _ hx => lX_hl hx
  have h64 := (hN (m - 1) (by omega)).1
  -- the row is copied
  have cp : ∀ t j h row, j + t + 1 = m → (∀ l, l < j → row l = rwk W (m - 1) k l) → lnI V L h0 ra m row h fa st c s → ∃ h', lnI V L h0 ra m (rwk W (m - 1) k) h' fa st c s ∧ ∀ R, z_J G (d + 24) (m_X4_lengthen z_pu0) R 86 [some (.ref (L + 25)), some (.int (nI m)), some (.ref ra), some (.ref fa), some (.int (nI st.2)), some (.int (nI k)), none, some (.int (nI (lnO W m k)))] [] h' → z_J G (d + 24) (m_X4_lengthen z_pu0) R 30 [some (.ref (L + 25)), some (.int (nI m)), some (.ref ra), some (.ref fa), some (.int (nI st.2)), some (.int (nI k)), some (.int (nI j)), none] [] h := by
    intro t
    induction t with
    | zero =>
      intro j h row hj hrw hi
      have hi' := ln_row (row' := rwk W (m - 1) k) (fun l hl => hrw l (by omega)) hi
      refine ⟨h, hi', fun R hR => b_X4_lengthen_30 (z_pu0V rfl) ?_⟩
      rw [nI_add, if_neg (nI_nlt (by omega) (by omega))]
      by_cases c2 : m < 2
      · have e : lnO W m k = 1 := if_pos c2
        rw [e] at hR
        rw [if_pos (nI_lt c2 (by decide)), nI_add]
        exact hR
      · have e : lnO W m k = rwk W (m - 1) k (m - 2) + 1 := if_neg c2
        rw [e] at hR
        rw [if_neg (nI_nlt (by omega) (by omega)), q_sub (show 2 ≤ m by omega), nI_clamp (show m - 2 < 2 ^ 31 by omega), hi'.2.1.2.2.2.2 (m - 2) (by omega), nI_add]
        exact ⟨hi'.2.1.2.1, by rw [hi'.2.1.2.2.1]; exact vp_in_nI (by omega) (by omega), hR⟩
    | succ t ih =>
      intro j h row hj hrw hi
      have hl := lst_km hI0 hX hi.1.2.2.1 hi.1.2.2.2 hl0
      obtain ⟨b1, b2⟩ := lst_b hN (show m - 1 < 8 by omega) hk (show j < m - 1 by omega)
      have eln := e4_listedNumber (G := G) (d := d + 22) hi.1.2.1.1 hl (show m - 1 < r by omega) b1 b2
      have ip := ln_put (j := j) (v := rwk W (m - 1) k j) hi
      obtain ⟨h', i', j'⟩ := ih (j + 1) _ _ (by omega) (fun l hl => by
        by_cases e : l = j
        · rw [e, u_eq]
        · rw [u_ne _ _ e]; exact hrw l (by omega)) ip
      refine ⟨h', i', fun R hR => b_X4_lengthen_30 (z_pu0V rfl) ?_⟩
      rw [nI_add, if_pos (nI_lt (by omega) (by omega)), q_sub h1, n_mul, nI_add, nI_clamp (show j < 2 ^ 31 by omega)]
      exact ⟨hi.1.2.1.1.1, _, _, eln, hi.2.1.2.1, by rw [hi.2.1.2.2.1]; exact vp_in_nI (by omega) (by omega), j' R hR⟩
  have hT : lnO W m k ≤ 128 := by
    unfold lnO
    split
    · decide
    · obtain ⟨b1, b2⟩ := lst_b hN (show m - 1 < 8 by omega) hk (show m - 2 < m - 1 by omega)
      have := (hN (m - 1) (by omega)).2 _ b1
      exact this
  obtain ⟨g, ig, jg⟩ := cp (m - 1) 0 h row (by omega) (fun l hl => absurd hl (Nat.not_lt_zero _)) hi
  obtain ⟨h', fa', i', j'⟩ := ln_nums (G := G) (d := d) (k := k) hv hI0 hL h1 h7 hr (128 - lnO W m k) (lnO W m k) g fa st c s (by omega) hz ig
  refine ⟨h', fa', ⟨⟨i'.1.1, i'.1.2.1, ex_mono i'.1.2.2.1 (by omega) (by omega), i'.1.2.2.2⟩, i'.2⟩, fun R hR => ?_⟩
  have hl := lst_km hI0 hX hi.1.2.2.1 hi.1.2.2.2 hl0
  have ls := hi.1.2.1.1
  refine b_X4_lengthen_14 (z_pu0V rfl) ⟨ls.1, ?_⟩
  rw [ls.2.2.2.2.2.2.2.1, z_rcs, q_sub h1, nI_clamp (show m - 1 < 2 ^ 31 by omega), (hl.2.2 (m - 1) (by omega)).1, if_pos (nI_lt hk (by omega))]
  exact ⟨ls.2.2.2.2.2.2.2.2.1, by rw [ls.2.2.2.2.2.2.2.2.2]; exact vp_in_nI (by omega) (by decide), jg R (j' R hR)⟩
end HY
