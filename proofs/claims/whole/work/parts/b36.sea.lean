/-! MATHEMATICS: the search for the least row -/
section B36
variable {S : Sc}
theorem lxn_as {n : Nat} {A B : Nat → Nat} (h1 : lxn n A B) (h2 : lxn n B A) : False := by
  obtain ⟨i, _, b, c⟩ := h1
  obtain ⟨j, _, b', c'⟩ := h2
  exact lx_as ⟨i, b, c⟩ ⟨j, b', c'⟩
theorem lxn_cg {n : Nat} {A B A' B' : Nat → Nat} (hA : ∀ j, j < n → A j = A' j) (hB : ∀ j, j < n → B j = B' j) (h : lxn n A B) : lxn n A' B' := by
  obtain ⟨i, a, b, c⟩ := h
  exact ⟨i, a, fun j hj => by rw [← hA j (by omega), ← hB j (by omega)]; exact b j hj, by rw [← hA i a, ← hB i a]; exact c⟩
theorem lxn_tr {n : Nat} {A B C : Nat → Nat} (h1 : lxn n A B) (h2 : lxn n B C) : lxn n A C := by
  obtain ⟨i, a, b, c⟩ := h1
  obtain ⟨i', a', b', c'⟩ := h2
  rcases Nat.lt_trichotomy i i' with q | q | q
  · exact ⟨i, a, fun j hj => by rw [b j hj, b' j (by omega)], by rw [← b' i q]; exact c⟩
  · subst q
    exact ⟨i, a, fun j hj => by rw [b j hj, b' j hj], by omega⟩
  · exact ⟨i', a', fun j hj => by rw [b j (by omega), b' j hj], by rw [b i' q]; exact c'⟩
def ble (n : Nat) (A B : Nat → Nat) : Prop := (∀ j, j < n → A j = B j) ∨ lxn n A B
theorem ble_tr {n : Nat} {A B C : Nat → Nat} (h1 : ble n A B) (h2 : ble n B C) : ble n A C := by
  rcases h1 with h1 | h1
  · rcases h2 with h2 | h2
    · exact Or.inl fun j hj => by rw [h1 j hj, h2 j hj]
    · exact Or.inr (lxn_cg (fun j hj => (h1 j hj).symm) (fun _ _ => rfl) h2)
  · rcases h2 with h2 | h2
    · exact Or.inr (lxn_cg (fun _ _ => rfl) h2 h1)
    · exact Or.inr (lxn_tr h1 h2)
theorem ble_n {n : Nat} {A B K : Nat → Nat} (h : ble n A B) (hk : ¬ lxn n A K) : ¬ lxn n B K := fun q => by
  rcases h with h | h
  · exact hk (lxn_cg (fun j hj => (h j hj).symm) (fun _ _ => rfl) q)
  · exact hk (lxn_tr h q)
/-- rows of names that are right at a depth -/
def rgt (S : Sc) (Q : Nat → Nat) (d : Nat) (P : Nat → Nat) : Prop := d = 0 ∨ ∀ i, i < S.2.1 → P (12 * d + i) = par S Q d i
theorem top_spec (hS : c_sok S) {Q P : Nat → Nat} {d : Nat} (hd : d ≤ 7) (hP : rgt S Q d P) (E : Nat → Nat) : ∀ k, (∀ p, p < k → g_ft S (usm Q d) p = true → kc S Q d p ≤ (it (topS S P (usm Q d) d) (0, 0, E) k).1) ∧ (∀ p, (it (topS S P (usm Q d) d) (0, 0, E) k).2.1.testBit p = true ↔ (p < k ∧ g_ft S (usm Q d) p = true ∧ kc S Q d p = (it (topS S P (usm Q d) d) (0, 0, E) k).1)) ∧ ((it (topS S P (usm Q d) d) (0, 0, E) k).1 = 0 ∨ ∃ p, p < k ∧ g_ft S (usm Q d) p = true ∧ kc S Q d p = (it (topS S P (usm Q d) d) (0, 0, E) k).1) := by
  intro k
  induction k with
  | zero => exact ⟨fun p hp => absurd hp (Nat.not_lt_zero _), fun p => ⟨fun h => (by
      have h : (0 : Nat).testBit p = true := h
      rw [Nat.zero_testBit] at h; cases h), fun h => absurd h.1 (Nat.not_lt_zero _)⟩, Or.inl rfl⟩
  | succ k ih =>
    rw [it_s]
    obtain ⟨a, ea⟩ : ∃ a, a = it (topS S P (usm Q d) d) (0, 0, E) k := ⟨_, rfl⟩
    rw [← ea] at ih ⊢
    obtain ⟨t, e, E1⟩ := a
    obtain ⟨i1, i2, i3⟩ := ih
    have i1 : ∀ p, p < k → g_ft S (usm Q d) p = true → kc S Q d p ≤ t := i1
    have i2 : ∀ p, e.testBit p = true ↔ (p < k ∧ g_ft S (usm Q d) p = true ∧ kc S Q d p = t) := i2
    have i3 : t = 0 ∨ ∃ p, p < k ∧ g_ft S (usm Q d) p = true ∧ kc S Q d p = t := i3
    unfold topS
    by_cases f : g_ft S (usm Q d) k = true
    · rw [if_pos f, key_kc hS hd hP E1]
      show (∀ p, p < k + 1 → g_ft S (usm Q d) p = true → kc S Q d p ≤ (if t < kc S Q d k then (kc S Q d k, 2 ^ k, _) else if kc S Q d k = t then (t, e ||| 2 ^ k, _) else (t, e, _)).1) ∧ _
      by_cases c : t < kc S Q d k
      · rw [if_pos c]
        refine ⟨fun p hp hf => ?_, fun p => ?_, Or.inr ⟨k, by omega, f, rfl⟩⟩
        · show kc S Q d p ≤ kc S Q d k
          by_cases z : p = k
          · rw [z]; exact Nat.le_refl _
          · have := i1 p (by omega) hf; omega
        · show (2 ^ k).testBit p = true ↔ (p < k + 1 ∧ g_ft S (usm Q d) p = true ∧ kc S Q d p = kc S Q d k)
          rw [Nat.testBit_two_pow, decide_eq_true_iff]
          constructor
          · intro z; subst z; exact ⟨by omega, f, rfl⟩
          · rintro ⟨z1, z2, z3⟩
            apply Classical.byContradiction
            intro z
            have := i1 p (by omega) z2
            omega
      · rw [if_neg c]
        by_cases c2 : kc S Q d k = t
        · rw [if_pos c2]
          refine ⟨fun p hp hf => ?_, fun p => ?_, Or.inr ⟨k, by omega, f, c2⟩⟩
          · show kc S Q d p ≤ t
            by_cases z : p = k
            · rw [z]; omega
            · exact i1 p (by omega) hf
          · show (e ||| 2 ^ k).testBit p = true ↔ (p < k + 1 ∧ g_ft S (usm Q d) p = true ∧ kc S Q d p = t)
            rw [Nat.testBit_or, Bool.or_eq_true, i2, Nat.testBit_two_pow, decide_eq_true_iff]
            constructor
            · rintro (⟨z1, z2⟩ | z)
              · exact ⟨by omega, z2⟩
              · subst z; exact ⟨by omega, f, c2⟩
            · rintro ⟨z1, z2⟩
              by_cases z : k = p
              · exact Or.inr z
              · exact Or.inl ⟨by omega, z2⟩
        · rw [if_neg c2]
          refine ⟨fun p hp hf => ?_, fun p => ?_, ?_⟩
          · show kc S Q d p ≤ t
            by_cases z : p = k
            · rw [z]; omega
            · exact i1 p (by omega) hf
          · show e.testBit p = true ↔ (p < k + 1 ∧ g_ft S (usm Q d) p = true ∧ kc S Q d p = t)
            rw [i2]
            constructor
            · rintro ⟨z1, z2⟩
              exact ⟨by omega, z2⟩
            · rintro ⟨z1, z2, z3⟩
              by_cases z : p = k
              · rw [z] at z3; exact absurd z3 c2
              · exact ⟨by omega, z2, z3⟩
          · rcases i3 with z | ⟨p, z1, z2⟩
            · exact Or.inl z
            · exact Or.inr ⟨p, by omega, z2⟩
    · rw [if_neg f]
      refine ⟨fun p hp hf => ?_, fun p => ?_, ?_⟩
      · by_cases z : p = k
        · rw [z] at hf; exact absurd hf f
        · exact i1 p (by omega) hf
      · show e.testBit p = true ↔ (p < k + 1 ∧ g_ft S (usm Q d) p = true ∧ kc S Q d p = t)
        rw [i2]
        constructor
        · rintro ⟨z1, z2⟩
          exact ⟨by omega, z2⟩
        · rintro ⟨z1, z2, z3⟩
          by_cases z : p = k
          · rw [z] at z2; exact absurd z2 f
          · exact ⟨by omega, z2, z3⟩
      · rcases i3 with z | ⟨p, z1, z2⟩
        · exact Or.inl z
        · exact Or.inr ⟨p, by omega, z2⟩
theorem top_all (hS : c_sok S) {Q P : Nat → Nat} {d : Nat} (hd : d < S.1) (hP : rgt S Q d P) (E : Nat → Nat) : (∀ p, p < S.1 → g_ft S (usm Q d) p = true → kc S Q d p ≤ (g_top S P (usm Q d) d E).1) ∧ (∀ p, (g_top S P (usm Q d) d E).2.1.testBit p = true ↔ (p < S.1 ∧ g_ft S (usm Q d) p = true ∧ kc S Q d p = (g_top S P (usm Q d) d E).1)) ∧ 1 ≤ (g_top S P (usm Q d) d E).1 ∧ ∃ p, p < S.1 ∧ (g_top S P (usm Q d) d E).2.1.testBit p = true := by
  have hs := hS.1.2
  obtain ⟨t1, t2, t3⟩ := top_spec hS (show d ≤ 7 by omega) hP E S.1
  obtain ⟨p, p1, p2⟩ := ft_some hS (Q := Q) hd
  have k1 := kc_pos hS Q (show d ≤ 7 by omega) p
  have k2 := t1 p p1 p2
  refine ⟨t1, t2, Nat.le_trans k1 k2, ?_⟩
  rcases t3 with z | ⟨p, z1, z2, z3⟩
  · omega
  · exact ⟨p, z1, (t2 p).mpr ⟨z1, z2, z3⟩⟩
theorem ren_rgt (hS : c_sok S) {Q P : Nat → Nat} {d p : Nat} (hP : rgt S Q d P) : rgt S (z_u Q d p) (d + 1) (g_ren S p d P) := by
  have hm := hS.2.1
  refine Or.inr fun i hi => ?_
  unfold g_ren
  rw [show 12 * (d + 1) + i = 12 * d + 12 + i by omega, ren_in p d P hm S.2.1 hm i hi]
  have e : par S (z_u Q d p) (d + 1) i = par S Q d i ||| ((S.2.2 i).testBit p).toNat <<< d := by
    rw [← par_cg (Q := z_u Q d p) (Q' := Q) (fun j hj => u_ne _ _ (by omega))]
    unfold par
    rw [it_s, u_eq]
  rw [e]
  by_cases c : d = 0
  · rw [if_pos c]
    subst c
    show _ = 0 ||| _
    rw [Nat.zero_or]
  · rw [if_neg c]
    rcases hP with z | z
    · exact absurd z c
    · rw [z i hi]
theorem usm_u (Q : Nat → Nat) (d p : Nat) : usm (z_u Q d p) (d + 1) = usm Q d ||| 2 ^ p := by
  rw [← usm_cg (Q := z_u Q d p) (Q' := Q) (d := d) (fun j hj => u_ne _ _ (by omega))]
  unfold usm
  rw [it_s, u_eq]
end B36
