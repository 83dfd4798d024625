/-! MATHEMATICS: keys as numbers; twins have equal keys -/
section B35
variable {S : Sc}
def kc (S : Sc) (Q : Nat → Nat) (d p : Nat) : Nat := (g_key S (fun j => par S Q (j / 12) (j % 12)) p (usm Q d) d (fun _ => 0)).1
def kap (S : Sc) (Q : Nat → Nat) (d : Nat) : Nat := kc S Q d (Q d)
theorem kc_isK (hS : c_sok S) (Q : Nat → Nat) {d : Nat} (hd : d ≤ 7) (p : Nat) : isK S Q d p (kc S Q d p) := by
  refine key_isK hS hd (Or.inr fun i hi => ?_) _
  have := hS.2.1
  show par S Q ((12 * d + i) / 12) ((12 * d + i) % 12) = _
  rw [show (12 * d + i) / 12 = d by omega, show (12 * d + i) % 12 = i by omega]
theorem key_kc (hS : c_sok S) {Q P : Nat → Nat} {d p : Nat} (hd : d ≤ 7) (hP : d = 0 ∨ ∀ i, i < S.2.1 → P (12 * d + i) = par S Q d i) (E : Nat → Nat) : (g_key S P p (usm Q d) d E).1 = kc S Q d p := isK_un (key_isK hS hd hP E) (kc_isK hS Q hd p) (fun _ => Iff.rfl)
theorem kc_pos (hS : c_sok S) (Q : Nat → Nat) {d : Nat} (hd : d ≤ 7) (p : Nat) : 1 ≤ kc S Q d p := by
  obtain ⟨R, s, _, _, _, _, e⟩ := kc_isK hS Q hd p
  omega
theorem eS_cg {Q Q' : Nat → Nat} {d p : Nat} (h : ∀ j, j < d → Q j = Q' j) (x : Nat) : eS S Q d p x ↔ eS S Q' d p x := by
  unfold eS ens
  constructor
  · rintro ⟨i, i1, ⟨i2, i3, i4⟩, i5⟩
    refine ⟨i, i1, ⟨i2, fun j hj => by rw [← h j hj]; exact i3 j hj, fun q hq => ?_⟩, by rw [← par_cg h]; exact i5⟩
    rcases i4 q hq with e | ⟨j, j1, j2⟩
    · exact Or.inl e
    · exact Or.inr ⟨j, j1, by rw [← h j j1]; exact j2⟩
  · rintro ⟨i, i1, ⟨i2, i3, i4⟩, i5⟩
    refine ⟨i, i1, ⟨i2, fun j hj => by rw [h j hj]; exact i3 j hj, fun q hq => ?_⟩, by rw [par_cg h]; exact i5⟩
    rcases i4 q hq with e | ⟨j, j1, j2⟩
    · exact Or.inl e
    · exact Or.inr ⟨j, j1, by rw [h j j1]; exact j2⟩
theorem kc_cg (hS : c_sok S) {Q Q' : Nat → Nat} {d p : Nat} (hd : d ≤ 7) (h : ∀ j, j < d → Q j = Q' j) : kc S Q d p = kc S Q' d p := isK_un (kc_isK hS Q hd p) (kc_isK hS Q' hd p) (eS_cg h)
theorem kap_cg (hS : c_sok S) {Q Q' : Nat → Nat} {d : Nat} (hd : d ≤ 7) (h : ∀ j, j < d + 1 → Q j = Q' j) : kap S Q d = kap S Q' d := by
  unfold kap
  rw [h d (by omega)]
  exact kc_cg hS hd (fun j hj => h j (by omega))
theorem au_on (hS : c_sok S) {a b : Nat} (h : wy S S true (trs a b)) : ∃ φ : Nat → Nat, ∀ l, l < S.2.1 → φ l < S.2.1 ∧ ∀ i, on S (φ l) (trs a b i) ↔ on S l i := by
  obtain ⟨_, φ, f1, _⟩ := h
  have up : ∀ l i, on S l i → on S (φ l) (trs a b i) := fun l i h => (f1 l (on_m hS h)).2.1 i h
  refine ⟨φ, fun l hl => ⟨(f1 l hl).1, fun i => ⟨fun h => ?_, up l i⟩⟩⟩
  have e : l = φ (φ l) := ln_ext hS hl (fun r hr => by
    have := up _ _ (up _ _ hr)
    rw [trs_tr] at this
    exact this)
  have := up _ _ h
  rw [trs_tr, ← e] at this
  exact this
theorem eS_au (hS : c_sok S) {a b : Nat} (h : wy S S true (trs a b)) (Q : Nat → Nat) (d p x : Nat) (hx : eS S Q d p x) : eS S (fun j => trs a b (Q j)) d (trs a b p) x := by
  obtain ⟨φ, hφ⟩ := au_on hS h
  obtain ⟨i, i1, ⟨i2, i3, i4⟩, i5⟩ := hx
  obtain ⟨p1, p2⟩ := hφ i i1
  refine ⟨φ i, p1, ⟨(p2 p).mpr i2, fun j hj e => i3 j hj (trx_inj e), fun q hq => ?_⟩, ?_⟩
  · have e : trs a b (trs a b q) = q := trs_tr a b q
    rw [← e] at hq
    rcases i4 _ ((p2 _).mp hq) with f | ⟨j, j1, j2⟩
    · left; rw [← f, e]
    · right; exact ⟨j, j1, by show trs a b (Q j) = q; rw [j2, e]⟩
  · rw [← i5]
    apply Nat.eq_of_testBit_eq
    intro j
    rw [par_b, par_b]
    congr 1
    exact Bool.eq_iff_iff.mpr (p2 (Q j))
theorem kap_au (hS : c_sok S) {a b : Nat} (h : wy S S true (trs a b)) (Q : Nat → Nat) {d : Nat} (hd : d ≤ 7) : kap S (fun j => trs a b (Q j)) d = kap S Q d := by
  refine isK_un (kc_isK hS _ hd _) (kc_isK hS Q hd _) (fun x => ⟨fun hx => ?_, eS_au hS h Q d (Q d) x⟩)
  have := eS_au hS h _ d _ x hx
  have e : (fun j => trs a b (trs a b (Q j))) = Q := funext fun j => trs_tr a b (Q j)
  rw [show trs a b ((fun j => trs a b (Q j)) d) = Q d from trs_tr a b (Q d)] at this
  rw [e] at this
  exact this
def fn (n : Nat) (Q : Nat → Nat) : Prop := (∀ j, j < n → Q j < n) ∧ ∀ i j, i < n → j < n → Q i = Q j → i = j
theorem ft_i {us p : Nat} : g_ft S us p = true ↔ (us.testBit p = false ∧ ∀ q, q < p → (g_twT S p).testBit q = true → us.testBit q = true) := by
  unfold g_ft
  rw [Bool.and_eq_true, decide_eq_true_iff, Bool.not_eq_true']
  constructor
  · rintro ⟨h1, h2⟩
    refine ⟨h1, fun q hq ht => ?_⟩
    have := congrArg (fun x => Nat.testBit x q) h2
    simp only [an_b, Nat.testBit_and, Nat.testBit_two_pow_sub_one, Nat.zero_testBit, ht, decide_eq_true hq, Bool.and_self, Bool.true_and] at this
    cases c : us.testBit q
    · rw [c] at this; cases this
    · rfl
  · rintro ⟨h1, h2⟩
    refine ⟨h1, ?_⟩
    apply Nat.eq_of_testBit_eq
    intro q
    rw [an_b, Nat.testBit_and, Nat.testBit_two_pow_sub_one, Nat.zero_testBit]
    by_cases c : q < p
    · cases t : (g_twT S p).testBit q
      · rfl
      · rw [h2 q c t, decide_eq_true c]; rfl
    · rw [decide_eq_false c, Bool.and_false, Bool.false_and]
theorem us_f {Q : Nat → Nat} {d p : Nat} (h : ∀ j, j < d → Q j ≠ p) : (usm Q d).testBit p = false := by
  cases c : (usm Q d).testBit p
  · rfl
  · obtain ⟨j, j1, j2⟩ := (usm_b Q p d).mp c
    exact absurd j2 (h j j1)
theorem us_n {Q : Nat → Nat} {d p : Nat} (h : (usm Q d).testBit p = false) : ∀ j, j < d → Q j ≠ p := fun j hj e => by
  rw [(usm_b Q p d).mpr ⟨j, hj, e⟩] at h
  cases h
/-- every naming is as good as one that takes a first twin next -/
theorem ft_ex (hS : c_sok S) {Q : Nat → Nat} {d : Nat} (hd : d < S.1) : ∀ n p, p ≤ n → ∀ Q', fn S.1 Q' → (∀ j, j < d → Q' j = Q j) → Q' d = p → ∃ Q'', fn S.1 Q'' ∧ (∀ j, j < d → Q'' j = Q j) ∧ g_ft S (usm Q d) (Q'' d) = true ∧ ∀ j, j < S.1 → kap S Q'' j = kap S Q' j := by
  have hs := hS.1.2
  intro n
  induction n with
  | zero =>
    intro p hp Q' h1 h2 h3
    refine ⟨Q', h1, h2, ft_i.mpr ⟨us_f (fun j hj e => ?_), fun q hq => absurd hq (by omega)⟩, fun _ _ => rfl⟩
    rw [← h2 j hj] at e
    have := h1.2 j d (by omega) hd e
    omega
  | succ n ih =>
    intro p hp Q' h1 h2 h3
    have hu : (usm Q d).testBit (Q' d) = false := us_f (fun j hj e => by
      rw [← h2 j hj] at e
      have := h1.2 j d (by omega) hd e
      omega)
    by_cases c : g_ft S (usm Q d) (Q' d) = true
    · exact ⟨Q', h1, h2, c, fun _ _ => rfl⟩
    · have : ∃ q, q < Q' d ∧ (g_twT S (Q' d)).testBit q = true ∧ (usm Q d).testBit q = false := by
        apply Classical.byContradiction
        intro no
        refine c (ft_i.mpr ⟨hu, fun q hq ht => ?_⟩)
        cases e : (usm Q d).testBit q
        · exact absurd ⟨q, hq, ht, e⟩ no
        · rfl
      obtain ⟨q, q1, q2, q3⟩ := this
      obtain ⟨t1, t2, t3, t4⟩ := (twT_iff hS _ _).mp q2
      have tq : trs (Q' d) q (Q' d) = q := by unfold trs; rw [if_pos rfl]
      obtain ⟨Q'', a1, a2, a3, a4⟩ := ih q (by omega) (fun j => trs (Q' d) q (Q' j)) ⟨fun j hj => trx_lt t1 t2 (h1.1 j hj), fun i j hi hj e => h1.2 i j hi hj (trx_inj e)⟩ (fun j hj => by
        show trs (Q' d) q (Q' j) = Q j
        rw [h2 j hj]
        have n1 := us_n hu j hj
        have n2 := us_n q3 j hj
        unfold trs
        rw [if_neg n1, if_neg n2]) tq
      refine ⟨Q'', a1, a2, a3, fun j hj => ?_⟩
      rw [a4 j hj]
      exact kap_au hS t4 Q' (by omega)
theorem ft_some (hS : c_sok S) {Q : Nat → Nat} {d : Nat} (hd : d < S.1) : ∃ p, p < S.1 ∧ g_ft S (usm Q d) p = true := by
  have : ∃ p, p < S.1 ∧ ∀ j, j < d → Q j ≠ p := by
    apply Classical.byContradiction
    intro no
    have al : ∀ p, p < S.1 → ∃ j, j < d ∧ Q j = p := fun p hp => by
      apply Classical.byContradiction
      intro c
      exact no ⟨p, hp, fun j hj e => c ⟨j, hj, e⟩⟩
    have : (List.range S.1).length ≤ (List.range d).length := by
      refine nd_le (fun p => if hp : p < S.1 then Classical.choose (al p hp) else 0) List.nodup_range (fun p hp => ?_) (fun p p' hp hp' e => ?_)
      · have hp := List.mem_range.mp hp
        rw [dif_pos hp]
        exact List.mem_range.mpr (Classical.choose_spec (al p hp)).1
      · have hp := List.mem_range.mp hp
        have hp' := List.mem_range.mp hp'
        rw [dif_pos hp, dif_pos hp'] at e
        have a := (Classical.choose_spec (al p hp)).2
        have b := (Classical.choose_spec (al p' hp')).2
        rw [← a, ← b, e]
    rw [List.length_range, List.length_range] at this
    omega
  have key : ∀ n p, p ≤ n → p < S.1 → (∀ j, j < d → Q j ≠ p) → ∃ p, p < S.1 ∧ g_ft S (usm Q d) p = true := by
    intro n
    induction n with
    | zero =>
      intro p hp h1 h2
      exact ⟨p, h1, ft_i.mpr ⟨us_f h2, fun q hq => absurd hq (by omega)⟩⟩
    | succ n ih =>
      intro p hp h1 h2
      by_cases c : ∃ q, q < p ∧ ∀ j, j < d → Q j ≠ q
      · obtain ⟨q, q1, q2⟩ := c
        exact ih q (by omega) (by omega) q2
      · refine ⟨p, h1, ft_i.mpr ⟨us_f h2, fun q hq _ => ?_⟩⟩
        cases e : (usm Q d).testBit q
        · exact absurd ⟨q, hq, us_n e⟩ c
        · rfl
  obtain ⟨p, p1, p2⟩ := this
  exact key p p (Nat.le_refl _) p1 p2
end B35
