/-! MATHEMATICS: names given so far, lines that end, their key -/
section B34
variable {S : Sc}
def par (S : Sc) (Q : Nat → Nat) (d i : Nat) : Nat := it (fun j x => x ||| ((S.2.2 i).testBit (Q j)).toNat <<< j) 0 d
def usm (Q : Nat → Nat) (d : Nat) : Nat := it (fun j x => x ||| 2 ^ Q j) 0 d
theorem tn_b (b : Bool) (k j : Nat) : (b.toNat <<< k).testBit j = (decide (k = j) && b) := by
  cases b
  · rw [Bool.toNat_false, Nat.zero_shiftLeft, Nat.zero_testBit, Bool.and_false]
  · rw [Bool.toNat_true, Nat.one_shiftLeft, Nat.testBit_two_pow, Bool.and_true]
theorem par_b (Q : Nat → Nat) (i j : Nat) : ∀ d, (par S Q d i).testBit j = (decide (j < d) && (S.2.2 i).testBit (Q j)) := by
  intro d
  induction d with
  | zero => show (0 : Nat).testBit j = _; rw [Nat.zero_testBit, decide_eq_false (Nat.not_lt_zero _), Bool.false_and]
  | succ d ih =>
    unfold par at ih ⊢
    rw [it_s, Nat.testBit_or, ih, tn_b]
    by_cases e : d = j
    · subst e
      rw [decide_eq_false (Nat.lt_irrefl _), decide_eq_true rfl, decide_eq_true (by omega : d < d + 1)]
      simp
    · rw [decide_eq_false e, Bool.false_and, Bool.or_false]
      congr 1
      by_cases c : j < d
      · rw [decide_eq_true c, decide_eq_true (by omega : j < d + 1)]
      · rw [decide_eq_false c, decide_eq_false (by omega : ¬ j < d + 1)]
theorem par_lt (Q : Nat → Nat) (d i : Nat) : par S Q d i < 2 ^ d := by
  apply Nat.lt_pow_two_of_testBit
  intro j hj
  rw [par_b, decide_eq_false (by omega), Bool.false_and]
theorem par_cg {Q Q' : Nat → Nat} {d : Nat} (h : ∀ j, j < d → Q j = Q' j) (i : Nat) : par S Q d i = par S Q' d i := by
  unfold par
  exact it_congr d (fun j x hj => by rw [h j hj])
theorem usm_b (Q : Nat → Nat) (p : Nat) : ∀ d, (usm Q d).testBit p = true ↔ ∃ j, j < d ∧ Q j = p := by
  intro d
  induction d with
  | zero => show (0 : Nat).testBit p = true ↔ _; rw [Nat.zero_testBit]; exact ⟨fun h => (by cases h), fun ⟨j, h, _⟩ => (by omega)⟩
  | succ d ih =>
    unfold usm at ih ⊢
    rw [it_s, Nat.testBit_or, Bool.or_eq_true, ih, Nat.testBit_two_pow, decide_eq_true_iff]
    constructor
    · rintro (⟨j, h1, h2⟩ | h)
      · exact ⟨j, by omega, h2⟩
      · exact ⟨d, by omega, h⟩
    · rintro ⟨j, h1, h2⟩
      by_cases e : j = d
      · right; rw [← e]; exact h2
      · exact Or.inl ⟨j, by omega, h2⟩
theorem usm_cg {Q Q' : Nat → Nat} {d : Nat} (h : ∀ j, j < d → Q j = Q' j) : usm Q d = usm Q' d := by
  unfold usm
  exact it_congr d (fun j x hj => by rw [h j hj])
/-- the line i is whole with p behind the names before d -/
def ens (S : Sc) (Q : Nat → Nat) (d p i : Nat) : Prop := on S i p ∧ (∀ j, j < d → Q j ≠ p) ∧ ∀ q, on S i q → q = p ∨ ∃ j, j < d ∧ Q j = q
theorem ens_i {Q : Nat → Nat} {d p i : Nat} : anot (S.2.2 i) (usm Q d) = 2 ^ p ↔ ens S Q d p i := by
  constructor
  · intro h
    have b : ∀ q, ((S.2.2 i).testBit q && !(usm Q d).testBit q) = decide (p = q) := fun q => by rw [← an_b, h, Nat.testBit_two_pow]
    have bp := b p
    rw [decide_eq_true rfl, Bool.and_eq_true] at bp
    refine ⟨bp.1, fun j hj e => ?_, fun q hq => ?_⟩
    · have := (usm_b Q p d).mpr ⟨j, hj, e⟩
      rw [this] at bp
      exact absurd bp.2 (by decide)
    · by_cases e : p = q
      · exact Or.inl e.symm
      · right
        have bq := b q
        rw [decide_eq_false e, show (S.2.2 i).testBit q = true from hq, Bool.true_and] at bq
        refine (usm_b Q q d).mp ?_
        cases c : (usm Q d).testBit q
        · rw [c] at bq; cases bq
        · rfl
  · rintro ⟨h1, h2, h3⟩
    apply Nat.eq_of_testBit_eq
    intro q
    rw [an_b, Nat.testBit_two_pow]
    by_cases e : p = q
    · subst e
      rw [decide_eq_true rfl, show (S.2.2 i).testBit p = true from h1, Bool.true_and]
      cases c : (usm Q d).testBit p
      · rfl
      · obtain ⟨j, j1, j2⟩ := (usm_b Q p d).mp c
        exact absurd j2 (h2 j j1)
    · rw [decide_eq_false e]
      cases c : (S.2.2 i).testBit q
      · rfl
      · rcases h3 q c with f | f
        · exact absurd f.symm e
        · rw [(usm_b Q q d).mpr f]
          rfl
theorem ens_bit (hS : c_sok S) {Q : Nat → Nat} {d p i : Nat} (h : ens S Q d p i) : ∃ j, j < d ∧ (par S Q d i).testBit j = true := by
  obtain ⟨h1, h2, h3⟩ := h
  obtain ⟨a, b, hab, ha, hb⟩ := ln_two hS (on_m hS h1)
  have : ∃ q, q ≠ p ∧ on S i q := by
    by_cases e : a = p
    · exact ⟨b, by omega, hb⟩
    · exact ⟨a, e, ha⟩
  obtain ⟨q, hq, ho⟩ := this
  rcases h3 q ho with e | ⟨j, j1, j2⟩
  · exact absurd e hq
  · exact ⟨j, j1, by rw [par_b, decide_eq_true j1, Bool.true_and, j2]; exact ho⟩
theorem ens_dj (hS : c_sok S) {Q : Nat → Nat} {d p i i' : Nat} (h : ens S Q d p i) (h' : ens S Q d p i') {j : Nat} (b : (par S Q d i).testBit j = true) (b' : (par S Q d i').testBit j = true) : i = i' := by
  rw [par_b, Bool.and_eq_true, decide_eq_true_iff] at b b'
  exact ln_un hS (h.2.1 j b.1) b.2 h.1 b'.2 h'.1
/-- numbers of the lines that end so -/
def eS (S : Sc) (Q : Nat → Nat) (d p x : Nat) : Prop := ∃ i, i < S.2.1 ∧ ens S Q d p i ∧ par S Q d i = x
theorem pig {R : Nat → Nat} {s d : Nat} (h : ∀ i, i < s → ∃ j, j < d ∧ (R i).testBit j = true) (hd : ∀ i i' j, i < s → i' < s → (R i).testBit j = true → (R i').testBit j = true → i = i') : s ≤ d := by
  have : (List.range s).length ≤ (List.range d).length := by
    refine nd_le (fun i => if hi : i < s then Classical.choose (h i hi) else 0) List.nodup_range (fun i hi => ?_) (fun i i' hi hi' e => ?_)
    · have hi := List.mem_range.mp hi
      rw [dif_pos hi]
      exact List.mem_range.mpr (Classical.choose_spec (h i hi)).1
    · have hi := List.mem_range.mp hi
      have hi' := List.mem_range.mp hi'
      rw [dif_pos hi, dif_pos hi'] at e
      have a := (Classical.choose_spec (h i hi)).2
      have b := (Classical.choose_spec (h i' hi')).2
      rw [← e] at b
      exact hd i i' _ hi hi' a b
  rw [List.length_range, List.length_range] at this
  exact this
theorem kyC_spec (hS : c_sok S) {Q P : Nat → Nat} {d p : Nat} (hP : d = 0 ∨ ∀ i, i < S.2.1 → P (12 * d + i) = par S Q d i) (E : Nat → Nat) : ∀ k, k ≤ S.2.1 → (∀ x, ast (it (kyS S P p (usm Q d) d) (0, E) k).2 (it (kyS S P p (usm Q d) d) (0, E) k).1 x ↔ ∃ i, i < k ∧ ens S Q d p i ∧ par S Q d i = x) ∧ ∀ i j, i < j → j < (it (kyS S P p (usm Q d) d) (0, E) k).1 → (it (kyS S P p (usm Q d) d) (0, E) k).2 i ≠ (it (kyS S P p (usm Q d) d) (0, E) k).2 j := by
  intro k
  induction k with
  | zero => exact fun _ => ⟨fun x => ⟨fun ⟨i, h, _⟩ => absurd h (Nat.not_lt_zero _), fun ⟨i, h, _⟩ => absurd h (Nat.not_lt_zero _)⟩, fun i j _ h => absurd h (Nat.not_lt_zero _)⟩
  | succ k ih =>
    intro hk
    obtain ⟨i1, i2⟩ := ih (by omega)
    rw [it_s]
    obtain ⟨a, ea⟩ : ∃ a, a = it (kyS S P p (usm Q d) d) (0, E) k := ⟨_, rfl⟩
    rw [← ea] at i1 i2 ⊢
    obtain ⟨c, R⟩ := a
    unfold kyS
    by_cases h : ens S Q d p k
    · rw [if_pos (ens_i.mpr h)]
      have eP : P (12 * d + k) = par S Q d k := by
        rcases hP with z | z
        · obtain ⟨j, j1, _⟩ := ens_bit hS h
          omega
        · exact z k (by omega)
      rw [eP]
      have old : ∀ i, i < c → R i ≠ par S Q d k := fun i hi e => by
        obtain ⟨i', a1, a2, a3⟩ := (i1 _).mp ⟨i, hi, rfl⟩
        obtain ⟨j, j1, j2⟩ := ens_bit hS h
        have : i' = k := ens_dj hS a2 h (j := j) (by rw [a3]; show (R i).testBit j = true; rw [e]; exact j2) j2
        omega
      constructor
      · intro x
        constructor
        · rintro ⟨i, h1, h2⟩
          have h2 : z_u R c (par S Q d k) i = x := h2
          have h1 : i < c + 1 := h1
          by_cases e : i = c
          · rw [e, u_eq] at h2
            exact ⟨k, by omega, h, h2⟩
          · rw [u_ne _ _ e] at h2
            obtain ⟨i', a1, a2, a3⟩ := (i1 x).mp ⟨i, by show i < c; omega, h2⟩
            exact ⟨i', by omega, a2, a3⟩
        · rintro ⟨i', a1, a2, a3⟩
          by_cases e : i' = k
          · refine ⟨c, by show c < c + 1; omega, ?_⟩
            show z_u R c (par S Q d k) c = x
            rw [u_eq, ← e]; exact a3
          · obtain ⟨i, h1, h2⟩ := (i1 x).mpr ⟨i', by omega, a2, a3⟩
            have h1 : i < c := h1
            refine ⟨i, by show i < c + 1; omega, ?_⟩
            show z_u R c (par S Q d k) i = x
            rw [u_ne _ _ (by omega)]
            exact h2
      · intro i j hij hj
        have hj : j < c + 1 := hj
        show z_u R c (par S Q d k) i ≠ z_u R c (par S Q d k) j
        by_cases e : j = c
        · rw [e, u_eq, u_ne _ _ (by omega)]
          exact old i (by omega)
        · rw [u_ne _ _ (by omega), u_ne _ _ e]
          exact i2 i j hij (by show j < c; omega)
    · rw [if_neg (fun q => h (ens_i.mp q))]
      refine ⟨fun x => ?_, i2⟩
      rw [i1]
      exact ⟨fun ⟨i, a, b⟩ => ⟨i, by omega, b⟩, fun ⟨i, a, b⟩ => ⟨i, by
        by_cases e : i = k
        · rw [e] at b; exact absurd b.1 h
        · omega, b⟩⟩
/-- a key in words -/
def isK (S : Sc) (Q : Nat → Nat) (d p c : Nat) : Prop := ∃ R s, inc R s ∧ s ≤ 7 ∧ (∀ i, i < s → 1 ≤ R i ∧ R i < 128) ∧ (∀ x, ast R s x ↔ eS S Q d p x) ∧ c = kyV R s + 1
theorem isK_lt {Q Q' : Nat → Nat} {d d' p p' c c' : Nat} (h : isK S Q d p c) (h' : isK S Q' d' p' c') (hlt : c < c') : slt (eS S Q' d' p') (eS S Q d p) := by
  obtain ⟨R, s, a1, a2, a3, a4, a5⟩ := h
  obtain ⟨R', s', b1, b2, b3, b4, b5⟩ := h'
  exact slt_cg b4 a4 (ky_lt a1 b1 a2 b2 a3 b3 (by omega))
theorem isK_eq {Q Q' : Nat → Nat} {d d' p p' c : Nat} (h : isK S Q d p c) (h' : isK S Q' d' p' c) : ∀ x, eS S Q d p x ↔ eS S Q' d' p' x := by
  obtain ⟨R, s, a1, a2, a3, a4, a5⟩ := h
  obtain ⟨R', s', b1, b2, b3, b4, b5⟩ := h'
  intro x
  rw [← a4, ← b4]
  exact ky_eq a2 b2 a3 b3 (by omega) x
theorem isK_un {Q Q' : Nat → Nat} {d d' p p' c c' : Nat} (h : isK S Q d p c) (h' : isK S Q' d' p' c') (e : ∀ x, eS S Q d p x ↔ eS S Q' d' p' x) : c = c' := by
  rcases Nat.lt_trichotomy c c' with q | q | q
  · exact (slt_eq (isK_lt h h' q) (fun x => (e x).symm)).elim
  · exact q
  · exact (slt_eq (isK_lt h' h q) e).elim
theorem ky0 (R : Nat → Nat) : kyV R 0 = 0 := by
  unfold kyV
  rw [it_congr (g := fun _ k => (k <<< 7) ||| 0) 7 (fun i x _ => by rw [if_neg (Nat.not_lt_zero _)])]
  rfl
theorem key_isK (hS : c_sok S) {Q P : Nat → Nat} {d p : Nat} (hd : d ≤ 7) (hP : d = 0 ∨ ∀ i, i < S.2.1 → P (12 * d + i) = par S Q d i) (E : Nat → Nat) : isK S Q d p (g_key S P p (usm Q d) d E).1 := by
  obtain ⟨k1, k2⟩ := kyC_spec hS (p := p) hP E S.2.1 (Nat.le_refl _)
  have ec : it (kyS S P p (usm Q d) d) (0, E) S.2.1 = kyC S P p (usm Q d) d E := rfl
  rw [ec] at k1 k2
  unfold g_key
  obtain ⟨a, ea⟩ : ∃ a, a = kyC S P p (usm Q d) d E := ⟨_, rfl⟩
  rw [← ea] at k1 k2 ⊢
  obtain ⟨c, R⟩ := a
  show isK S Q d p (if c = 0 then (1, R) else (kyV (srt R c) c + 1, srt R c)).1
  have k1 : ∀ x, ast R c x ↔ eS S Q d p x := k1
  obtain ⟨s1, s2⟩ := srt_spec (R := R) (s := c) k2
  have val : ∀ i, i < c → ∃ l, l < S.2.1 ∧ ens S Q d p l ∧ par S Q d l = srt R c i := fun i hi => (k1 _).mp ((s2 _).mp ⟨i, hi, rfl⟩)
  by_cases c0 : c = 0
  · rw [if_pos c0]
    subst c0
    exact ⟨R, 0, fun i j _ h => absurd h (Nat.not_lt_zero _), (by omega), fun i h => absurd h (Nat.not_lt_zero _), k1, (by rw [ky0])⟩
  · rw [if_neg c0]
    refine ⟨srt R c, c, s1, ?_, fun i hi => ?_, fun x => (s2 x).trans (k1 x), rfl⟩
    · refine Nat.le_trans (pig (R := srt R c) (d := d) (fun i hi => ?_) (fun i i' j hi hi' b b' => ?_)) hd
      · obtain ⟨l, l1, l2, l3⟩ := val i hi
        rw [← l3]
        exact ens_bit hS l2
      · obtain ⟨l, l1, l2, l3⟩ := val i hi
        obtain ⟨l', m1, m2, m3⟩ := val i' hi'
        rw [← l3] at b
        rw [← m3] at b'
        have e := ens_dj hS l2 m2 b b'
        subst e
        have q : srt R c i = srt R c i' := by rw [← l3, ← m3]
        rcases Nat.lt_trichotomy i i' with z | z | z
        · have := s1 i i' z hi'; omega
        · exact z
        · have := s1 i' i z hi; omega
    · obtain ⟨l, l1, l2, l3⟩ := val i hi
      rw [← l3]
      obtain ⟨j, j1, j2⟩ := ens_bit hS l2
      refine ⟨?_, Nat.lt_of_lt_of_le (par_lt Q d l) (Nat.pow_le_pow_right (n := 2) (by decide) hd)⟩
      apply Nat.pos_of_ne_zero
      intro z
      rw [z, Nat.zero_testBit] at j2
      cases j2
end B34
