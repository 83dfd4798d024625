/-! MATHEMATICS: when one name more fits -/
def pq (F T : Sc) (ex : Bool) (N : Nat → Nat) (p v q : Nat) : Prop := match jn F p q with
  | none => ex = true → jn T v (N q) = none
  | some l => ∃ o, jn T v (N q) = some o ∧ g_hold F T ex o l = true ∧ jn T v (N (n_tz (F.2.2 l))) = some o
def fo (F T : Sc) (N : Nat → Nat) (p v q : Nat) : Option Nat := match jn F p q with
  | none => none
  | some l => if F.2.2 l &&& (2 ^ p - 1) = 2 ^ q then jn T v (N q) else none
def tn (o : Option Nat) (t : Nat) : Nat := match o with
  | none => t
  | some o => t ||| 2 ^ o
section B2
variable {F T : Sc} {ex : Bool} {N : Nat → Nat} {p v : Nat}
theorem fs_iff {q t t' : Nat} : g_fitS F T ex N p v q t = .inl t' ↔ pq F T ex N p v q ∧ (∀ o, fo F T N p v q = some o → t.testBit o = false) ∧ t' = tn (fo F T N p v q) t := by
  unfold g_fitS pq fo
  cases hj : jn F p q with
  | none =>
    dsimp only
    by_cases c : ex = true ∧ jn T v (N q) ≠ none
    · rw [if_pos c]
      constructor
      · intro h; cases h
      · rintro ⟨h1, _, _⟩; exact absurd (h1 c.1) c.2
    · rw [if_neg c]
      constructor
      · intro h
        cases h
        exact ⟨fun he => Classical.byContradiction fun hn => c ⟨he, hn⟩, fun o ho => (by cases ho), rfl⟩
      · rintro ⟨_, _, h3⟩
        rw [h3]
        rfl
  | some l =>
    dsimp only
    cases hT : jn T v (N q) with
    | none =>
      dsimp only
      constructor
      · intro h; cases h
      · rintro ⟨⟨o, h1, _⟩, _⟩; cases h1
    | some o =>
      dsimp only
      by_cases c1 : g_hold F T ex o l = false
      · rw [if_pos c1]
        constructor
        · intro h; cases h
        · rintro ⟨⟨o', h1, h2, _⟩, _⟩
          cases h1
          rw [c1] at h2
          cases h2
      · rw [if_neg c1]
        by_cases c2 : jn T v (N (n_tz (F.2.2 l))) ≠ some o
        · rw [if_pos c2]
          constructor
          · intro h; cases h
          · rintro ⟨⟨o', h1, _, h3⟩, _⟩
            cases h1
            exact absurd h3 c2
        · rw [if_neg c2]
          have c2' : jn T v (N (n_tz (F.2.2 l))) = some o := Classical.byContradiction c2
          have c1' : g_hold F T ex o l = true := by
            cases hh : g_hold F T ex o l
            · exact absurd hh c1
            · rfl
          by_cases c3 : F.2.2 l &&& (2 ^ p - 1) = 2 ^ q
          · rw [if_pos c3, if_pos c3]
            cases ct : t.testBit o
            · rw [if_neg (by decide)]
              constructor
              · intro h
                cases h
                exact ⟨⟨o, rfl, c1', c2'⟩, fun o' ho => (by cases ho; exact ct), rfl⟩
              · rintro ⟨_, _, h3⟩
                rw [h3]
                rfl
            · rw [if_pos rfl]
              constructor
              · intro h; cases h
              · rintro ⟨_, h2, _⟩
                have := h2 o rfl
                rw [ct] at this
                cases this
          · rw [if_neg c3, if_neg c3]
            constructor
            · intro h
              cases h
              exact ⟨⟨o, rfl, c1', c2'⟩, fun o' ho => (by cases ho), rfl⟩
            · rintro ⟨_, _, h3⟩
              rw [h3]
              rfl
def fsh (F T : Sc) (N : Nat → Nat) (p v k t : Nat) : Prop := (∀ q, q < k → ∀ o, fo F T N p v q = some o → t.testBit o = false) ∧ ∀ q q' o, q < q' → q' < k → fo F T N p v q = some o → fo F T N p v q' ≠ some o
def tbs (F T : Sc) (N : Nat → Nat) (p v k t t' : Nat) : Prop := ∀ o, t'.testBit o = true ↔ t.testBit o = true ∨ ∃ q, q < k ∧ fo F T N p v q = some o
theorem tn_bit (x : Option Nat) (t o : Nat) : (tn x t).testBit o = true ↔ t.testBit o = true ∨ x = some o := by
  unfold tn
  cases x with
  | none => simp
  | some y =>
    dsimp only
    rw [Nat.testBit_or, Bool.or_eq_true, Nat.testBit_two_pow, decide_eq_true_iff]
    constructor
    · rintro (h | h)
      · exact Or.inl h
      · exact Or.inr (by rw [h])
    · rintro (h | h)
      · exact Or.inl h
      · exact Or.inr (Option.some.inj h)
theorem its_so {t : Nat} : ∀ k t', its (g_fitS F T ex N p v) t k = .inl t' → (∀ q, q < k → pq F T ex N p v q) ∧ fsh F T N p v k t ∧ tbs F T N p v k t t' := by
  intro k
  induction k with
  | zero =>
    intro t' h
    cases h
    exact ⟨fun q hq => absurd hq (Nat.not_lt_zero _), ⟨fun q hq => absurd hq (Nat.not_lt_zero _), fun q q' o _ h => absurd h (Nat.not_lt_zero _)⟩, fun o => ⟨Or.inl, fun h => by
      rcases h with h | ⟨q, hq, _⟩
      · exact h
      · exact absurd hq (Nat.not_lt_zero _)⟩⟩
  | succ k ih =>
    intro t' h
    unfold its at h
    cases hk : its (g_fitS F T ex N p v) t k with
    | inr u => rw [hk] at h; cases h
    | inl t1 =>
      rw [hk] at h
      dsimp only at h
      obtain ⟨i1, ⟨i2, i3⟩, i4⟩ := ih t1 hk
      obtain ⟨s1, s2, s3⟩ := fs_iff.mp h
      refine ⟨fun q hq => ?_, ⟨fun q hq o ho => ?_, fun q q' o hqq hq' ho ho' => ?_⟩, fun o => ?_⟩
      · by_cases e : q = k
        · rw [e]; exact s1
        · exact i1 q (by omega)
      · by_cases e : q = k
        · rw [e] at ho
          have := s2 o ho
          apply Bool.eq_false_iff.mpr
          intro ht
          rw [(i4 o).mpr (Or.inl ht)] at this
          cases this
        · exact i2 q (by omega) o ho
      · by_cases e : q' = k
        · rw [e] at ho'
          have := s2 o ho'
          rw [(i4 o).mpr (Or.inr ⟨q, by omega, ho⟩)] at this
          cases this
        · exact i3 q q' o hqq (by omega) ho ho'
      · rw [s3, tn_bit, i4]
        constructor
        · rintro ((h | ⟨q, hq, ho⟩) | h)
          · exact Or.inl h
          · exact Or.inr ⟨q, by omega, ho⟩
          · exact Or.inr ⟨k, by omega, h⟩
        · rintro (h | ⟨q, hq, ho⟩)
          · exact Or.inl (Or.inl h)
          · by_cases e : q = k
            · rw [e] at ho; exact Or.inr ho
            · exact Or.inl (Or.inr ⟨q, by omega, ho⟩)
theorem its_co {t : Nat} : ∀ k, (∀ q, q < k → pq F T ex N p v q) → fsh F T N p v k t → ∃ t', its (g_fitS F T ex N p v) t k = .inl t' := by
  intro k
  induction k with
  | zero => intro _ _; exact ⟨t, rfl⟩
  | succ k ih =>
    intro h1 h2
    obtain ⟨t1, e1⟩ := ih (fun q hq => h1 q (by omega)) ⟨fun q hq => h2.1 q (by omega), fun q q' o h3 h4 => h2.2 q q' o h3 (by omega)⟩
    obtain ⟨_, _, i4⟩ := its_so k t1 e1
    refine ⟨tn (fo F T N p v k) t1, ?_⟩
    unfold its
    rw [e1]
    dsimp only
    refine fs_iff.mpr ⟨h1 k (by omega), fun o ho => ?_, rfl⟩
    apply Bool.eq_false_iff.mpr
    intro ht
    rcases (i4 o).mp ht with h | ⟨q, hq, ho'⟩
    · have := h2.1 k (by omega) o ho
      rw [h] at this
      cases this
    · exact h2.2 q k o hq (by omega) ho' ho
theorem fit_so {t t' : Nat} (h : g_fit F T ex N p v t = some t') : (ex = true → n_pc (c_on F p) = n_pc (c_on T v)) ∧ (∀ q, q < p → pq F T ex N p v q) ∧ fsh F T N p v p t ∧ tbs F T N p v p t t' := by
  unfold g_fit at h
  by_cases c : ex = true ∧ n_pc (c_on F p) ≠ n_pc (c_on T v)
  · rw [if_pos c] at h; cases h
  · rw [if_neg c] at h
    cases hk : its (g_fitS F T ex N p v) t p with
    | inr u => rw [hk] at h; cases h
    | inl t1 =>
      rw [hk] at h
      cases h
      exact ⟨fun he => Classical.byContradiction fun hn => c ⟨he, hn⟩, its_so p _ hk⟩
theorem fit_co {t : Nat} (h0 : ex = true → n_pc (c_on F p) = n_pc (c_on T v)) (h1 : ∀ q, q < p → pq F T ex N p v q) (h2 : fsh F T N p v p t) : ∃ t', g_fit F T ex N p v t = some t' := by
  obtain ⟨t', e⟩ := its_co p h1 h2
  refine ⟨t', ?_⟩
  unfold g_fit
  rw [if_neg (fun c => c.2 (h0 c.1)), e]
end B2
