/-! MATHEMATICS: rising rows, their sets, and keys -/
def slt (A B : Nat → Prop) : Prop := ∃ x, A x ∧ ¬ B x ∧ ∀ y, y < x → (A y ↔ B y)
theorem slt_as {A B : Nat → Prop} (h1 : slt A B) (h2 : slt B A) : False := by
  obtain ⟨x, a1, a2, a3⟩ := h1
  obtain ⟨y, b1, b2, b3⟩ := h2
  rcases Nat.lt_trichotomy x y with c | c | c
  · exact a2 ((b3 x c).mpr a1)
  · subst c; exact a2 b1
  · exact b2 ((a3 y c).mpr b1)
theorem slt_eq {A B : Nat → Prop} (h : slt A B) (e : ∀ x, A x ↔ B x) : False := by
  obtain ⟨x, a1, a2, _⟩ := h
  exact a2 ((e x).mp a1)
theorem slt_tot {A B : Nat → Prop} (h : ¬ ∀ x, A x ↔ B x) : slt A B ∨ slt B A := by
  have h : ∃ x, ¬ (A x ↔ B x) := Classical.not_forall.mp h
  obtain ⟨x, hx⟩ := h
  have key : ∀ n x, x ≤ n → ¬ (A x ↔ B x) → ∃ y, ¬ (A y ↔ B y) ∧ ∀ z, z < y → (A z ↔ B z) := by
    intro n
    induction n with
    | zero => intro x hx h; exact ⟨x, h, fun z hz => absurd hz (by omega)⟩
    | succ n ih =>
      intro x hx h
      by_cases c : ∃ z, z < x ∧ ¬ (A z ↔ B z)
      · obtain ⟨z, z1, z2⟩ := c
        exact ih z (by omega) z2
      · exact ⟨x, h, fun z hz => Classical.byContradiction fun q => c ⟨z, hz, q⟩⟩
  obtain ⟨y, y1, y2⟩ := key x x (Nat.le_refl _) hx
  by_cases a : A y
  · exact Or.inl ⟨y, a, fun b => y1 ⟨fun _ => b, fun _ => a⟩, y2⟩
  · exact Or.inr ⟨y, Classical.byContradiction fun b => y1 ⟨fun q => absurd q a, fun q => absurd q b⟩, a, fun z hz => (y2 z hz).symm⟩
theorem slt_cg {A B A' B' : Nat → Prop} (h1 : ∀ x, A x ↔ A' x) (h2 : ∀ x, B x ↔ B' x) (h : slt A B) : slt A' B' := by
  obtain ⟨x, a1, a2, a3⟩ := h
  exact ⟨x, (h1 x).mp a1, fun q => a2 ((h2 x).mpr q), fun y hy => (h1 y).symm.trans ((a3 y hy).trans (h2 y))⟩
def inc (R : Nat → Nat) (s : Nat) : Prop := ∀ i j, i < j → j < s → R i < R j
def ast (R : Nat → Nat) (s x : Nat) : Prop := ∃ i, i < s ∧ R i = x
theorem ast_slt {R R' : Nat → Nat} {s s' i : Nat} (h : inc R s) (h' : inc R' s') (hj : ∀ j, j < i → j < s ∧ R j = R' j) (hi : i < s') (hd : s ≤ i ∨ R' i < R i) : slt (ast R' s') (ast R s) := by
  refine ⟨R' i, ⟨i, hi, rfl⟩, ?_, fun y hy => ⟨?_, ?_⟩⟩
  · rintro ⟨j, h1, h2⟩
    by_cases c : j < i
    · have := h' j i c hi
      have := (hj j c).2
      omega
    · rcases hd with d | d
      · omega
      · by_cases e : i = j
        · subst e; omega
        · have := h i j (by omega) h1; omega
  · rintro ⟨j, h1, h2⟩
    have c : j < i := by
      apply Classical.byContradiction
      intro c
      by_cases e : i = j
      · subst e; omega
      · have := h' i j (by omega) h1; omega
    exact ⟨j, (hj j c).1, by rw [(hj j c).2]; exact h2⟩
  · rintro ⟨j, h1, h2⟩
    have c : j < i := by
      apply Classical.byContradiction
      intro c
      rcases hd with d | d
      · omega
      · by_cases e : i = j
        · subst e; omega
        · have := h i j (by omega) h1; omega
    exact ⟨j, by omega, by rw [← (hj j c).2]; exact h2⟩
/-- equal sets, equal rows -/
theorem ast_eq {R R' : Nat → Nat} {s : Nat} (h : inc R s) (h' : inc R' s) (e : ∀ x, ast R s x ↔ ast R' s x) : ∀ i, i < s → R i = R' i := by
  have key : ∀ i, i < s → (∀ j, j < i → R j = R' j) → R i = R' i := by
    intro i hi hj
    rcases Nat.lt_trichotomy (R i) (R' i) with c | c | c
    · exact (slt_eq (ast_slt (i := i) h' h (fun j hh => ⟨by omega, (hj j hh).symm⟩) hi (Or.inr c)) e).elim
    · exact c
    · exact (slt_eq (ast_slt (i := i) h h' (fun j hh => ⟨by omega, hj j hh⟩) hi (Or.inr c)) (fun x => (e x).symm)).elim
  have all : ∀ n i, i ≤ n → i < s → R i = R' i := by
    intro n
    induction n with
    | zero => intro i hn hi; exact key i hi (fun j hj => absurd hj (by omega))
    | succ n ih => intro i hn hi; exact key i hi (fun j hj => ih j (by omega) (by omega))
  exact fun i hi => all i i (Nat.le_refl _) hi
/-- insertion -/
theorem ins_spec {num : Nat} : ∀ k R, inc R k → (∀ i, i < k → R i ≠ num) → inc (insW num k R) (k + 1) ∧ (∀ x, ast (insW num k R) (k + 1) x ↔ (x = num ∨ ast R k x)) ∧ ∀ i, k < i → insW num k R i = R i := by
  intro k
  induction k with
  | zero =>
    intro R _ _
    refine ⟨fun i j h1 h2 => by omega, fun x => ⟨?_, ?_⟩, fun i hi => u_ne _ _ (by omega)⟩
    · rintro ⟨i, h1, h2⟩
      have e : i = 0 := by omega
      subst e
      have h2 : z_u R 0 num 0 = x := h2
      rw [u_eq] at h2
      exact Or.inl h2.symm
    · rintro (e | ⟨i, h1, _⟩)
      · exact ⟨0, by omega, by show z_u R 0 num 0 = x; rw [u_eq, e]⟩
      · omega
  | succ k ih =>
    intro R hR hn
    show inc (if num < R k then insW num k (z_u R (k + 1) (R k)) else z_u R (k + 1) num) (k + 2) ∧ (∀ x, ast (if num < R k then insW num k (z_u R (k + 1) (R k)) else z_u R (k + 1) num) (k + 2) x ↔ (x = num ∨ ast R (k + 1) x)) ∧ ∀ i, k + 1 < i → (if num < R k then insW num k (z_u R (k + 1) (R k)) else z_u R (k + 1) num) i = R i
    have nk := hn k (by omega)
    by_cases c : num < R k
    · rw [if_pos c]
      obtain ⟨Q, eQ⟩ : ∃ Q, Q = z_u R (k + 1) (R k) := ⟨_, rfl⟩
      have q : ∀ i, i ≠ k + 1 → Q i = R i := fun i hi => by rw [eQ]; exact u_ne _ _ hi
      have q1 : Q (k + 1) = R k := by rw [eQ]; exact u_eq _ _ _
      rw [← eQ]
      obtain ⟨i1, i2, i3⟩ := ih Q (fun i j h1 h2 => by rw [q i (by omega), q j (by omega)]; exact hR i j h1 (by omega)) (fun i hi => by rw [q i (by omega)]; exact hn i (by omega))
      have lo : ∀ i, i < k + 1 → insW num k Q i < R k := fun i hi => by
        rcases (i2 _).mp ⟨i, hi, rfl⟩ with e | ⟨j, j1, j2⟩
        · omega
        · rw [← j2, q j (by omega)]
          exact hR j k j1 (by omega)
      have hi : insW num k Q (k + 1) = R k := by rw [i3 _ (by omega), q1]
      refine ⟨fun i j h1 h2 => ?_, fun x => ⟨?_, ?_⟩, fun i h => by rw [i3 i (by omega), q i (by omega)]⟩
      · by_cases e : j = k + 1
        · rw [e, hi]; exact lo i (by omega)
        · exact i1 i j h1 (by omega)
      · rintro ⟨i, h1, h2⟩
        by_cases e : i = k + 1
        · rw [e, hi] at h2
          exact Or.inr ⟨k, by omega, h2⟩
        · rcases (i2 x).mp ⟨i, by omega, h2⟩ with f | ⟨j, j1, j2⟩
          · exact Or.inl f
          · exact Or.inr ⟨j, by omega, by rw [← q j (by omega)]; exact j2⟩
      · rintro (e | ⟨j, j1, j2⟩)
        · obtain ⟨i, h1, h2⟩ := (i2 x).mpr (Or.inl e)
          exact ⟨i, by omega, h2⟩
        · by_cases f : j = k
          · exact ⟨k + 1, by omega, by rw [hi, ← f]; exact j2⟩
          · obtain ⟨i, h1, h2⟩ := (i2 x).mpr (Or.inr ⟨j, by omega, by rw [q j (by omega)]; exact j2⟩)
            exact ⟨i, by omega, h2⟩
    · rw [if_neg c]
      refine ⟨fun i j h1 h2 => ?_, fun x => ⟨?_, ?_⟩, fun i h => u_ne _ _ (by omega)⟩
      · by_cases e : j = k + 1
        · rw [e, u_eq, u_ne _ _ (by omega)]
          by_cases f : i = k
          · rw [f]; omega
          · have := hR i k (by omega) (by omega); omega
        · rw [u_ne _ _ (by omega), u_ne _ _ e]
          exact hR i j h1 (by omega)
      · rintro ⟨i, h1, h2⟩
        by_cases e : i = k + 1
        · rw [e, u_eq] at h2
          exact Or.inl h2.symm
        · rw [u_ne _ _ e] at h2
          exact Or.inr ⟨i, by omega, h2⟩
      · rintro (e | ⟨j, j1, j2⟩)
        · exact ⟨k + 1, by omega, by rw [u_eq, e]⟩
        · exact ⟨j, by omega, by rw [u_ne _ _ (by omega)]; exact j2⟩
theorem srt_spec {R : Nat → Nat} {s : Nat} (h : ∀ i j, i < j → j < s → R i ≠ R j) : inc (srt R s) s ∧ ∀ x, ast (srt R s) s x ↔ ast R s x := by
  have key : ∀ k, k + 1 ≤ s → inc (it (fun k R => insW (R (1 + k)) (1 + k) R) R k) (k + 1) ∧ (∀ x, ast (it (fun k R => insW (R (1 + k)) (1 + k) R) R k) (k + 1) x ↔ ast R (k + 1) x) ∧ ∀ i, k < i → it (fun k R => insW (R (1 + k)) (1 + k) R) R k i = R i := by
    intro k
    induction k with
    | zero => intro _; exact ⟨fun i j h1 h2 => by omega, fun _ => Iff.rfl, fun _ _ => rfl⟩
    | succ k ih =>
      intro hk
      obtain ⟨i1, i2, i3⟩ := ih (by omega)
      rw [it_s]
      obtain ⟨Q, eQ⟩ : ∃ Q, Q = it (fun k R => insW (R (1 + k)) (1 + k) R) R k := ⟨_, rfl⟩
      rw [← eQ] at i1 i2 i3 ⊢
      have e : Q (1 + k) = R (1 + k) := i3 _ (by omega)
      show inc (insW (Q (1 + k)) (1 + k) Q) (k + 1 + 1) ∧ (∀ x, ast (insW (Q (1 + k)) (1 + k) Q) (k + 1 + 1) x ↔ _) ∧ ∀ i, k + 1 < i → insW (Q (1 + k)) (1 + k) Q i = R i
      rw [Nat.add_comm 1 k] at e ⊢
      obtain ⟨j1, j2, j3⟩ := ins_spec (num := Q (k + 1)) (k + 1) Q i1 (fun i hi q => by
        obtain ⟨j, a1, a2⟩ := (i2 _).mp ⟨i, hi, rfl⟩
        rw [q, e] at a2
        exact h j (k + 1) (by omega) (by omega) a2)
      refine ⟨j1, fun x => ?_, fun i hi => by rw [j3 i hi, i3 i (by omega)]⟩
      rw [j2, i2, e]
      constructor
      · rintro (f | ⟨j, a1, a2⟩)
        · exact ⟨k + 1, by omega, f.symm⟩
        · exact ⟨j, by omega, a2⟩
      · rintro ⟨j, a1, a2⟩
        by_cases f : j = k + 1
        · left; rw [← a2, f]
        · exact Or.inr ⟨j, by omega, a2⟩
  unfold srt
  cases s with
  | zero => exact ⟨fun i j h1 h2 => by omega, fun x => ⟨fun ⟨i, h1, _⟩ => by omega, fun ⟨i, h1, _⟩ => by omega⟩⟩
  | succ s =>
    obtain ⟨a, b, _⟩ := key s (Nat.le_refl _)
    exact ⟨a, b⟩
/-- keys in digits -/
theorem dig_lt {D D' : Nat → Nat} (h : ∀ i, D i < 128) (h' : ∀ i, D' i < 128) : ∀ k, (it (fun i k => (k <<< 7) ||| D i) 0 k < it (fun i k => (k <<< 7) ||| D' i) 0 k → ∃ i, i < k ∧ (∀ j, j < i → D j = D' j) ∧ D i < D' i) ∧ (it (fun i k => (k <<< 7) ||| D i) 0 k = it (fun i k => (k <<< 7) ||| D' i) 0 k → ∀ i, i < k → D i = D' i) := by
  intro k
  induction k with
  | zero => exact ⟨fun q => absurd q (Nat.lt_irrefl _), fun _ i hi => absurd hi (by omega)⟩
  | succ k ih =>
    rw [it_s, it_s]
    obtain ⟨x, ex⟩ : ∃ x, x = it (fun i k => (k <<< 7) ||| D i) 0 k := ⟨_, rfl⟩
    obtain ⟨y, ey⟩ : ∃ y, y = it (fun i k => (k <<< 7) ||| D' i) 0 k := ⟨_, rfl⟩
    rw [← ex, ← ey] at ih ⊢
    have a : (x <<< 7) ||| D k = x * 128 + D k := by
      rw [← Nat.shiftLeft_add_eq_or_of_lt (show D k < 2 ^ 7 from h k), Nat.shiftLeft_eq]
    have b : (y <<< 7) ||| D' k = y * 128 + D' k := by
      rw [← Nat.shiftLeft_add_eq_or_of_lt (show D' k < 2 ^ 7 from h' k), Nat.shiftLeft_eq]
    rw [a, b]
    have hk := h k
    have hk' := h' k
    constructor
    · intro q
      rcases Nat.lt_trichotomy x y with c | c | c
      · obtain ⟨i, h1, h2, h3⟩ := ih.1 c
        exact ⟨i, by omega, h2, h3⟩
      · exact ⟨k, by omega, ih.2 c, by omega⟩
      · omega
    · intro q
      have c : x = y := by omega
      intro i hi
      by_cases e : i = k
      · subst e; omega
      · exact ih.2 c i (by omega)
theorem ky_lt {R R' : Nat → Nat} {s s' : Nat} (h : inc R s) (h' : inc R' s') (hs : s ≤ 7) (hs' : s' ≤ 7) (hv : ∀ i, i < s → 1 ≤ R i ∧ R i < 128) (hv' : ∀ i, i < s' → 1 ≤ R' i ∧ R' i < 128) (hlt : kyV R s < kyV R' s') : slt (ast R' s') (ast R s) := by
  have d : ∀ i, (if i < s then 128 - R i else 0) < 128 := fun i => by
    split
    · have := hv i (by assumption); omega
    · decide
  have d' : ∀ i, (if i < s' then 128 - R' i else 0) < 128 := fun i => by
    split
    · have := hv' i (by assumption); omega
    · decide
  obtain ⟨i, i1, i2, i3⟩ := (dig_lt d d' 7).1 hlt
  have c' : i < s' := by
    apply Classical.byContradiction
    intro c
    rw [if_neg c] at i3
    omega
  rw [if_pos c'] at i3
  refine ast_slt (i := i) h h' (fun j hj => ?_) c' ?_
  · have e := i2 j hj
    rw [if_pos (show j < s' by omega)] at e
    have b := hv' j (by omega)
    by_cases c : j < s
    · rw [if_pos c] at e
      have := hv j c
      exact ⟨c, by omega⟩
    · rw [if_neg c] at e
      omega
  · by_cases c : i < s
    · rw [if_pos c] at i3
      have := hv i c
      exact Or.inr (by omega)
    · exact Or.inl (by omega)
theorem ky_eq {R R' : Nat → Nat} {s s' : Nat} (hs : s ≤ 7) (hs' : s' ≤ 7) (hv : ∀ i, i < s → 1 ≤ R i ∧ R i < 128) (hv' : ∀ i, i < s' → 1 ≤ R' i ∧ R' i < 128) (he : kyV R s = kyV R' s') : ∀ x, ast R s x ↔ ast R' s' x := by
  have d : ∀ i, (if i < s then 128 - R i else 0) < 128 := fun i => by
    split
    · have := hv i (by assumption); omega
    · decide
  have d' : ∀ i, (if i < s' then 128 - R' i else 0) < 128 := fun i => by
    split
    · have := hv' i (by assumption); omega
    · decide
  have e := (dig_lt d d' 7).2 he
  have k1 : ∀ i, i < s → i < s' ∧ R i = R' i := fun i hi => by
    have q := e i (by omega)
    have := hv i hi
    rw [if_pos hi] at q
    by_cases c : i < s'
    · rw [if_pos c] at q
      have := hv' i c
      exact ⟨c, by omega⟩
    · rw [if_neg c] at q
      omega
  have k2 : ∀ i, i < s' → i < s := fun i hi => by
    have q := e i (by omega)
    have := hv' i hi
    rw [if_pos hi] at q
    by_cases c : i < s
    · exact c
    · rw [if_neg c] at q
      omega
  intro x
  constructor
  · rintro ⟨i, h1, h2⟩
    exact ⟨i, (k1 i h1).1, by rw [← (k1 i h1).2]; exact h2⟩
  · rintro ⟨i, h1, h2⟩
    exact ⟨i, k2 i h1, by rw [(k1 i (k2 i h1)).2]; exact h2⟩
