/-! MATHEMATICS: fours -/
section B17
variable {S : Sc}
theorem cnt_sm (P : Nat → Bool) : ∀ n, (List.range n).countP P = sm (fun i => (P i).toNat) n := by
  intro n
  induction n with
  | zero => rfl
  | succ n ih =>
    rw [List.range_succ, List.countP_append, ih, sm_s, List.countP_singleton]
    cases P n <;> rfl
theorem pc_sm (x : Nat) : n_pc x = sm (fun i => (x.testBit i).toNat) 12 := cnt_sm (fun i => x.testBit i) 12
theorem pc_or (x y : Nat) : n_pc (x ||| y) + n_pc (x &&& y) = n_pc x + n_pc y := by
  rw [pc_sm, pc_sm, pc_sm, pc_sm, ← sm_add, ← sm_add]
  refine sm_cg (fun i _ => ?_)
  rw [Nat.testBit_or, Nat.testBit_and]
  cases x.testBit i <;> cases y.testBit i <;> rfl
theorem pc_0 {x : Nat} (hx : x < 2 ^ 12) (h : n_pc x = 0) : x = 0 := by
  apply Classical.byContradiction
  intro n
  have : ∃ i, x.testBit i = true := by
    apply Classical.byContradiction
    intro q
    apply n
    apply Nat.eq_of_testBit_eq
    intro i
    rw [Nat.zero_testBit]
    exact Bool.eq_false_iff.mpr (fun h => q ⟨i, h⟩)
  obtain ⟨i, hi⟩ := this
  have h12 : i < 12 := by
    apply Classical.byContradiction
    intro q
    rw [Nat.testBit_lt_two_pow (Nat.lt_of_lt_of_le hx (Nat.pow_le_pow_right (by decide) (by omega)))] at hi
    cases hi
  rw [pc_len, List.length_eq_zero_iff] at h
  have : i ∈ (List.range 12).filter (fun i => x.testBit i) := bt_mem.mpr ⟨h12, hi⟩
  rw [h] at this
  cases this
theorem pc_2p {d : Nat} (hd : d < 12) : n_pc (2 ^ d) = 1 := by
  have : ∀ d, d < 12 → n_pc (2 ^ d) = 1 := by decide +kernel
  exact this d hd
theorem pc_up {y d : Nat} (hd : d < 12) (hy : y < 2 ^ d) : n_pc (y ||| 2 ^ d) = n_pc y + 1 := by
  have h := pc_or y (2 ^ d)
  have z : y &&& 2 ^ d = 0 := by
    apply Nat.eq_of_testBit_eq
    intro i
    rw [Nat.testBit_and, Nat.zero_testBit, Nat.testBit_two_pow]
    by_cases e : d = i
    · rw [← e, Nat.testBit_lt_two_pow hy]; rfl
    · rw [decide_eq_false e, Bool.and_false]
  rw [z, pc_2p hd] at h
  have : n_pc 0 = 0 := by decide
  omega
theorem or_2p {y d : Nat} (hy : y < 2 ^ d) : y ||| 2 ^ d = 2 ^ d + y := by
  rw [Nat.or_comm]
  exact (Nat.two_pow_add_eq_or_of_lt hy 1 |> fun h => by rw [Nat.mul_one] at h; exact h.symm)
theorem sm_spl (f : Nat → Nat) (a : Nat) : ∀ b, sm f (a + b) = sm f a + sm (fun i => f (a + i)) b := by
  intro b
  induction b with
  | zero => rfl
  | succ b ih =>
    rw [← Nat.add_assoc, sm_s, ih, sm_s]
    omega
theorem sm_1st (f : Nat → Nat) : ∀ n, 0 < n → (∀ i, 0 < i → i < n → f i = 0) → sm f n = f 0 := by
  intro n
  induction n with
  | zero => intro h; omega
  | succ n ih =>
    intro _ h
    rw [sm_s]
    by_cases c : n = 0
    · rw [c]; show 0 + f 0 = f 0; omega
    · rw [ih (by omega) (fun i h1 h2 => h i h1 (by omega)), h n (by omega) (by omega), Nat.add_zero]
theorem sm_if (c : Prop) [Decidable c] (f : Nat → Nat) (n : Nat) : sm (fun i => if c then f i else 0) n = if c then sm f n else 0 := by
  by_cases h : c
  · rw [if_pos h]; exact sm_cg (fun i _ => by rw [if_pos h])
  · rw [if_neg h, sm_cg (g := fun _ => 0) (fun i _ => by rw [if_neg h]), sm_0]
/-- sets of lines by their last one -/
theorem pcs0 (f : Nat → Nat) {m : Nat} (hm : m ≤ 12) : sm (fun x => if n_pc x = 0 then f x else 0) (2 ^ m) = f 0 := by
  have z : n_pc 0 = 0 := by decide
  rw [sm_1st _ _ (Nat.two_pow_pos _) (fun i h1 h2 => ?_), if_pos z]
  rw [if_neg]
  intro h
  have := pc_0 (Nat.lt_of_lt_of_le h2 (Nat.pow_le_pow_right (by decide) hm)) h
  omega
theorem pcs (f : Nat → Nat) (j : Nat) : ∀ m, m ≤ 12 → sm (fun x => if n_pc x = j + 1 then f x else 0) (2 ^ m) = sm (fun d => sm (fun y => if n_pc y = j then f (y ||| 2 ^ d) else 0) (2 ^ d)) m := by
  intro m
  induction m with
  | zero =>
    intro _
    show 0 + (if n_pc 0 = j + 1 then f 0 else 0) = 0
    have z : n_pc 0 = 0 := by decide
    rw [z, if_neg (by omega)]
  | succ m ih =>
    intro hm
    rw [Nat.pow_succ, Nat.mul_two, sm_spl, ih (by omega), sm_s]
    congr 1
    refine sm_cg (fun y hy => ?_)
    rw [← or_2p hy, pc_up (by omega) hy]
    by_cases c : n_pc y = j
    · rw [if_pos (by omega), if_pos c]
    · rw [if_neg (by omega), if_neg c]
theorem sm_from (h : Nat → Nat) (s m : Nat) : sm (fun k => h (s + k)) (m - s) = sm (fun b => if s ≤ b then h b else 0) m := by
  by_cases c : s ≤ m
  · have e : m = s + (m - s) := by omega
    rw [show sm (fun b => if s ≤ b then h b else 0) m = sm (fun b => if s ≤ b then h b else 0) (s + (m - s)) by rw [← e], sm_spl, sm_cg (n := s) (g := fun _ => 0) (fun i hi => by rw [if_neg (by omega)]), sm_0, Nat.zero_add]
    exact sm_cg (fun i _ => by rw [if_pos (by omega)])
  · rw [show m - s = 0 by omega, sm_cg (n := m) (g := fun _ => 0) (fun i hi => by rw [if_neg (by omega)]), sm_0]
    rfl
theorem sm_to (h : Nat → Nat) {b m : Nat} (hb : b ≤ m) : sm h b = sm (fun a => if a < b then h a else 0) m := by
  have e : m = b + (m - b) := by omega
  rw [show sm (fun a => if a < b then h a else 0) m = sm (fun a => if a < b then h a else 0) (b + (m - b)) by rw [← e], sm_spl, sm_cg (n := m - b) (g := fun _ => 0) (fun i hi => by rw [if_neg (by omega)]), sm_0, Nat.add_zero]
  exact sm_cg (fun i hi => by rw [if_pos hi])
/-- what four lines have in common, two by two -/
theorem met_b (S : Sc) (x i : Nat) : (c_met S x).testBit i = true ↔ ∃ a b, b < a ∧ a < S.2.1 ∧ x.testBit a = true ∧ x.testBit b = true ∧ on S a i ∧ on S b i := by
  have inner : ∀ a v k, (it (fun b v => if x.testBit a && x.testBit b then v ||| (S.2.2 a &&& S.2.2 b) else v) v k).testBit i = true ↔ (v.testBit i = true ∨ ∃ b, b < k ∧ x.testBit a = true ∧ x.testBit b = true ∧ on S a i ∧ on S b i) := by
    intro a v k
    induction k with
    | zero => exact ⟨Or.inl, fun h => by rcases h with h | ⟨b, hb, _⟩; exact h; exact absurd hb (Nat.not_lt_zero _)⟩
    | succ k ih =>
      rw [it_s]
      cases hc : (x.testBit a && x.testBit k)
      · rw [if_neg (by decide), ih]
        constructor
        · rintro (h | ⟨b, h1, h2⟩)
          · exact Or.inl h
          · exact Or.inr ⟨b, by omega, h2⟩
        · rintro (h | ⟨b, h1, h2, h3, h4⟩)
          · exact Or.inl h
          · by_cases e : b = k
            · rw [e] at h3; rw [h2, h3] at hc; cases hc
            · exact Or.inr ⟨b, by omega, h2, h3, h4⟩
      · rw [if_pos rfl, Nat.testBit_or, Nat.testBit_and, Bool.or_eq_true, Bool.and_eq_true, ih]
        rw [Bool.and_eq_true] at hc
        constructor
        · rintro ((h | ⟨b, h1, h2⟩) | h)
          · exact Or.inl h
          · exact Or.inr ⟨b, by omega, h2⟩
          · exact Or.inr ⟨k, by omega, hc.1, hc.2, h⟩
        · rintro (h | ⟨b, h1, h2, h3, h4⟩)
          · exact Or.inl (Or.inl h)
          · by_cases e : b = k
            · rw [e] at h4; exact Or.inr h4
            · exact Or.inl (Or.inr ⟨b, by omega, h2, h3, h4⟩)
  have outer : ∀ k, (it (fun a v => it (fun b v => if x.testBit a && x.testBit b then v ||| (S.2.2 a &&& S.2.2 b) else v) v a) 0 k).testBit i = true ↔ ∃ a b, b < a ∧ a < k ∧ x.testBit a = true ∧ x.testBit b = true ∧ on S a i ∧ on S b i := by
    intro k
    induction k with
    | zero => exact ⟨fun h => (by have h : (0 : Nat).testBit i = true := h; rw [Nat.zero_testBit] at h; cases h), fun ⟨a, b, _, h, _⟩ => absurd h (Nat.not_lt_zero _)⟩
    | succ k ih =>
      rw [it_s, inner k _ k, ih]
      constructor
      · rintro (⟨a, b, h1, h2, h3⟩ | ⟨b, h1, h2⟩)
        · exact ⟨a, b, h1, by omega, h3⟩
        · exact ⟨k, b, h1, by omega, h2⟩
      · rintro ⟨a, b, h1, h2, h3⟩
        by_cases e : a = k
        · rw [e] at h1 h3; exact Or.inr ⟨b, h1, h3⟩
        · exact Or.inl ⟨a, b, h1, by omega, h3⟩
  exact outer S.2.1
theorem b4 (a b c d i : Nat) : (2 ^ a ||| 2 ^ b ||| 2 ^ c ||| 2 ^ d).testBit i = true ↔ (i = a ∨ i = b ∨ i = c ∨ i = d) := by
  rw [Nat.testBit_or, Nat.testBit_or, bt2, Nat.testBit_two_pow, Nat.testBit_two_pow, Bool.or_eq_true, Bool.or_eq_true, Bool.or_eq_true, decide_eq_true_iff, decide_eq_true_iff, decide_eq_true_iff, decide_eq_true_iff]
  omega
theorem dj_or {x y z : Nat} : (x ||| y) &&& z = 0 ↔ (x &&& z = 0 ∧ y &&& z = 0) := by
  have e : (x ||| y) &&& z = (x &&& z) ||| (y &&& z) := by
    apply Nat.eq_of_testBit_eq
    intro i
    simp only [Nat.testBit_and, Nat.testBit_or]
    cases x.testBit i <;> cases y.testBit i <;> cases z.testBit i <;> rfl
  rw [e]
  constructor
  · intro h
    have hb : ∀ i, ((x &&& z).testBit i || (y &&& z).testBit i) = false := fun i => by
      have := congrArg (fun w => w.testBit i) h
      simp only [Nat.testBit_or, Nat.zero_testBit] at this
      exact this
    constructor
    · apply Nat.eq_of_testBit_eq
      intro i
      rw [Nat.zero_testBit]
      exact (Bool.or_eq_false_iff.mp (hb i)).1
    · apply Nat.eq_of_testBit_eq
      intro i
      rw [Nat.zero_testBit]
      exact (Bool.or_eq_false_iff.mp (hb i)).2
  · rintro ⟨h1, h2⟩
    rw [h1, h2]
    rfl
/-- six sets of one point at most: six points in all, just if each has one and no two the same -/
theorem six {u v w x y z : Nat} (l : u < 256 ∧ v < 256 ∧ w < 256 ∧ x < 256 ∧ y < 256 ∧ z < 256) (p : n_pc u ≤ 1 ∧ n_pc v ≤ 1 ∧ n_pc w ≤ 1 ∧ n_pc x ≤ 1 ∧ n_pc y ≤ 1 ∧ n_pc z ≤ 1) : n_pc (u ||| v ||| w ||| x ||| y ||| z) = 6 ↔ ((u ≠ 0 ∧ v ≠ 0 ∧ w ≠ 0 ∧ x ≠ 0 ∧ y ≠ 0 ∧ z ≠ 0) ∧ u &&& v = 0 ∧ (u &&& w = 0 ∧ v &&& w = 0) ∧ (u &&& x = 0 ∧ v &&& x = 0 ∧ w &&& x = 0) ∧ (u &&& y = 0 ∧ v &&& y = 0 ∧ w &&& y = 0 ∧ x &&& y = 0) ∧ (u &&& z = 0 ∧ v &&& z = 0 ∧ w &&& z = 0 ∧ x &&& z = 0 ∧ y &&& z = 0)) := by
  obtain ⟨l1, l2, l3, l4, l5, l6⟩ := l
  obtain ⟨p1, p2, p3, p4, p5, p6⟩ := p
  have e1 := pc_or u v
  have e2 := pc_or (u ||| v) w
  have e3 := pc_or (u ||| v ||| w) x
  have e4 := pc_or (u ||| v ||| w ||| x) y
  have e5 := pc_or (u ||| v ||| w ||| x ||| y) z
  have z0 : n_pc 0 = 0 := by decide
  have b : ∀ q, q < 256 → n_pc q ≤ 1 → (n_pc q = 1 ↔ q ≠ 0) := fun q h1 h2 => ⟨fun h e => (by rw [e, z0] at h; cases h), fun h => by
    have : n_pc q ≠ 0 := fun e => h (pc_0 (Nat.lt_trans h1 (by decide)) e)
    omega⟩
  have s : ∀ q r, r < 256 → (n_pc (q &&& r) = 0 ↔ q &&& r = 0) := fun q r hr => ⟨fun h => pc_0 (Nat.lt_of_le_of_lt Nat.and_le_right (Nat.lt_trans hr (by decide))) h, fun h => by rw [h]; exact z0⟩
  have d2 : ((u ||| v) &&& w = 0) ↔ (u &&& w = 0 ∧ v &&& w = 0) := dj_or
  have d3 : ((u ||| v ||| w) &&& x = 0) ↔ (u &&& x = 0 ∧ v &&& x = 0 ∧ w &&& x = 0) := by rw [dj_or, dj_or]; exact and_assoc
  have d4 : ((u ||| v ||| w ||| x) &&& y = 0) ↔ (u &&& y = 0 ∧ v &&& y = 0 ∧ w &&& y = 0 ∧ x &&& y = 0) := by rw [dj_or, dj_or, dj_or]; constructor; exact fun h => ⟨h.1.1.1, h.1.1.2, h.1.2, h.2⟩; exact fun h => ⟨⟨⟨h.1, h.2.1⟩, h.2.2.1⟩, h.2.2.2⟩
  have d5 : ((u ||| v ||| w ||| x ||| y) &&& z = 0) ↔ (u &&& z = 0 ∧ v &&& z = 0 ∧ w &&& z = 0 ∧ x &&& z = 0 ∧ y &&& z = 0) := by rw [dj_or, dj_or, dj_or, dj_or]; constructor; exact fun h => ⟨h.1.1.1.1, h.1.1.1.2, h.1.1.2, h.1.2, h.2⟩; exact fun h => ⟨⟨⟨⟨h.1, h.2.1⟩, h.2.2.1⟩, h.2.2.2.1⟩, h.2.2.2.2⟩
  rw [← d2, ← d3, ← d4, ← d5, ← s u v l2, ← s _ w l3, ← s _ x l4, ← s _ y l5, ← s _ z l6, ← b u l1 p1, ← b v l2 p2, ← b w l3 p3, ← b x l4 p4, ← b y l5 p5, ← b z l6 p6]
  omega
theorem and3 (x y z : Nat) : (x &&& y) &&& (x &&& z) = x &&& y &&& z := by
  apply Nat.eq_of_testBit_eq
  intro i
  simp only [Nat.testBit_and]
  cases x.testBit i <;> cases y.testBit i <;> cases z.testBit i <;> rfl
theorem four_eq (hS : c_sok S) {a b c d : Nat} (hab : a < b) (hbc : b < c) (hcd : c < d) (hd : d < S.2.1) : decide (n_pc (c_met S (2 ^ a ||| 2 ^ b ||| 2 ^ c ||| 2 ^ d)) = 6) = (g_tri (S.2.2 a) (S.2.2 b) (S.2.2 c) && (g_tri (S.2.2 a) (S.2.2 b) (S.2.2 d) && g_tri (S.2.2 a) (S.2.2 c) (S.2.2 d) && g_tri (S.2.2 b) (S.2.2 c) (S.2.2 d))) := by
  obtain ⟨A, eA⟩ : ∃ A, A = S.2.2 a := ⟨_, rfl⟩
  obtain ⟨B, eB⟩ : ∃ B, B = S.2.2 b := ⟨_, rfl⟩
  obtain ⟨C, eC⟩ : ∃ C, C = S.2.2 c := ⟨_, rfl⟩
  obtain ⟨D, eD⟩ : ∃ D, D = S.2.2 d := ⟨_, rfl⟩
  obtain ⟨X, eX⟩ : ∃ X, X = 2 ^ a ||| 2 ^ b ||| 2 ^ c ||| 2 ^ d := ⟨_, rfl⟩
  have bX : ∀ i, X.testBit i = true ↔ (i = a ∨ i = b ∨ i = c ∨ i = d) := fun i => by rw [eX]; exact b4 a b c d i
  rw [← eX]
  have em : c_met S X = (A &&& B) ||| (A &&& C) ||| (A &&& D) ||| (B &&& C) ||| (B &&& D) ||| (C &&& D) := by
    apply Nat.eq_of_testBit_eq
    intro i
    apply Bool.eq_iff_iff.mpr
    rw [met_b]
    simp only [Nat.testBit_or, Nat.testBit_and, Bool.or_eq_true, Bool.and_eq_true]
    rw [eA, eB, eC, eD]
    constructor
    · rintro ⟨p, q, h1, h2, h3, h4, h5, h6⟩
      rw [bX] at h3 h4
      unfold on at h5 h6
      rcases h3 with e | e | e | e <;> rcases h4 with f | f | f | f <;> subst e <;> subst f <;> first | omega | simp [h5, h6]
    · rintro (((((h | h) | h) | h) | h) | h)
      · exact ⟨b, a, hab, by omega, (bX b).mpr (by omega), (bX a).mpr (by omega), h.2, h.1⟩
      · exact ⟨c, a, by omega, by omega, (bX c).mpr (by omega), (bX a).mpr (by omega), h.2, h.1⟩
      · exact ⟨d, a, by omega, hd, (bX d).mpr (by omega), (bX a).mpr (by omega), h.2, h.1⟩
      · exact ⟨c, b, hbc, by omega, (bX c).mpr (by omega), (bX b).mpr (by omega), h.2, h.1⟩
      · exact ⟨d, b, by omega, hd, (bX d).mpr (by omega), (bX b).mpr (by omega), h.2, h.1⟩
      · exact ⟨d, c, hcd, hd, (bX d).mpr (by omega), (bX c).mpr (by omega), h.2, h.1⟩
  have lA : A < 256 := by rw [eA]; exact sok_256 hS a
  have lB : B < 256 := by rw [eB]; exact sok_256 hS b
  have lC : C < 256 := by rw [eC]; exact sok_256 hS c
  rw [em, ← eA, ← eB, ← eC, ← eD]
  have pr := hS.2.2.2.2
  have s6 := six (u := A &&& B) (v := A &&& C) (w := A &&& D) (x := B &&& C) (y := B &&& D) (z := C &&& D) ⟨and_lt256 lA, and_lt256 lA, and_lt256 lA, and_lt256 lB, and_lt256 lB, and_lt256 lC⟩ ⟨by rw [eA, eB]; exact pr a b hab (by omega), by rw [eA, eC]; exact pr a c (by omega) (by omega), by rw [eA, eD]; exact pr a d (by omega) hd, by rw [eB, eC]; exact pr b c hbc (by omega), by rw [eB, eD]; exact pr b d (by omega) hd, by rw [eC, eD]; exact pr c d hcd hd⟩
  apply Bool.eq_iff_iff.mpr
  rw [decide_eq_true_iff, s6, Bool.and_eq_true, Bool.and_eq_true, Bool.and_eq_true]
  unfold g_tri
  rw [decide_eq_true_iff, decide_eq_true_iff, decide_eq_true_iff, decide_eq_true_iff]
  have t1 : (A &&& B) &&& (A &&& C) = A &&& B &&& C := and3 A B C
  have t2 : (A &&& B) &&& (A &&& D) = A &&& B &&& D := and3 A B D
  have t3 : (A &&& C) &&& (A &&& D) = A &&& C &&& D := and3 A C D
  have t4 : (B &&& C) &&& (B &&& D) = B &&& C &&& D := and3 B C D
  have sub : ∀ {x y : Nat}, (∀ i, x.testBit i = true → y.testBit i = true) → y = 0 → x = 0 := fun h e => by
    apply Nat.eq_of_testBit_eq
    intro i
    rw [Nat.zero_testBit]
    apply Bool.eq_false_iff.mpr
    intro q
    have := h i q
    rw [e, Nat.zero_testBit] at this
    cases this
  constructor
  · rintro ⟨⟨n1, n2, n3, n4, n5, n6⟩, c1, ⟨c2, c3⟩, ⟨c4, c5, c6⟩, ⟨c7, c8, c9, c10⟩, c11, c12, c13, c14, c15⟩
    rw [t1] at c1
    rw [t2] at c2
    rw [t3] at c3
    rw [t4] at c10
    exact ⟨⟨n1, n2, n4, c1⟩, ⟨⟨n1, n3, n5, c2⟩, n2, n3, n6, c3⟩, n4, n5, n6, c10⟩
  · rintro ⟨⟨n1, n2, n4, c1⟩, ⟨⟨_, n3, n5, c2⟩, _, _, n6, c3⟩, _, _, _, c10⟩
    have k : ∀ {x : Nat}, (∀ i, x.testBit i = true → A.testBit i = true ∧ B.testBit i = true ∧ C.testBit i = true) → x = 0 := fun h => sub (y := A &&& B &&& C) (fun i hi => by rw [Nat.testBit_and, Nat.testBit_and, (h i hi).1, (h i hi).2.1, (h i hi).2.2]; rfl) c1
    have k2 : ∀ {x : Nat}, (∀ i, x.testBit i = true → A.testBit i = true ∧ B.testBit i = true ∧ D.testBit i = true) → x = 0 := fun h => sub (y := A &&& B &&& D) (fun i hi => by rw [Nat.testBit_and, Nat.testBit_and, (h i hi).1, (h i hi).2.1, (h i hi).2.2]; rfl) c2
    have k3 : ∀ {x : Nat}, (∀ i, x.testBit i = true → A.testBit i = true ∧ C.testBit i = true ∧ D.testBit i = true) → x = 0 := fun h => sub (y := A &&& C &&& D) (fun i hi => by rw [Nat.testBit_and, Nat.testBit_and, (h i hi).1, (h i hi).2.1, (h i hi).2.2]; rfl) c3
    have k4 : ∀ {x : Nat}, (∀ i, x.testBit i = true → B.testBit i = true ∧ C.testBit i = true ∧ D.testBit i = true) → x = 0 := fun h => sub (y := B &&& C &&& D) (fun i hi => by rw [Nat.testBit_and, Nat.testBit_and, (h i hi).1, (h i hi).2.1, (h i hi).2.2]; rfl) c10
    have bb : ∀ {x y z w i : Nat}, ((x &&& y) &&& (z &&& w)).testBit i = true → (x.testBit i = true ∧ y.testBit i = true) ∧ z.testBit i = true ∧ w.testBit i = true := fun h => by
      rw [Nat.testBit_and, Nat.testBit_and, Nat.testBit_and, Bool.and_eq_true, Bool.and_eq_true, Bool.and_eq_true] at h
      exact h
    exact ⟨⟨n1, n2, n3, n4, n5, n6⟩, by rw [t1]; exact c1, ⟨by rw [t2]; exact c2, by rw [t3]; exact c3⟩, ⟨k (fun i h => ⟨(bb h).1.1, (bb h).1.2, (bb h).2.2⟩), k (fun i h => ⟨(bb h).1.1, (bb h).2.1, (bb h).1.2⟩), k (fun i h => ⟨(bb h).1.1, (bb h).2.1, (bb h).2.2⟩)⟩, ⟨k2 (fun i h => ⟨(bb h).1.1, (bb h).1.2, (bb h).2.2⟩), k (fun i h => ⟨(bb h).1.1, (bb h).2.1, (bb h).1.2⟩), k2 (fun i h => ⟨(bb h).1.1, (bb h).2.1, (bb h).1.2⟩), by rw [t4]; exact c10⟩, k (fun i h => ⟨(bb h).1.1, (bb h).1.2, (bb h).2.1⟩), k3 (fun i h => ⟨(bb h).1.1, (bb h).1.2, (bb h).2.2⟩), k3 (fun i h => ⟨(bb h).1.1, (bb h).2.1, (bb h).1.2⟩), k4 (fun i h => ⟨(bb h).1.1, (bb h).1.2, (bb h).2.2⟩), k4 (fun i h => ⟨(bb h).1.1, (bb h).2.1, (bb h).1.2⟩)⟩
end B17
