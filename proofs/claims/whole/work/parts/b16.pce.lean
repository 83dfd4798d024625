/-! MATHEMATICS: what hangs together -/
def sbs (x y : Nat) : Prop := ∀ i, x.testBit i = true → y.testBit i = true
def clo (S : Sc) (C : Nat) : Prop := ∀ l i j, on S l i → C.testBit i = true → on S l j → C.testBit j = true
/-- a step of spreading out -/
def spo (S : Sc) (f : Nat → Nat) : Prop := (∀ x, sbs x (f x)) ∧ (∀ x C, clo S C → sbs x C → sbs (f x) C) ∧ (∀ x, f x = x → clo S x) ∧ ∀ x, x < 2 ^ S.1 → f x < 2 ^ S.1
section B16
variable {S : Sc}
theorem sb_eq {x y : Nat} (h1 : sbs x y) (h2 : sbs y x) : x = y := by
  apply Nat.eq_of_testBit_eq
  intro i
  apply Bool.eq_iff_iff.mpr
  exact ⟨h1 i, h2 i⟩
theorem sb_pc {x y : Nat} (h : sbs x y) : n_pc x ≤ n_pc y := pc_inj (fun i => i) (fun i hi hb => ⟨hi, h i hb⟩) (fun _ _ _ _ _ _ e => e)
theorem sb_lt {x y : Nat} (hy : y < 2 ^ 12) (h : sbs x y) (hn : x ≠ y) : n_pc x < n_pc y := by
  apply Classical.byContradiction
  intro n
  apply hn
  refine sb_eq h (fun j hj => ?_)
  have h12 : j < 12 := by
    apply Classical.byContradiction
    intro q
    rw [Nat.testBit_lt_two_pow (Nat.lt_of_lt_of_le hy (Nat.pow_le_pow_right (by decide) (by omega)))] at hj
    cases hj
  obtain ⟨i, _, h2, h3⟩ := pc_onto (fun i => i) (fun i hi hb => ⟨hi, h i hb⟩) (fun _ _ _ _ _ _ e => e) (by omega) j h12 hj
  rw [← h3]; exact h2
theorem pc_n {x n : Nat} (hx : x < 2 ^ n) : n_pc x ≤ n := by
  rw [pc_len]
  have := nd_le (A := (List.range 12).filter (fun i => x.testBit i)) (B := List.range n) (fun i => i) (bt_nd x) (fun i hi => by
    rw [List.mem_range]
    apply Classical.byContradiction
    intro q
    have := (bt_mem.mp hi).2
    rw [Nat.testBit_lt_two_pow (Nat.lt_of_lt_of_le hx (Nat.pow_le_pow_right (by decide) (by omega)))] at this
    cases this) (fun _ _ _ _ e => e)
  rw [List.length_range] at this
  exact this
theorem spo_k (hS : c_sok S) {f : Nat → Nat} (hf : spo S f) {p : Nat} (hp : p < S.1) : ∀ k, it (fun _ x => f x) (2 ^ p) k < 2 ^ S.1 ∧ (it (fun _ x => f x) (2 ^ p) k).testBit p = true ∧ (∀ C, clo S C → C.testBit p = true → sbs (it (fun _ x => f x) (2 ^ p) k) C) ∧ (f (it (fun _ x => f x) (2 ^ p) k) = it (fun _ x => f x) (2 ^ p) k ∨ 1 + k ≤ n_pc (it (fun _ x => f x) (2 ^ p) k)) := by
  have n8 := hS.1.2
  obtain ⟨f1, f2, f3, f4⟩ := hf
  intro k
  induction k with
  | zero =>
    refine ⟨Nat.pow_lt_pow_right (by decide) hp, by show (2 ^ p).testBit p = true; rw [Nat.testBit_two_pow]; exact decide_eq_true rfl, fun C _ hC i hi => ?_, Or.inr ?_⟩
    · have hi : (2 ^ p).testBit i = true := hi
      rw [Nat.testBit_two_pow, decide_eq_true_iff] at hi
      rw [← hi]; exact hC
    · show 1 ≤ n_pc (2 ^ p)
      have : ∀ p, p < 8 → n_pc (2 ^ p) = 1 := by decide +kernel
      rw [this p (by omega)]
      exact Nat.le_refl _
  | succ k ih =>
    rw [it_s]
    obtain ⟨x, ex⟩ : ∃ x, x = it (fun _ x => f x) (2 ^ p) k := ⟨_, rfl⟩
    rw [← ex] at ih ⊢
    obtain ⟨i1, i2, i3, i4⟩ := ih
    refine ⟨f4 x i1, f1 x p i2, fun C hC hp => f2 x C hC (i3 C hC hp), ?_⟩
    rcases i4 with c | c
    · left; rw [c, c]
    · by_cases e : f x = x
      · left; rw [e, e]
      · right
        have l12 : f x < 2 ^ 12 := Nat.lt_of_lt_of_le (f4 x i1) (Nat.pow_le_pow_right (by decide) (by omega))
        have := sb_lt l12 (f1 x) (fun q => e q.symm)
        omega
theorem spo_fix (hS : c_sok S) {f : Nat → Nat} (hf : spo S f) {p k : Nat} (hp : p < S.1) (hk : S.1 ≤ k) : f (it (fun _ x => f x) (2 ^ p) k) = it (fun _ x => f x) (2 ^ p) k := by
  obtain ⟨h1, _, _, h4⟩ := spo_k hS hf hp k
  rcases h4 with c | c
  · exact c
  · have := pc_n h1; omega
/-- the least that hangs together: it is one and the same, however it is found -/
theorem spo_un (hS : c_sok S) {f g : Nat → Nat} (hf : spo S f) (hg : spo S g) {p k k' : Nat} (hp : p < S.1) (hk : S.1 ≤ k) (hk' : S.1 ≤ k') : it (fun _ x => f x) (2 ^ p) k = it (fun _ x => g x) (2 ^ p) k' := by
  obtain ⟨_, a2, a3, _⟩ := spo_k hS hf hp k
  obtain ⟨_, b2, b3, _⟩ := spo_k hS hg hp k'
  exact sb_eq (a3 _ (hg.2.2.1 _ (spo_fix hS hg hp hk')) b2) (b3 _ (hf.2.2.1 _ (spo_fix hS hf hp hk)) a2)
theorem and_ne {x y : Nat} : x &&& y ≠ 0 ↔ ∃ i, x.testBit i = true ∧ y.testBit i = true := by
  constructor
  · intro h
    apply Classical.byContradiction
    intro n
    apply h
    apply Nat.eq_of_testBit_eq
    intro i
    rw [Nat.testBit_and, Nat.zero_testBit]
    apply Bool.eq_false_iff.mpr
    intro q
    rw [Bool.and_eq_true] at q
    exact n ⟨i, q⟩
  · rintro ⟨i, h1, h2⟩ e
    have := congrArg (fun z => z.testBit i) e
    simp only [Nat.testBit_and, Nat.zero_testBit] at this
    rw [h1, h2] at this
    cases this
theorem or_lt {a b n : Nat} (h1 : a < 2 ^ n) (h2 : b < 2 ^ n) : a ||| b < 2 ^ n := Nat.or_lt_two_pow h1 h2
theorem rch_b (x : Nat) : ∀ k i, (it (fun l y => if S.2.2 l &&& x = 0 then y else y ||| S.2.2 l) x k).testBit i = true ↔ (x.testBit i = true ∨ ∃ l, l < k ∧ S.2.2 l &&& x ≠ 0 ∧ on S l i) := by
  intro k
  induction k with
  | zero => intro i; exact ⟨Or.inl, fun h => by rcases h with h | ⟨l, hl, _⟩; exact h; exact absurd hl (Nat.not_lt_zero _)⟩
  | succ k ih =>
    intro i
    rw [it_s]
    by_cases c : S.2.2 k &&& x = 0
    · rw [if_pos c, ih i]
      constructor
      · rintro (h | ⟨l, h1, h2⟩)
        · exact Or.inl h
        · exact Or.inr ⟨l, by omega, h2⟩
      · rintro (h | ⟨l, h1, h2, h3⟩)
        · exact Or.inl h
        · by_cases e : l = k
          · rw [e] at h2; exact absurd c h2
          · exact Or.inr ⟨l, by omega, h2, h3⟩
    · rw [if_neg c, Nat.testBit_or, Bool.or_eq_true, ih i]
      constructor
      · rintro ((h | ⟨l, h1, h2⟩) | h)
        · exact Or.inl h
        · exact Or.inr ⟨l, by omega, h2⟩
        · exact Or.inr ⟨k, by omega, c, h⟩
      · rintro (h | ⟨l, h1, h2, h3⟩)
        · exact Or.inl (Or.inl h)
        · by_cases e : l = k
          · rw [e] at h3; exact Or.inr h3
          · exact Or.inl (Or.inr ⟨l, by omega, h2, h3⟩)
theorem spo_r (hS : c_sok S) : spo S (c_rch S) := by
  have b : ∀ x i, (c_rch S x).testBit i = true ↔ (x.testBit i = true ∨ ∃ l, l < S.2.1 ∧ S.2.2 l &&& x ≠ 0 ∧ on S l i) := fun x i => rch_b x S.2.1 i
  refine ⟨fun x i hi => (b x i).mpr (Or.inl hi), fun x C hC hx i hi => ?_, fun x e l i j h1 h2 h3 => ?_, fun x hx => ?_⟩
  · rcases (b x i).mp hi with h | ⟨l, h1, h2, h3⟩
    · exact hx i h
    · obtain ⟨q, q1, q2⟩ := and_ne.mp h2
      exact hC l q i q1 (hx q q2) h3
  · rw [← e]
    exact (b x j).mpr (Or.inr ⟨l, on_m hS h1, and_ne.mpr ⟨i, h1, h2⟩, h3⟩)
  · apply Nat.lt_pow_two_of_testBit
    intro j hj
    apply Bool.eq_false_iff.mpr
    intro h
    rcases (b x j).mp h with h | ⟨l, _, _, h3⟩
    · rw [Nat.testBit_lt_two_pow (Nat.lt_of_lt_of_le hx (Nat.pow_le_pow_right (by decide) hj))] at h; cases h
    · have := on_lt hS h3; omega
def prd (S : Sc) (x : Nat) : Nat := it (fun l x => if S.2.2 l &&& x = 0 then x else x ||| S.2.2 l) x S.2.1
theorem prd_k (x : Nat) : ∀ k, sbs x (it (fun l x => if S.2.2 l &&& x = 0 then x else x ||| S.2.2 l) x k) ∧ (∀ C, clo S C → sbs x C → sbs (it (fun l x => if S.2.2 l &&& x = 0 then x else x ||| S.2.2 l) x k) C) ∧ (∀ l i j, l < k → on S l i → x.testBit i = true → on S l j → (it (fun l x => if S.2.2 l &&& x = 0 then x else x ||| S.2.2 l) x k).testBit j = true) := by
  intro k
  induction k with
  | zero => exact ⟨fun i h => h, fun C _ h => h, fun l i j hl => absurd hl (Nat.not_lt_zero _)⟩
  | succ k ih =>
    obtain ⟨h1, h2, h3⟩ := ih
    rw [it_s]
    obtain ⟨y, ey⟩ : ∃ y, y = it (fun l x => if S.2.2 l &&& x = 0 then x else x ||| S.2.2 l) x k := ⟨_, rfl⟩
    rw [← ey] at h1 h2 h3 ⊢
    by_cases c : S.2.2 k &&& y = 0
    · rw [if_pos c]
      refine ⟨h1, h2, fun l i j hl o1 o2 o3 => ?_⟩
      by_cases e : l = k
      · exfalso
        rw [e] at o1
        exact and_ne.mpr ⟨i, o1, h1 i o2⟩ c
      · exact h3 l i j (by omega) o1 o2 o3
    · rw [if_neg c]
      refine ⟨fun i hi => by rw [Nat.testBit_or, h1 i hi]; rfl, fun C hC hx i hi => ?_, fun l i j hl o1 o2 o3 => ?_⟩
      · rw [Nat.testBit_or, Bool.or_eq_true] at hi
        rcases hi with hi | hi
        · exact h2 C hC hx i hi
        · obtain ⟨q, q1, q2⟩ := and_ne.mp c
          exact hC k q i q1 (h2 C hC hx q q2) hi
      · rw [Nat.testBit_or, Bool.or_eq_true]
        by_cases e : l = k
        · rw [e] at o3; exact Or.inr o3
        · exact Or.inl (h3 l i j (by omega) o1 o2 o3)
theorem spo_c (hS : c_sok S) : spo S (prd S) := by
  refine ⟨fun x => (prd_k x S.2.1).1, fun x C hC hx => (prd_k x S.2.1).2.1 C hC hx, fun x e l i j h1 h2 h3 => ?_, fun x hx => ?_⟩
  · rw [← e]; exact (prd_k x S.2.1).2.2 l i j (on_m hS h1) h1 h2 h3
  · unfold prd
    refine it_bdm (P := fun y => y < 2 ^ S.1) hx (fun l y hl hy => ?_) S.2.1 (Nat.le_refl _)
    split
    · exact hy
    · exact or_lt hy (sok_w hS l)
theorem spr_rch (x : Nat) : g_spr S none x = c_rch S x := by
  unfold g_spr c_rch
  refine it_congr _ (fun l y hl => ?_)
  by_cases c : S.2.2 l &&& x = 0
  · rw [if_pos (Or.inr c), if_pos c]
  · rw [if_neg (fun h => by rcases h with h | h; cases h; exact c h), if_neg c]
theorem piece_eq (hS : c_sok S) {p : Nat} (hp : p < S.1) : g_piece S p = c_piece S p := by
  have e1 : g_piece S p = it (fun _ x => c_rch S x) (2 ^ p) 8 := by
    unfold g_piece
    exact it_congr 8 (fun _ x _ => spr_rch x)
  rw [e1]
  exact spo_un hS (spo_r hS) (spo_c hS) hp hS.1.2 (Nat.le_refl _)
theorem pce (hS : c_sok S) {p : Nat} (hp : p < S.1) : c_piece S p < 2 ^ S.1 ∧ (c_piece S p).testBit p = true ∧ (∀ C, clo S C → C.testBit p = true → sbs (c_piece S p) C) ∧ clo S (c_piece S p) := by
  obtain ⟨h1, h2, h3, _⟩ := spo_k hS (spo_c hS) hp S.1
  exact ⟨h1, h2, h3, (spo_c hS).2.2.1 _ (spo_fix hS (spo_c hS) hp (Nat.le_refl _))⟩
theorem pce_sy (hS : c_sok S) {p q : Nat} (hp : p < S.1) (hq : q < S.1) (h : (c_piece S p).testBit q = true) : (c_piece S q).testBit p = true := by
  obtain ⟨_, a2, a3, a4⟩ := pce hS hp
  obtain ⟨_, b2, b3, b4⟩ := pce hS hq
  apply Classical.byContradiction
  intro n
  have hb : ∀ i, (anot (c_piece S p) (c_piece S q)).testBit i = true ↔ ((c_piece S p).testBit i = true ∧ ¬ (c_piece S q).testBit i = true) := fun i => by
    unfold anot
    rw [Nat.testBit_xor, Nat.testBit_and]
    cases (c_piece S p).testBit i <;> cases (c_piece S q).testBit i <;> simp
  have hc : clo S (anot (c_piece S p) (c_piece S q)) := fun l i j h1 h2 h3 => by
    obtain ⟨c1, c2⟩ := (hb i).mp h2
    exact (hb j).mpr ⟨a4 l i j h1 c1 h3, fun c3 => c2 (b4 l j i h3 c3 h1)⟩
  exact ((hb q).mp (a3 _ hc ((hb p).mpr ⟨a2, n⟩) q h)).2 b2
theorem pieces_eq (hS : c_sok S) : (g_pieces S).1 = c_pieces S := by
  have n8 := hS.1.2
  unfold g_pieces c_pieces
  have key : ∀ k, k ≤ S.1 → (it (fun p (a : Nat × Nat) => if a.2.testBit p then a else (a.1 + 1, a.2 ||| g_piece S p)) (0, 0) k).1 = it (fun p n => n + (decide (n_tz (c_piece S p) = p)).toNat) 0 k ∧ ∀ i, (it (fun p (a : Nat × Nat) => if a.2.testBit p then a else (a.1 + 1, a.2 ||| g_piece S p)) (0, 0) k).2.testBit i = true ↔ ∃ q, q < k ∧ (c_piece S q).testBit i = true := by
    intro k
    induction k with
    | zero => intro _; exact ⟨rfl, fun i => ⟨fun h => (by have h : (0 : Nat).testBit i = true := h; rw [Nat.zero_testBit] at h; cases h), fun ⟨q, hq, _⟩ => absurd hq (Nat.not_lt_zero _)⟩⟩
    | succ k ih =>
      intro hk
      obtain ⟨i1, i2⟩ := ih (by omega)
      rw [it_s, it_s]
      obtain ⟨a, ea⟩ : ∃ a, a = it (fun p (a : Nat × Nat) => if a.2.testBit p then a else (a.1 + 1, a.2 ||| g_piece S p)) (0, 0) k := ⟨_, rfl⟩
      rw [← ea] at i1 i2 ⊢
      obtain ⟨p1, p2, p3, p4⟩ := pce hS (show k < S.1 by omega)
      have p256 : c_piece S k < 256 := Nat.lt_of_lt_of_le p1 (n_p8 n8)
      have tl := tz_le _ p256 k (by omega) p2
      have ne : c_piece S k ≠ 0 := fun e => by rw [e, Nat.zero_testBit] at p2; cases p2
      have to := tz_on _ p256 ne
      cases hb : a.2.testBit k
      · rw [if_neg (by decide)]
        have hno : ¬ ∃ q, q < k ∧ (c_piece S q).testBit k = true := fun h => by
          have := (i2 k).mpr h
          rw [hb] at this
          cases this
        have e : n_tz (c_piece S k) = k := by
          apply Classical.byContradiction
          intro q
          exact hno ⟨n_tz (c_piece S k), by omega, pce_sy hS (by omega) (by omega) to⟩
        refine ⟨?_, fun i => ?_⟩
        · show a.1 + 1 = _
          rw [i1, decide_eq_true e]
          rfl
        · show (a.2 ||| g_piece S k).testBit i = true ↔ _
          rw [Nat.testBit_or, Bool.or_eq_true, i2 i, piece_eq hS (by omega)]
          constructor
          · rintro (⟨q, q1, q2⟩ | h)
            · exact ⟨q, by omega, q2⟩
            · exact ⟨k, by omega, h⟩
          · rintro ⟨q, q1, q2⟩
            by_cases e : q = k
            · rw [e] at q2; exact Or.inr q2
            · exact Or.inl ⟨q, by omega, q2⟩
      · rw [if_pos rfl]
        obtain ⟨q, q1, q2⟩ := (i2 k).mp hb
        have hq := pce_sy hS (show q < S.1 by omega) (show k < S.1 by omega) q2
        have e : n_tz (c_piece S k) ≠ k := fun e => by
          have := tz_le _ p256 q (by omega) hq
          omega
        refine ⟨?_, fun i => ?_⟩
        · rw [i1, decide_eq_false e]
          rfl
        · rw [i2 i]
          constructor
          · rintro ⟨x, x1, x2⟩; exact ⟨x, by omega, x2⟩
          · rintro ⟨x, x1, x2⟩
            by_cases ex : x = k
            · rw [ex] at x2
              exact ⟨q, q1, p3 _ (pce hS (show q < S.1 by omega)).2.2.2 q2 i x2⟩
            · exact ⟨x, by omega, x2⟩
  exact (key S.1 (Nat.le_refl _)).1
/-! the way to a point -/
theorem reach_st (hS : c_sok S) {a : Nat} (ha : a < S.1) : ∀ j, c_reach S a (S.1 + j) = c_reach S a S.1 := by
  intro j
  induction j with
  | zero => rfl
  | succ j ih =>
    have e : c_reach S a (S.1 + (j + 1)) = c_rch S (c_reach S a (S.1 + j)) := rfl
    rw [e, ih]
    exact spo_fix hS (spo_r hS) ha (Nat.le_refl _)
theorem first_ext {P : Nat → Bool} {n m k : Nat} (hnm : n ≤ m) (hk : k < n) (h : P k = true) : fa_first P m = fa_first P n ∧ fa_first P n < n := by
  have l1 : fa_first P n < n := by
    apply Classical.byContradiction
    intro c
    have := fa_first_no P n k (by omega)
    rw [h] at this
    cases this
  exact ⟨fa_first_at (by omega) (fa_first_yes P n l1) (fun i hi => fa_first_no P n i hi), l1⟩
theorem far_eq (hS : c_sok S) {a b : Nat} (ha : a < S.1) (hb : b < S.1) : g_steps S (2 ^ a) (2 ^ b) none = c_farN S a b := by
  have n8 := hS.1.2
  have eP : (fun k => decide (g_rch S none (2 ^ a) k &&& 2 ^ b ≠ 0)) = fun k => (c_reach S a k).testBit b := funext fun k => by
    have e : g_rch S none (2 ^ a) k = c_reach S a k := by
      unfold g_rch c_reach
      exact it_congr k (fun _ x _ => spr_rch x)
    rw [e]
    apply Bool.eq_iff_iff.mpr
    rw [decide_eq_true_iff, and_ne]
    constructor
    · rintro ⟨i, h1, h2⟩
      rw [Nat.testBit_two_pow, decide_eq_true_iff] at h2
      rw [h2]; exact h1
    · intro h; exact ⟨b, h, by rw [Nat.testBit_two_pow]; exact decide_eq_true rfl⟩
  unfold g_steps g_stp c_farN
  rw [eP]
  by_cases c : ∃ k, k < S.1 + 1 ∧ (c_reach S a k).testBit b = true
  · obtain ⟨k, k1, k2⟩ := c
    obtain ⟨e1, e2⟩ := first_ext (P := fun k => (c_reach S a k).testBit b) (m := 9) (show S.1 + 1 ≤ 9 by omega) k1 k2
    rw [e1, if_pos (by omega), if_pos e2]
  · have no1 : ∀ i, i < S.1 + 1 → (c_reach S a i).testBit b = false := fun i hi => Bool.eq_false_iff.mpr (fun h => c ⟨i, hi, h⟩)
    have no2 : ∀ i, i < 9 → (c_reach S a i).testBit b = false := fun i hi => by
      by_cases d : i < S.1 + 1
      · exact no1 i d
      · rw [show i = S.1 + (i - S.1) by omega, reach_st hS ha]
        exact no1 S.1 (by omega)
    rw [fa_first_n no1, fa_first_n no2, if_neg (by omega), if_neg (by omega)]
    rfl
end B16
