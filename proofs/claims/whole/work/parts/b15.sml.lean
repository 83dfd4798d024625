/-! MATHEMATICS: the small questions -/
section B15
variable {S : Sc}
theorem one_pt : ∀ x, x < 256 → x ≠ 0 → n_pc x ≤ 1 → ∃ i, i < 8 ∧ x = 2 ^ i := by decide +kernel
theorem tri_pt : ∀ i, i < 8 → ∀ j, j < 8 → ∀ k, k < 8 → (2 ^ i &&& 2 ^ j = 2 ^ i &&& 2 ^ k ∧ 2 ^ i &&& 2 ^ j = 2 ^ j &&& 2 ^ k) → (n_pc (2 ^ i ||| 2 ^ j ||| 2 ^ k) = 3 ↔ 2 ^ i &&& 2 ^ j = 0) := by decide +kernel
theorem tri_eq (hS : c_sok S) {a b c : Nat} (hab : a < b) (hbc : b < c) (hc : c < S.2.1) : c_tri S a b c = g_tri (S.2.2 a) (S.2.2 b) (S.2.2 c) := by
  unfold c_tri g_tri
  apply decide_eq_decide.mpr
  obtain ⟨x, ex⟩ : ∃ x, x = S.2.2 a &&& S.2.2 b := ⟨_, rfl⟩
  obtain ⟨y, ey⟩ : ∃ y, y = S.2.2 a &&& S.2.2 c := ⟨_, rfl⟩
  obtain ⟨z, ez⟩ : ∃ z, z = S.2.2 b &&& S.2.2 c := ⟨_, rfl⟩
  have exy : S.2.2 a &&& S.2.2 b &&& S.2.2 c = x &&& y := by
    rw [ex, ey]
    apply Nat.eq_of_testBit_eq
    intro i
    simp only [Nat.testBit_and]
    cases (S.2.2 a).testBit i <;> cases (S.2.2 b).testBit i <;> cases (S.2.2 c).testBit i <;> rfl
  have exz : x &&& y = x &&& z := by
    rw [ex, ey, ez]
    apply Nat.eq_of_testBit_eq
    intro i
    simp only [Nat.testBit_and]
    cases (S.2.2 a).testBit i <;> cases (S.2.2 b).testBit i <;> cases (S.2.2 c).testBit i <;> rfl
  have eyz : x &&& y = y &&& z := by
    rw [ex, ey, ez]
    apply Nat.eq_of_testBit_eq
    intro i
    simp only [Nat.testBit_and]
    cases (S.2.2 a).testBit i <;> cases (S.2.2 b).testBit i <;> cases (S.2.2 c).testBit i <;> rfl
  have px : n_pc x ≤ 1 := by rw [ex]; exact hS.2.2.2.2 a b hab (by omega)
  have py : n_pc y ≤ 1 := by rw [ey]; exact hS.2.2.2.2 a c (by omega) hc
  have pz : n_pc z ≤ 1 := by rw [ez]; exact hS.2.2.2.2 b c hbc hc
  have lx : x < 256 := by rw [ex]; exact and_lt256 (sok_256 hS a)
  have ly : y < 256 := by rw [ey]; exact and_lt256 (sok_256 hS a)
  have lz : z < 256 := by rw [ez]; exact and_lt256 (sok_256 hS b)
  rw [exy, ← ex, ← ey, ← ez]
  by_cases h1 : x = 0
  · exact ⟨fun h => absurd h1 h.1, fun h => absurd h1 h.1⟩
  · by_cases h2 : y = 0
    · exact ⟨fun h => absurd h2 h.2.1, fun h => absurd h2 h.2.1⟩
    · by_cases h3 : z = 0
      · exact ⟨fun h => absurd h3 h.2.2.1, fun h => absurd h3 h.2.2.1⟩
      · obtain ⟨i, i1, i2⟩ := one_pt x lx h1 px
        obtain ⟨j, j1, j2⟩ := one_pt y ly h2 py
        obtain ⟨k, k1, k2⟩ := one_pt z lz h3 pz
        rw [i2, j2] at exz eyz
        rw [k2] at exz eyz
        have key := tri_pt i i1 j j1 k k1 ⟨exz, eyz⟩
        rw [i2, j2, k2]
        rw [i2] at h1
        rw [j2] at h2
        rw [k2] at h3
        exact ⟨fun h => ⟨h1, h2, h3, key.mp h.2.2.2⟩, fun h => ⟨h1, h2, h3, key.mpr h.2.2.2⟩⟩
theorem itr_cg {α : Type} {f g : Nat → α → α} {a : α} {s m : Nat} (h : ∀ i x, s ≤ i → i < m → f i x = g i x) : itr f a s m = itr g a s m := by
  unfold itr
  exact it_congr (m - s) (fun i x hi => h (s + i) x (by omega) (by omega))
theorem tris_eq (hS : c_sok S) : g_tris S = c_tris S := by
  unfold g_tris c_tris
  refine it_congr _ (fun a x ha => itr_cg (fun b y h1 h2 => itr_cg (fun c z h3 h4 => ?_)))
  rw [tri_eq hS (by omega) (by omega) h4]
/-! sums -/
def sm (f : Nat → Nat) (n : Nat) : Nat := it (fun i s => s + f i) 0 n
theorem it_sm (f : Nat → Nat) (a : Nat) : ∀ n, it (fun i s => s + f i) a n = a + sm f n := by
  intro n
  induction n with
  | zero => rfl
  | succ n ih =>
    unfold sm at ih ⊢
    rw [it_s, it_s, ih]
    omega
theorem sm_s (f : Nat → Nat) (n : Nat) : sm f (n + 1) = sm f n + f n := rfl
theorem sm_cg {f g : Nat → Nat} {n : Nat} (h : ∀ i, i < n → f i = g i) : sm f n = sm g n := it_congr n (fun i x hi => by rw [h i hi])
theorem sm_add (f g : Nat → Nat) : ∀ n, sm (fun i => f i + g i) n = sm f n + sm g n := by
  intro n
  induction n with
  | zero => rfl
  | succ n ih => rw [sm_s, sm_s, sm_s, ih]; omega
theorem sm_0 : ∀ n, sm (fun _ => 0) n = 0 := by
  intro n
  induction n with
  | zero => rfl
  | succ n ih => rw [sm_s, ih]
theorem sm_sw (f : Nat → Nat → Nat) (m : Nat) : ∀ n, sm (fun i => sm (f i) m) n = sm (fun j => sm (fun i => f i j) n) m := by
  intro n
  induction n with
  | zero => exact (sm_0 m).symm
  | succ n ih =>
    rw [sm_s, ih, ← sm_add]
    rfl
theorem itr_sm (f : Nat → Nat) (a s m : Nat) : itr (fun i x => x + f i) a s m = a + sm (fun k => f (s + k)) (m - s) := it_sm (fun k => f (s + k)) a (m - s)
theorem sm_one {m l0 : Nat} (P : Nat → Bool) (h0 : l0 < m) (h1 : P l0 = true) (h2 : ∀ l, l < m → P l = true → l = l0) : sm (fun l => (P l).toNat) m = 1 := by
  have key : ∀ k, sm (fun l => (P l).toNat) k = if l0 < k ∧ k ≤ m then 1 else if k ≤ m then 0 else sm (fun l => (P l).toNat) k := by
    intro k
    induction k with
    | zero => rw [if_neg (by omega), if_pos (by omega)]; rfl
    | succ k ih =>
      by_cases c : k + 1 ≤ m
      · rw [sm_s, ih]
        by_cases e : k = l0
        · rw [if_neg (by omega), if_pos (by omega), if_pos (by omega), e, h1]; rfl
        · have : P k = false := Bool.eq_false_iff.mpr (fun h => e (h2 k (by omega) h))
          rw [this]
          by_cases d : l0 < k
          · rw [if_pos (by omega), if_pos (by omega)]; rfl
          · rw [if_neg (by omega), if_pos (by omega), if_neg (by omega), if_pos (by omega)]; rfl
      · rw [if_neg (by omega), if_neg (by omega)]
  rw [key m, if_pos ⟨h0, Nat.le_refl _⟩]
theorem sm_none {m : Nat} (P : Nat → Bool) (h2 : ∀ l, l < m → P l = false) : sm (fun l => (P l).toNat) m = 0 := by
  rw [sm_cg (g := fun _ => 0) (fun i hi => by rw [h2 i hi]; rfl), sm_0]
/-! pairs -/
theorem pr_one : ∀ n, n < 9 → ∀ x, x < 256 → x < 2 ^ n → sm (fun a => sm (fun k => (x.testBit a && x.testBit (a + 1 + k)).toNat) (n - (a + 1))) n = n_pc x * (n_pc x - 1) / 2 := by decide +kernel
theorem join_sm (hS : c_sok S) {a b : Nat} (hab : a < b) : (c_join S a b).toNat = sm (fun l => ((S.2.2 l).testBit a && (S.2.2 l).testBit b).toNat) S.2.1 := by
  unfold c_join
  by_cases c : c_of S (2 ^ a ||| 2 ^ b) < S.2.1
  · rw [decide_eq_true c]
    have h := cof_y c
    have ha : on S (c_of S (2 ^ a ||| 2 ^ b)) a := h a (by rw [bt2]; simp)
    have hb : on S (c_of S (2 ^ a ||| 2 ^ b)) b := h b (by rw [bt2]; simp)
    rw [sm_one (l0 := c_of S (2 ^ a ||| 2 ^ b)) (fun l => (S.2.2 l).testBit a && (S.2.2 l).testBit b) c (by rw [Bool.and_eq_true]; exact ⟨ha, hb⟩) (fun l _ hl => by
      rw [Bool.and_eq_true] at hl
      exact ln_un hS (by omega) hl.1 hl.2 ha hb)]
    rfl
  · rw [decide_eq_false c, sm_none (fun l => (S.2.2 l).testBit a && (S.2.2 l).testBit b) (fun l hl => Bool.eq_false_iff.mpr (fun h => by
      rw [Bool.and_eq_true] at h
      exact c (cof_n hl (fun i hi => by
        rw [bt2, Bool.or_eq_true, decide_eq_true_iff, decide_eq_true_iff] at hi
        rcases hi with e | e
        · rw [← e]; exact h.1
        · rw [← e]; exact h.2))))]
    rfl
theorem pairs_eq (hS : c_sok S) : g_pairs S = c_pairs S := by
  have n8 := hS.1.2
  have e1 : c_pairs S = sm (fun a => sm (fun k => (c_join S a (a + 1 + k)).toNat) (S.1 - (a + 1))) S.1 := by
    unfold c_pairs
    have : ∀ a n, itr (fun b n => n + (c_join S a b).toNat) n (a + 1) S.1 = n + sm (fun k => (c_join S a (a + 1 + k)).toNat) (S.1 - (a + 1)) := fun a n => itr_sm (fun b => (c_join S a b).toNat) n (a + 1) S.1
    have e : (fun a n => itr (fun b n => n + (c_join S a b).toNat) n (a + 1) S.1) = fun a n => n + sm (fun k => (c_join S a (a + 1 + k)).toNat) (S.1 - (a + 1)) := funext fun a => funext fun n => this a n
    rw [e]
    rfl
  have e2 : g_pairs S = sm (fun l => n_pc (S.2.2 l) * (n_pc (S.2.2 l) - 1) / 2) S.2.1 := rfl
  rw [e1, e2]
  rw [sm_cg (f := fun a => sm (fun k => (c_join S a (a + 1 + k)).toNat) (S.1 - (a + 1))) (g := fun a => sm (fun l => sm (fun k => ((S.2.2 l).testBit a && (S.2.2 l).testBit (a + 1 + k)).toNat) (S.1 - (a + 1))) S.2.1) (fun a _ => by
    rw [sm_cg (f := fun k => (c_join S a (a + 1 + k)).toNat) (g := fun k => sm (fun l => ((S.2.2 l).testBit a && (S.2.2 l).testBit (a + 1 + k)).toNat) S.2.1) (fun k _ => join_sm hS (by omega))]
    exact sm_sw (fun k l => ((S.2.2 l).testBit a && (S.2.2 l).testBit (a + 1 + k)).toNat) S.2.1 (S.1 - (a + 1))), sm_sw (fun a l => sm (fun k => ((S.2.2 l).testBit a && (S.2.2 l).testBit (a + 1 + k)).toNat) (S.1 - (a + 1))) S.2.1 S.1]
  exact sm_cg (fun l hl => (pr_one S.1 (by omega) (S.2.2 l) (sok_256 hS l) (sok_w hS l)).symm)
/-! regular -/
theorem reg_eq : g_reg S = c_isReg S ∧ (g_reg S = true → c_regR S = nI (n_pc (c_on S 0)) ∧ c_regK S = nI (if S.2.1 = 0 then 0 else n_pc (S.2.2 0))) := by
  have k0 : c_k0 S = if S.2.1 = 0 then 0 else n_pc (S.2.2 0) := rfl
  have pcb : ∀ x, n_pc x < 2 ^ 31 := fun x => by
    have : n_pc x ≤ 12 := by rw [pc_len]; exact Nat.le_trans (List.length_filter_le _ _) (by rw [List.length_range]; exact Nat.le_refl _)
    omega
  have kb : c_k0 S < 2 ^ 31 := by
    rw [k0]
    split
    · decide
    · exact pcb _
  have eR : c_any (fun k => !decide (n_pc (c_on S (1 + k)) = n_pc (c_on S 0))) (S.1 - 1) = decide (fa_first (fun k => n_pc (c_on S (1 + k)) != n_pc (c_on S 0)) (S.1 - 1) < S.1 - 1) := by
    unfold c_any
    have : (fun k => !decide (n_pc (c_on S (1 + k)) = n_pc (c_on S 0))) = fun k => n_pc (c_on S (1 + k)) != n_pc (c_on S 0) := funext fun k => by
      by_cases c : n_pc (c_on S (1 + k)) = n_pc (c_on S 0)
      · rw [decide_eq_true c, c]; simp
      · rw [decide_eq_false c]; simp [c]
    rw [this]
  have eK : c_any (fun k => !decide (n_pc (S.2.2 (1 + k)) = n_pc (S.2.2 0))) (S.2.1 - 1) = decide (fa_first (fun k => n_pc (S.2.2 (1 + k)) != c_k0 S) (S.2.1 - 1) < S.2.1 - 1) := by
    by_cases z : S.2.1 = 0
    · rw [z]; rfl
    · unfold c_any
      have : (fun k => !decide (n_pc (S.2.2 (1 + k)) = n_pc (S.2.2 0))) = fun k => n_pc (S.2.2 (1 + k)) != c_k0 S := funext fun k => by
        rw [k0, if_neg z]
        by_cases c : n_pc (S.2.2 (1 + k)) = n_pc (S.2.2 0)
        · rw [decide_eq_true c, c]; simp
        · rw [decide_eq_false c]; simp [c]
      rw [this]
  unfold g_reg c_isReg c_regR c_regK
  rw [eR, eK]
  by_cases a1 : fa_first (fun k => n_pc (c_on S (1 + k)) != n_pc (c_on S 0)) (S.1 - 1) < S.1 - 1
  · rw [decide_eq_true a1, if_pos a1]
    refine ⟨?_, fun h => ?_⟩
    · simp
    · exact absurd h (by simp)
  · rw [decide_eq_false a1, if_neg a1]
    by_cases a2 : fa_first (fun k => n_pc (S.2.2 (1 + k)) != c_k0 S) (S.2.1 - 1) < S.2.1 - 1
    · rw [decide_eq_true a2, if_pos a2]
      refine ⟨?_, fun h => ?_⟩
      · simp
      · exact absurd h (by simp)
    · rw [decide_eq_false a2, if_neg a2]
      refine ⟨?_, fun _ => ⟨rfl, by rw [k0]⟩⟩
      rw [decide_eq_true ⟨t_ne1 (pcb _), t_ne1 kb⟩]
      rfl
/-! strays -/
theorem strays_eq (hS : c_sok S) (R : Nat → Int32) : g_strays S R = c_strays S R := by
  unfold g_strays c_strays
  refine it_congr _ (fun a x ha => it_congr _ (fun b y hb => it_congr _ (fun c z hc => ?_)))
  unfold c_stray
  congr 3
  congr 1
  have b3 : ∀ i, (2 ^ a ||| 2 ^ b ||| 2 ^ c).testBit i = true ↔ (a = i ∨ b = i ∨ c = i) := fun i => by
    rw [Nat.testBit_or, bt2, Nat.testBit_two_pow, Bool.or_eq_true, Bool.or_eq_true, decide_eq_true_iff, decide_eq_true_iff, decide_eq_true_iff]
    exact ⟨fun h => by rcases h with (h | h) | h; exact Or.inl h; exact Or.inr (Or.inl h); exact Or.inr (Or.inr h), fun h => by rcases h with h | h | h; exact Or.inl (Or.inl h); exact Or.inl (Or.inr h); exact Or.inr h⟩
  apply Bool.eq_iff_iff.mpr
  rw [decide_eq_true_iff]
  unfold g_told
  constructor
  · intro h
    by_cases q : c_of S (2 ^ a ||| 2 ^ b) < S.2.1
    · rw [if_pos q] at h
      have hy := cof_y q
      exact cof_n q (fun i hi => by
        rcases (b3 i).mp hi with e | e | e
        · exact hy i (by rw [bt2, decide_eq_true e]; rfl)
        · exact hy i (by rw [bt2, decide_eq_true e, Bool.or_true])
        · rw [← e]; exact h)
    · rw [if_neg q, Nat.zero_testBit] at h; cases h
  · intro h
    have hy := cof_y h
    have ha' := hy a ((b3 a).mpr (Or.inl rfl))
    have hb' := hy b ((b3 b).mpr (Or.inr (Or.inl rfl)))
    have hc' := hy c ((b3 c).mpr (Or.inr (Or.inr rfl)))
    have q : c_of S (2 ^ a ||| 2 ^ b) < S.2.1 := cof_n h (fun i hi => by
      rw [bt2, Bool.or_eq_true, decide_eq_true_iff, decide_eq_true_iff] at hi
      rcases hi with e | e
      · rw [← e]; exact ha'
      · rw [← e]; exact hb')
    rw [if_pos q]
    have hz := cof_y q
    have e : c_of S (2 ^ a ||| 2 ^ b) = c_of S (2 ^ a ||| 2 ^ b ||| 2 ^ c) := ln_un hS (show a ≠ b by omega) (hz a (by rw [bt2]; simp)) (hz b (by rw [bt2]; simp)) ha' hb'
    rw [e]
    exact hc'
end B15
