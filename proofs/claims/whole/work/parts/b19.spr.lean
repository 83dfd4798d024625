/-! MATHEMATICS: lines that part all points -/
def prt (S : Sc) (x : Nat) : Prop := (∀ i, i < S.1 → ∃ l, x.testBit l = true ∧ on S l i) ∧ ∀ i l l', x.testBit l = true → x.testBit l' = true → on S l i → on S l' i → l = l'
def cvL (S : Sc) : Nat → Nat → Nat → Nat → List Nat
  | 0, _, _, _ => []
  | k + 1, p, cov, ch => if S.1 ≤ p then [ch] else if cov.testBit p then cvL S k (p + 1) cov ch else (List.range S.2.1).flatMap (fun i => if (S.2.2 i).testBit p ∧ S.2.2 i &&& cov = 0 then cvL S k (p + 1) (cov ||| S.2.2 i) (ch ||| 2 ^ i) else [])
def cvF (st : Nat × Int32) (ch : Nat) : Nat × Int32 := (st.1 + 1, if st.2 = mI then nI ch else if nI ch < st.2 then nI ch else st.2)
section B19
variable {S : Sc}
theorem fold_fm {α β : Type} (f : Nat → List α) (g : β → α → β) (a : β) : ∀ n, ((List.range n).flatMap f).foldl g a = it (fun i b => (f i).foldl g b) a n := by
  intro n
  induction n with
  | zero => rfl
  | succ n ih => rw [fm_app, List.foldl_append, ih, it_s]
theorem cv_fold : ∀ k p cov ch st, cvR S k p cov ch st = (cvL S k p cov ch).foldl cvF st := by
  intro k
  induction k with
  | zero => intro p cov ch st; rfl
  | succ k ih =>
    intro p cov ch st
    unfold cvR cvL
    by_cases c : S.1 ≤ p
    · rw [if_pos c, if_pos c]; rfl
    · rw [if_neg c, if_neg c]
      cases cb : cov.testBit p
      · rw [if_neg (by decide), if_neg (by decide), fold_fm]
        refine it_congr _ (fun i b _ => ?_)
        by_cases d : (S.2.2 i).testBit p ∧ S.2.2 i &&& cov = 0
        · rw [if_pos d, if_pos d]; exact ih _ _ _ _
        · rw [if_neg d, if_neg d]; rfl
      · rw [if_pos rfl, if_pos rfl]; exact ih _ _ _ _
/-- how a search stands -/
def cvI (S : Sc) (p cov ch : Nat) : Prop := (∀ i, cov.testBit i = true ↔ ∃ l, ch.testBit l = true ∧ on S l i) ∧ (∀ i, i < p → i < S.1 → cov.testBit i = true) ∧ (∀ i l l', ch.testBit l = true → ch.testBit l' = true → on S l i → on S l' i → l = l') ∧ ch < 2 ^ S.2.1
theorem cv_or {ch i l : Nat} : (ch ||| 2 ^ i).testBit l = true ↔ (ch.testBit l = true ∨ l = i) := by
  rw [Nat.testBit_or, Bool.or_eq_true, Nat.testBit_two_pow, decide_eq_true_iff]
  exact ⟨fun h => by rcases h with h | h; exact Or.inl h; exact Or.inr h.symm, fun h => by rcases h with h | h; exact Or.inl h; exact Or.inr h.symm⟩
theorem cv_step (hS : c_sok S) {p cov ch i : Nat} (h : cvI S p cov ch) (hi : i < S.2.1) (hp : on S i p) (hd : S.2.2 i &&& cov = 0) : cvI S (p + 1) (cov ||| S.2.2 i) (ch ||| 2 ^ i) := by
  obtain ⟨h1, h2, h3, h4⟩ := h
  have dj : ∀ q l, on S i q → ch.testBit l = true → on S l q → False := fun q l a b c => by
    have := and_ne.mpr ⟨q, a, (h1 q).mpr ⟨l, b, c⟩⟩
    exact this hd
  refine ⟨fun q => ?_, fun q a b => ?_, fun q l l' a b c d => ?_, Nat.or_lt_two_pow h4 (Nat.pow_lt_pow_right (by decide) hi)⟩
  · rw [Nat.testBit_or, Bool.or_eq_true, h1 q]
    constructor
    · rintro (⟨l, l1, l2⟩ | h)
      · exact ⟨l, cv_or.mpr (Or.inl l1), l2⟩
      · exact ⟨i, cv_or.mpr (Or.inr rfl), h⟩
    · rintro ⟨l, l1, l2⟩
      rcases cv_or.mp l1 with e | e
      · exact Or.inl ⟨l, e, l2⟩
      · rw [e] at l2; exact Or.inr l2
  · rw [Nat.testBit_or, Bool.or_eq_true]
    by_cases e : q = p
    · rw [e]; exact Or.inr hp
    · exact Or.inl (h2 q (by omega) b)
  · rcases cv_or.mp a with e | e
    · rcases cv_or.mp b with f | f
      · exact h3 q l l' e f c d
      · rw [f] at d; exact (dj q l d e c).elim
    · rcases cv_or.mp b with f | f
      · rw [e] at c; exact (dj q l' c f d).elim
      · rw [e, f]
theorem cv_mem (hS : c_sok S) : ∀ k p cov ch, p + k = S.1 + 1 → p ≤ S.1 → cvI S p cov ch → (∀ x, x ∈ cvL S k p cov ch ↔ (prt S x ∧ x < 2 ^ S.2.1 ∧ sbs ch x ∧ ∀ l i, x.testBit l = true → on S l i → i < p → ch.testBit l = true)) ∧ (cvL S k p cov ch).Nodup := by
  intro k
  induction k with
  | zero => intro p cov ch hp hle; omega
  | succ k ih =>
    intro p cov ch hp hle hI
    have hI0 := hI
    obtain ⟨h1, h2, h3, h4⟩ := hI0
    unfold cvL
    by_cases c : S.1 ≤ p
    · rw [if_pos c]
      refine ⟨fun x => ?_, List.nodup_cons.mpr ⟨by simp, List.nodup_nil⟩⟩
      rw [List.mem_singleton]
      constructor
      · rintro rfl
        exact ⟨⟨fun i hi => (h1 i).mp (h2 i (by omega) hi), h3⟩, h4, fun i h => h, fun l i hl _ _ => hl⟩
      · rintro ⟨_, x2, x3, x4⟩
        refine sb_eq (fun l hl => ?_) x3
        have hlm : l < S.2.1 := by
          apply Classical.byContradiction
          intro q
          rw [Nat.testBit_lt_two_pow (Nat.lt_of_lt_of_le x2 (Nat.pow_le_pow_right (by decide) (by omega)))] at hl
          cases hl
        obtain ⟨a, b, _, o1, _⟩ := ln_two hS hlm
        exact x4 l a hl o1 (by have := on_lt hS o1; omega)
    · rw [if_neg c]
      cases cb : cov.testBit p
      · rw [if_neg (by decide)]
        have sub : ∀ i, i < S.2.1 → on S i p → S.2.2 i &&& cov = 0 → (∀ x, x ∈ cvL S k (p + 1) (cov ||| S.2.2 i) (ch ||| 2 ^ i) ↔ (prt S x ∧ x < 2 ^ S.2.1 ∧ sbs (ch ||| 2 ^ i) x ∧ ∀ l j, x.testBit l = true → on S l j → j < p + 1 → (ch ||| 2 ^ i).testBit l = true)) ∧ (cvL S k (p + 1) (cov ||| S.2.2 i) (ch ||| 2 ^ i)).Nodup := fun i hi hp' hd => ih (p + 1) _ _ (by omega) (by omega) (cv_step hS hI hi hp' hd)
        refine ⟨fun x => ?_, ?_⟩
        · rw [List.mem_flatMap]
          constructor
          · rintro ⟨i, hi, hx⟩
            have hi := List.mem_range.mp hi
            by_cases d : (S.2.2 i).testBit p ∧ S.2.2 i &&& cov = 0
            · rw [if_pos d] at hx
              obtain ⟨x1, x2, x3, x4⟩ := ((sub i hi d.1 d.2).1 x).mp hx
              refine ⟨x1, x2, fun l hl => x3 l (cv_or.mpr (Or.inl hl)), fun l j hl hj hlt => ?_⟩
              rcases cv_or.mp (x4 l j hl hj (by omega)) with e | e
              · exact e
              · exfalso
                -- line i has a point below p, which is covered
                rw [e] at hj
                obtain ⟨l', l1, l2⟩ := (h1 j).mp (h2 j hlt (on_lt hS hj))
                exact and_ne.mpr ⟨j, hj, (h1 j).mpr ⟨l', l1, l2⟩⟩ d.2
            · rw [if_neg d] at hx; cases hx
          · rintro ⟨x1, x2, x3, x4⟩
            obtain ⟨l, l1, l2⟩ := x1.1 p (by omega)
            have hlm := on_m hS l2
            have nch : ¬ ch.testBit l = true := fun h => by
              rw [(h1 p).mpr ⟨l, h, l2⟩] at cb; cases cb
            have dj : S.2.2 l &&& cov = 0 := by
              apply Classical.byContradiction
              intro n
              obtain ⟨i, i1, i2⟩ := and_ne.mp n
              obtain ⟨l', a1, a2⟩ := (h1 i).mp i2
              have := x1.2 i l l' l1 (x3 l' a1) i1 a2
              rw [← this] at a1
              exact nch a1
            refine ⟨l, List.mem_range.mpr hlm, ?_⟩
            rw [if_pos ⟨l2, dj⟩]
            refine ((sub l hlm l2 dj).1 x).mpr ⟨x1, x2, fun l' hl' => ?_, fun l' j hl' hj hlt => ?_⟩
            · rcases cv_or.mp hl' with e | e
              · exact x3 l' e
              · rw [e]; exact l1
            · by_cases e : j = p
              · rw [e] at hj
                exact cv_or.mpr (Or.inr (x1.2 p l' l hl' l1 hj l2))
              · exact cv_or.mpr (Or.inl (x4 l' j hl' hj (by omega)))
        · rw [List.nodup_iff_pairwise_ne, List.pairwise_flatMap]
          refine ⟨fun i hi => ?_, ?_⟩
          · have hi := List.mem_range.mp hi
            by_cases d : (S.2.2 i).testBit p ∧ S.2.2 i &&& cov = 0
            · rw [if_pos d]; exact (sub i hi d.1 d.2).2
            · rw [if_neg d]; exact List.Pairwise.nil
          · refine List.Pairwise.imp_of_mem (R := (· < ·)) (fun {a b} ha hb hab x hx y hy e => ?_) List.pairwise_lt_range
            subst e
            have ha := List.mem_range.mp ha
            have hb := List.mem_range.mp hb
            by_cases d : (S.2.2 a).testBit p ∧ S.2.2 a &&& cov = 0
            · by_cases d' : (S.2.2 b).testBit p ∧ S.2.2 b &&& cov = 0
              · rw [if_pos d] at hx
                rw [if_pos d'] at hy
                obtain ⟨x1, _, x3, _⟩ := ((sub a ha d.1 d.2).1 x).mp hx
                obtain ⟨_, _, y3, _⟩ := ((sub b hb d'.1 d'.2).1 x).mp hy
                have := x1.2 p a b (x3 a (cv_or.mpr (Or.inr rfl))) (y3 b (cv_or.mpr (Or.inr rfl))) d.1 d'.1
                omega
              · rw [if_neg d'] at hy; cases hy
            · rw [if_neg d] at hx; cases hx
      · rw [if_pos rfl]
        obtain ⟨l0, a1, a2⟩ := (h1 p).mp cb
        obtain ⟨m1, m2⟩ := ih (p + 1) cov ch (by omega) (by omega) ⟨h1, fun i hi hn => by
          by_cases e : i = p
          · rw [e]; exact cb
          · exact h2 i (by omega) hn, h3, h4⟩
        refine ⟨fun x => ?_, m2⟩
        rw [m1 x]
        constructor
        · rintro ⟨x1, x2, x3, x4⟩; exact ⟨x1, x2, x3, fun l i hl hi hlt => x4 l i hl hi (by omega)⟩
        · rintro ⟨x1, x2, x3, x4⟩
          refine ⟨x1, x2, x3, fun l i hl hi hlt => ?_⟩
          by_cases e : i = p
          · rw [e] at hi
            rw [x1.2 p l l0 hl (x3 l0 a1) hi a2]; exact a1
          · exact x4 l i hl hi (by omega)
/-! as the reference counts -/
theorem spI_k (hS : c_sok S) (x : Nat) : ∀ k, k ≤ S.2.1 → (∀ i, (it (fun l (a : Nat × Nat) => if x.testBit l then (a.1 ||| S.2.2 l, a.2 + n_pc (S.2.2 l)) else a) (0, 0) k).1.testBit i = true ↔ ∃ l, l < k ∧ x.testBit l = true ∧ on S l i) ∧ (it (fun l (a : Nat × Nat) => if x.testBit l then (a.1 ||| S.2.2 l, a.2 + n_pc (S.2.2 l)) else a) (0, 0) k).1 < 256 ∧ n_pc (it (fun l (a : Nat × Nat) => if x.testBit l then (a.1 ||| S.2.2 l, a.2 + n_pc (S.2.2 l)) else a) (0, 0) k).1 ≤ (it (fun l (a : Nat × Nat) => if x.testBit l then (a.1 ||| S.2.2 l, a.2 + n_pc (S.2.2 l)) else a) (0, 0) k).2 ∧ (n_pc (it (fun l (a : Nat × Nat) => if x.testBit l then (a.1 ||| S.2.2 l, a.2 + n_pc (S.2.2 l)) else a) (0, 0) k).1 = (it (fun l (a : Nat × Nat) => if x.testBit l then (a.1 ||| S.2.2 l, a.2 + n_pc (S.2.2 l)) else a) (0, 0) k).2 ↔ ∀ i l l', l < k → l' < k → x.testBit l = true → x.testBit l' = true → on S l i → on S l' i → l = l') := by
  intro k
  induction k with
  | zero => intro _; exact ⟨fun i => ⟨fun h => (by have h : (0 : Nat).testBit i = true := h; rw [Nat.zero_testBit] at h; cases h), fun ⟨l, hl, _⟩ => absurd hl (Nat.not_lt_zero _)⟩, by show (0 : Nat) < 256; decide, by show n_pc 0 ≤ 0; decide, ⟨fun _ i l l' hl => absurd hl (Nat.not_lt_zero _), fun _ => by show n_pc 0 = 0; decide⟩⟩
  | succ k ih =>
    intro hk
    obtain ⟨i1, i2, i3, i4⟩ := ih (by omega)
    rw [it_s]
    obtain ⟨a, ea⟩ : ∃ a, a = it (fun l (a : Nat × Nat) => if x.testBit l then (a.1 ||| S.2.2 l, a.2 + n_pc (S.2.2 l)) else a) (0, 0) k := ⟨_, rfl⟩
    rw [← ea] at i1 i2 i3 i4 ⊢
    cases hb : x.testBit k
    · rw [if_neg (by decide)]
      refine ⟨fun i => ?_, i2, i3, ?_⟩
      · rw [i1 i]
        constructor
        · rintro ⟨l, l1, l2⟩; exact ⟨l, by omega, l2⟩
        · rintro ⟨l, l1, l2, l3⟩
          by_cases e : l = k
          · rw [e, hb] at l2; cases l2
          · exact ⟨l, by omega, l2, l3⟩
      · rw [i4]
        constructor
        · intro h i l l' h1 h2 h3 h4
          by_cases e : l = k
          · rw [e, hb] at h3; cases h3
          · by_cases e' : l' = k
            · rw [e', hb] at h4; cases h4
            · exact h i l l' (by omega) (by omega) h3 h4
        · intro h i l l' h1 h2; exact h i l l' (by omega) (by omega)
    · rw [if_pos rfl]
      have po := pc_or a.1 (S.2.2 k)
      have z0 : n_pc 0 = 0 := by decide
      refine ⟨fun i => ?_, or_lt256 i2 (sok_256 hS k), ?_, ?_⟩
      · show (a.1 ||| S.2.2 k).testBit i = true ↔ _
        rw [Nat.testBit_or, Bool.or_eq_true, i1 i]
        constructor
        · rintro (⟨l, l1, l2⟩ | h)
          · exact ⟨l, by omega, l2⟩
          · exact ⟨k, by omega, hb, h⟩
        · rintro ⟨l, l1, l2, l3⟩
          by_cases e : l = k
          · rw [e] at l3; exact Or.inr l3
          · exact Or.inl ⟨l, by omega, l2, l3⟩
      · show n_pc (a.1 ||| S.2.2 k) ≤ a.2 + n_pc (S.2.2 k)
        omega
      · show n_pc (a.1 ||| S.2.2 k) = a.2 + n_pc (S.2.2 k) ↔ _
        have e1 : n_pc (a.1 ||| S.2.2 k) = a.2 + n_pc (S.2.2 k) ↔ (n_pc a.1 = a.2 ∧ n_pc (a.1 &&& S.2.2 k) = 0) := by omega
        have e2 : n_pc (a.1 &&& S.2.2 k) = 0 ↔ a.1 &&& S.2.2 k = 0 := ⟨fun h => pc_0 (Nat.lt_of_le_of_lt Nat.and_le_left (Nat.lt_trans i2 (by decide))) h, fun h => by rw [h]; exact z0⟩
        rw [e1, e2, i4]
        constructor
        · rintro ⟨h1, h2⟩ i l l' c1 c2 c3 c4 c5 c6
          have nb : ∀ q, q < k → x.testBit q = true → on S q i → ¬ on S k i := fun q d1 d2 d3 d4 => and_ne.mpr ⟨i, (i1 i).mpr ⟨q, d1, d2, d3⟩, d4⟩ h2
          by_cases e : l = k
          · by_cases e' : l' = k
            · omega
            · rw [e] at c5; exact absurd c5 (nb l' (by omega) c4 c6)
          · by_cases e' : l' = k
            · rw [e'] at c6; exact absurd c6 (nb l (by omega) c3 c5)
            · exact h1 i l l' (by omega) (by omega) c3 c4 c5 c6
        · intro h
          refine ⟨fun i l l' c1 c2 => h i l l' (by omega) (by omega), ?_⟩
          apply Classical.byContradiction
          intro n
          obtain ⟨i, d1, d2⟩ := and_ne.mp n
          obtain ⟨q, q1, q2, q3⟩ := (i1 i).mp d1
          have := h i q k (by omega) (by omega) q2 hb q3 d2
          omega
theorem sp_iff (hS : c_sok S) {x : Nat} (hx : x < 2 ^ S.2.1) : ((c_spI S x).1 = 2 ^ S.1 - 1 ∧ (c_spI S x).2 = S.1) ↔ prt S x := by
  have n8 := hS.1.2
  obtain ⟨k1, k2, k3, k4⟩ := spI_k hS x S.2.1 (Nat.le_refl _)
  have eI : it (fun l (a : Nat × Nat) => if x.testBit l then (a.1 ||| S.2.2 l, a.2 + n_pc (S.2.2 l)) else a) (0, 0) S.2.1 = c_spI S x := rfl
  rw [eI] at k1 k2 k3 k4
  have pn : n_pc (2 ^ S.1 - 1) = S.1 := by
    have : ∀ n, n < 9 → n_pc (2 ^ n - 1) = n := by decide +kernel
    exact this S.1 (by omega)
  have bl : ∀ l, x.testBit l = true → l < S.2.1 := fun l hl => by
    apply Classical.byContradiction
    intro q
    rw [Nat.testBit_lt_two_pow (Nat.lt_of_lt_of_le hx (Nat.pow_le_pow_right (by decide) (by omega)))] at hl
    cases hl
  constructor
  · rintro ⟨h1, h2⟩
    refine ⟨fun i hi => ?_, fun i l l' a b c d => ?_⟩
    · have : (c_spI S x).1.testBit i = true := by rw [h1, Nat.testBit_two_pow_sub_one]; exact decide_eq_true hi
      obtain ⟨l, _, l2⟩ := (k1 i).mp this
      exact ⟨l, l2⟩
    · have e : n_pc (c_spI S x).1 = (c_spI S x).2 := by rw [h1, h2]; exact pn
      exact k4.mp e i l l' (bl l a) (bl l' b) a b c d
  · rintro ⟨h1, h2⟩
    have e1 : (c_spI S x).1 = 2 ^ S.1 - 1 := by
      apply Nat.eq_of_testBit_eq
      intro i
      apply Bool.eq_iff_iff.mpr
      rw [k1 i, Nat.testBit_two_pow_sub_one, decide_eq_true_iff]
      constructor
      · rintro ⟨l, _, _, l3⟩; exact on_lt hS l3
      · intro hi
        obtain ⟨l, a, b⟩ := h1 i hi
        exact ⟨l, bl l a, a, b⟩
    refine ⟨e1, ?_⟩
    have := k4.mpr (fun i l l' _ _ a b c d => h2 i l l' a b c d)
    rw [← this, e1]
    exact pn
theorem sp_it (hS : c_sok S) : ∀ k, k ≤ 2 ^ S.2.1 → ∃ L : List Nat, (∀ x, x ∈ L ↔ (x < k ∧ prt S x)) ∧ L.Nodup ∧ (it (c_spF S) (0, mI) k).1 = L.length ∧ ((L = [] ∧ (it (c_spF S) (0, mI) k).2 = mI) ∨ ∃ x, x ∈ L ∧ (∀ y, y ∈ L → x ≤ y) ∧ (it (c_spF S) (0, mI) k).2 = nI x) := by
  have m12 := hS.2.1
  have pb : 2 ^ S.2.1 ≤ 2 ^ 12 := Nat.pow_le_pow_right (by decide) m12
  intro k
  induction k with
  | zero => intro _; exact ⟨[], fun x => ⟨fun h => (by cases h), fun h => absurd h.1 (Nat.not_lt_zero _)⟩, List.nodup_nil, rfl, Or.inl ⟨rfl, rfl⟩⟩
  | succ k ih =>
    intro hk
    obtain ⟨L, h1, h2, h3, h4⟩ := ih (by omega)
    rw [it_s]
    obtain ⟨a, ea⟩ : ∃ a, a = it (c_spF S) (0, mI) k := ⟨_, rfl⟩
    rw [← ea] at h3 h4 ⊢
    unfold c_spF
    by_cases c : prt S k
    · rw [if_pos ((sp_iff hS (by omega)).mpr c)]
      refine ⟨k :: L, fun x => ?_, List.nodup_cons.mpr ⟨fun h => by have := ((h1 k).mp h).1; omega, h2⟩, by show a.1 + 1 = _; rw [h3, List.length_cons], Or.inr ?_⟩
      · rw [List.mem_cons, h1 x]
        constructor
        · rintro (e | ⟨d, e⟩)
          · rw [e]; exact ⟨by omega, c⟩
          · exact ⟨by omega, e⟩
        · rintro ⟨d, e⟩
          by_cases q : x = k
          · exact Or.inl q
          · exact Or.inr ⟨by omega, e⟩
      · show ∃ x, x ∈ k :: L ∧ (∀ y, y ∈ k :: L → x ≤ y) ∧ (if a.2 = mI then nI k else a.2) = nI x
        rcases h4 with ⟨d1, d2⟩ | ⟨x, d1, d2, d3⟩
        · rw [if_pos d2, d1]
          exact ⟨k, List.mem_cons_self, fun y hy => (by rcases List.mem_cons.mp hy with e | e; omega; cases e), rfl⟩
        · have hx := ((h1 x).mp d1).1
          rw [d3, if_neg (show ¬ nI x = mI from t_ne1 (by omega))]
          exact ⟨x, List.mem_cons_of_mem _ d1, fun y hy => by rcases List.mem_cons.mp hy with e | e; omega; exact d2 y e, rfl⟩
    · rw [if_neg (fun h => c ((sp_iff hS (by omega)).mp h))]
      refine ⟨L, fun x => ?_, h2, h3, h4⟩
      rw [h1 x]
      constructor
      · rintro ⟨d, e⟩; exact ⟨by omega, e⟩
      · rintro ⟨d, e⟩
        by_cases q : x = k
        · rw [q] at e; exact absurd e c
        · exact ⟨by omega, e⟩
theorem cvF_l : ∀ (L : List Nat) (st : Nat × Int32), (∀ x, x ∈ L → x < 4096) → (L.foldl cvF st).1 = st.1 + L.length ∧ ((st.2 = mI → (L = [] ∧ (L.foldl cvF st).2 = mI) ∨ ∃ x, x ∈ L ∧ (∀ y, y ∈ L → x ≤ y) ∧ (L.foldl cvF st).2 = nI x) ∧ ∀ v, v < 4096 → st.2 = nI v → ∃ x, (x = v ∨ x ∈ L) ∧ x ≤ v ∧ (∀ y, y ∈ L → x ≤ y) ∧ (L.foldl cvF st).2 = nI x)
  | [], st, _ => ⟨rfl, fun h => Or.inl ⟨rfl, h⟩, fun v _ h => ⟨v, Or.inl rfl, Nat.le_refl _, fun y hy => (by cases hy), h⟩⟩
  | a :: L, st, hb => by
    have ha := hb a List.mem_cons_self
    obtain ⟨h1, h2, h3⟩ := cvF_l L (cvF st a) (fun x hx => hb x (List.mem_cons_of_mem _ hx))
    rw [List.foldl_cons]
    refine ⟨by rw [h1, List.length_cons]; show st.1 + 1 + _ = _; omega, fun hm => Or.inr ?_, fun v hv hst => ?_⟩
    · have e : (cvF st a).2 = nI a := by show (if st.2 = mI then nI a else _) = _; rw [if_pos hm]
      obtain ⟨x, x1, x2, x3, x4⟩ := h3 a ha e
      refine ⟨x, ?_, fun y hy => ?_, x4⟩
      · rcases x1 with e | e
        · rw [e]; exact List.mem_cons_self
        · exact List.mem_cons_of_mem _ e
      · rcases List.mem_cons.mp hy with e | e
        · omega
        · exact x3 y e
    · by_cases c : a < v
      · have e : (cvF st a).2 = nI a := by show (if st.2 = mI then nI a else if nI a < st.2 then nI a else st.2) = _; rw [hst, if_neg (show ¬ nI v = mI from t_ne1 (by omega)), if_pos (nI_lt c (by omega))]
        obtain ⟨x, x1, x2, x3, x4⟩ := h3 a ha e
        refine ⟨x, ?_, by omega, fun y hy => ?_, x4⟩
        · rcases x1 with e | e
          · rw [e]; exact Or.inr List.mem_cons_self
          · exact Or.inr (List.mem_cons_of_mem _ e)
        · rcases List.mem_cons.mp hy with e | e
          · omega
          · exact x3 y e
      · have e : (cvF st a).2 = nI v := by show (if st.2 = mI then nI a else if nI a < st.2 then nI a else st.2) = _; rw [hst, if_neg (show ¬ nI v = mI from t_ne1 (by omega)), if_neg (nI_nlt (by omega) (by omega))]
        obtain ⟨x, x1, x2, x3, x4⟩ := h3 v hv e
        refine ⟨x, ?_, x2, fun y hy => ?_, x4⟩
        · rcases x1 with e | e
          · exact Or.inl e
          · exact Or.inr (List.mem_cons_of_mem _ e)
        · rcases List.mem_cons.mp hy with e | e
          · omega
          · exact x3 y e
theorem sp_eq (hS : c_sok S) : g_sp S = c_sp S := by
  have m12 := hS.2.1
  have pb : 2 ^ S.2.1 ≤ 2 ^ 12 := Nat.pow_le_pow_right (by decide) m12
  obtain ⟨m1, m2⟩ := cv_mem hS (S.1 + 1) 0 0 0 (by omega) (Nat.zero_le _) ⟨fun i => ⟨fun h => (by rw [Nat.zero_testBit] at h; cases h), fun ⟨l, hl, _⟩ => (by rw [Nat.zero_testBit] at hl; cases hl)⟩, fun i hi => absurd hi (Nat.not_lt_zero _), fun i l l' h => (by rw [Nat.zero_testBit] at h; cases h), Nat.two_pow_pos _⟩
  have m1' : ∀ x, x ∈ cvL S (S.1 + 1) 0 0 0 ↔ (x < 2 ^ S.2.1 ∧ prt S x) := fun x => by
    rw [m1 x]
    exact ⟨fun h => ⟨h.2.1, h.1⟩, fun h => ⟨h.2, h.1, fun i hi => (by rw [Nat.zero_testBit] at hi; cases hi), fun l i _ _ hi => absurd hi (Nat.not_lt_zero _)⟩⟩
  obtain ⟨L, l1, l2, l3, l4⟩ := sp_it hS (2 ^ S.2.1) (Nat.le_refl _)
  have ec : it (c_spF S) (0, mI) (2 ^ S.2.1) = c_sp S := rfl
  rw [ec] at l3 l4
  unfold g_sp
  rw [cv_fold]
  obtain ⟨C, eC⟩ : ∃ C, C = cvL S (S.1 + 1) 0 0 0 := ⟨_, rfl⟩
  rw [← eC] at m1' m2 ⊢
  obtain ⟨f1, f2, _⟩ := cvF_l C (0, mI) (fun x hx => by have := ((m1' x).mp hx).1; omega)
  have len : C.length = L.length := Nat.le_antisymm (m2.length_le_of_subset (fun x hx => (l1 x).mpr ((m1' x).mp hx))) (l2.length_le_of_subset (fun x hx => (m1' x).mpr ((l1 x).mp hx)))
  refine Prod.ext ?_ ?_
  · rw [f1, l3, len]; exact Nat.zero_add _
  · rcases f2 rfl with ⟨c1, c2⟩ | ⟨x, x1, x2, x3⟩
    · rcases l4 with ⟨d1, d2⟩ | ⟨y, y1, _, _⟩
      · rw [c2, d2]
      · have := (m1' y).mpr ((l1 y).mp y1)
        rw [c1] at this
        cases this
    · rcases l4 with ⟨d1, d2⟩ | ⟨y, y1, y2, y3⟩
      · have := (l1 x).mpr ((m1' x).mp x1)
        rw [d1] at this
        cases this
      · rw [x3, y3]
        have a1 := x2 y ((m1' y).mpr ((l1 y).mp y1))
        have a2 := y2 x ((l1 x).mpr ((m1' x).mp x1))
        rw [Nat.le_antisymm a1 a2]
end B19
