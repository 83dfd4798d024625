/-! MATHEMATICS: boards and drawings -/
section B25
variable {S : Sc}
theorem lop_e {A : Nat → Nat → Int32} {md pl : Nat} (hpl : pl ≤ 16) {x y : Nat} (hx : x < pl) (hy : y < pl) (hxy : x ≠ y) : g_lop A md pl (x * 16 + y) = g_inl A md pl (max x y) (min x y) := by
  have inner : ∀ a R j, a < 16 → j ≤ a → ∀ x y, x < 16 → y < 16 → x ≠ y → it (lopS A md pl a) R j (x * 16 + y) = if max x y = a ∧ min x y < j then g_inl A md pl (max x y) (min x y) else R (x * 16 + y) := by
    intro a R j
    induction j with
    | zero => intro _ _ x y _ _ _; rw [if_neg (by omega)]; rfl
    | succ j ih =>
      intro ha hj x y hx hy hxy
      rw [it_s]
      obtain ⟨Q, eQ⟩ : ∃ Q, Q = it (lopS A md pl a) R j := ⟨_, rfl⟩
      have ih := ih ha (by omega) x y hx hy hxy
      rw [← eQ] at ih ⊢
      unfold lopS
      by_cases e1 : x * 16 + y = j * 16 + a
      · have h1 : x = j := by omega
        have h2 : y = a := by omega
        rw [e1, u_eq, if_pos (by omega), show max x y = a by omega, show min x y = j by omega]
      · rw [u_ne _ _ e1]
        by_cases e2 : x * 16 + y = a * 16 + j
        · have h1 : x = a := by omega
          have h2 : y = j := by omega
          rw [e2, u_eq, if_pos (by omega), show max x y = a by omega, show min x y = j by omega]
        · rw [u_ne _ _ e2, ih]
          by_cases c : max x y = a ∧ min x y < j
          · rw [if_pos c, if_pos (by omega)]
          · rw [if_neg c, if_neg (by omega)]
  have outer : ∀ k, k ≤ pl → ∀ x y, x < 16 → y < 16 → x ≠ y → it (fun a R => it (lopS A md pl a) R a) (fun _ => 0) k (x * 16 + y) = if max x y < k then g_inl A md pl (max x y) (min x y) else 0 := by
    intro k
    induction k with
    | zero => intro _ x y _ _ _; rw [if_neg (by omega)]; rfl
    | succ k ih =>
      intro hk x y hx hy hxy
      rw [it_s, inner k _ k (by omega) (Nat.le_refl _) x y hx hy hxy, ih (by omega) x y hx hy hxy]
      by_cases c : max x y = k ∧ min x y < k
      · rw [if_pos c, if_pos (by omega)]
      · rw [if_neg c]
        by_cases d : max x y < k
        · rw [if_pos d, if_pos (by omega)]
        · rw [if_neg d, if_neg (by omega)]
  unfold g_lop
  rw [outer pl (Nat.le_refl _) x y (by omega) (by omega) hxy, if_pos (by omega)]
theorem inl_b {A : Nat → Nat → Int32} {md pl a b c : Nat} : (g_inl A md pl a b).testBit c = true ↔ (c = a ∨ c = b ∨ (c < pl ∧ spz md (g_span A a b c) = true)) := by
  have key : ∀ k, (it (fun c v => if spz md (g_span A a b c) then v ||| 2 ^ c else v) (2 ^ a ||| 2 ^ b) k).testBit c = true ↔ (c = a ∨ c = b ∨ (c < k ∧ spz md (g_span A a b c) = true)) := by
    intro k
    induction k with
    | zero =>
      show (2 ^ a ||| 2 ^ b).testBit c = true ↔ _
      rw [bt2, Bool.or_eq_true, decide_eq_true_iff, decide_eq_true_iff]
      constructor
      · rintro (h | h)
        · exact Or.inl h.symm
        · exact Or.inr (Or.inl h.symm)
      · rintro (h | h | ⟨h, _⟩)
        · exact Or.inl h.symm
        · exact Or.inr h.symm
        · exact absurd h (Nat.not_lt_zero _)
    | succ k ih =>
      rw [it_s]
      cases hs : spz md (g_span A a b k)
      · rw [if_neg (by decide), ih]
        constructor
        · rintro (h | h | ⟨h1, h2⟩)
          · exact Or.inl h
          · exact Or.inr (Or.inl h)
          · exact Or.inr (Or.inr ⟨by omega, h2⟩)
        · rintro (h | h | ⟨h1, h2⟩)
          · exact Or.inl h
          · exact Or.inr (Or.inl h)
          · by_cases e : c = k
            · rw [e, hs] at h2; cases h2
            · exact Or.inr (Or.inr ⟨by omega, h2⟩)
      · rw [if_pos rfl, cv_or, ih]
        constructor
        · rintro ((h | h | ⟨h1, h2⟩) | h)
          · exact Or.inl h
          · exact Or.inr (Or.inl h)
          · exact Or.inr (Or.inr ⟨by omega, h2⟩)
          · exact Or.inr (Or.inr ⟨by omega, by rw [h]; exact hs⟩)
        · rintro (h | h | ⟨h1, h2⟩)
          · exact Or.inl (Or.inl h)
          · exact Or.inl (Or.inr (Or.inl h))
          · by_cases e : c = k
            · exact Or.inr e
            · exact Or.inl (Or.inr (Or.inr ⟨by omega, h2⟩))
  exact key pl
/-- three points on a line -/
def col (S : Sc) (a b c : Nat) : Prop := ∃ l, on S l a ∧ on S l b ∧ on S l c
theorem col_1 {a b c : Nat} (h : col S a b c) : col S b a c := by obtain ⟨l, h1, h2, h3⟩ := h; exact ⟨l, h2, h1, h3⟩
theorem col_2 {a b c : Nat} (h : col S a b c) : col S a c b := by obtain ⟨l, h1, h2, h3⟩ := h; exact ⟨l, h1, h3, h2⟩
theorem cof_col (a b c : Nat) (hS : c_sok S) : c_of S (2 ^ a ||| 2 ^ b ||| 2 ^ c) < S.2.1 ↔ col S a b c := by
  have b3 : ∀ i, (2 ^ a ||| 2 ^ b ||| 2 ^ c).testBit i = true ↔ (a = i ∨ b = i ∨ c = i) := fun i => by
    rw [Nat.testBit_or, bt2, Nat.testBit_two_pow, Bool.or_eq_true, Bool.or_eq_true, decide_eq_true_iff, decide_eq_true_iff, decide_eq_true_iff]
    omega
  constructor
  · intro h
    have hy := cof_y h
    exact ⟨_, hy a ((b3 a).mpr (Or.inl rfl)), hy b ((b3 b).mpr (Or.inr (Or.inl rfl))), hy c ((b3 c).mpr (Or.inr (Or.inr rfl)))⟩
  · rintro ⟨l, h1, h2, h3⟩
    exact cof_n (on_m hS h1) (fun i hi => by
      rcases (b3 i).mp hi with e | e | e
      · rw [← e]; exact h1
      · rw [← e]; exact h2
      · rw [← e]; exact h3)
theorem pc_tri3 {x a b c : Nat} (ha : a < 12) (hb : b < 12) (hc : c < 12) (hab : a ≠ b) (hac : a ≠ c) (hbc : b ≠ c) (h1 : x.testBit a = true) (h2 : x.testBit b = true) (h3 : x.testBit c = true) : 2 < n_pc x := by
  rw [pc_len]
  have := nd_le (A := [a, b, c]) (B := (List.range 12).filter (fun i => x.testBit i)) (fun i => i) (by simp [hab, hac, hbc]) (fun i hi => bt_mem.mpr (by
    simp at hi
    rcases hi with e | e | e
    · rw [e]; exact ⟨ha, h1⟩
    · rw [e]; exact ⟨hb, h2⟩
    · rw [e]; exact ⟨hc, h3⟩)) (fun _ _ _ _ e => e)
  exact this
theorem wp_col (hS : c_sok S) {a b c : Nat} (hab : a ≠ b) (hac : a ≠ c) (hbc : b ≠ c) : col (wpS S) a b c ↔ col S a b c := by
  obtain ⟨i1, i2, i3, i4, i5, i6⟩ := wp_I hS S.2.1 (Nat.le_refl _)
  have eW : (wpS S).2.2 = (it (wpF S) (0, fun _ => 0) S.2.1).2 := rfl
  constructor
  · rintro ⟨l, h1, h2, h3⟩
    have hl := on_m (wp_sok hS) h1
    obtain ⟨i, _, e, _⟩ := i3 l hl
    unfold on at h1 h2 h3
    rw [eW, e] at h1 h2 h3
    exact ⟨i, h1, h2, h3⟩
  · rintro ⟨i, h1, h2, h3⟩
    have a8 := on_8 hS h1
    have b8 := on_8 hS h2
    have c8 := on_8 hS h3
    obtain ⟨l, _, e⟩ := i5 i (on_m hS h1) (pc_tri3 (by omega) (by omega) (by omega) hab hac hbc h1 h2 h3)
    refine ⟨l, ?_, ?_, ?_⟩
    · unfold on; rw [eW, e]; exact h1
    · unfold on; rw [eW, e]; exact h2
    · unfold on; rw [eW, e]; exact h3
theorem TL_col (hS : c_sok S) {q q' r : Nat} (hq : q < 8) (hq' : q' < 8) (h1 : q ≠ q') : (d_TL S (q * 8 + q')).testBit r = true ↔ col S q q' r := by
  unfold d_TL
  rw [show (q * 8 + q') / 8 = q by omega, show (q * 8 + q') % 8 = q' by omega, if_neg h1]
  constructor
  · intro h
    by_cases c : c_of S (2 ^ q ||| 2 ^ q') < S.2.1
    · rw [if_pos c] at h
      have hy := cof_y c
      exact ⟨_, hy q (by rw [bt2, decide_eq_true rfl]; rfl), hy q' (by rw [bt2, decide_eq_true (rfl : q' = q'), Bool.or_true]), h⟩
    · rw [if_neg c, Nat.zero_testBit] at h; cases h
  · rintro ⟨l, o1, o2, o3⟩
    have c : c_of S (2 ^ q ||| 2 ^ q') < S.2.1 := cof_n (on_m hS o1) (fun i hi => by
      rw [bt2, Bool.or_eq_true, decide_eq_true_iff, decide_eq_true_iff] at hi
      rcases hi with e | e
      · rw [← e]; exact o1
      · rw [← e]; exact o2)
    rw [if_pos c]
    have hy := cof_y c
    have e : c_of S (2 ^ q ||| 2 ^ q') = l := ln_un hS h1 (hy q (by rw [bt2, decide_eq_true rfl]; rfl)) (hy q' (by rw [bt2, decide_eq_true (rfl : q' = q'), Bool.or_true])) o1 o2
    rw [e]
    exact o3
/-- a drawing -/
def Dr (S : Sc) (il : Nat → Nat → Nat → Bool) (pl : Nat) (M : Nat → Nat) : Prop := (∀ i, S.1 ≤ i → M i = 0) ∧ (∀ i, i < S.1 → M i < pl) ∧ (∀ a b, a < S.1 → b < S.1 → a ≠ b → M a ≠ M b) ∧ ∀ a b c, a < S.1 → b < S.1 → c < S.1 → a ≠ b → a ≠ c → b ≠ c → (il (M a) (M b) (M c) = true ↔ col S a b c)
/-- in whatever order -/
def ilY (il : Nat → Nat → Nat → Bool) (pl : Nat) : Prop := ∀ a b c, a < pl → b < pl → c < pl → il a b c = il b a c ∧ il a b c = il a c b
theorem rlq_Dr (hS : c_sok S) {il : Nat → Nat → Nat → Bool} {pl : Nat} (hi : ilY il pl) {N M : Nat → Nat} : M ∈ rlq S il pl 0 N ↔ Dr S il pl M := by
  rw [rlq_mem]
  have fw : ∀ r, c_fwL S il M r = true ↔ ∀ a, a < r → (M a ≠ M r ∧ ∀ b, b < a → (il (M a) (M b) (M r) = true ↔ col S a b r)) := fun r => by
    unfold c_fwL
    rw [Bool.not_eq_true', any_fiff]
    constructor
    · intro h a ha
      have h1 := h a ha
      rw [Bool.or_eq_false_iff] at h1
      refine ⟨of_decide_eq_false h1.1, fun b hb => ?_⟩
      have h2 := any_fiff.mp h1.2 b hb
      rw [bne_eq_false_iff_eq] at h2
      rw [h2, decide_eq_true_iff, cof_col a b r hS]
    · intro h a ha
      obtain ⟨h1, h2⟩ := h a ha
      rw [Bool.or_eq_false_iff]
      refine ⟨decide_eq_false h1, any_f (fun b hb => ?_)⟩
      rw [bne_eq_false_iff_eq]
      apply Bool.eq_iff_iff.mpr
      rw [decide_eq_true_iff, cof_col a b r hS]
      exact h2 b hb
  constructor
  · rintro ⟨h1, h2, h3⟩
    have h3' := fun r hr => (fw r).mp (h3 r hr)
    refine ⟨h1, h2, fun a b ha hb hab => ?_, fun a b c ha hb hc hab hac hbc => ?_⟩
    · rcases Nat.lt_or_gt_of_ne hab with q | q
      · exact (h3' b hb a q).1
      · exact fun e => (h3' a ha b q).1 e.symm
    · -- all orders
      have base : ∀ a b c, c < S.1 → b < a → a < c → (il (M a) (M b) (M c) = true ↔ col S a b c) := fun a b c hc h4 h5 => (h3' c hc a h5).2 b h4
      have s1 : ∀ a b c, a < S.1 → b < S.1 → c < S.1 → (il (M a) (M b) (M c) = true ↔ col S a b c) → (il (M b) (M a) (M c) = true ↔ col S b a c) := fun a b c ha hb hc h => by
        rw [← (hi (M a) (M b) (M c) (h2 a ha) (h2 b hb) (h2 c hc)).1, h]
        exact ⟨col_1, col_1⟩
      have s2 : ∀ a b c, a < S.1 → b < S.1 → c < S.1 → (il (M a) (M b) (M c) = true ↔ col S a b c) → (il (M a) (M c) (M b) = true ↔ col S a c b) := fun a b c ha hb hc h => by
        rw [← (hi (M a) (M b) (M c) (h2 a ha) (h2 b hb) (h2 c hc)).2, h]
        exact ⟨col_2, col_2⟩
      have w1 : ∀ a b c, a < S.1 → b < S.1 → c < S.1 → a < c → b < c → a ≠ b → (il (M a) (M b) (M c) = true ↔ col S a b c) := fun a b c ha hb hc h4 h5 h6 => by
        rcases Nat.lt_or_gt_of_ne h6 with q | q
        · exact s1 b a c hb ha hc (base b a c hc q h5)
        · exact base a b c hc q h4
      by_cases c1 : a < c ∧ b < c
      · exact w1 a b c ha hb hc c1.1 c1.2 hab
      · by_cases c2 : a < b ∧ c < b
        · exact s2 a c b ha hc hb (w1 a c b ha hc hb c2.1 c2.2 hac)
        · have h4 : b < a ∧ c < a := by omega
          exact s1 b a c hb ha hc (s2 b c a hb hc ha (w1 b c a hb hc ha h4.1 h4.2 hbc))
  · rintro ⟨h1, h2, h3, h4⟩
    exact ⟨h1, h2, fun r hr => (fw r).mpr (fun a ha => ⟨h3 a r (by omega) hr (by omega), fun b hb => h4 a b r (by omega) (by omega) hr (by omega) (by omega) (by omega)⟩)⟩
/-- the class's rows: drawings, with room, twins rising -/
theorem dls_Dr (hS : c_sok S) {i : Nat} (hi5 : i < 5) {il : Nat → Nat → Nat → Bool} (hi : ilY il (d_pl i)) (hL : ∀ v w u, v < d_pl i → w < d_pl i → u < d_pl i → v ≠ w → v ≠ u → w ≠ u → ((d_LI i (v * 16 + w)).testBit u = true ↔ il v w u = true)) {tf : Nat} {R0 M : Nat → Nat} : M ∈ dls (d_TL (wpS S)) (d_LI i) (g_twT (wpS S)) tf S.1 (d_pl i) R0 S.1 0 (fun _ => 0) ↔ (Dr S il (d_pl i) M ∧ (∀ r, r < S.1 → (R0 r).testBit (M r) = true) ∧ ∀ q r, q < r → r < S.1 → tf ≤ q → tE (wpS S) r q = true → M q < M r) := by
  have n8 := hS.1.2
  rw [dls_mem, ← rlq_Dr hS hi (N := fun _ => 0), rlq_mem]
  have lt : ∀ q r, (d_lt (g_twT (wpS S)) tf q).testBit r = true ↔ (tf ≤ q ∧ tE (wpS S) r q = true) := fun q r => by
    unfold d_lt tE
    by_cases c : q < tf
    · rw [if_pos c, Nat.zero_testBit]; exact ⟨fun h => (by cases h), fun h => by omega⟩
    · rw [if_neg c]; exact ⟨fun h => ⟨by omega, h⟩, fun h => h.2⟩
  have fw : ∀ r, c_fwL S il M r = true ↔ ∀ a, a < r → (M a ≠ M r ∧ ∀ b, b < a → (il (M a) (M b) (M r) = true ↔ col S a b r)) := fun r => by
    unfold c_fwL
    rw [Bool.not_eq_true', any_fiff]
    constructor
    · intro h a ha
      have h1 := h a ha
      rw [Bool.or_eq_false_iff] at h1
      refine ⟨of_decide_eq_false h1.1, fun b hb => ?_⟩
      have h2 := any_fiff.mp h1.2 b hb
      rw [bne_eq_false_iff_eq] at h2
      rw [h2, decide_eq_true_iff, cof_col a b r hS]
    · intro h a ha
      obtain ⟨h1, h2⟩ := h a ha
      rw [Bool.or_eq_false_iff]
      refine ⟨decide_eq_false h1, any_f (fun b hb => ?_)⟩
      rw [bne_eq_false_iff_eq]
      apply Bool.eq_iff_iff.mpr
      rw [decide_eq_true_iff, cof_col a b r hS]
      exact h2 b hb
  have tl : ∀ q q' r, q' < q → q < r → r < S.1 → ((d_TL (wpS S) (q * 8 + q')).testBit r = true ↔ col S q q' r) := fun q q' r h1 h2 h3 => by
    rw [TL_col (wp_sok hS) (by omega) (by omega) (by omega), wp_col hS (by omega) (by omega) (by omega)]
  constructor
  · rintro ⟨h1, h2, h3⟩
    refine ⟨⟨h1, h2, fun r hr => (fw r).mpr (fun a ha => ?_)⟩, fun r hr => (h3 r hr).1, fun q r hqr hr htf he => ((h3 r hr).2 q hqr).2.1 ((lt q r).mpr ⟨htf, he⟩)⟩
    obtain ⟨k1, _, k3⟩ := (h3 r hr).2 a ha
    refine ⟨fun e => k1 e.symm, fun b hb => ?_⟩
    have hab := ((h3 a (by omega)).2 b hb).1
    have hbr := ((h3 r hr).2 b (by omega)).1
    rw [← hL (M a) (M b) (M r) (h2 a (by omega)) (h2 b (by omega)) (h2 r hr) hab (fun e => k1 e.symm) (fun e => hbr e.symm), ← k3 b hb]
    exact tl a b r hb ha hr
  · rintro ⟨⟨h1, h2, h3⟩, h4, h5⟩
    have h3' := fun r hr => (fw r).mp (h3 r hr)
    refine ⟨h1, h2, fun r hr => ⟨h4 r hr, fun q hq => ?_⟩⟩
    obtain ⟨k1, k2⟩ := h3' r hr q hq
    refine ⟨fun e => k1 e.symm, fun hl => ?_, fun q' hq' => ?_⟩
    · obtain ⟨a, b⟩ := (lt q r).mp hl
      exact h5 q r hq hr a b
    · have hqq := (h3' q (by omega) q' hq').1
      have hqr := (h3' r hr q' (by omega)).1
      rw [tl q q' r hq' hq hr, ← k2 q' hq', hL (M q) (M q') (M r) (h2 q (by omega)) (h2 q' (by omega)) (h2 r hr) (fun e => hqq e.symm) k1 hqr]
/-- twins may change their places -/
theorem Dr_tw (hS : c_sok S) {il : Nat → Nat → Nat → Bool} {pl : Nat} {M : Nat → Nat} (hD : Dr S il pl M) {a b : Nat} (he : tE (wpS S) a b = true) : Dr S il pl (fun i => M (trs a b i)) := by
  have hW := wp_sok hS
  obtain ⟨h1, h2, h3, h4⟩ := hD
  obtain ⟨e1, e2, e3, e4⟩ := (tE_i hW).mp he
  have e1' : b < S.1 := e1
  have e2' : a < S.1 := e2
  have w : wy (wpS S) (wpS S) true (trs a b) := wy_c hW (fun i _ => trs_c b a i) e4
  have lt : ∀ i, i < S.1 → trs a b i < S.1 := fun i hi => trx_lt e2' e1' hi
  have ne : ∀ x y, x ≠ y → trs a b x ≠ trs a b y := fun x y h e => h (trx_inj e)
  have cw : ∀ x y z, col (wpS S) x y z → col (wpS S) (trs a b x) (trs a b y) (trs a b z) := fun x y z ⟨l, o1, o2, o3⟩ => by
    obtain ⟨_, φ, f1, _⟩ := w
    have := (f1 l (on_m hW o1)).2.1
    exact ⟨φ l, this x o1, this y o2, this z o3⟩
  refine ⟨fun i hi => ?_, fun i hi => h2 _ (lt i hi), fun x y hx hy hxy => h3 _ _ (lt x hx) (lt y hy) (ne x y hxy), fun x y z hx hy hz hxy hxz hyz => ?_⟩
  · show M (trs a b i) = 0
    unfold trs
    rw [if_neg (by omega), if_neg (by omega)]
    exact h1 i hi
  · show il (M (trs a b x)) (M (trs a b y)) (M (trs a b z)) = true ↔ _
    rw [h4 _ _ _ (lt x hx) (lt y hy) (lt z hz) (ne x y hxy) (ne x z hxz) (ne y z hyz), ← wp_col hS (ne x y hxy) (ne x z hxz) (ne y z hyz), ← wp_col hS hxy hxz hyz]
    constructor
    · intro h
      have := cw _ _ _ h
      rw [trs_tr, trs_tr, trs_tr] at this
      exact this
    · exact cw x y z
/-- a board turned -/
theorem Dr_brd {il : Nat → Nat → Nat → Bool} {pl : Nat} {M σ : Nat → Nat} (hD : Dr S il pl M) (h1 : ∀ v, v < pl → σ v < pl) (h2 : ∀ v w, v < pl → w < pl → σ v = σ w → v = w) (h3 : ∀ u v w, u < pl → v < pl → w < pl → il (σ u) (σ v) (σ w) = il u v w) : Dr S il pl (nrm S.1 (fun i => σ (M i))) := by
  obtain ⟨d1, d2, d3, d4⟩ := hD
  have e : ∀ i, i < S.1 → nrm S.1 (fun i => σ (M i)) i = σ (M i) := fun i hi => if_pos hi
  refine ⟨fun i hi => if_neg (by omega), fun i hi => by rw [e i hi]; exact h1 _ (d2 i hi), fun a b ha hb hab => ?_, fun a b c ha hb hc hab hac hbc => ?_⟩
  · rw [e a ha, e b hb]
    exact fun q => d3 a b ha hb hab (h2 _ _ (d2 a ha) (d2 b hb) q)
  · rw [e a ha, e b hb, e c hc, h3 _ _ _ (d2 a ha) (d2 b hb) (d2 c hc)]
    exact d4 a b c ha hb hc hab hac hbc
/-- two lists in order, the first of the larger in the smaller -/
theorem hd_eq {A B : List (Nat → Nat)} (hA : A.Pairwise lx) (hB : B.Pairwise lx) (hs : ∀ M, M ∈ B → M ∈ A) (h : ∀ M, M ∈ A → (∀ M', M' ∈ A → M' = M ∨ lx M M') → M ∈ B) : B.head? = A.head? := by
  cases A with
  | nil =>
    cases B with
    | nil => rfl
    | cons b B => exact absurd (hs b List.mem_cons_self) (by simp)
  | cons a A =>
    have ha : a ∈ B := h a List.mem_cons_self (fun M' hM' => by
      rcases List.mem_cons.mp hM' with e | e
      · exact Or.inl e
      · exact Or.inr ((List.pairwise_cons.mp hA).1 M' e))
    cases B with
    | nil => cases ha
    | cons b B =>
      show some b = some a
      rcases List.mem_cons.mp ha with e | e
      · rw [e]
      · exfalso
        have l1 := (List.pairwise_cons.mp hB).1 a e
        rcases List.mem_cons.mp (hs b List.mem_cons_self) with f | f
        · rw [f] at l1; exact lx_as l1 l1
        · exact lx_as l1 ((List.pairwise_cons.mp hA).1 b f)
end B25
