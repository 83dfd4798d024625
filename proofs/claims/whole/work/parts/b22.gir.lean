/-! MATHEMATICS: the least ring -/
section B22
variable {S : Sc}
theorem sprb (bar : Option Nat) (x : Nat) : ∀ k i, (it (fun l y => if bar = some l ∨ S.2.2 l &&& x = 0 then y else y ||| S.2.2 l) x k).testBit i = true ↔ (x.testBit i = true ∨ ∃ l, l < k ∧ bar ≠ some l ∧ S.2.2 l &&& x ≠ 0 ∧ on S l i) := by
  intro k
  induction k with
  | zero => intro i; exact ⟨Or.inl, fun h => by rcases h with h | ⟨l, hl, _⟩; exact h; exact absurd hl (Nat.not_lt_zero _)⟩
  | succ k ih =>
    intro i
    rw [it_s]
    by_cases c : bar = some k ∨ S.2.2 k &&& x = 0
    · rw [if_pos c, ih i]
      constructor
      · rintro (h | ⟨l, h1, h2⟩)
        · exact Or.inl h
        · exact Or.inr ⟨l, by omega, h2⟩
      · rintro (h | ⟨l, h1, h2, h3, h4⟩)
        · exact Or.inl h
        · by_cases e : l = k
          · rw [e] at h2 h3
            rcases c with c | c
            · exact absurd c h2
            · exact absurd c h3
          · exact Or.inr ⟨l, by omega, h2, h3, h4⟩
    · rw [if_neg c, Nat.testBit_or, Bool.or_eq_true, ih i]
      constructor
      · rintro ((h | ⟨l, h1, h2⟩) | h)
        · exact Or.inl h
        · exact Or.inr ⟨l, by omega, h2⟩
        · exact Or.inr ⟨k, by omega, fun e => c (Or.inl e), fun e => c (Or.inr e), h⟩
      · rintro (h | ⟨l, h1, h2, h3, h4⟩)
        · exact Or.inl (Or.inl h)
        · by_cases e : l = k
          · rw [e] at h4; exact Or.inr h4
          · exact Or.inl (Or.inr ⟨l, by omega, h2, h3, h4⟩)
theorem rch_s (hS : c_sok S) (i x k j : Nat) : (g_rch S (some i) x (k + 1)).testBit j = true ↔ ((g_rch S (some i) x k).testBit j = true ∨ ∃ l z, l ≠ i ∧ on S l z ∧ (g_rch S (some i) x k).testBit z = true ∧ on S l j) := by
  have e : g_rch S (some i) x (k + 1) = g_spr S (some i) (g_rch S (some i) x k) := rfl
  rw [e]
  unfold g_spr
  rw [sprb]
  constructor
  · rintro (h | ⟨l, h1, h2, h3, h4⟩)
    · exact Or.inl h
    · obtain ⟨z, z1, z2⟩ := and_ne.mp h3
      exact Or.inr ⟨l, z, fun e => h2 (by rw [e]), z1, z2, h4⟩
  · rintro (h | ⟨l, z, h1, h2, h3, h4⟩)
    · exact Or.inl h
    · exact Or.inr ⟨l, on_m hS h2, fun e => h1 (Option.some.inj e).symm, and_ne.mpr ⟨z, h2, h3⟩, h4⟩
theorem rch_mo (hS : c_sok S) {i x k k' j : Nat} (h : k ≤ k') (hj : (g_rch S (some i) x k).testBit j = true) : (g_rch S (some i) x k').testBit j = true := by
  obtain ⟨d, rfl⟩ : ∃ d, k' = k + d := ⟨k' - k, by omega⟩
  induction d with
  | zero => exact hj
  | succ d ih => exact (rch_s hS i x (k + d) j).mpr (Or.inl (ih (by omega)))
theorem rch_st (hS : c_sok S) {i p : Nat} (hp : p < S.1) : ∀ d, g_rch S (some i) (2 ^ p) (8 + d) = g_rch S (some i) (2 ^ p) 8 := by
  have n8 := hS.1.2
  have bd : ∀ k, g_rch S (some i) (2 ^ p) k < 2 ^ S.1 := by
    intro k
    induction k with
    | zero => exact Nat.pow_lt_pow_right (by decide) hp
    | succ k ih =>
      apply Nat.lt_pow_two_of_testBit
      intro j hj
      apply Bool.eq_false_iff.mpr
      intro h
      rcases (rch_s hS i (2 ^ p) k j).mp h with h | ⟨l, z, _, _, _, h4⟩
      · rw [Nat.testBit_lt_two_pow (Nat.lt_of_lt_of_le ih (Nat.pow_le_pow_right (by decide) hj))] at h; cases h
      · have := on_lt hS h4; omega
  have st : ∀ k, g_rch S (some i) (2 ^ p) (k + 1) = g_rch S (some i) (2 ^ p) k → ∀ d, g_rch S (some i) (2 ^ p) (k + d) = g_rch S (some i) (2 ^ p) k := by
    intro k e d
    induction d with
    | zero => rfl
    | succ d ih =>
      have : g_rch S (some i) (2 ^ p) (k + (d + 1)) = g_spr S (some i) (g_rch S (some i) (2 ^ p) (k + d)) := rfl
      rw [this, ih]
      exact e
  have key : ∀ k, (∃ j, j ≤ k ∧ g_rch S (some i) (2 ^ p) (j + 1) = g_rch S (some i) (2 ^ p) j) ∨ 1 + k ≤ n_pc (g_rch S (some i) (2 ^ p) k) := by
    intro k
    induction k with
    | zero =>
      right
      show 1 ≤ n_pc (2 ^ p)
      rw [pc_2p (by omega)]
      exact Nat.le_refl _
    | succ k ih =>
      rcases ih with ⟨j, j1, j2⟩ | h
      · exact Or.inl ⟨j, by omega, j2⟩
      · by_cases e : g_rch S (some i) (2 ^ p) (k + 1) = g_rch S (some i) (2 ^ p) k
        · exact Or.inl ⟨k, by omega, e⟩
        · right
          have := sb_lt (x := g_rch S (some i) (2 ^ p) k) (y := g_rch S (some i) (2 ^ p) (k + 1)) (Nat.lt_of_lt_of_le (bd (k + 1)) (Nat.pow_le_pow_right (by decide) (by omega))) (fun j hj => rch_mo hS (Nat.le_succ _) hj) (fun q => e q.symm)
          omega
  intro d
  rcases key 8 with ⟨j, j1, j2⟩ | h
  · have s := st j j2
    rw [show 8 + d = j + (8 + d - j) by omega, s, show g_rch S (some i) (2 ^ p) 8 = g_rch S (some i) (2 ^ p) (j + (8 - j)) by rw [show j + (8 - j) = 8 by omega], s]
  · have := pc_n (bd 8); omega
/-! a way round makes a ring -/
theorem path (hS : c_sok S) {i p : Nat} : ∀ j y, (g_rch S (some i) (2 ^ p) j).testBit y = true → (∀ t, t < j → (g_rch S (some i) (2 ^ p) t).testBit y = false) → ∃ Y L : Nat → Nat, Y 0 = p ∧ Y j = y ∧ (∀ t, t < j → L (t + 1) ≠ i ∧ on S (L (t + 1)) (Y t) ∧ on S (L (t + 1)) (Y (t + 1))) ∧ ∀ t, t ≤ j → (g_rch S (some i) (2 ^ p) t).testBit (Y t) = true ∧ ∀ t', t' < t → (g_rch S (some i) (2 ^ p) t').testBit (Y t) = false := by
  intro j
  induction j with
  | zero =>
    intro y hy _
    have hy' : (2 ^ p).testBit y = true := hy
    rw [Nat.testBit_two_pow, decide_eq_true_iff] at hy'
    exact ⟨fun _ => p, fun _ => 0, rfl, hy', fun t ht => absurd ht (Nat.not_lt_zero _), fun t ht => by
      have : t = 0 := by omega
      subst this
      exact ⟨by show (2 ^ p).testBit p = true; rw [Nat.testBit_two_pow]; exact decide_eq_true rfl, fun t' h => absurd h (Nat.not_lt_zero _)⟩⟩
  | succ j ih =>
    intro y hy hno
    rcases (rch_s hS i (2 ^ p) j y).mp hy with h | ⟨l, z, h1, h2, h3, h4⟩
    · rw [hno j (by omega)] at h; cases h
    · have zn : ∀ t, t < j → (g_rch S (some i) (2 ^ p) t).testBit z = false := fun t ht => Bool.eq_false_iff.mpr (fun hz => by
        have := (rch_s hS i (2 ^ p) t y).mpr (Or.inr ⟨l, z, h1, h2, hz, h4⟩)
        rw [hno (t + 1) (by omega)] at this
        cases this)
      obtain ⟨Y, L, y0, yj, yl, yr⟩ := ih z h3 zn
      refine ⟨z_u Y (j + 1) y, z_u L (j + 1) l, by rw [u_ne _ _ (by omega)]; exact y0, u_eq _ _ _, fun t ht => ?_, fun t ht => ?_⟩
      · by_cases e : t = j
        · subst e
          rw [u_eq, u_ne _ _ (by omega), u_eq, yj]
          exact ⟨h1, h2, h4⟩
        · rw [u_ne _ _ (by omega), u_ne _ _ (by omega), u_ne _ _ (by omega)]
          exact yl t (by omega)
      · by_cases e : t = j + 1
        · subst e
          rw [u_eq]
          exact ⟨hy, hno⟩
        · rw [u_ne _ _ e]
          exact yr t (by omega)
theorem rd_of (hS : c_sok S) {s f : Nat} {L Y : Nat → Nat} (h0 : L 0 = f) (hl : ∀ j, j < s → on S (L j) (Y j) ∧ on S (L (j + 1)) (Y j)) (hc : on S (L s) (Y s) ∧ on S f (Y s)) (hL : ∀ j j', j < j' → j' ≤ s → L j ≠ L j') (hY : ∀ j j', j < j' → j' ≤ s → Y j ≠ Y j') (h1 : 1 ≤ s) : ∀ k j uL uP, j + k = s → (∀ l, uL.testBit l = true ↔ ∃ t, t ≤ j ∧ L t = l) → (∀ i, uP.testBit i = true ↔ ∃ t, t < j ∧ Y t = i) → c_rd S f k (L j) uL uP = true := by
  intro k
  induction k with
  | zero =>
    intro j uL uP hj hu hp
    have e : j = s := by omega
    subst e
    unfold c_rd
    refine any_t (k := f) (on_m hS hc.2) (decide_eq_true ⟨rfl, and_ne.mpr ⟨_, hc.1, hc.2⟩, ?_⟩)
    apply Classical.byContradiction
    intro n
    obtain ⟨i, i1, i2⟩ := and_ne.mp n
    rw [Nat.testBit_and, Bool.and_eq_true] at i1
    obtain ⟨t, t1, t2⟩ := (hp i).mp i2
    have ne : L j ≠ f := by rw [← h0]; exact fun e => hL 0 j (by omega) (Nat.le_refl _) e.symm
    have : Y j = i := by
      apply Classical.byContradiction
      intro q
      exact ne (ln_un hS q hc.1 i1.1 hc.2 i1.2)
    exact hY t j t1 (Nat.le_refl _) (by rw [t2]; exact this.symm)
  | succ k ih =>
    intro j uL uP hj hu hp
    obtain ⟨o1, o2⟩ := hl j (by omega)
    have ne : L j ≠ L (j + 1) := hL j (j + 1) (by omega) (by omega)
    have com : ∀ i, (S.2.2 (L j) &&& S.2.2 (L (j + 1))).testBit i = true ↔ i = Y j := fun i => by
      rw [Nat.testBit_and, Bool.and_eq_true]
      constructor
      · rintro ⟨a, b⟩
        apply Classical.byContradiction
        intro q
        exact ne (ln_un hS q a o1 b o2)
      · intro e; rw [e]; exact ⟨o1, o2⟩
    unfold c_rd
    refine any_t (k := L (j + 1)) (on_m hS o2) (decide_eq_true ⟨?_, and_ne.mpr ⟨_, o1, o2⟩, ?_, ?_⟩)
    · apply Bool.eq_false_iff.mpr
      intro h
      obtain ⟨t, t1, t2⟩ := (hu _).mp h
      exact hL t (j + 1) (by omega) (by omega) t2
    · apply Classical.byContradiction
      intro n
      obtain ⟨i, i1, i2⟩ := and_ne.mp n
      obtain ⟨t, t1, t2⟩ := (hp i).mp i2
      exact hY t j t1 (by omega) (by rw [t2]; exact (com i).mp i1)
    · refine ih (j + 1) _ _ (by omega) (fun l => ?_) (fun i => ?_)
      · rw [cv_or, hu l]
        constructor
        · rintro (⟨t, t1, t2⟩ | e)
          · exact ⟨t, by omega, t2⟩
          · exact ⟨j + 1, Nat.le_refl _, e.symm⟩
        · rintro ⟨t, t1, t2⟩
          by_cases e : t = j + 1
          · rw [e] at t2; exact Or.inr t2.symm
          · exact Or.inl ⟨t, by omega, t2⟩
      · rw [Nat.testBit_or, Bool.or_eq_true, hp i, com i]
        constructor
        · rintro (⟨t, t1, t2⟩ | e)
          · exact ⟨t, by omega, t2⟩
          · exact ⟨j, by omega, e.symm⟩
        · rintro ⟨t, t1, t2⟩
          by_cases e : t = j
          · rw [e] at t2; exact Or.inr t2.symm
          · exact Or.inl ⟨t, by omega, t2⟩
theorem stp_ring (hS : c_sok S) {i p : Nat} (hi : on S i p) (hs : g_stp S (2 ^ p) (anot (S.2.2 i) (2 ^ p)) (some i) < 9) : 2 ≤ g_stp S (2 ^ p) (anot (S.2.2 i) (2 ^ p)) (some i) ∧ g_stp S (2 ^ p) (anot (S.2.2 i) (2 ^ p)) (some i) + 1 ≤ S.2.1 ∧ c_ring S (g_stp S (2 ^ p) (anot (S.2.2 i) (2 ^ p)) (some i) + 1) = true := by
  obtain ⟨s, es⟩ : ∃ s, s = g_stp S (2 ^ p) (anot (S.2.2 i) (2 ^ p)) (some i) := ⟨_, rfl⟩
  have yes := fa_first_yes (fun k => decide (g_rch S (some i) (2 ^ p) k &&& anot (S.2.2 i) (2 ^ p) ≠ 0)) 9 hs
  have no := fa_first_no (fun k => decide (g_rch S (some i) (2 ^ p) k &&& anot (S.2.2 i) (2 ^ p) ≠ 0)) 9
  have e0 : fa_first (fun k => decide (g_rch S (some i) (2 ^ p) k &&& anot (S.2.2 i) (2 ^ p) ≠ 0)) 9 = s := es.symm
  rw [e0] at yes no
  rw [← es]
  obtain ⟨y, y1, y2⟩ := and_ne.mp (of_decide_eq_true yes)
  rw [an_b, Bool.and_eq_true, Nat.testBit_two_pow, Bool.not_eq_true', decide_eq_false_iff_not] at y2
  have yno : ∀ t, t < s → (g_rch S (some i) (2 ^ p) t).testBit y = false := fun t ht => Bool.eq_false_iff.mpr (fun h => by
    have := of_decide_eq_false (no t ht)
    exact this (and_ne.mpr ⟨y, h, by rw [an_b, y2.1, Nat.testBit_two_pow, decide_eq_false y2.2]; rfl⟩))
  obtain ⟨Y, L, a0, as, al, ar⟩ := path hS s y y1 yno
  have hy : on S i y := y2.1
  have ypn : y ≠ p := fun e => y2.2 e.symm
  have s2 : 2 ≤ s := by
    apply Classical.byContradiction
    intro c
    have : s = 0 ∨ s = 1 := by omega
    rcases this with e | e
    · rw [e, a0] at as; exact ypn as.symm
    · subst e
      obtain ⟨l1, l2, l3⟩ := al 0 (by omega)
      rw [a0] at l2
      rw [as] at l3
      exact l1 (ln_un hS ypn l3 l2 hy hi)
  obtain ⟨K, eK⟩ : ∃ K, K = z_u L 0 i := ⟨_, rfl⟩
  have K0 : K 0 = i := by rw [eK, u_eq]
  have Ks : ∀ t, K (t + 1) = L (t + 1) := fun t => by rw [eK, u_ne _ _ (by omega)]
  have kl : ∀ j, j < s → on S (K j) (Y j) ∧ on S (K (j + 1)) (Y j) := fun j hj => by
    obtain ⟨l1, l2, l3⟩ := al j hj
    refine ⟨?_, by rw [Ks]; exact l2⟩
    cases j with
    | zero => rw [K0, a0]; exact hi
    | succ j =>
      rw [Ks]
      exact (al j (by omega)).2.2
  have kc : on S (K s) (Y s) ∧ on S i (Y s) := by
    obtain ⟨j, rfl⟩ : ∃ j, s = j + 1 := ⟨s - 1, by omega⟩
    rw [Ks]
    exact ⟨(al j (by omega)).2.2, by rw [as]; exact hy⟩
  have dY : ∀ j j', j < j' → j' ≤ s → Y j ≠ Y j' := fun j j' h1 h2 e => by
    have b1 := (ar j (by omega)).1
    have b2 := (ar j' h2).2 j h1
    rw [e, b2] at b1
    cases b1
  have dK : ∀ j j', j < j' → j' ≤ s → K j ≠ K j' := fun j j' h1 h2 e => by
    obtain ⟨t', rfl⟩ : ∃ t, j' = t + 1 := ⟨j' - 1, by omega⟩
    obtain ⟨l1, l2, l3⟩ := al t' (by omega)
    rw [Ks] at e
    cases j with
    | zero => rw [K0] at e; exact l1 e.symm
    | succ j =>
      rw [Ks] at e
      obtain ⟨m1, m2, m3⟩ := al j (by omega)
      rw [e] at m2
      have := (rch_s hS i (2 ^ p) j (Y (t' + 1))).mpr (Or.inr ⟨L (t' + 1), Y j, l1, m2, (ar j (by omega)).1, l3⟩)
      rw [(ar (t' + 1) h2).2 (j + 1) (by omega)] at this
      cases this
  refine ⟨s2, ?_, ?_⟩
  · have := nd_le (A := List.range (s + 1)) (B := List.range S.2.1) K List.nodup_range (fun j hj => by
      have hj := List.mem_range.mp hj
      rw [List.mem_range]
      by_cases e : j = s
      · rw [e]; exact on_m hS kc.1
      · exact on_m hS (kl j (by omega)).1) (fun j j' hj hj' e => by
      have hj := List.mem_range.mp hj
      have hj' := List.mem_range.mp hj'
      rcases Nat.lt_trichotomy j j' with c | c | c
      · exact absurd e (dK j j' c (by omega))
      · exact c
      · exact absurd e.symm (dK j' j c (by omega)))
    rw [List.length_range, List.length_range] at this
    exact this
  · unfold c_ring
    refine any_t (k := i) (on_m hS hi) ?_
    rw [Nat.add_sub_cancel]
    have := rd_of hS K0 kl kc dK dY (by omega) s 0 (2 ^ i) 0 (by omega) (fun l => by
      rw [Nat.testBit_two_pow, decide_eq_true_iff]
      constructor
      · intro e; exact ⟨0, Nat.le_refl _, by rw [K0]; exact e⟩
      · rintro ⟨t, t1, t2⟩
        have : t = 0 := by omega
        rw [this, K0] at t2
        exact t2) (fun j => ⟨fun h => (by rw [Nat.zero_testBit] at h; cases h), fun ⟨t, t1, _⟩ => absurd t1 (Nat.not_lt_zero _)⟩)
    rw [K0] at this
    exact this
/-! a ring has a way round -/
theorem rd_so (hS : c_sok S) {f x0 : Nat} (hf : on S f x0) : ∀ k last uL uP t, c_rd S f k last uL uP = true → uL.testBit f = true → last ≠ f → uP.testBit x0 = true → (∃ z, on S last z ∧ (g_rch S (some f) (2 ^ x0) t).testBit z = true) → g_rch S (some f) (2 ^ x0) (t + 1 + k) &&& anot (S.2.2 f) (2 ^ x0) ≠ 0 := by
  intro k
  induction k with
  | zero =>
    intro last uL uP t h hu hl hx hz
    obtain ⟨z, z1, z2⟩ := hz
    unfold c_rd at h
    have : ∃ l, l < S.2.1 ∧ (l = f ∧ S.2.2 last &&& S.2.2 l ≠ 0 ∧ S.2.2 last &&& S.2.2 l &&& uP = 0) := by
      apply Classical.byContradiction
      intro n
      rw [any_f (fun l hl => decide_eq_false (fun c => n ⟨l, hl, c⟩))] at h
      cases h
    obtain ⟨l, _, rfl, h2, h3⟩ := this
    obtain ⟨y, y1, y2⟩ := and_ne.mp h2
    have yx : x0 ≠ y := fun e => by
      have := and_ne.mpr ⟨y, show (S.2.2 last &&& S.2.2 l).testBit y = true by rw [Nat.testBit_and, y1, y2]; rfl, by rw [← e]; exact hx⟩
      exact this h3
    refine and_ne.mpr ⟨y, (rch_s hS l (2 ^ x0) t y).mpr (Or.inr ⟨last, z, hl, z1, z2, y1⟩), ?_⟩
    rw [an_b, y2, Nat.testBit_two_pow, decide_eq_false yx]
    rfl
  | succ k ih =>
    intro last uL uP t h hu hl hx hz
    obtain ⟨z, z1, z2⟩ := hz
    unfold c_rd at h
    have : ∃ l, l < S.2.1 ∧ (uL.testBit l = false ∧ S.2.2 last &&& S.2.2 l ≠ 0 ∧ S.2.2 last &&& S.2.2 l &&& uP = 0 ∧ c_rd S f k l (uL ||| 2 ^ l) (uP ||| S.2.2 last &&& S.2.2 l) = true) := by
      apply Classical.byContradiction
      intro n
      rw [any_f (fun l hl => decide_eq_false (fun c => n ⟨l, hl, c⟩))] at h
      cases h
    obtain ⟨l, _, h1, h2, _, h4⟩ := this
    obtain ⟨y, y1, y2⟩ := and_ne.mp h2
    have := ih l _ _ (t + 1) h4 (by rw [cv_or]; exact Or.inl hu) (fun e => by rw [e, hu] at h1; cases h1) (by rw [Nat.testBit_or, hx]; rfl) ⟨y, y2, (rch_s hS f (2 ^ x0) t y).mpr (Or.inr ⟨last, z, hl, z1, z2, y1⟩)⟩
    rw [show t + 1 + (k + 1) = t + 1 + 1 + k by omega]
    exact this
theorem ring_stp (hS : c_sok S) {k : Nat} (hk : 3 ≤ k) (h : c_ring S k = true) : ∃ i p, on S i p ∧ g_stp S (2 ^ p) (anot (S.2.2 i) (2 ^ p)) (some i) < 9 ∧ g_stp S (2 ^ p) (anot (S.2.2 i) (2 ^ p)) (some i) + 1 ≤ k := by
  unfold c_ring at h
  have : ∃ f, f < S.2.1 ∧ c_rd S f (k - 1) f (2 ^ f) 0 = true := by
    apply Classical.byContradiction
    intro n
    rw [any_f (fun l hl => Bool.eq_false_iff.mpr (fun c => n ⟨l, hl, c⟩))] at h
    cases h
  obtain ⟨f, f1, f2⟩ := this
  obtain ⟨j, ej⟩ : ∃ j, k - 1 = j + 1 := ⟨k - 2, by omega⟩
  rw [ej] at f2
  unfold c_rd at f2
  have : ∃ l, l < S.2.1 ∧ ((2 ^ f).testBit l = false ∧ S.2.2 f &&& S.2.2 l ≠ 0 ∧ S.2.2 f &&& S.2.2 l &&& 0 = 0 ∧ c_rd S f j l (2 ^ f ||| 2 ^ l) (0 ||| S.2.2 f &&& S.2.2 l) = true) := by
    apply Classical.byContradiction
    intro n
    rw [any_f (fun l hl => decide_eq_false (fun c => n ⟨l, hl, c⟩))] at f2
    cases f2
  obtain ⟨l, _, l1, l2, _, l4⟩ := this
  obtain ⟨x0, x1, x2⟩ := and_ne.mp l2
  have lf : l ≠ f := fun e => by rw [e, Nat.testBit_two_pow, decide_eq_true rfl] at l1; cases l1
  have hx : x0 < S.1 := on_lt hS x1
  have r := rd_so hS (x0 := x0) x1 j l _ _ 0 l4 (by rw [bt2, decide_eq_true rfl]; rfl) lf (by rw [Nat.zero_or, Nat.testBit_and, x1, x2]; rfl) ⟨x0, x2, by show (2 ^ x0).testBit x0 = true; rw [Nat.testBit_two_pow]; exact decide_eq_true rfl⟩
  refine ⟨f, x0, x1, ?_⟩
  obtain ⟨q, q1, q2, q3⟩ : ∃ q, q < 9 ∧ q ≤ k - 1 ∧ g_rch S (some f) (2 ^ x0) q &&& anot (S.2.2 f) (2 ^ x0) ≠ 0 := by
    by_cases c : 0 + 1 + j < 9
    · exact ⟨0 + 1 + j, c, by omega, r⟩
    · refine ⟨8, by omega, by omega, ?_⟩
      rw [show 0 + 1 + j = 8 + (0 + 1 + j - 8) by omega, rch_st hS hx] at r
      exact r
  have lt : g_stp S (2 ^ x0) (anot (S.2.2 f) (2 ^ x0)) (some f) ≤ q := by
    apply Classical.byContradiction
    intro n
    have := fa_first_no (fun k => decide (g_rch S (some f) (2 ^ x0) k &&& anot (S.2.2 f) (2 ^ x0) ≠ 0)) 9 q (Nat.not_le.mp n)
    exact (of_decide_eq_false this) q3
  exact ⟨by omega, by omega⟩
/-! the least -/
def gSt (S : Sc) (i p w : Nat) : Prop := on S i p ∧ g_stp S (2 ^ p) (anot (S.2.2 i) (2 ^ p)) (some i) < 9 ∧ w = g_stp S (2 ^ p) (anot (S.2.2 i) (2 ^ p)) (some i) + 1
theorem gF_s {i p : Nat} (P : Nat → Prop) {v : Option Nat} (h1 : ∀ w, v = some w → P w) (h2 : ∀ w, P w → ∃ w', v = some w' ∧ w' ≤ w) : (∀ w, g_gF S i p v = some w → (P w ∨ gSt S i p w)) ∧ ∀ w, (P w ∨ gSt S i p w) → ∃ w', g_gF S i p v = some w' ∧ w' ≤ w := by
  unfold g_gF gSt on
  cases hb : (S.2.2 i).testBit p
  · rw [if_pos rfl]
    refine ⟨fun w hw => Or.inl (h1 w hw), fun w hw => ?_⟩
    rcases hw with hw | ⟨hw, _⟩
    · exact h2 w hw
    · cases hw
  · rw [if_neg (by decide)]
    by_cases c : g_stp S (2 ^ p) (anot (S.2.2 i) (2 ^ p)) (some i) < 9
    · rw [if_pos c]
      cases hv : v with
      | none =>
        dsimp only
        refine ⟨fun w hw => Or.inr ⟨rfl, c, (Option.some.inj hw).symm⟩, fun w hw => ?_⟩
        rcases hw with hw | ⟨_, _, e⟩
        · obtain ⟨w', e, _⟩ := h2 w hw
          rw [hv] at e
          cases e
        · exact ⟨_, rfl, by omega⟩
      | some u =>
        dsimp only
        by_cases d : g_stp S (2 ^ p) (anot (S.2.2 i) (2 ^ p)) (some i) + 1 < u
        · rw [if_pos d]
          refine ⟨fun w hw => Or.inr ⟨rfl, c, (Option.some.inj hw).symm⟩, fun w hw => ⟨_, rfl, ?_⟩⟩
          rcases hw with hw | ⟨_, _, e⟩
          · obtain ⟨w', e, e2⟩ := h2 w hw
            rw [hv] at e
            have := Option.some.inj e
            omega
          · omega
        · rw [if_neg d]
          refine ⟨fun w hw => Or.inl (h1 w (by rw [hv]; exact hw)), fun w hw => ⟨u, rfl, ?_⟩⟩
          rcases hw with hw | ⟨_, _, e⟩
          · obtain ⟨w', e, e2⟩ := h2 w hw
            rw [hv] at e
            have := Option.some.inj e
            omega
          · omega
    · rw [if_neg c]
      refine ⟨fun w hw => Or.inl (h1 w hw), fun w hw => ?_⟩
      rcases hw with hw | ⟨_, h, _⟩
      · exact h2 w hw
      · exact absurd h c
theorem girth_s (hS : c_sok S) : (∀ w, g_girth S = some w → ∃ i p, gSt S i p w) ∧ ∀ i p w, gSt S i p w → ∃ w', g_girth S = some w' ∧ w' ≤ w := by
  have inner : ∀ i (P : Nat → Prop) v, (∀ w, v = some w → P w) → (∀ w, P w → ∃ w', v = some w' ∧ w' ≤ w) → ∀ k, (∀ w, it (fun p v => g_gF S i p v) v k = some w → (P w ∨ ∃ p, p < k ∧ gSt S i p w)) ∧ ∀ w, (P w ∨ ∃ p, p < k ∧ gSt S i p w) → ∃ w', it (fun p v => g_gF S i p v) v k = some w' ∧ w' ≤ w := by
    intro i P v h1 h2 k
    induction k with
    | zero => exact ⟨fun w hw => Or.inl (h1 w hw), fun w hw => by rcases hw with hw | ⟨p, hp, _⟩; exact h2 w hw; exact absurd hp (Nat.not_lt_zero _)⟩
    | succ k ih =>
      rw [it_s]
      obtain ⟨a, b⟩ := gF_s (S := S) (i := i) (p := k) (fun w => P w ∨ ∃ p, p < k ∧ gSt S i p w) ih.1 ih.2
      refine ⟨fun w hw => ?_, fun w hw => b w ?_⟩
      · rcases a w hw with (h | ⟨p, hp, h⟩) | h
        · exact Or.inl h
        · exact Or.inr ⟨p, by omega, h⟩
        · exact Or.inr ⟨k, by omega, h⟩
      · rcases hw with h | ⟨p, hp, h⟩
        · exact Or.inl (Or.inl h)
        · by_cases e : p = k
          · rw [e] at h; exact Or.inr h
          · exact Or.inl (Or.inr ⟨p, by omega, h⟩)
  have outer : ∀ k, (∀ w, it (fun i v => it (fun p v => g_gF S i p v) v S.1) none k = some w → ∃ i p, i < k ∧ p < S.1 ∧ gSt S i p w) ∧ ∀ w, (∃ i p, i < k ∧ p < S.1 ∧ gSt S i p w) → ∃ w', it (fun i v => it (fun p v => g_gF S i p v) v S.1) none k = some w' ∧ w' ≤ w := by
    intro k
    induction k with
    | zero => exact ⟨fun w hw => (by cases hw), fun w ⟨i, p, hi, _⟩ => absurd hi (Nat.not_lt_zero _)⟩
    | succ k ih =>
      rw [it_s]
      obtain ⟨a, b⟩ := inner k (fun w => ∃ i p, i < k ∧ p < S.1 ∧ gSt S i p w) _ ih.1 ih.2 S.1
      refine ⟨fun w hw => ?_, fun w hw => b w ?_⟩
      · rcases a w hw with ⟨i, p, hi, h⟩ | ⟨p, hp, h⟩
        · exact ⟨i, p, by omega, h⟩
        · exact ⟨k, p, by omega, hp, h⟩
      · obtain ⟨i, p, hi, hp, h⟩ := hw
        by_cases e : i = k
        · rw [e] at h; exact Or.inr ⟨p, hp, h⟩
        · exact Or.inl ⟨i, p, by omega, hp, h⟩
  obtain ⟨a, b⟩ := outer S.2.1
  refine ⟨fun w hw => ?_, fun i p w hw => b w ⟨i, p, on_m hS hw.1, on_lt hS hw.1, hw⟩⟩
  obtain ⟨i, p, _, _, h⟩ := a w hw
  exact ⟨i, p, h⟩
theorem girth_eq (hS : c_sok S) : oI (g_girth S) = c_girth S := by
  have m12 := hS.2.1
  obtain ⟨g1, g2⟩ := girth_s hS
  unfold c_girth
  cases hg : g_girth S with
  | none =>
    have no : ∀ j, j < S.2.1 - 2 → c_ring S (3 + j) = false := fun j hj => Bool.eq_false_iff.mpr (fun h => by
      obtain ⟨i, p, h1, h2, _⟩ := ring_stp hS (by omega) h
      obtain ⟨w', e, _⟩ := g2 i p _ ⟨h1, h2, rfl⟩
      rw [hg] at e
      cases e)
    rw [fa_first_n no, if_neg (by omega)]
    rfl
  | some w =>
    obtain ⟨i, p, h1, h2, h3⟩ := g1 w hg
    obtain ⟨r1, r2, r3⟩ := stp_ring hS h1 h2
    rw [← h3] at r2 r3
    have at' : fa_first (fun j => c_ring S (3 + j)) (S.2.1 - 2) = w - 3 := by
      refine fa_first_at (by omega) (by show c_ring S (3 + (w - 3)) = true; rw [show 3 + (w - 3) = w by omega]; exact r3) (fun j hj => Bool.eq_false_iff.mpr (fun h => ?_))
      obtain ⟨i', p', a1, a2, a3⟩ := ring_stp hS (by omega) h
      obtain ⟨w', e, e2⟩ := g2 i' p' _ ⟨a1, a2, rfl⟩
      rw [hg] at e
      have := Option.some.inj e
      omega
    rw [at', if_pos (by omega), show 3 + (w - 3) = w by omega]
    rfl
end B22
