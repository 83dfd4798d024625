/-! MATHEMATICS: ways behind one another; twins -/
section B4
variable {F T S : Sc} {ex : Bool}
theorem wy_comp {U : Sc} {M σ : Nat → Nat} (h1 : wy F T ex M) (h2 : wy T U true σ) : wy F U ex (fun i => σ (M i)) := by
  obtain ⟨i1, φ, f1, f2⟩ := h1
  obtain ⟨i2, ψ, g1, g2⟩ := h2
  refine ⟨⟨fun i hi => i2.1 _ (i1.1 i hi), fun i j hi hj e => i1.2 i j hi hj (i2.2 _ _ (i1.1 i hi) (i1.1 j hj) e)⟩, fun l => ψ (φ l), fun l hl => ?_, fun l l' hl hl' e => f2 l l' hl hl' (g2 _ _ (f1 l hl).1 (f1 l' hl').1 e)⟩
  obtain ⟨a1, a2, a3⟩ := f1 l hl
  obtain ⟨b1, b2, b3⟩ := g1 (φ l) a1
  refine ⟨b1, fun i hi => b2 _ (a2 i hi), ?_⟩
  have e := hold_x b3
  unfold g_hold at a3 ⊢
  rw [e]
  exact a3
theorem wy_id (S : Sc) : wy S S true (fun i => i) := ⟨⟨fun _ h => h, fun _ _ _ _ e => e⟩, fun l => l, fun l hl => ⟨hl, fun _ h => h, by unfold g_hold; rw [if_pos rfl]; exact decide_eq_true rfl⟩, fun _ _ _ _ e => e⟩
/-- only the names of the points count -/
theorem wy_c (hF : c_sok F) {M M' : Nat → Nat} (e : ∀ i, i < F.1 → M i = M' i) (h : wy F T ex M) : wy F T ex M' := by
  obtain ⟨i1, φ, f1, f2⟩ := h
  refine ⟨⟨fun i hi => by rw [← e i hi]; exact i1.1 i hi, fun i j hi hj q => i1.2 i j hi hj (by rw [e i hi, e j hj]; exact q)⟩, φ, fun l hl => ⟨(f1 l hl).1, fun i hi => by rw [← e i (on_lt hF hi)]; exact (f1 l hl).2.1 i hi, (f1 l hl).2.2⟩, f2⟩
theorem trx_lt {n a b i : Nat} (ha : a < n) (hb : b < n) (hi : i < n) : trs a b i < n := by
  unfold trs
  split
  · exact hb
  · split
    · exact ha
    · exact hi
theorem trs_tr (a b i : Nat) : trs a b (trs a b i) = i := by
  unfold trs
  by_cases h1 : i = a
  · rw [if_pos h1]
    by_cases h2 : b = a
    · rw [if_pos h2]; omega
    · rw [if_neg h2, if_pos rfl]; exact h1.symm
  · rw [if_neg h1]
    by_cases h2 : i = b
    · rw [if_pos h2, if_pos rfl]; exact h2.symm
    · rw [if_neg h2, if_neg h1, if_neg h2]
theorem trx_inj {a b i j : Nat} (e : trs a b i = trs a b j) : i = j := by
  rw [← trs_tr a b i, ← trs_tr a b j, e]
theorem trs_c (a b i : Nat) : trs a b i = trs b a i := by
  unfold trs
  by_cases h1 : i = a
  · by_cases h2 : i = b
    · rw [if_pos h1, if_pos h2]; omega
    · rw [if_pos h1, if_neg h2, if_pos h1]
  · by_cases h2 : i = b
    · rw [if_neg h1, if_pos h2, if_pos h2]
    · rw [if_neg h1, if_neg h2, if_neg h2, if_neg h1]
theorem ln_ext (hS : c_sok S) {l l' : Nat} (hl : l < S.2.1) (h : ∀ i, on S l i → on S l' i) : l = l' := by
  obtain ⟨a, b, hab, h1, h2⟩ := ln_two hS hl
  exact ln_un hS (by omega) h1 h2 (h a h1) (h b h2)
theorem cnt_split {α : Type} (p q : α → Bool) : ∀ l : List α, (l.filter p).length = (l.filter (fun x => p x && q x)).length + (l.filter (fun x => p x && !q x)).length
  | [] => rfl
  | a :: l => by
    have ih := cnt_split p q l
    rw [List.filter_cons, List.filter_cons, List.filter_cons]
    cases p a <;> cases q a <;> simp <;> omega
theorem bt2 (p q i : Nat) : (2 ^ p ||| 2 ^ q).testBit i = (decide (p = i) || decide (q = i)) := by rw [Nat.testBit_or, Nat.testBit_two_pow, Nat.testBit_two_pow]
/-- the number of a line without p and q, or with one for the other -/
theorem xr_bit {x p q : Nat} (hpq : p ≠ q) (h : x.testBit p ≠ x.testBit q) (i : Nat) : (x ^^^ (2 ^ p ||| 2 ^ q)).testBit (trs p q i) = x.testBit i := by
  rw [Nat.testBit_xor, bt2]
  unfold trs
  by_cases h1 : i = p
  · rw [if_pos h1, decide_eq_false (by omega), decide_eq_true rfl, h1]
    revert h
    cases x.testBit p <;> cases x.testBit q <;> simp
  · rw [if_neg h1]
    by_cases h2 : i = q
    · rw [if_pos h2, decide_eq_true rfl, h2]
      revert h
      cases x.testBit p <;> cases x.testBit q <;> simp
    · rw [if_neg h2, decide_eq_false (by omega), decide_eq_false (by omega)]
      simp
theorem tw_in {p q i : Nat} : (S.2.2 i &&& (2 ^ p ||| 2 ^ q) = 2 ^ p) ↔ (on S i p ∧ (p ≠ q → ¬ on S i q)) := by
  constructor
  · intro e
    have b : ∀ j, ((S.2.2 i).testBit j && (decide (p = j) || decide (q = j))) = decide (p = j) := fun j => by
      have := congrArg (fun x => x.testBit j) e
      simp only [Nat.testBit_and, bt2, Nat.testBit_two_pow] at this
      exact this
    have bp := b p
    have bq := b q
    rw [decide_eq_true (rfl : p = p), Bool.true_or, Bool.and_true] at bp
    refine ⟨bp, fun hn hq => ?_⟩
    rw [decide_eq_true (rfl : q = q), Bool.or_true, Bool.and_true, decide_eq_false hn] at bq
    unfold on at hq
    rw [hq] at bq
    cases bq
  · rintro ⟨h1, h2⟩
    apply Nat.eq_of_testBit_eq
    intro j
    rw [Nat.testBit_and, bt2, Nat.testBit_two_pow]
    by_cases c1 : p = j
    · rw [decide_eq_true c1, Bool.true_or, Bool.and_true, ← c1]; exact h1
    · rw [decide_eq_false c1, Bool.false_or]
      by_cases c2 : q = j
      · rw [decide_eq_true c2, Bool.and_true, ← c2]
        apply Bool.eq_false_iff.mpr
        exact h2 (by omega)
      · rw [decide_eq_false c2, Bool.and_false]
theorem tw_so (hS : c_sok S) {p q : Nat} (hp : p < S.1) (hq : q < S.1) (hpq : p ≠ q) (h : g_tw S p q = true) : wy S S true (trs p q) := by
  unfold g_tw at h
  rw [Bool.and_eq_true] at h
  obtain ⟨hd, ha⟩ := h
  have hd := of_decide_eq_true hd
  have ha := any_fiff.mp (by rw [← Bool.not_eq_true']; exact ha)
  have m12 := hS.2.1
  -- a line through p and not q: its other one
  have A : ∀ i, i < S.2.1 → on S i p → ¬ on S i q → ∃ l, l < S.2.1 ∧ S.2.2 l = S.2.2 i ^^^ (2 ^ p ||| 2 ^ q) := fun i hi h1 h2 => by
    have := ha i hi
    rw [decide_eq_true (tw_in.mpr ⟨h1, fun _ => h2⟩), Bool.true_and] at this
    cases hc : c_any (fun l => decide (S.2.2 l = S.2.2 i ^^^ (2 ^ p ||| 2 ^ q))) S.2.1
    · rw [hc] at this; cases this
    · apply Classical.byContradiction
      intro n
      rw [any_f (fun l hl => decide_eq_false (fun e => n ⟨l, hl, e⟩))] at hc
      cases hc
  have bitP : ∀ x, ∀ l, (c_on S x).testBit l = true ↔ on S l x := fun x l => by
    rw [c_on_bit, Bool.and_eq_true]
    exact ⟨fun h => h.2, fun h => ⟨decide_eq_true (on_m hS h), h⟩⟩
  -- as many through p alone as through q alone
  obtain ⟨LA, eLA⟩ : ∃ LA, LA = (List.range 12).filter (fun l => (c_on S p).testBit l && !(c_on S q).testBit l) := ⟨_, rfl⟩
  obtain ⟨LB, eLB⟩ : ∃ LB, LB = (List.range 12).filter (fun l => (c_on S q).testBit l && !(c_on S p).testBit l) := ⟨_, rfl⟩
  have len : LA.length = LB.length := by
    rw [pc_len, pc_len, cnt_split _ (fun l => (c_on S q).testBit l), cnt_split (fun l => (c_on S q).testBit l) (fun l => (c_on S p).testBit l)] at hd
    rw [← eLA, ← eLB] at hd
    have : (List.range 12).filter (fun x => (c_on S p).testBit x && (c_on S q).testBit x) = (List.range 12).filter (fun x => (c_on S q).testBit x && (c_on S p).testBit x) := List.filter_congr (fun x _ => Bool.and_comm _ _)
    rw [this] at hd
    omega
  have mA : ∀ l, l ∈ LA ↔ on S l p ∧ ¬ on S l q := fun l => by
    rw [eLA, List.mem_filter, List.mem_range, Bool.and_eq_true, bitP, Bool.not_eq_true', ← Bool.not_eq_true, bitP]
    exact ⟨fun h => h.2, fun h => ⟨by have := on_m hS h.1; omega, h⟩⟩
  have mB : ∀ l, l ∈ LB ↔ on S l q ∧ ¬ on S l p := fun l => by
    rw [eLB, List.mem_filter, List.mem_range, Bool.and_eq_true, bitP, Bool.not_eq_true', ← Bool.not_eq_true, bitP]
    exact ⟨fun h => h.2, fun h => ⟨by have := on_m hS h.1; omega, h⟩⟩
  have sk : ∀ i, ∃ l, (on S i p ∧ ¬ on S i q) → l < S.2.1 ∧ S.2.2 l = S.2.2 i ^^^ (2 ^ p ||| 2 ^ q) := fun i => by
    by_cases c : on S i p ∧ ¬ on S i q
    · obtain ⟨l, h⟩ := A i (on_m hS c.1) c.1 c.2
      exact ⟨l, fun _ => h⟩
    · exact ⟨0, fun h => absurd h c⟩
  obtain ⟨f, hf⟩ := Classical.axiomOfChoice sk
  have ne : ∀ {i}, on S i p → ¬ on S i q → (S.2.2 i).testBit p ≠ (S.2.2 i).testBit q := fun h1 h2 e => h2 (by unfold on at h1 ⊢; rw [← e]; exact h1)
  have ne' : ∀ {i}, on S i q → ¬ on S i p → (S.2.2 i).testBit p ≠ (S.2.2 i).testBit q := fun h1 h2 e => h2 (by unfold on at h1 ⊢; rw [e]; exact h1)
  have fb : ∀ i, on S i p → ¬ on S i q → ∀ j, on S (f i) (trs p q j) ↔ on S i j := fun i h1 h2 j => by
    unfold on
    rw [(hf i ⟨h1, h2⟩).2, xr_bit hpq (ne h1 h2)]
  have tp : trs p q p = q := by unfold trs; rw [if_pos rfl]
  have tq : trs p q q = p := by unfold trs; rw [if_neg (fun e => hpq e.symm), if_pos rfl]
  have onto := nd_onto (A := LA) (B := LB) f (by rw [eLA]; exact nd_fil _ List.nodup_range) (fun i hi => by
    obtain ⟨h1, h2⟩ := (mA i).mp hi
    refine (mB _).mpr ⟨?_, fun h3 => h2 ?_⟩
    · rw [← tp]; exact (fb i h1 h2 p).mpr h1
    · rw [← tq] at h3; exact (fb i h1 h2 q).mp h3) (fun i j hi hj e => by
    obtain ⟨h1, h2⟩ := (mA i).mp hi
    obtain ⟨h3, h4⟩ := (mA j).mp hj
    exact ln_ext hS (on_m hS h1) (fun k hk => (fb j h3 h4 k).mp (by rw [← e]; exact (fb i h1 h2 k).mpr hk))) (by omega)
  -- where each line goes
  have go : ∀ l, ∃ o, l < S.2.1 → o < S.2.1 ∧ ∀ i, on S o (trs p q i) ↔ on S l i := fun l => by
    by_cases c1 : on S l p
    · by_cases c2 : on S l q
      · refine ⟨l, fun hl => ⟨hl, fun i => ?_⟩⟩
        unfold trs
        by_cases e1 : i = p
        · rw [if_pos e1, e1]; exact ⟨fun _ => c1, fun _ => c2⟩
        · rw [if_neg e1]
          by_cases e2 : i = q
          · rw [if_pos e2, e2]; exact ⟨fun _ => c2, fun _ => c1⟩
          · rw [if_neg e2]
      · exact ⟨f l, fun _ => ⟨(hf l ⟨c1, c2⟩).1, fb l c1 c2⟩⟩
    · by_cases c2 : on S l q
      · obtain ⟨o, ho, e⟩ := onto l ((mB l).mpr ⟨c2, c1⟩)
        obtain ⟨h1, h2⟩ := (mA o).mp ho
        refine ⟨o, fun _ => ⟨on_m hS h1, fun i => ?_⟩⟩
        have := fb o h1 h2 (trs p q i)
        rw [trs_tr, e] at this
        exact this.symm
      · refine ⟨l, fun hl => ⟨hl, fun i => ?_⟩⟩
        unfold trs
        by_cases e1 : i = p
        · rw [if_pos e1, e1]; exact ⟨fun h => absurd h c2, fun h => absurd h c1⟩
        · rw [if_neg e1]
          by_cases e2 : i = q
          · rw [if_pos e2, e2]; exact ⟨fun h => absurd h c1, fun h => absurd h c2⟩
          · rw [if_neg e2]
  obtain ⟨φ, hφ⟩ := Classical.axiomOfChoice go
  refine ⟨⟨fun i hi => trx_lt hp hq hi, fun i j _ _ e => trx_inj e⟩, φ, fun l hl => ⟨(hφ l hl).1, fun i hi => ((hφ l hl).2 i).mpr hi, ?_⟩, fun l l' hl hl' e => ln_ext hS hl (fun i hi => ((hφ l' hl').2 i).mp (by rw [← e]; exact ((hφ l hl).2 i).mpr hi))⟩
  unfold g_hold
  rw [if_pos rfl]
  apply decide_eq_true
  have n8 := hS.1.2
  apply Nat.le_antisymm
  · refine pc_inj (trs p q) (fun i _ hb => ?_) (fun i j _ _ _ _ e => trx_inj e)
    have h1 : on S (φ l) i := hb
    have := ((hφ l hl).2 (trs p q i)).mp (by rw [trs_tr]; exact h1)
    exact ⟨by have := on_8 hS this; omega, this⟩
  · refine pc_inj (trs p q) (fun i _ hb => ?_) (fun i j _ _ _ _ e => trx_inj e)
    have := ((hφ l hl).2 i).mpr hb
    exact ⟨by have := on_8 hS this; omega, this⟩
theorem tw_co (hS : c_sok S) {p q : Nat} (hp : p < S.1) (hq : q < S.1) (hpq : p ≠ q) (h : wy S S true (trs p q)) : g_tw S p q = true := by
  have hd := wx_deg hS hS ⟨rfl, rfl⟩ h hp
  have tp : trs p q p = q := by unfold trs; rw [if_pos rfl]
  rw [tp] at hd
  obtain ⟨hi, φ, hφ, _⟩ := h
  unfold g_tw
  rw [Bool.and_eq_true]
  refine ⟨decide_eq_true hd, ?_⟩
  rw [any_f (fun i hil => ?_)]
  · rfl
  · by_cases c : S.2.2 i &&& (2 ^ p ||| 2 ^ q) = 2 ^ p
    · rw [decide_eq_true c, Bool.true_and]
      obtain ⟨h1, h2⟩ := tw_in.mp c
      have h2 := h2 hpq
      rw [any_t (k := φ i) (hφ i hil).1]
      · rfl
      · apply decide_eq_true
        apply Nat.eq_of_testBit_eq
        intro j
        have ne : (S.2.2 i).testBit p ≠ (S.2.2 i).testBit q := fun e => h2 (by unfold on at h1 ⊢; rw [← e]; exact h1)
        have e1 := xr_bit hpq ne (trs p q j)
        rw [trs_tr] at e1
        rw [e1]
        apply Bool.eq_iff_iff.mpr
        constructor
        · intro hb
          obtain ⟨k, k1, k2⟩ := wx_iff hS hS hi hφ hil j hb
          rw [← k2, trs_tr]
          exact k1
        · intro hb
          have := (hφ i hil).2.1 _ hb
          rw [trs_tr] at this
          exact this
    · rw [decide_eq_false c]; rfl
theorem twT_bit (hS : c_sok S) (a b : Nat) : (g_twT S a).testBit b = true ↔ (a < S.1 ∧ b < S.1 ∧ a ≠ b ∧ g_tw S (max a b) (min a b) = true) := by
  have inner : ∀ p T j, j ≤ p → ∀ a b, (it (fun q T => if g_tw S p q then z_u (z_u T p (T p ||| 2 ^ q)) q (z_u T p (T p ||| 2 ^ q) q ||| 2 ^ p) else T) T j a).testBit b = true ↔ ((T a).testBit b = true ∨ (max a b = p ∧ min a b < j ∧ g_tw S p (min a b) = true)) := by
    intro p T j
    induction j with
    | zero => intro _ a b; exact ⟨Or.inl, fun h => by rcases h with h | ⟨_, h, _⟩; exact h; omega⟩
    | succ j ih =>
      intro hj a b
      rw [it_s]
      obtain ⟨X, eX⟩ : ∃ X, X = it (fun q T => if g_tw S p q then z_u (z_u T p (T p ||| 2 ^ q)) q (z_u T p (T p ||| 2 ^ q) q ||| 2 ^ p) else T) T j := ⟨_, rfl⟩
      have ih' := ih (by omega) a b
      rw [← eX] at ih' ⊢
      cases hg : g_tw S p j
      · rw [if_neg (by decide), ih']
        constructor
        · rintro (h | ⟨h1, h2, h3⟩)
          · exact Or.inl h
          · exact Or.inr ⟨h1, by omega, h3⟩
        · rintro (h | ⟨h1, h2, h3⟩)
          · exact Or.inl h
          · refine Or.inr ⟨h1, ?_, h3⟩
            apply Classical.byContradiction
            intro n
            have : min a b = j := by omega
            rw [this, hg] at h3
            cases h3
      · rw [if_pos rfl]
        have val : (z_u (z_u X p (X p ||| 2 ^ j)) j (z_u X p (X p ||| 2 ^ j) j ||| 2 ^ p) a).testBit b = true ↔ ((X a).testBit b = true ∨ (a = p ∧ b = j) ∨ (a = j ∧ b = p)) := by
          by_cases ea : a = j
          · rw [ea, u_eq, u_ne _ _ (show j ≠ p by omega), Nat.testBit_or, Bool.or_eq_true, Nat.testBit_two_pow, decide_eq_true_iff]
            constructor
            · rintro (h | h)
              · exact Or.inl h
              · exact Or.inr (Or.inr ⟨rfl, h.symm⟩)
            · rintro (h | ⟨h1, h2⟩ | ⟨_, h2⟩)
              · exact Or.inl h
              · omega
              · exact Or.inr h2.symm
          · rw [u_ne _ _ ea]
            by_cases ep : a = p
            · rw [ep, u_eq, Nat.testBit_or, Bool.or_eq_true, Nat.testBit_two_pow, decide_eq_true_iff]
              constructor
              · rintro (h | h)
                · exact Or.inl h
                · exact Or.inr (Or.inl ⟨rfl, h.symm⟩)
              · rintro (h | ⟨_, h2⟩ | ⟨h1, _⟩)
                · exact Or.inl h
                · exact Or.inr h2.symm
                · omega
            · rw [u_ne _ _ ep]
              constructor
              · exact Or.inl
              · rintro (h | ⟨h1, _⟩ | ⟨h1, _⟩)
                · exact h
                · exact absurd h1 ep
                · exact absurd h1 ea
        rw [val, ih']
        constructor
        · rintro ((h | ⟨h1, h2, h3⟩) | ⟨h1, h2⟩ | ⟨h1, h2⟩)
          · exact Or.inl h
          · exact Or.inr ⟨h1, by omega, h3⟩
          · have : min a b = j := by omega
            exact Or.inr ⟨by omega, by omega, by rw [this]; exact hg⟩
          · have : min a b = j := by omega
            exact Or.inr ⟨by omega, by omega, by rw [this]; exact hg⟩
        · rintro (h | ⟨h1, h2, h3⟩)
          · exact Or.inl (Or.inl h)
          · by_cases c : min a b < j
            · exact Or.inl (Or.inr ⟨h1, c, h3⟩)
            · right
              omega
  have outer : ∀ k a b, (it (fun p T => it (fun q T => if g_tw S p q then z_u (z_u T p (T p ||| 2 ^ q)) q (z_u T p (T p ||| 2 ^ q) q ||| 2 ^ p) else T) T p) (fun _ => 0) k a).testBit b = true ↔ (max a b < k ∧ a ≠ b ∧ g_tw S (max a b) (min a b) = true) := by
    intro k
    induction k with
    | zero =>
      intro a b
      show (0 : Nat).testBit b = true ↔ _
      rw [Nat.zero_testBit]
      exact ⟨fun h => (by cases h), fun h => by omega⟩
    | succ k ih =>
      intro a b
      rw [it_s, inner k _ k (Nat.le_refl _) a b, ih a b]
      constructor
      · rintro (⟨h1, h2, h3⟩ | ⟨h1, h2, h3⟩)
        · exact ⟨by omega, h2, h3⟩
        · exact ⟨by omega, by omega, by rw [h1]; exact h3⟩
      · rintro ⟨h1, h2, h3⟩
        by_cases c : max a b < k
        · exact Or.inl ⟨c, h2, h3⟩
        · have e : max a b = k := by omega
          exact Or.inr ⟨e, by omega, by rw [← e]; exact h3⟩
  unfold g_twT
  rw [outer]
  constructor
  · rintro ⟨h1, h2, h3⟩; exact ⟨by omega, by omega, h2, h3⟩
  · rintro ⟨h1, h2, h3, h4⟩; exact ⟨by omega, h3, h4⟩
/-- twins: who may change places -/
theorem twT_iff (hS : c_sok S) (a b : Nat) : (g_twT S a).testBit b = true ↔ (a < S.1 ∧ b < S.1 ∧ a ≠ b ∧ wy S S true (trs a b)) := by
  rw [twT_bit hS]
  constructor
  · rintro ⟨h1, h2, h3, h4⟩
    refine ⟨h1, h2, h3, ?_⟩
    have h5 := tw_so hS (p := max a b) (q := min a b) (by omega) (by omega) (by omega) h4
    rcases Nat.lt_or_gt_of_ne h3 with c | c
    · rw [show max a b = b by omega, show min a b = a by omega] at h5
      exact wy_c hS (fun i _ => trs_c b a i) h5
    · rw [show max a b = a by omega, show min a b = b by omega] at h5
      exact h5
  · rintro ⟨h1, h2, h3, h4⟩
    refine ⟨h1, h2, h3, tw_co hS (by omega) (by omega) (by omega) ?_⟩
    rcases Nat.lt_or_gt_of_ne h3 with c | c
    · rw [show max a b = b by omega, show min a b = a by omega]
      exact wy_c hS (fun i _ => trs_c a b i) h4
    · rw [show max a b = a by omega, show min a b = b by omega]
      exact h4
end B4
