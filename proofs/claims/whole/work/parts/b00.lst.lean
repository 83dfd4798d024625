/-! MATHEMATICS: lists that name each thing once -/
theorem nd_map {α β : Type} {f : α → β} : ∀ {A : List α}, A.Nodup → (∀ x y, x ∈ A → y ∈ A → f x = f y → x = y) → (A.map f).Nodup
  | [], _, _ => List.nodup_nil
  | a :: A, h, hi => by
    rw [List.map_cons, List.nodup_cons]
    rw [List.nodup_cons] at h
    refine ⟨fun hm => ?_, nd_map h.2 (fun x y hx hy => hi x y (List.mem_cons_of_mem _ hx) (List.mem_cons_of_mem _ hy))⟩
    obtain ⟨x, hx, e⟩ := List.mem_map.mp hm
    exact h.1 (hi x a (List.mem_cons_of_mem _ hx) List.mem_cons_self e ▸ hx)
theorem nd_le {α β : Type} {A : List α} {B : List β} (f : α → β) (hA : A.Nodup) (hf : ∀ x, x ∈ A → f x ∈ B) (hi : ∀ x y, x ∈ A → y ∈ A → f x = f y → x = y) : A.length ≤ B.length := by
  have h := (nd_map hA hi).length_le_of_subset (l₂ := B) (fun y hy => by
    obtain ⟨x, hx, e⟩ := List.mem_map.mp hy
    exact e ▸ hf x hx)
  rw [List.length_map] at h
  exact h
theorem nd_fil {α : Type} {A : List α} (p : α → Bool) (h : A.Nodup) : (A.filter p).Nodup := List.Sublist.nodup List.filter_sublist h
/-- as many and no other -/
theorem nd_sub {α : Type} {A B : List α} (hA : A.Nodup) (hs : ∀ x, x ∈ A → x ∈ B) (hl : B.length ≤ A.length) : ∀ x, x ∈ B → x ∈ A := by
  intro x hx
  apply Classical.byContradiction
  intro hn
  have h1 : (x :: A).Nodup := List.nodup_cons.mpr ⟨hn, hA⟩
  have h2 := h1.length_le_of_subset (l₂ := B) (fun y hy => by
    rcases List.mem_cons.mp hy with e | e
    · exact e ▸ hx
    · exact hs y e)
  rw [List.length_cons] at h2
  omega
theorem nd_onto {α β : Type} {A : List α} {B : List β} (f : α → β) (hA : A.Nodup) (hf : ∀ x, x ∈ A → f x ∈ B) (hi : ∀ x y, x ∈ A → y ∈ A → f x = f y → x = y) (hl : B.length ≤ A.length) : ∀ y, y ∈ B → ∃ x, x ∈ A ∧ f x = y := by
  intro y hy
  have h := nd_sub (nd_map hA hi) (B := B) (fun y hy => by
    obtain ⟨x, hx, e⟩ := List.mem_map.mp hy
    exact e ▸ hf x hx) (by rw [List.length_map]; exact hl) y hy
  obtain ⟨x, hx, e⟩ := List.mem_map.mp h
  exact ⟨x, hx, e⟩
theorem rg_onto {n : Nat} {f : Nat → Nat} (hf : ∀ i, i < n → f i < n) (hi : ∀ i j, i < n → j < n → f i = f j → i = j) : ∀ y, y < n → ∃ x, x < n ∧ f x = y := by
  intro y hy
  obtain ⟨x, hx, e⟩ := nd_onto (A := List.range n) (B := List.range n) f List.nodup_range (fun x hx => List.mem_range.mpr (hf x (List.mem_range.mp hx))) (fun x y hx hy => hi x y (List.mem_range.mp hx) (List.mem_range.mp hy)) (Nat.le_refl _) y (List.mem_range.mpr hy)
  exact ⟨x, List.mem_range.mp hx, e⟩
/-- two lists in one order with the same members -/
theorem sr_eq {α : Type} {R : α → α → Prop} (hR : ∀ x y, R x y → R y x → False) : ∀ {A B : List α}, A.Pairwise R → B.Pairwise R → (∀ x, x ∈ A ↔ x ∈ B) → A = B
  | [], [], _, _, _ => rfl
  | [], b :: B, _, _, h => absurd ((h b).mpr List.mem_cons_self) (by simp)
  | a :: A, [], _, _, h => absurd ((h a).mp List.mem_cons_self) (by simp)
  | a :: A, b :: B, hA, hB, h => by
    rw [List.pairwise_cons] at hA hB
    have e : a = b := by
      apply Classical.byContradiction
      intro n
      have h1 : a ∈ B := by
        rcases List.mem_cons.mp ((h a).mp List.mem_cons_self) with q | q
        · exact absurd q n
        · exact q
      have h2 : b ∈ A := by
        rcases List.mem_cons.mp ((h b).mpr List.mem_cons_self) with q | q
        · exact absurd q.symm n
        · exact q
      exact hR a b (hA.1 b h2) (hB.1 a h1)
    subst e
    have nA : a ∉ A := fun q => hR a a (hA.1 a q) (hA.1 a q)
    have nB : a ∉ B := fun q => hR a a (hB.1 a q) (hB.1 a q)
    rw [sr_eq hR hA.2 hB.2 (fun x => ⟨fun hx => by
      rcases List.mem_cons.mp ((h x).mp (List.mem_cons_of_mem _ hx)) with q | q
      · exact absurd (q ▸ hx) nA
      · exact q, fun hx => by
      rcases List.mem_cons.mp ((h x).mpr (List.mem_cons_of_mem _ hx)) with q | q
      · exact absurd (q ▸ hx) nB
      · exact q⟩)]
/-- bits counted -/
theorem pc_len (a : Nat) : n_pc a = ((List.range 12).filter (fun i => a.testBit i)).length := List.countP_eq_length_filter
theorem bt_mem {a i : Nat} : i ∈ (List.range 12).filter (fun i => a.testBit i) ↔ i < 12 ∧ a.testBit i = true := by rw [List.mem_filter, List.mem_range]
theorem bt_nd (a : Nat) : ((List.range 12).filter (fun i => a.testBit i)).Nodup := nd_fil _ List.nodup_range
theorem pc_inj {a b : Nat} (f : Nat → Nat) (hf : ∀ i, i < 12 → a.testBit i = true → f i < 12 ∧ b.testBit (f i) = true) (hi : ∀ i j, i < 12 → j < 12 → a.testBit i = true → a.testBit j = true → f i = f j → i = j) : n_pc a ≤ n_pc b := by
  rw [pc_len, pc_len]
  exact nd_le f (bt_nd a) (fun x hx => bt_mem.mpr (hf x (bt_mem.mp hx).1 (bt_mem.mp hx).2)) (fun x y hx hy => hi x y (bt_mem.mp hx).1 (bt_mem.mp hy).1 (bt_mem.mp hx).2 (bt_mem.mp hy).2)
theorem pc_onto {a b : Nat} (f : Nat → Nat) (hf : ∀ i, i < 12 → a.testBit i = true → f i < 12 ∧ b.testBit (f i) = true) (hi : ∀ i j, i < 12 → j < 12 → a.testBit i = true → a.testBit j = true → f i = f j → i = j) (hl : n_pc b ≤ n_pc a) : ∀ j, j < 12 → b.testBit j = true → ∃ i, i < 12 ∧ a.testBit i = true ∧ f i = j := by
  intro j hj hb
  rw [pc_len, pc_len] at hl
  obtain ⟨x, hx, e⟩ := nd_onto f (bt_nd a) (fun x hx => bt_mem.mpr (hf x (bt_mem.mp hx).1 (bt_mem.mp hx).2)) (fun x y hx hy => hi x y (bt_mem.mp hx).1 (bt_mem.mp hy).1 (bt_mem.mp hx).2 (bt_mem.mp hy).2) hl j (bt_mem.mpr ⟨hj, hb⟩)
  exact ⟨x, (bt_mem.mp hx).1, (bt_mem.mp hx).2, e⟩
/-! namings one by one: whoever is named gets a name that is free -/
def usd (N : Nat → Nat) (p v : Nat) : Bool := (List.range p).any (fun q => N q == v)
theorem usd_t {N : Nat → Nat} {p v : Nat} : usd N p v = true ↔ ∃ q, q < p ∧ N q = v := by
  unfold usd
  rw [List.any_eq_true]
  constructor
  · rintro ⟨q, h1, h2⟩; exact ⟨q, List.mem_range.mp h1, eq_of_beq h2⟩
  · rintro ⟨q, h1, h2⟩; exact ⟨q, List.mem_range.mpr h1, by rw [h2]; exact beq_self_eq_true _⟩
theorem usd_f {N : Nat → Nat} {p v : Nat} : usd N p v = false ↔ ∀ q, q < p → N q ≠ v := by
  rw [← Bool.not_eq_true, usd_t]
  exact ⟨fun h q hq e => h ⟨q, hq, e⟩, fun h ⟨q, hq, e⟩ => h q hq e⟩
def ijs (m : Nat) : Nat → Nat → (Nat → Nat) → List (Nat → Nat)
  | 0, _, N => [N]
  | k + 1, p, N => (List.range m).flatMap (fun v => if usd N p v then [] else ijs m k (p + 1) (z_u N p v))
theorem ij_mem (m : Nat) : ∀ k p N M, M ∈ ijs m k p N ↔ (∀ i, (i < p ∨ p + k ≤ i) → M i = N i) ∧ (∀ i, p ≤ i → i < p + k → M i < m) ∧ ∀ i j, i < j → p ≤ j → j < p + k → M i ≠ M j := by
  intro k
  induction k with
  | zero =>
    intro p N M
    show M ∈ [N] ↔ _
    rw [List.mem_singleton]
    constructor
    · rintro rfl; exact ⟨fun _ _ => rfl, fun i h1 h2 => by omega, fun i j _ h1 h2 => by omega⟩
    · rintro ⟨h1, -, -⟩; exact funext fun i => h1 i (by omega)
  | succ k ih =>
    intro p N M
    show M ∈ (List.range m).flatMap _ ↔ _
    rw [List.mem_flatMap]
    constructor
    · rintro ⟨v, hv, hM⟩
      have hv := List.mem_range.mp hv
      cases hu : usd N p v
      · rw [hu, if_neg (by decide)] at hM
        obtain ⟨h1, h2, h3⟩ := (ih (p + 1) (z_u N p v) M).mp hM
        have ep : M p = v := by rw [h1 p (by omega), u_eq]
        have lo : ∀ i, i < p → M i = N i := fun i hi => by rw [h1 i (by omega), u_ne _ _ (by omega)]
        refine ⟨fun i hi => ?_, fun i h4 h5 => ?_, fun i j hij h4 h5 => ?_⟩
        · rw [h1 i (by omega), u_ne _ _ (by omega)]
        · by_cases e : i = p
          · rw [e, ep]; exact hv
          · exact h2 i (by omega) (by omega)
        · by_cases e : j = p
          · rw [e, ep, lo i (by omega)]; exact usd_f.mp hu i (by omega)
          · exact h3 i j hij (by omega) (by omega)
      · rw [hu, if_pos rfl] at hM; cases hM
    · rintro ⟨h1, h2, h3⟩
      refine ⟨M p, List.mem_range.mpr (h2 p (by omega) (by omega)), ?_⟩
      have hu : usd N p (M p) = false := usd_f.mpr (fun q hq e => h3 q p hq (Nat.le_refl _) (by omega) (by rw [h1 q (by omega)]; exact e))
      rw [hu, if_neg (by decide)]
      refine (ih (p + 1) _ M).mpr ⟨fun i hi => ?_, fun i h4 h5 => h2 i (by omega) (by omega), fun i j hij h4 h5 => h3 i j hij (by omega) (by omega)⟩
      by_cases e : i = p
      · rw [e, u_eq]
      · rw [u_ne _ _ e]; exact h1 i (by omega)
/-- one naming is before another -/
def lx (M M' : Nat → Nat) : Prop := ∃ i, (∀ j, j < i → M j = M' j) ∧ M i < M' i
theorem lx_as {M M' : Nat → Nat} (h1 : lx M M') (h2 : lx M' M) : False := by
  obtain ⟨i, a1, a2⟩ := h1
  obtain ⟨j, b1, b2⟩ := h2
  rcases Nat.lt_trichotomy i j with c | c | c
  · have := b1 i c; omega
  · subst c; omega
  · have := a1 j c; omega
theorem lx_tot {M M' : Nat → Nat} {n : Nat} (h : ∃ i, i < n ∧ M i ≠ M' i) : lx M M' ∨ lx M' M := by
  have key : ∀ k, (∀ i, i < k → M i = M' i) ∨ ∃ i, i < k ∧ (∀ j, j < i → M j = M' j) ∧ M i ≠ M' i := by
    intro k
    induction k with
    | zero => exact Or.inl (fun i hi => absurd hi (Nat.not_lt_zero _))
    | succ k ih =>
      rcases ih with c | ⟨i, c1, c2⟩
      · by_cases e : M k = M' k
        · left
          intro i hi
          by_cases ei : i = k
          · rw [ei]; exact e
          · exact c i (by omega)
        · exact Or.inr ⟨k, by omega, c, e⟩
      · exact Or.inr ⟨i, by omega, c2⟩
  obtain ⟨i0, h1, h2⟩ := h
  rcases key n with c | ⟨i, c1, c2, c3⟩
  · exact absurd (c i0 h1) h2
  · rcases Nat.lt_or_ge (M i) (M' i) with d | d
    · exact Or.inl ⟨i, c2, d⟩
    · exact Or.inr ⟨i, fun j hj => (c2 j hj).symm, by omega⟩
theorem lx_tr {M M' M'' : Nat → Nat} (h1 : lx M M') (h2 : lx M' M'') : lx M M'' := by
  obtain ⟨i, a1, a2⟩ := h1
  obtain ⟨j, b1, b2⟩ := h2
  rcases Nat.lt_trichotomy i j with c | c | c
  · exact ⟨i, fun k hk => (a1 k hk).trans (b1 k (by omega)), by have := b1 i c; omega⟩
  · subst c; exact ⟨i, fun k hk => (a1 k hk).trans (b1 k hk), by omega⟩
  · exact ⟨j, fun k hk => (a1 k (by omega)).trans (b1 k hk), by have := a1 j c; omega⟩
theorem ij_pw (m : Nat) : ∀ k p N, (ijs m k p N).Pairwise lx := by
  intro k
  induction k with
  | zero => intro p N; exact List.pairwise_singleton _ _
  | succ k ih =>
    intro p N
    show ((List.range m).flatMap _).Pairwise lx
    rw [List.pairwise_flatMap]
    refine ⟨fun v _ => ?_, ?_⟩
    · cases usd N p v
      · exact ih (p + 1) _
      · exact List.Pairwise.nil
    · refine List.Pairwise.imp (R := (· < ·)) (fun {a b} hab x hx y hy => ?_) List.pairwise_lt_range
      cases hu : usd N p a
      · cases hu' : usd N p b
        · rw [hu, if_neg (by decide)] at hx
          rw [hu', if_neg (by decide)] at hy
          have h1 := ((ij_mem m k (p + 1) _ x).mp hx).1
          have h2 := ((ij_mem m k (p + 1) _ y).mp hy).1
          refine ⟨p, fun j hj => ?_, ?_⟩
          · rw [h1 j (by omega), h2 j (by omega), u_ne _ _ (by omega), u_ne _ _ (by omega)]
          · rw [h1 p (by omega), h2 p (by omega), u_eq, u_eq]; exact hab
        · rw [hu', if_pos rfl] at hy; cases hy
      · rw [hu, if_pos rfl] at hx; cases hx
theorem ij_nd (m k p : Nat) (N : Nat → Nat) : (ijs m k p N).Nodup := List.Pairwise.imp (fun h e => by subst e; exact lx_as h h) (ij_pw m k p N)
