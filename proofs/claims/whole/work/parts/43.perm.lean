/-! THE NAMINGS IN THEIR ORDER: arrays of n numbers, each next one by the rule of the reference -/
def nch {α : Type} (R : α → α → Prop) : List α → Prop
  | [] => True
  | x :: l => (∀ y, l.head? = some y → R x y) ∧ nch R l
theorem nch_app {α : Type} {R : α → α → Prop} : ∀ {l1 l2 : List α}, nch R l1 → nch R l2 → (∀ x y, l1.getLast? = some x → l2.head? = some y → R x y) → nch R (l1 ++ l2)
  | [], _, _, h2, _ => h2
  | [x], l2, _, h2, h3 => ⟨fun y hy => h3 x y rfl hy, h2⟩
  | x :: y :: t, l2, h1, h2, h3 => ⟨h1.1, nch_app (l1 := y :: t) h1.2 h2 (fun a b ha hb => h3 a b (by rw [List.getLast?_cons_cons]; exact ha) hb)⟩
/-- without the i-th -/
def er (ρ : Nat → Nat) (i : Nat) : Nat → Nat := fun t => if t < i then ρ t else ρ (t + 1)
/-- all ways to go on from place p with the k numbers of ρ -/
def al : Nat → Nat → (Nat → Nat) → (Nat → Nat) → List (Nat → Nat)
  | _, 0, _, f => [f]
  | p, k + 1, ρ, f => (List.range (k + 1)).flatMap (fun i => al (p + 1) k (er ρ i) (z_u f p (ρ i)))
def asc (p k : Nat) (ρ f : Nat → Nat) : Nat → Nat := fun i => if p ≤ i ∧ i < p + k then ρ (i - p) else f i
def dsc (p k : Nat) (ρ f : Nat → Nat) : Nat → Nat := fun i => if p ≤ i ∧ i < p + k then ρ (k - 1 - (i - p)) else f i
/-- the next one -/
def nxR (n : Nat) (N N' : Nat → Nat) : Prop := ∃ k j, k < j ∧ j < n ∧ (∀ i, k < i → i + 1 < n → N (i + 1) < N i) ∧ N k < N (k + 1) ∧ (∀ i, j < i → i < n → N i < N k) ∧ N k < N j ∧
  ∀ i, N' i = if i = k then N j else if k < i ∧ i < n then (if n + k - i = j then N k else N (n + k - i)) else N i
def nx0 (n : Nat) (N : Nat → Nat) : Prop := ∀ i, i + 1 < n → N (i + 1) < N i
def mono (k : Nat) (ρ : Nat → Nat) : Prop := ∀ i j, i < j → j < k → ρ i < ρ j
theorem mono_er {k : Nat} {ρ : Nat → Nat} (h : mono (k + 1) ρ) (i : Nat) : mono k (er ρ i) := by
  intro a b hab hb
  unfold er
  split
  · split
    · exact h _ _ hab (by omega)
    · exact h _ _ (by omega) (by omega)
  · split
    · omega
    · exact h _ _ (by omega) (by omega)
theorem asc_er {p k : Nat} {ρ f : Nat → Nat} : asc (p + 1) k (er ρ 0) (z_u f p (ρ 0)) = asc p (k + 1) ρ f := by
  funext i
  unfold asc er z_u
  by_cases h1 : i = p
  · subst h1
    rw [if_neg (by omega), if_pos rfl, if_pos (by omega), Nat.sub_self]
  · by_cases h2 : p + 1 ≤ i ∧ i < p + 1 + k
    · rw [if_pos h2, if_neg (by omega), if_pos (by omega)]
      congr 1; omega
    · rw [if_neg h2, if_neg h1, if_neg (by omega)]
theorem dsc_er {p k : Nat} {ρ f : Nat → Nat} : dsc (p + 1) k (er ρ k) (z_u f p (ρ k)) = dsc p (k + 1) ρ f := by
  funext i
  unfold dsc er z_u
  by_cases h1 : i = p
  · subst h1
    rw [if_neg (by omega), if_pos rfl, if_pos (by omega)]
    congr 1; omega
  · by_cases h2 : p + 1 ≤ i ∧ i < p + 1 + k
    · rw [if_pos h2, if_pos (by omega), if_pos (by omega)]
      congr 1; omega
    · rw [if_neg h2, if_neg h1, if_neg (by omega)]
/-- from the last of a block to the first of the next -/
theorem nx_blk {n p k : Nat} {ρ f : Nat → Nat} (hn : p + (k + 1) = n) (hm : mono (k + 1) ρ) {i : Nat} (hi : i + 1 < k + 1) : nxR n (dsc (p + 1) k (er ρ i) (z_u f p (ρ i))) (asc (p + 1) k (er ρ (i + 1)) (z_u f p (ρ (i + 1)))) := by
  have d_out : ∀ x, x ≤ p → dsc (p + 1) k (er ρ i) (z_u f p (ρ i)) x = if x = p then ρ i else f x := fun x hx => by
    unfold dsc; rw [if_neg (by omega)]; rfl
  have d_in : ∀ x, p < x → x < n → dsc (p + 1) k (er ρ i) (z_u f p (ρ i)) x = if n - 1 - x < i then ρ (n - 1 - x) else ρ (n - 1 - x + 1) := fun x h1 h2 => by
    unfold dsc; rw [if_pos (by omega)]; unfold er
    rw [show k - 1 - (x - (p + 1)) = n - 1 - x by omega]
  have d_far : ∀ x, n ≤ x → dsc (p + 1) k (er ρ i) (z_u f p (ρ i)) x = f x := fun x hx => by
    unfold dsc; rw [if_neg (by omega)]; exact if_neg (by omega)
  refine ⟨p, n - 1 - i, by omega, by omega, ?_, ?_, ?_, ?_, ?_⟩
  · intro x h1 h2
    rw [d_in x h1 (by omega), d_in (x + 1) (by omega) h2]
    split
    · split
      · exact hm _ _ (by omega) (by omega)
      · exact hm _ _ (by omega) (by omega)
    · split
      · omega
      · exact hm _ _ (by omega) (by omega)
  · rw [d_out p (Nat.le_refl _), if_pos rfl, d_in (p + 1) (by omega) (by omega)]
    split
    · omega
    · exact hm _ _ (by omega) (by omega)
  · intro x h1 h2
    rw [d_out p (Nat.le_refl _), if_pos rfl, d_in x (by omega) h2, if_pos (by omega)]
    exact hm _ _ (by omega) (by omega)
  · rw [d_out p (Nat.le_refl _), if_pos rfl, d_in (n - 1 - i) (by omega) (by omega), if_neg (by omega)]
    exact hm _ _ (by omega) (by omega)
  · intro x
    by_cases h1 : x = p
    · subst h1
      rw [if_pos rfl, d_in (n - 1 - i) (by omega) (by omega), if_neg (by omega)]
      unfold asc
      rw [if_neg (by omega)]
      unfold z_u
      rw [if_pos rfl]
      congr 1; omega
    · rw [if_neg h1]
      by_cases h2 : p < x ∧ x < n
      · rw [if_pos h2]
        unfold asc
        rw [if_pos (by omega), show er ρ (i + 1) (x - (p + 1)) = if x - (p + 1) < i + 1 then ρ (x - (p + 1)) else ρ (x - (p + 1) + 1) from rfl]
        by_cases h3 : n + p - x = n - 1 - i
        · rw [if_pos h3, d_out p (Nat.le_refl _), if_pos rfl, if_pos (by omega)]
          congr 1; omega
        · rw [if_neg h3, d_in (n + p - x) (by omega) (by omega)]
          split
          · rw [if_pos (by omega)]; congr 1; omega
          · rw [if_neg (by omega)]; congr 1; omega
      · rw [if_neg h2]
        unfold asc
        rw [if_neg (by omega)]
        by_cases h3 : x < p
        · rw [d_out x (by omega), if_neg h1]; exact if_neg h1
        · rw [d_far x (by omega)]; exact if_neg h1
theorem al_spec (n : Nat) : ∀ k p ρ f, p + k = n → mono k ρ → nch (nxR n) (al p k ρ f) ∧ (al p k ρ f).head? = some (asc p k ρ f) ∧ (al p k ρ f).getLast? = some (dsc p k ρ f) := by
  intro k
  induction k with
  | zero =>
    intro p ρ f hp hm
    have e1 : asc p 0 ρ f = f := by funext i; exact if_neg (by omega)
    have e2 : dsc p 0 ρ f = f := by funext i; exact if_neg (by omega)
    rw [e1, e2]
    exact ⟨⟨fun y hy => (by cases hy), trivial⟩, rfl, rfl⟩
  | succ k ih =>
    intro p ρ f hp hm
    have key : ∀ t, t < k + 1 → nch (nxR n) ((List.range (t + 1)).flatMap (fun i => al (p + 1) k (er ρ i) (z_u f p (ρ i)))) ∧ ((List.range (t + 1)).flatMap (fun i => al (p + 1) k (er ρ i) (z_u f p (ρ i)))).head? = some (asc p (k + 1) ρ f) ∧ ((List.range (t + 1)).flatMap (fun i => al (p + 1) k (er ρ i) (z_u f p (ρ i)))).getLast? = some (dsc (p + 1) k (er ρ t) (z_u f p (ρ t))) := by
      intro t
      induction t with
      | zero =>
        intro _
        have h0 := ih (p + 1) (er ρ 0) (z_u f p (ρ 0)) (by omega) (mono_er hm 0)
        have e : (List.range (0 + 1)).flatMap (fun i => al (p + 1) k (er ρ i) (z_u f p (ρ i))) = al (p + 1) k (er ρ 0) (z_u f p (ρ 0)) := by
          show [0].flatMap _ = _
          rw [List.flatMap_singleton]
        rw [e]
        exact ⟨h0.1, by rw [h0.2.1, asc_er], h0.2.2⟩
      | succ t iht =>
        intro ht
        have h1 := iht (by omega)
        have h2 := ih (p + 1) (er ρ (t + 1)) (z_u f p (ρ (t + 1))) (by omega) (mono_er hm (t + 1))
        rw [List.range_succ, List.flatMap_append, List.flatMap_singleton]
        refine ⟨nch_app h1.1 h2.1 (fun x y hx hy => ?_), ?_, ?_⟩
        · rw [h1.2.2] at hx
          rw [h2.2.1] at hy
          cases hx; cases hy
          exact nx_blk hp hm (by omega)
        · rw [List.head?_append, h1.2.1]; rfl
        · rw [List.getLast?_append, h2.2.2]; rfl
    have h3 := key k (by omega)
    refine ⟨h3.1, h3.2.1, ?_⟩
    have h4 := h3.2.2
    rw [dsc_er] at h4
    exact h4
/-- all namings of n points -/
def pms (n : Nat) : List (Nat → Nat) := al 0 n (fun i => i) (fun _ => 0)
theorem pms_spec (n : Nat) : nch (nxR n) (pms n) ∧ (pms n).head? = some (fun i => if i < n then i else 0) ∧ ∀ x, (pms n).getLast? = some x → nx0 n x := by
  have h := al_spec n n 0 (fun i => i) (fun _ => 0) (Nat.zero_add n) (fun i j hij _ => hij)
  refine ⟨h.1, ?_, ?_⟩
  · refine h.2.1.trans ?_
    congr 1
    funext i
    unfold asc
    by_cases hi : i < n
    · rw [if_pos (by omega), if_pos hi]; exact Nat.sub_zero i
    · rw [if_neg (by omega), if_neg hi]
  · intro x hx i hi
    have e : x = dsc 0 n (fun i => i) (fun _ => 0) := Option.some.inj (hx.symm.trans h.2.2)
    rw [e]
    unfold dsc
    rw [if_pos (by omega), if_pos (by omega)]
    show n - 1 - (i + 1 - 0) < n - 1 - (i - 0)
    omega
/-- each has n numbers below n, none twice -/
theorem al_in (n : Nat) : ∀ k p ρ f, p + k = n → mono k ρ → (∀ i, i < k → ρ i < n) → (∀ i j, i < p → j < k → f i ≠ ρ j) → (∀ i, i < p → f i < n) → (∀ i j, i < j → j < p → f i ≠ f j) → ∀ N ∈ al p k ρ f, (∀ i, i < n → N i < n) ∧ (∀ i j, i < j → j < n → N i ≠ N j) ∧ (∀ i, i < p → N i = f i) ∧ ∀ i, n ≤ i → N i = f i := by
  intro k
  induction k with
  | zero =>
    intro p ρ f hp hm hr hd hf hi N hN
    have e : N = f := by simpa [al] using hN
    subst e
    exact ⟨fun i h => hf i (by omega), fun i j h1 h2 => hi i j h1 (by omega), fun i _ => rfl, fun i _ => rfl⟩
  | succ k ih =>
    intro p ρ f hp hm hr hd hf hi N hN
    unfold al at hN
    obtain ⟨t, ht, hN2⟩ := List.mem_flatMap.mp hN
    have ht2 : t < k + 1 := List.mem_range.mp ht
    have h1 := ih (p + 1) (er ρ t) (z_u f p (ρ t)) (by omega) (mono_er hm t) (fun i hi => by
      unfold er; split
      · exact hr _ (by omega)
      · exact hr _ (by omega)) ?_ ?_ ?_ N hN2
    · refine ⟨h1.1, h1.2.1, fun i hi => ?_, fun i hi => ?_⟩
      · rw [h1.2.2.1 i (by omega)]; exact if_neg (by omega)
      · rw [h1.2.2.2 i hi]; exact if_neg (by omega)
    · intro i j hi2 hj
      have hne : ∀ a, a < k + 1 → a ≠ t → ρ t ≠ ρ a := fun a ha hat => by
        rcases Nat.lt_or_gt_of_ne hat with q | q
        · exact Nat.ne_of_gt (hm a t q ht2)
        · exact Nat.ne_of_lt (hm t a q ha)
      unfold z_u er
      by_cases hip : i = p
      · rw [if_pos hip]
        split
        · exact hne _ (by omega) (by omega)
        · exact hne _ (by omega) (by omega)
      · rw [if_neg hip]
        split
        · exact hd _ _ (by omega) (by omega)
        · exact hd _ _ (by omega) (by omega)
    · intro i hi2
      unfold z_u
      split
      · exact hr t ht2
      · exact hf i (by omega)
    · intro i j hij hj
      unfold z_u
      by_cases h2 : i = p
      · omega
      · rw [if_neg h2]
        by_cases h3 : j = p
        · rw [if_pos h3]; exact hd i t (by omega) ht2
        · rw [if_neg h3]; exact hi i j hij (by omega)
theorem pms_in {n : Nat} {N : Nat → Nat} (hN : N ∈ pms n) : (∀ i, i < n → N i < n) ∧ (∀ i j, i < j → j < n → N i ≠ N j) ∧ ∀ i, n ≤ i → N i = 0 := by
  have h := al_in n n 0 (fun i => i) (fun _ => 0) (Nat.zero_add n) (fun i j hij _ => hij) (fun i hi => hi) (fun i j hi _ => absurd hi (Nat.not_lt_zero i)) (fun i hi => absurd hi (Nat.not_lt_zero i)) (fun i j hij hj => absurd hj (Nat.not_lt_zero j)) N hN
  exact ⟨h.1, h.2.1, h.2.2.2⟩
