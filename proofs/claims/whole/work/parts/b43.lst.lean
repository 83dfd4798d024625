/-! MATHEMATICS: the reference's lists, one line longer -/
theorem cat_flat {α β : Type} (g : Nat → List α) (h : α → List β) : ∀ c s, (c_cat g c s).flatMap h = c_cat (fun s => (g s).flatMap h) c s
  | 0, _ => rfl
  | c + 1, s => by
    show (g s ++ c_cat g c (s + 1)).flatMap h = (g s).flatMap h ++ c_cat (fun s => (g s).flatMap h) c (s + 1)
    rw [List.flatMap_append, cat_flat g h c (s + 1)]
theorem cat_cg {α : Type} {g g' : Nat → List α} : ∀ c s, (∀ x, s ≤ x → x < s + c → g x = g' x) → c_cat g c s = c_cat g' c s
  | 0, _, _ => rfl
  | c + 1, s, h => by
    show g s ++ c_cat g c (s + 1) = g' s ++ c_cat g' c (s + 1)
    rw [h s (Nat.le_refl _) (by omega), cat_cg c (s + 1) (fun x h1 h2 => h x (by omega) (by omega))]
theorem cat_mem {α : Type} {g : Nat → List α} {x : α} : ∀ c s, x ∈ c_cat g c s ↔ ∃ t, s ≤ t ∧ t < s + c ∧ x ∈ g t
  | 0, s => ⟨fun h => (by cases h), fun ⟨t, h1, h2, _⟩ => (by omega)⟩
  | c + 1, s => by
    show x ∈ g s ++ c_cat g c (s + 1) ↔ _
    rw [List.mem_append, cat_mem c (s + 1)]
    constructor
    · rintro (h | ⟨t, h1, h2, h3⟩)
      · exact ⟨s, Nat.le_refl _, by omega, h⟩
      · exact ⟨t, by omega, by omega, h3⟩
    · rintro ⟨t, h1, h2, h3⟩
      by_cases e : t = s
      · left; rw [← e]; exact h3
      · exact Or.inr ⟨t, by omega, by omega, h3⟩
theorem lf_snoc (n : Nat) : ∀ j k f, c_lf n (j + 1) k f = (c_lf n j k f).flatMap (fun g => c_lf n 1 (k + j) g)
  | 0, k, f => by
    show c_lf n 1 k f = [f].flatMap (fun g => c_lf n 1 (k + 0) g)
    rw [List.flatMap_cons, List.flatMap_nil, List.append_nil]
    rfl
  | j + 1, k, f => by
    have e : c_lf n (j + 1 + 1) k f = c_cat (fun s => if c_okS f k s && c_isLst n (z_u f k s) (k + 1) then c_lf n (j + 1) (k + 1) (z_u f k s) else []) (2 ^ n - c_st f k) (c_st f k) := rfl
    have e2 : c_lf n (j + 1) k f = c_cat (fun s => if c_okS f k s && c_isLst n (z_u f k s) (k + 1) then c_lf n j (k + 1) (z_u f k s) else []) (2 ^ n - c_st f k) (c_st f k) := rfl
    rw [e, e2, cat_flat]
    refine cat_cg _ _ (fun s _ _ => ?_)
    show (if (c_okS f k s && c_isLst n (z_u f k s) (k + 1)) = true then c_lf n (j + 1) (k + 1) (z_u f k s) else []) = (if (c_okS f k s && c_isLst n (z_u f k s) (k + 1)) = true then c_lf n j (k + 1) (z_u f k s) else []).flatMap _
    by_cases c : (c_okS f k s && c_isLst n (z_u f k s) (k + 1)) = true
    · rw [if_pos c, if_pos c, lf_snoc n j (k + 1) (z_u f k s), show k + 1 + j = k + (j + 1) by omega]
    · rw [if_neg c, if_neg c]
      rfl
theorem lst_s (n m : Nat) : c_lst n (m + 1) = (c_lst n m).flatMap (fun g => c_lf n 1 m g) := by
  unfold c_lst
  rw [lf_snoc n m 0, Nat.zero_add]
theorem lst_0 (n : Nat) : c_lst n 0 = [fun _ => 0] := rfl
theorem l1_mem {n m : Nat} {g f : Nat → Nat} : f ∈ c_lf n 1 m g ↔ ∃ t, c_st g m ≤ t ∧ t < 2 ^ n ∧ c_okS g m t = true ∧ c_isLst n (z_u g m t) (m + 1) = true ∧ f = z_u g m t := by
  show f ∈ c_cat (fun s => if c_okS g m s && c_isLst n (z_u g m s) (m + 1) then [z_u g m s] else []) (2 ^ n - c_st g m) (c_st g m) ↔ _
  rw [cat_mem]
  constructor
  · rintro ⟨t, h1, h2, h3⟩
    by_cases c : (c_okS g m t && c_isLst n (z_u g m t) (m + 1)) = true
    · rw [if_pos c] at h3
      rw [Bool.and_eq_true] at c
      exact ⟨t, h1, by omega, c.1, c.2, by simpa using h3⟩
    · rw [if_neg c] at h3
      cases h3
  · rintro ⟨t, h1, h2, h3, h4, h5⟩
    refine ⟨t, h1, by omega, ?_⟩
    rw [h3, h4, h5]
    simp
theorem okS_i {f : Nat → Nat} {k s : Nat} : c_okS f k s = true ↔ (n_pc s = 3 ∧ ∀ i, i < k → n_pc (f i &&& s) < 2) := by
  unfold c_okS
  rw [Bool.and_eq_true, decide_eq_true_iff, Bool.not_eq_true', any_fiff]
  constructor
  · rintro ⟨h1, h2⟩
    refine ⟨h1, fun i hi => ?_⟩
    have := h2 i hi
    rw [Bool.not_eq_false'] at this
    exact of_decide_eq_true this
  · rintro ⟨h1, h2⟩
    exact ⟨h1, fun i hi => by rw [Bool.not_eq_false']; exact decide_eq_true (h2 i hi)⟩
/-- a row of a list -/
def rwok (n m : Nat) (f : Nat → Nat) : Prop := (∀ l, l < m → n_pc (f l) = 3 ∧ f l < 2 ^ n) ∧ inc f m ∧ (∀ i j, i < j → j < m → n_pc (f i &&& f j) < 2) ∧ ∀ l, m ≤ l → f l = 0
theorem lst_ok (n : Nat) : ∀ m f, f ∈ c_lst n m → rwok n m f
  | 0, f, h => by
    rw [lst_0] at h
    have e : f = fun _ => 0 := by simpa using h
    subst e
    exact ⟨fun l hl => absurd hl (Nat.not_lt_zero _), fun i j _ h => absurd h (Nat.not_lt_zero _), fun i j _ h => absurd h (Nat.not_lt_zero _), fun _ _ => rfl⟩
  | m + 1, f, h => by
    rw [lst_s, List.mem_flatMap] at h
    obtain ⟨g, hg, hf⟩ := h
    obtain ⟨t, t1, t2, t3, _, t5⟩ := l1_mem.mp hf
    obtain ⟨r1, r2, r3, r4⟩ := lst_ok n m g hg
    obtain ⟨o1, o2⟩ := okS_i.mp t3
    subst t5
    refine ⟨fun l hl => ?_, fun i j hij hj => ?_, fun i j hij hj => ?_, fun l hl => ?_⟩
    · by_cases e : l = m
      · rw [e, u_eq]; exact ⟨o1, t2⟩
      · rw [u_ne _ _ e]; exact r1 l (by omega)
    · by_cases e : j = m
      · rw [e, u_eq, u_ne _ _ (by omega)]
        unfold c_st at t1
        rw [if_neg (by omega)] at t1
        by_cases e2 : i = m - 1
        · rw [e2]; omega
        · have := r2 i (m - 1) (by omega) (by omega)
          omega
      · rw [u_ne _ _ (by omega), u_ne _ _ e]
        exact r2 i j hij (by omega)
    · by_cases e : j = m
      · rw [e, u_eq, u_ne _ _ (by omega)]
        exact o2 i (by omega)
      · rw [u_ne _ _ (by omega), u_ne _ _ e]
        exact r3 i j hij (by omega)
    · rw [u_ne _ _ (by omega)]
      exact r4 l (by omega)
