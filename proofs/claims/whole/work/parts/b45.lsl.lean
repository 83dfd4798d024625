/-! MATHEMATICS: the lists in order, and how long they are at most -/
theorem cat_pw {α : Type} {R : α → α → Prop} {g : Nat → List α} (h1 : ∀ s, (g s).Pairwise R) (h2 : ∀ s s', s < s' → ∀ x, x ∈ g s → ∀ y, y ∈ g s' → R x y) : ∀ c s, (c_cat g c s).Pairwise R
  | 0, _ => List.Pairwise.nil
  | c + 1, s => by
    show (g s ++ c_cat g c (s + 1)).Pairwise R
    rw [List.pairwise_append]
    refine ⟨h1 s, cat_pw h1 h2 c (s + 1), fun x hx y hy => ?_⟩
    obtain ⟨t, t1, t2, t3⟩ := (cat_mem c (s + 1)).mp hy
    exact h2 s t (by omega) x hx y t3
theorem l1_pw (n m : Nat) (g : Nat → Nat) : (c_lf n 1 m g).Pairwise lx := by
  show (c_cat (fun s => if c_okS g m s && c_isLst n (z_u g m s) (m + 1) then [z_u g m s] else []) (2 ^ n - c_st g m) (c_st g m)).Pairwise lx
  have mem : ∀ s x, x ∈ (if (c_okS g m s && c_isLst n (z_u g m s) (m + 1)) = true then [z_u g m s] else []) → x = z_u g m s := fun s x hx => by
    by_cases c : (c_okS g m s && c_isLst n (z_u g m s) (m + 1)) = true
    · rw [if_pos c] at hx
      simpa using hx
    · rw [if_neg c] at hx
      cases hx
  refine cat_pw (fun s => ?_) (fun s s' hs x hx y hy => ?_) _ _
  · show (if (c_okS g m s && c_isLst n (z_u g m s) (m + 1)) = true then [z_u g m s] else []).Pairwise lx
    by_cases c : (c_okS g m s && c_isLst n (z_u g m s) (m + 1)) = true
    · rw [if_pos c]
      exact List.pairwise_singleton _ _
    · rw [if_neg c]
      exact List.Pairwise.nil
  · rw [mem s x hx, mem s' y hy]
    exact ⟨m, fun j hj => by rw [u_ne _ _ (by omega), u_ne _ _ (by omega)], by rw [u_eq, u_eq]; exact hs⟩
theorem lst_pw (n : Nat) : ∀ m, (c_lst n m).Pairwise lx
  | 0 => by rw [lst_0]; exact List.pairwise_singleton _ _
  | m + 1 => by
    rw [lst_s, List.pairwise_flatMap]
    refine ⟨fun g _ => l1_pw n m g, ?_⟩
    have key : ∀ L : List (Nat → Nat), L.Pairwise lx → (∀ g, g ∈ L → rwok n m g) → L.Pairwise (fun a b => ∀ x, x ∈ c_lf n 1 m a → ∀ y, y ∈ c_lf n 1 m b → lx x y) := by
      intro L
      induction L with
      | nil => intro _ _; exact List.Pairwise.nil
      | cons a L ih =>
        intro hp hm
        rw [List.pairwise_cons] at hp ⊢
        refine ⟨fun b hb x hx y hy => ?_, ih hp.2 (fun g hg => hm g (List.mem_cons_of_mem _ hg))⟩
        obtain ⟨i, i1, i2⟩ := hp.1 b hb
        have rb := (hm b (List.mem_cons_of_mem _ hb)).2.2.2
        have im : i < m := by
          apply Classical.byContradiction
          intro c
          rw [rb i (by omega)] at i2
          omega
        obtain ⟨t, _, _, _, _, ex⟩ := l1_mem.mp hx
        obtain ⟨t', _, _, _, _, ey⟩ := l1_mem.mp hy
        rw [ex, ey]
        exact ⟨i, fun j hj => by rw [u_ne _ _ (by omega), u_ne _ _ (by omega)]; exact i1 j hj, by rw [u_ne _ _ (by omega), u_ne _ _ (by omega)]; exact i2⟩
    exact key _ (lst_pw n m) (fun g hg => lst_ok n m g hg)
theorem lst_nd (n m : Nat) : (c_lst n m).Nodup := List.Pairwise.imp (fun h e => by subst e; exact lx_as h h) (lst_pw n m)
theorem lst_len {m : Nat} (hm : m ≤ 7) : (c_lst 7 m).length ≤ (XX m).length := by
  refine nd_le (fun f => (List.range m).map f) (lst_nd 7 m) (fun f hf => lst_X m hm f hf) (fun f f' hf hf' e => ?_)
  have r := (lst_ok 7 m f hf).2.2.2
  have r' := (lst_ok 7 m f' hf').2.2.2
  funext l
  by_cases c : l < m
  · have := congrArg (fun L => L[l]?) e
    simp only [List.getElem?_map, List.getElem?_range c, Option.map_some, Option.some.injEq] at this
    exact this
  · rw [r l (by omega), r' l (by omega)]
theorem XX_len : ∀ m, m < 8 → (XX m).length ≤ 3 := by decide
