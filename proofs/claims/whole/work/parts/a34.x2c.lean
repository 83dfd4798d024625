/-! THE DRAWER: a square marked; what three places span -/
def g_mkS (g : Nat) (A : Nat → Nat → Int32) : Nat → Nat → Int32 := it (fun y A => it (fun x A => mkA A (g * y + x) (nI x) (nI y) (nI 1)) A g) A g
section HC1
variable {G : z_G} {d x : Nat} {h : z_H} {F : Nat → Int32} {A : Nat → Nat → Int32}
theorem e2_markSquare (ds : dsh x h) {g : Nat} (hg : g ≤ 4) : z_Ev G (d + 2) k_X2_markSquare [.ref x, .int (nI g)] (z_hb h x 7 F A) (.inl none, z_hb h x 7 F (g_mkS g A)) := by
  refine en_X2_markSquare (b_X2_markSquare_0 (z_pu0V rfl) ?_)
  refine z_forH (fun y (_ : Nat → Nat → Int32) => [some (.ref x), some (.int (nI g)), some (.int (nI y)), none]) (fun _ A => z_hb h x 7 F A) (fun y A => it (fun x A => mkA A (g * y + x) (nI x) (nI y) (nI 1)) A g) A g ?_ ?_
  · intro y hy hJ
    obtain ⟨A0, eA0⟩ : ∃ A0, A0 = it (fun y A => it (fun x A => mkA A (g * y + x) (nI x) (nI y) (nI 1)) A g) A y := ⟨_, rfl⟩
    rw [← eA0] at hJ ⊢
    refine b_X2_markSquare_2 (z_pu0V rfl) ?_
    rw [if_pos (nI_lt hy (by omega))]
    refine z_forH (fun k (_ : Nat → Nat → Int32) => [some (.ref x), some (.int (nI g)), some (.int (nI y)), some (.int (nI k))]) (fun _ A => z_hb h x 7 F A) (fun k A => mkA A (g * y + k) (nI k) (nI y) (nI 1)) A0 g ?_ ?_
    · intro k hk hJ2
      have hp : g * y + k < 16 := by
        have : g * y ≤ 4 * 3 := Nat.mul_le_mul hg (by omega)
        omega
      refine b_X2_markSquare_9 (z_pu0V rfl) ?_
      rw [if_pos (nI_lt hk (by omega)), n_mul, nI_add, nI_add]
      exact ⟨ds.1, _, e2_mark ds hp _ _ _, hJ2⟩
    · refine b_X2_markSquare_9 (z_pu0V rfl) ?_
      rw [if_neg (nI_nlt (Nat.le_refl _) (by omega)), nI_add]
      exact hJ
  · refine b_X2_markSquare_2 (z_pu0V rfl) ?_
    rw [if_neg (nI_nlt (Nat.le_refl _) (by omega))]
    rfl
end HC1
