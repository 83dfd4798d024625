/-! THE DRAWER: what three places span -/
def g_span (A : Nat → Nat → Int32) (a b c : Nat) : Int32 := ((A 1 a * (A 2 b * A 3 c - A 2 c * A 3 b)) - (A 2 a * (A 1 b * A 3 c - A 1 c * A 3 b))) + (A 3 a * (A 1 b * A 2 c - A 1 c * A 2 b))
section HE1
variable {G : z_G} {d x : Nat} {h : z_H} {F : Nat → Int32} {A : Nat → Nat → Int32}
theorem e2_span (ds : dsh x h) {a b c : Nat} (ha : a < 16) (hb : b < 16) (hc : c < 16) : z_Ev G (d + 1) k_X2_span [.ref x, .int (nI a), .int (nI b), .int (nI c)] (z_hb h x 7 F A) (.inl (some (.int (g_span A a b c))), z_hb h x 7 F A) := by
  obtain ⟨s0, -, ⟨a1, a2, a3⟩, ⟨b1, b2, b3⟩, ⟨c1, c2, c3⟩, -⟩ := ds
  have vi : ∀ p n, p < 16 → n = 16 → vp_in (nI p) n := fun p n hp hn => by rw [hn]; exact vp_in_nI hp (by decide)
  have o1 : z_or (z_hb h x 7 F A) x 1 = some (x + 1 + 1) := a1
  have o2 : z_or (z_hb h x 7 F A) x 2 = some (x + 1 + 2) := b1
  have o3 : z_or (z_hb h x 7 F A) x 3 = some (x + 1 + 3) := c1
  have r1 : z_ai (z_hb h x 7 F A) (x + 1 + 1) = A 1 := hb_ai h x 7 F A (j := 1) (by decide)
  have r2 : z_ai (z_hb h x 7 F A) (x + 1 + 2) = A 2 := hb_ai h x 7 F A (j := 2) (by decide)
  have r3 : z_ai (z_hb h x 7 F A) (x + 1 + 3) = A 3 := hb_ai h x 7 F A (j := 3) (by decide)
  refine en_X2_span (b_X2_span_0 (z_pu0V rfl) ?_)
  simp only [o1, o2, o3, z_rcs, r1, r2, r3, nI_clamp (show a < 2 ^ 31 by omega), nI_clamp (show b < 2 ^ 31 by omega), nI_clamp (show c < 2 ^ 31 by omega)]
  exact ⟨s0, a2, vi _ _ ha a3, s0, b2, vi _ _ hb b3, s0, c2, vi _ _ hc c3, s0, b2, vi _ _ hc b3, s0, c2, vi _ _ hb c3, s0, b2, vi _ _ ha b3, s0, a2, vi _ _ hb a3, s0, c2, vi _ _ hc c3, s0, a2, vi _ _ hc a3, s0, c2, vi _ _ hb c3, s0, c2, vi _ _ ha c3, s0, a2, vi _ _ hb a3, s0, b2, vi _ _ hc b3, s0, a2, vi _ _ hc a3, s0, b2, vi _ _ hb b3, rfl⟩
end HE1
