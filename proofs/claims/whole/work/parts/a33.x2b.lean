/-! THE DRAWER: its shape; places marked -/
def dsh (x : Nat) (h : z_H) : Prop := z_kd h x = 18 ∧ (z_or h x 0 = some (x + 1 + 0) ∧ z_kd h (x + 1 + 0) = 6 ∧ z_ln h (x + 1 + 0) = 5) ∧ (z_or h x 1 = some (x + 1 + 1) ∧ z_kd h (x + 1 + 1) = 1 ∧ z_ln h (x + 1 + 1) = 16) ∧ (z_or h x 2 = some (x + 1 + 2) ∧ z_kd h (x + 1 + 2) = 1 ∧ z_ln h (x + 1 + 2) = 16) ∧ (z_or h x 3 = some (x + 1 + 3) ∧ z_kd h (x + 1 + 3) = 1 ∧ z_ln h (x + 1 + 3) = 16) ∧ (z_or h x 10 = some (x + 1 + 4) ∧ z_kd h (x + 1 + 4) = 1 ∧ z_ln h (x + 1 + 4) = 64) ∧ (z_or h x 11 = some (x + 1 + 5) ∧ z_kd h (x + 1 + 5) = 1 ∧ z_ln h (x + 1 + 5) = 8) ∧ (z_or h x 12 = some (x + 1 + 6) ∧ z_kd h (x + 1 + 6) = 1 ∧ z_ln h (x + 1 + 6) = 72)
def mkA (A : Nat → Nat → Int32) (p : Nat) (X Y Z : Int32) : Nat → Nat → Int32 := z_u (z_u (z_u A 1 (z_u (A 1) p X)) 2 (z_u (A 2) p Y)) 3 (z_u (A 3) p Z)
section HB1
variable {G : z_G} {d x : Nat} {h : z_H} {F : Nat → Int32} {A : Nat → Nat → Int32}
theorem e2_mark (ds : dsh x h) {p : Nat} (hp : p < 16) (X Y Z : Int32) : z_Ev G (d + 1) k_X2_mark [.ref x, .int (nI p), .int X, .int Y, .int Z] (z_hb h x 7 F A) (.inl none, z_hb h x 7 F (mkA A p X Y Z)) := by
  obtain ⟨s0, -, ⟨a1, a2, a3⟩, ⟨b1, b2, b3⟩, ⟨c1, c2, c3⟩, -⟩ := ds
  have vi : ∀ n, n = 16 → vp_in (nI p) n := fun n hn => by rw [hn]; exact vp_in_nI hp (by decide)
  have o1 : ∀ A, z_or (z_hb h x 7 F A) x 1 = some (x + 1 + 1) := fun _ => a1
  have o2 : ∀ A, z_or (z_hb h x 7 F A) x 2 = some (x + 1 + 2) := fun _ => b1
  have o3 : ∀ A, z_or (z_hb h x 7 F A) x 3 = some (x + 1 + 3) := fun _ => c1
  have p1 : ∀ A v, z_pai (z_hb h x 7 F A) (x + 1 + 1) p v = z_hb h x 7 F (z_u A 1 (z_u (A 1) p v)) := fun A v => hb_pai h x 7 F A (j := 1) (by decide) p v
  have p2 : ∀ A v, z_pai (z_hb h x 7 F A) (x + 1 + 2) p v = z_hb h x 7 F (z_u A 2 (z_u (A 2) p v)) := fun A v => hb_pai h x 7 F A (j := 2) (by decide) p v
  have p3 : ∀ A v, z_pai (z_hb h x 7 F A) (x + 1 + 3) p v = z_hb h x 7 F (z_u A 3 (z_u (A 3) p v)) := fun A v => hb_pai h x 7 F A (j := 3) (by decide) p v
  refine en_X2_mark (b_X2_mark_0 (z_pu0V rfl) ?_)
  rw [if_pos (nI_lt hp (by decide)), nI_clamp (show p < 2 ^ 31 by omega), o1, z_rcs, p1, o2, z_rcs, p2, o3, z_rcs, p3]
  refine ⟨s0, a2, vi _ a3, s0, b2, vi _ b3, s0, c2, vi _ c3, ?_⟩
  unfold mkA
  rw [u_ne A _ (show (2 : Nat) ≠ 1 by decide), u_ne (z_u A 1 _) _ (show (3 : Nat) ≠ 2 by decide), u_ne A _ (show (3 : Nat) ≠ 1 by decide)]
end HB1
