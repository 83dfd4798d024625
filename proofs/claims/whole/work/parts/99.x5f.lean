/-! the matcher: moves -/
section GB
variable {G : z_G} {d mt mn qf bf qt bt af at' : Nat} {ex : Bool} {h : z_H} {F T : Sc} {N : Nat → Nat}
theorem movV_fst {go : Nat → (Nat → Nat) → Bool × (Nat → Nat)} {p : Nat} : ∀ r v m N O, (movV go F T ex p r v m N O).1 ≤ m + r := by
  intro r
  induction r with
  | zero => intro v m N O; exact Nat.le_refl _
  | succ r ih =>
    intro v m N O
    unfold movV
    split
    · have := ih (v + 1) (m + 1) N (g_uni O p v); omega
    · split
      · have := ih (v + 1) m N O; omega
      · split
        · have := ih (v + 1) (m + 1) (go ((2 ^ p - 1) ||| 2 ^ v) (z_u N p v)).2 (g_unN F (go ((2 ^ p - 1) ||| 2 ^ v) (z_u N p v)).2 O); omega
        · have := ih (v + 1) m (go ((2 ^ p - 1) ||| 2 ^ v) (z_u N p v)).2 O; omega
theorem movV_O {k p : Nat} (hk : p + 1 + k = F.1) (n1 : F.1 ≤ 8) (n2 : T.1 ≤ 8) : ∀ r v m N O, v + r ≤ F.1 → v + r ≤ T.1 → (∀ i, i < p → N i < 8) → (∀ i, i < 8 → O i < 8) → ∀ i, i < 8 → (movV (fun u N => g_fin F T ex k (p + 1) u 0 N) F T ex p r v m N O).2.2 i < 8 := by
  intro r
  induction r with
  | zero => intro v m N O _ _ _ hO; exact hO
  | succ r ih =>
    intro v m N O hv hv2 hb hO
    unfold movV
    have hb' : ∀ i, i < p + 1 → z_u N p v i < 8 := fun i hi => by
      by_cases e : i = p
      · rw [e, u_eq]; omega
      · rw [u_ne _ _ e]; exact hb i (by omega)
    have pre := fin_pre (F := F) (T := T) (ex := ex) k (p + 1) ((2 ^ p - 1) ||| 2 ^ v) 0 (z_u N p v)
    have hb2 : ∀ i, i < p + 1 → (g_fin F T ex k (p + 1) ((2 ^ p - 1) ||| 2 ^ v) 0 (z_u N p v)).2 i < 8 := fun i hi => by rw [pre i (by omega)]; exact hb' i (by omega)
    split
    · exact ih _ _ _ _ (by omega) (by omega) hb (uni_lt hO (by omega) (by omega))
    · split
      · exact ih _ _ _ _ (by omega) (by omega) hb hO
      · split
        · rename_i c
          refine ih _ _ _ _ (by omega) (by omega) (fun i hi => hb2 i (by omega)) (unN_lt hO (fun i hi => ?_) n1)
          by_cases e : i < p + 1
          · exact hb2 i e
          · exact Nat.lt_of_lt_of_le (fin_ok k (p + 1) _ 0 _ c i (by omega) (by omega)) n2
        · exact ih _ _ _ _ (by omega) (by omega) (fun i hi => hb2 i (by omega)) hO
end GB
