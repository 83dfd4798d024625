/-! Arrays.copyOf -/
theorem nwi_pax (h : z_H) (m : Nat) (g f : Nat → Int32) : z_pax (z_nwi h 1 m g) (z_n h) f = z_nwi h 1 m f := by
  unfold z_pax z_nwi
  show (_, _, _, _, _, z_u (z_u (z_ai h) (z_n h) g) (z_n h) f, _, _) = _
  rw [u_u]
  rfl
section EJ
variable {G : z_G} {d a L m : Nat} {h : z_H}
theorem e_copyOf (h1 : z_kd h a = 1) (h2 : z_ln h a = L) (hL : L < 2 ^ 31) (hm : m ≤ 1000000) (ha : a < z_n h) : ∃ f, (∀ i, i < L → i < m → f i = z_ai h a i) ∧ (∀ i, L ≤ i → i < m → f i = 0) ∧ z_Ev G (d + 3) k_J7_copyOf_59c91 [.ref a, .int (nI m)] h (.inl (some (va_rf (some (z_n h)))), z_nwi h 1 m f) := by
  have kd1 : ∀ f, z_kd (z_nwi h 1 m f) a = 1 := fun f => by
    show z_u (z_kd h) (z_n h) 1 a = 1
    rw [u_ne _ _ (by omega)]; exact h1
  have kd2 : ∀ f, z_kd (z_nwi h 1 m f) (z_n h) = 1 := fun f => by
    show z_u (z_kd h) (z_n h) 1 (z_n h) = 1
    rw [u_eq]
  by_cases c : m = L
  · subst c
    refine ⟨z_ai h a, fun i _ _ => rfl, fun i h3 h4 => by omega, en_J7_copyOf_59c91 (b_J7_copyOf_59c91_0 (z_pu0V rfl) ⟨⟨by rw [h1]; decide, by rw [h1]; decide⟩, ?_⟩)⟩
    rw [h2, if_pos (show nI m = Int32.ofNat m from rfl)]
    exact ⟨h1, kd2 _, rfl⟩
  · refine ⟨va_cpy (z_ai h a) (fun _ => 0) 0 0 (min L m), fun i h3 h4 => ?_, fun i h3 h4 => ?_, en_J7_copyOf_59c91 (b_J7_copyOf_59c91_0 (z_pu0V rfl) ⟨⟨by rw [h1]; decide, by rw [h1]; decide⟩, ?_⟩)⟩
    · unfold va_cpy
      simp only [Nat.zero_le, Nat.zero_add, Nat.sub_zero, true_and]
      rw [if_pos (by omega)]
    · unfold va_cpy
      simp only [Nat.zero_le, Nat.zero_add, Nat.sub_zero, true_and]
      rw [if_neg (by omega)]
    · rw [h2, if_neg (show ¬ nI m = Int32.ofNat L from fun e => c ((nI_eq (by omega) hL).mp e)), nI_clamp (by omega)]
      have ln1 : z_ln (z_nwi h 1 m (fun _ => 0)) a = L := by
        show z_u (z_ln h) (z_n h) m a = L
        rw [u_ne _ _ (by omega)]; exact h2
      have ln2 : z_ln (z_nwi h 1 m (fun _ => 0)) (z_n h) = m := by
        show z_u (z_ln h) (z_n h) m (z_n h) = m
        rw [u_eq]
      have ai1 : z_ai (z_nwi h 1 m (fun _ => 0)) a = z_ai h a := by
        show z_u (z_ai h) (z_n h) (fun _ => 0) a = _
        rw [u_ne _ _ (by omega)]
      have ai2 : z_ai (z_nwi h 1 m (fun _ => 0)) (z_n h) = fun _ => 0 := by
        show z_u (z_ai h) (z_n h) (fun _ => 0) (z_n h) = _
        rw [u_eq]
      refine ⟨nI_nlt (Nat.zero_le _) (by omega), hm, ⟨by rw [kd1]; decide, by rw [kd1]; decide⟩, ?_⟩
      rw [ln1]
      have em : (if nI m < nI L then nI m else nI L) = nI (min L m) := by
        by_cases e : m < L
        · rw [if_pos (nI_lt e hL), Nat.min_eq_right (by omega)]
        · rw [if_neg (fun t => e ((nI_ltI (by omega) hL).mp t)), Nat.min_eq_left (by omega)]
      refine ⟨_, _, e_min, ?_⟩
      rw [show (if nI m < Int32.ofNat L then nI m else Int32.ofNat L) = nI (min L m) from em]
      rw [ln1, ln2, ai1, ai2, nwi_pax, nI_clamp (show min L m < 2 ^ 31 by omega), show Int32.toNatClampNeg (0 : Int32) = 0 from rfl]
      exact ⟨⟨by decide, by decide, nI_nlt (Nat.zero_le _) (by omega), by omega, by omega⟩, Or.inl ⟨kd1 _, kd2 _, rfl⟩⟩
end EJ
