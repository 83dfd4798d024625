/-! a scheme's object made: the flags -/
theorem bk_pax (h : z_H) (b n : Nat) (A : Nat → Nat → Int32) {j : Nat} (hj : j < n) (f : Nat → Int32) : z_pax (z_bk h b n A) (b + j) f = z_bk h b n (z_u A j f) := by
  have e : z_u (z_ai (z_bk h b n A)) (b + j) f = z_ai (z_bk h b n (z_u A j f)) := by
    funext a
    by_cases c : a = b + j
    · subst c
      rw [u_eq, bk_ai h b n _ hj, u_eq]
    · rw [u_ne _ _ c]
      show (if b ≤ a ∧ a < b + n then A (a - b) else z_ai h a) = (if b ≤ a ∧ a < b + n then z_u A j f (a - b) else z_ai h a)
      by_cases c2 : b ≤ a ∧ a < b + n
      · rw [if_pos c2, if_pos c2, u_ne _ _ (by omega)]
      · rw [if_neg c2, if_neg c2]
  show ((z_bk h b n A).1, z_kd h, z_ln h, z_oi h, z_or h, z_u (z_ai (z_bk h b n A)) (b + j) f, z_al h, z_ar h) = _
  rw [e]
  rfl
def fl2 (S : Sc) (i p : Nat) (A : Nat → Nat → Int32) : Nat → Nat → Int32 := if (S.2.2 i).testBit p then flA i p (S.2.2 i) A else A
def flAll (S : Sc) (A : Nat → Nat → Int32) : Nat → Nat → Int32 := it (fun i A => it (fun p A => fl2 S i p A) A S.1) A S.2.1
theorem fl2_5 (S : Sc) (i p : Nat) (A : Nat → Nat → Int32) : fl2 S i p A 5 = A 5 := by
  unfold fl2
  split
  · rfl
  · rfl
section EM
variable {G : z_G} {d q b : Nat} {h : z_H} {S : Sc}
theorem l_init (hs : sc_sh q b S.2.1 h) (hS : c_sok S) {A : Nat → Nat → Int32} (hr : ∀ l, l < S.2.1 → A 5 l = nI (S.2.2 l)) : z_J G (d + 5) (m_X8_init z_pu0) (.inl none, z_bk h b 8 (flAll S A)) 113 [some (.ref q), some (.int (nI S.1)), none, some (.int (nI S.2.1)), some (.int (nI 0)), none] [] (z_bk h b 8 A) := by
  have hm := hS.2.1
  have hn := hS.1
  have h256 := sok_256 hS
  have hs' := hs
  obtain ⟨s0, s5, s6, s7, s9, s2, s3, s4⟩ := hs'
  refine z_forI (fun l (_ : Nat → Nat → Int32) => [some (.ref q), some (.int (nI S.1)), none, some (.int (nI S.2.1)), some (.int (nI l)), none]) (fun _ A => z_bk h b 8 A) (fun _ A => ∀ l, l < S.2.1 → A 5 l = nI (S.2.2 l)) (fun i A => it (fun p A => fl2 S i p A) A S.1) A S.2.1 hr ?_ ?_
  · intro i A1 hi hI
    have inner : ∀ k, ∀ l, l < S.2.1 → it (fun p A => fl2 S i p A) A1 k 5 l = nI (S.2.2 l) := by
      intro k
      induction k with
      | zero => exact hI
      | succ k ih =>
        intro l hl
        rw [it_s, fl2_5]
        exact ih l hl
    refine ⟨inner S.1, fun hJ => b_X8_init_113 (z_pu0V rfl) ?_⟩
    rw [if_pos (nI_lt hi (by omega))]
    refine z_forH (fun l (_ : Nat → Nat → Int32) => [some (.ref q), some (.int (nI S.1)), none, some (.int (nI S.2.1)), some (.int (nI i)), some (.int (nI l))]) (fun _ A => z_bk h b 8 A) (fun p A => fl2 S i p A) A1 S.1 ?_ ?_
    · intro p hp hJ2
      have hrow := inner p i hi
      obtain ⟨A2, eA⟩ : ∃ A2, A2 = it (fun p A => fl2 S i p A) A1 p := ⟨_, rfl⟩
      rw [← eA] at hJ2 hrow ⊢
      have hx := h256 i
      refine b_X8_init_122 (z_pu0V rfl) ?_
      rw [if_pos (nI_lt hp (by omega)), show z_or (z_bk h b 8 A2) q 2 = some (b + 5) from s2.1, z_rcs, nI_clamp (by omega), bk_ai h b 8 _ (show 5 < 8 by decide), hrow, nI_add]
      refine ⟨s0, s2.2.1, by show vp_in (nI i) (z_ln h (b + 5)); rw [s2.2.2]; exact vp_in_nI hi (by omega), ?_⟩
      unfold fl2 at hJ2
      cases c : (S.2.2 i).testBit p
      · rw [c, if_neg (by decide)] at hJ2
        rw [if_pos (show (nI (S.2.2 i) >>> (nI p &&& nI 31)) &&& nI 1 = nI 0 by simp (disch := omega) only [l0, l1, l2, l3, l4, l5, l6, l7, l8, l9, l10, l11, l12, l13, l14, l15, l16, l18, l20, l22, l24, l30, l31, l39, l40, l48, l60, l154, l255, l256, l400, l2000, l6160, l14000, lm1, q_lt, q_le, q_eq, q_mI, q_mI', q_ltmI, q_in, q_bz0, q_bz1, q_bzn0, q_bzn1, q_bzb, q_bn0, q_bn1, q_shr, q_shl, q_1s, b_one, b_two, fa_and, fa_or, nI_add, n_mul, nI_clamp, z_rcs, true_and, and_true, if_true, if_false, c])]
        exact hJ2
      · rw [c, if_pos rfl] at hJ2
        rw [if_neg (show ¬ (nI (S.2.2 i) >>> (nI p &&& nI 31)) &&& nI 1 = nI 0 by simp (disch := omega) only [l0, l1, l2, l3, l4, l5, l6, l7, l8, l9, l10, l11, l12, l13, l14, l15, l16, l18, l20, l22, l24, l30, l31, l39, l40, l48, l60, l154, l255, l256, l400, l2000, l6160, l14000, lm1, q_lt, q_le, q_eq, q_mI, q_mI', q_ltmI, q_in, q_bz0, q_bz1, q_bzn0, q_bzn1, q_bzb, q_bn0, q_bn1, q_shr, q_shl, q_1s, b_one, b_two, fa_and, fa_or, nI_add, n_mul, nI_clamp, z_rcs, true_and, and_true, if_true, if_false, c]; decide)]
        exact ⟨s0, _, e8_addFlag hs hi hm (by omega) hx hrow, hJ2⟩
    · refine b_X8_init_122 (z_pu0V rfl) ?_
      rw [if_neg (nI_nlt (Nat.le_refl _) (by omega)), nI_add]
      exact hJ
  · intro _
    refine b_X8_init_113 (z_pu0V rfl) ?_
    rw [if_neg (nI_nlt (Nat.le_refl _) (by omega))]
    rfl
end EM
