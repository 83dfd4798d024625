/-! the class: strays -/
theorem g_slips_eq (S : Sc) (R : Nat → Int32) : g_slips S R = c_slips S R := rfl
def g_told (S : Sc) (p r : Nat) : Nat := if c_of S (2 ^ p ||| 2 ^ r) < S.2.1 then S.2.2 (c_of S (2 ^ p ||| 2 ^ r)) else 0
def g_strays (S : Sc) (R : Nat → Int32) : Nat := it (fun x n => it (fun y n => it (fun z n => n + (!(g_told S x y).testBit z && c_l3 R x y z).toNat) n y) n x) 0 S.1
section EF
variable {G : z_G} {d c q b u v : Nat} {h : z_H} {cd : Cd}
theorem e1_strays (hC : cd_at c q b u v h cd) : z_Ev G (d + 5) k_X1_strays [.ref c] h (.inl (some (.int (nI (g_strays cd.1 (rowC cd))))), h) := by
  have hA := k_S hC
  have hm := y_m12 hA
  have hn := y_n8 hA
  have ht : ∀ x y, g_told cd.1 x y < 256 := fun x y => by
    unfold g_told
    split
    · exact y_256 hA _
    · decide
  refine en_X1_strays (b_X1_strays_0 (z_pu0V rfl) ?_)
  refine z_for (fun l x => [some (.ref c), some (.int (nI x)), some (.int (nI l)), none, none, none, none]) (fun x n => it (fun y n => it (fun z n => n + (!(g_told cd.1 x y).testBit z && c_l3 (rowC cd) x y z).toNat) n y) n x) 0 cd.1.1 ?_ ?_
  · intro x hx hJ
    refine b_X1_strays_4 (z_pu0V rfl) ⟨k_kd hC, ?_⟩
    rw [k_sc hC, z_rcs, y_n hA, if_pos (nI_lt hx (by omega))]
    refine ⟨y_kd hA, ?_⟩
    refine z_for (fun l w => [some (.ref c), some (.int (nI w)), some (.int (nI x)), some (.int (nI l)), none, none, none]) (fun y n => it (fun z n => n + (!(g_told cd.1 x y).testBit z && c_l3 (rowC cd) x y z).toNat) n y) _ x ?_ ?_
    · intro y hy hJ2
      have go : z_J G (d + 5) (m_X1_strays z_pu0) (.inl (some (.int (nI (g_strays cd.1 (rowC cd))))), h) 63 [some (.ref c), some (.int (nI (it (fun y n => it (fun z n => n + (!(g_told cd.1 x y).testBit z && c_l3 (rowC cd) x y z).toNat) n y) (it (fun x n => it (fun y n => it (fun z n => n + (!(g_told cd.1 x y).testBit z && c_l3 (rowC cd) x y z).toNat) n y) n x) 0 x) y))), some (.int (nI x)), some (.int (nI y)), none, some (.int (nI (g_told cd.1 x y))), some (.int (nI 0))] [] h := by
        refine z_for (fun l w => [some (.ref c), some (.int (nI w)), some (.int (nI x)), some (.int (nI y)), none, some (.int (nI (g_told cd.1 x y))), some (.int (nI l))]) (fun z n => n + (!(g_told cd.1 x y).testBit z && c_l3 (rowC cd) x y z).toNat) _ y ?_ ?_
        · intro z hz hJ3
          have h256 := ht x y
          refine b_X1_strays_63 (z_pu0V rfl) ?_
          rw [if_pos (nI_lt hz (by omega)), nI_add]
          cases c1 : (g_told cd.1 x y).testBit z
          · rw [if_pos (show (nI (g_told cd.1 x y) >>> (nI z &&& nI 31)) &&& nI 1 = nI 0 by simp (disch := omega) only [l0, l1, l2, l3, l4, l5, l6, l7, l8, l9, l10, l11, l12, l13, l14, l15, l16, l18, l20, l22, l24, l30, l31, l39, l40, l48, l60, l154, l255, l256, l400, l2000, l6160, l14000, lm1, q_lt, q_le, q_eq, q_mI, q_mI', q_ltmI, q_in, q_bz0, q_bz1, q_bzn0, q_bzn1, q_bzb, q_bn0, q_bn1, q_shr, q_shl, q_1s, b_one, b_two, fa_and, fa_or, nI_add, n_mul, nI_clamp, z_rcs, true_and, and_true, if_true, if_false, c1])]
            refine ⟨k_kd hC, _, _, e1_inLine hC (by omega) (by omega) (by omega), ?_⟩
            cases c2 : c_l3 (rowC cd) x y z
            · rw [c1, c2] at hJ3
              rw [if_pos (by rfl)]; exact hJ3
            · rw [c1, c2] at hJ3
              rw [if_neg (by decide), nI_add]; exact hJ3
          · rw [c1] at hJ3
            rw [if_neg (show ¬ (nI (g_told cd.1 x y) >>> (nI z &&& nI 31)) &&& nI 1 = nI 0 by simp (disch := omega) only [l0, l1, l2, l3, l4, l5, l6, l7, l8, l9, l10, l11, l12, l13, l14, l15, l16, l18, l20, l22, l24, l30, l31, l39, l40, l48, l60, l154, l255, l256, l400, l2000, l6160, l14000, lm1, q_lt, q_le, q_eq, q_mI, q_mI', q_ltmI, q_in, q_bz0, q_bz1, q_bzn0, q_bzn1, q_bzb, q_bn0, q_bn1, q_shr, q_shl, q_1s, b_one, b_two, fa_and, fa_or, nI_add, n_mul, nI_clamp, z_rcs, true_and, and_true, if_true, if_false, c1]; decide)]
            exact hJ3
        · refine b_X1_strays_63 (z_pu0V rfl) ?_
          rw [if_neg (nI_nlt (Nat.le_refl _) (by omega)), nI_add]
          exact hJ2
      refine b_X1_strays_17 (z_pu0V rfl) ?_
      have hj := hA.2.2.2.2.2.2 x y (by omega) (by omega)
      rw [if_neg (by omega), Nat.mul_comm] at hj
      rw [if_pos (nI_lt hy (by omega)), k_sc hC, z_rcs, (y_join hA).1, z_rcs, n_mul, nI_add, nI_clamp (show x * 8 + y < 2 ^ 31 by omega), hj, z_rcs, (y_row hA).1, z_rcs]
      refine ⟨k_kd hC, y_kd hA, (y_join hA).2.1, by rw [(y_join hA).2.2]; exact vp_in_nI (by omega) (by decide), ?_⟩
      unfold g_told at go
      unfold c_ofI
      by_cases e : c_of cd.1 (2 ^ x ||| 2 ^ y) < cd.1.2.1
      · rw [if_pos e] at go
        rw [if_pos e, if_neg (fun t => by rw [q_mI (by omega)] at t; exact t), nI_clamp (by omega), y_Ln hA e]
        exact ⟨k_kd hC, y_kd hA, (y_row hA).2.1, by rw [(y_row hA).2.2]; exact vp_in_nI e (by omega), go⟩
      · rw [if_neg e] at go
        rw [if_neg e, if_pos (show (-1 : Int32) = mI from rfl)]
        exact go
    · refine b_X1_strays_17 (z_pu0V rfl) ?_
      rw [if_neg (nI_nlt (Nat.le_refl _) (by omega)), nI_add]
      exact hJ
  · refine b_X1_strays_4 (z_pu0V rfl) ⟨k_kd hC, ?_⟩
    rw [k_sc hC, z_rcs, y_n hA, if_neg (nI_nlt (Nat.le_refl _) (by omega))]
    exact ⟨y_kd hA, rfl⟩
end EF
