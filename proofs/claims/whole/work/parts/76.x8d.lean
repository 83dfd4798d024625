theorem en_X8_canTake {pu : Nat → Option ((List Value → z_H → Prop) × (List Value → z_H → Int32))} {G : z_G} {d : Nat} {r : z_Res} {h : z_H} {x0 : Nat} {x1 : Int32} (hJ : z_J G d (m_X8_canTake pu) r 0 [some (.ref x0), some (.int x1), none] [] h) : z_Ev G d k_X8_canTake [.ref x0, .int x1] h r := z_enter (μ := m_X8_canTake pu) rfl (by decide) rfl rfl (fun q => by cases q) (Nat.le_of_ble_eq_true rfl) hJ
def hd_X8_canTake : Nat → Option (List Bool) := (fun k => none)
set_option maxRecDepth 20000 in
theorem b_X8_canTake_0 {G : z_G} {d : Nat} {r : z_Res} (hPu : z_PuV G d (t_X8 z_pu0)) {h : z_H} {x0 : Nat} {x1 : Int32} (hT : (if x1 < (nI 0) then (z_bz (nI 0) ∧ r = (.inl (some (.int (nI 0))), h)) else (z_kd h x0 = 24 ∧ (if (z_ush x1 (z_oi h x0 0)) = (nI 0) then (z_kd h x0 = 24 ∧ (if (z_oi h x0 1) < (nI 12) then (∃ x_2 h_1, z_Ev G d k_J6_bitCount_0f7a4 [.int x1] h (.inl (some (.int x_2)), h_1) ∧ (if x_2 < (nI 2) then (z_bz (nI 0) ∧ r = (.inl (some (.int (nI 0))), h_1)) else (if (nI 4) < x_2 then (z_bz (nI 0) ∧ r = (.inl (some (.int (nI 0))), h_1)) else (z_kd h_1 x0 = 24 ∧ (z_rc (z_or h_1 x0 2) (z_kd h_1 x0 = 24 ∧ (∃ x_5 h_4, z_Ev G d k_X8_keepsApart [.int x1, .null, .int (z_oi h_1 x0 1)] h_1 (.inl (some (.int x_5)), h_4) ∧ (if x_5 = (nI 0) then (z_bz (nI 0) ∧ r = (.inl (some (.int (nI 0))), h_4)) else (z_bz (nI 1) ∧ r = (.inl (some (.int (nI 1))), h_4))))) (fun x_3 => (z_kd h_1 x0 = 24 ∧ (∃ x_7 h_6, z_Ev G d k_X8_keepsApart [.int x1, .ref x_3, .int (z_oi h_1 x0 1)] h_1 (.inl (some (.int x_7)), h_6) ∧ (if x_7 = (nI 0) then (z_bz (nI 0) ∧ r = (.inl (some (.int (nI 0))), h_6)) else (z_bz (nI 1) ∧ r = (.inl (some (.int (nI 1))), h_6))))))))))) else (z_bz (nI 0) ∧ r = (.inl (some (.int (nI 0))), h)))) else (z_bz (nI 0) ∧ r = (.inl (some (.int (nI 0))), h)))))) : (z_J G (d + 1) (m_X8_canTake z_pu0) r) 0 [some (.ref x0), some (.int x1), none] [] h := z_bq (v_X8 z_pu0 (vP_X8_canTake z_pu0) hPu) hd_X8_canTake 32 hT
/-! the class: what may be added -/
theorem q_ush {x n : Nat} (hx : x < 2 ^ 31) (hn : n < 32) : z_ush (nI x) (nI n) = nI (x >>> n) := by
  unfold z_ush
  apply b_ext
  intro i hi
  rw [b_ushr n hn, n_bt, n_bt, Nat.testBit_shiftRight, decide_eq_true hi]
  by_cases c : n + i < 32
  · rw [decide_eq_true c]
  · rw [decide_eq_false c, Nat.testBit_lt_two_pow (Nat.lt_of_lt_of_le hx (Nat.pow_le_pow_right (by decide) (by omega)))]; rfl
theorem it_or (p : Nat → Bool) : ∀ m, it (fun l b => b || p l) false m = c_any p m := by
  intro m
  induction m with
  | zero => rfl
  | succ m ih =>
    rw [it_s, ih]
    apply Bool.eq_iff_iff.mpr
    rw [Bool.or_eq_true, any_iff, any_iff]
    constructor
    · rintro (⟨i, h1, h2⟩ | h1)
      · exact ⟨i, by omega, h2⟩
      · exact ⟨m, by omega, h1⟩
    · rintro ⟨i, h1, h2⟩
      by_cases e : i = m
      · subst e; exact Or.inr h2
      · exact Or.inl ⟨i, by omega, h2⟩
theorem two_any (S : Sc) (x : Nat) : c_two S x = c_any (fun l => decide (1 < n_pc (x &&& S.2.2 l))) S.2.1 := by
  unfold c_two
  rw [it_or]
  exact any_cg (fun l _ => by rw [Nat.and_comm])
section ED
variable {G : z_G} {d q b : Nat} {h : z_H} {S : Sc}
theorem e8_canTake (hA : sc_at q b h S) (a : Int32) : z_Ev G (d + 5) k_X8_canTake [.ref q, .int a] h (.inl (some (.int (nI (c_canAdd S a).toNat))), h) := by
  have hm := y_m12 hA
  have hn := y_n8 hA
  have hp8 := n_p8 hn.2
  refine en_X8_canTake (b_X8_canTake_0 (z_pu0V rfl) ?_)
  unfold c_canAdd
  by_cases a0 : a < nI 0
  · rw [if_pos a0, show c_in a (2 ^ S.1) = false from decide_eq_false (fun e => e.1 a0)]
    exact ⟨Or.inl rfl, rfl⟩
  · rw [if_neg a0]
    obtain ⟨x, hx, rfl⟩ := nI_of a0
    rw [y_n hA, q_ush hx (by omega), nI_clamp hx, y_m hA]
    refine ⟨y_kd hA, ?_⟩
    have hsh : x >>> S.1 < 2 ^ 31 := Nat.lt_of_le_of_lt (by rw [Nat.shiftRight_eq_div_pow]; exact Nat.div_le_self _ _) hx
    by_cases c1 : x < 2 ^ S.1
    · rw [if_pos (show nI (x >>> S.1) = nI 0 by rw [Nat.shiftRight_eq_div_pow, Nat.div_eq_of_lt c1]), show c_in (nI x) (2 ^ S.1) = true from decide_eq_true ⟨a0, by rw [nI_clamp hx]; exact c1⟩]
      refine ⟨y_kd hA, ?_⟩
      have h5 := n_pc12 _ (show x < 4096 by omega)
      by_cases c2 : S.2.1 < 12
      · rw [if_pos (nI_lt c2 (by omega)), decide_eq_true c2]
        refine ⟨_, _, e_bits (by omega), ?_⟩
        by_cases c3 : n_pc x < 2
        · rw [if_pos (nI_lt c3 (by omega)), decide_eq_false (fun e => by omega)]
          exact ⟨Or.inl rfl, rfl⟩
        · rw [if_neg (fun e => c3 ((nI_ltI (by omega) (by omega)).mp e))]
          by_cases c4 : 4 < n_pc x
          · rw [if_pos (nI_lt c4 (by omega)), decide_eq_false (fun e => by omega)]
            exact ⟨Or.inl rfl, rfl⟩
          · rw [if_neg (fun e => c4 ((nI_ltI (by omega) (by omega)).mp e)), decide_eq_true ⟨by omega, by omega⟩, (y_row hA).1, z_rcs, y_m hA, two_any]
            refine ⟨y_kd hA, y_kd hA, _, _, e8_keepsApart (L := S.2.2) (y_row hA).2.1 (by rw [(y_row hA).2.2]; exact Nat.le_refl _) (by rw [(y_row hA).2.2]; omega) (fun l hl => y_Ln hA hl) (by omega), ?_⟩
            cases c5 : c_any (fun l => decide (1 < n_pc (x &&& S.2.2 l))) S.2.1
            · rw [if_neg (by decide)]; exact ⟨Or.inr rfl, rfl⟩
            · rw [if_pos (by rfl)]; exact ⟨Or.inl rfl, rfl⟩
      · rw [if_neg (fun e => c2 ((nI_ltI (by omega) (by omega)).mp e)), decide_eq_false c2]
        simp only [Bool.and_false]
        exact ⟨Or.inl rfl, rfl⟩
    · rw [if_neg (show ¬ nI (x >>> S.1) = nI 0 from fun e => c1 (by
        have e2 := (nI_eq hsh (by decide)).mp e
        rw [Nat.shiftRight_eq_div_pow] at e2
        exact (Nat.div_eq_zero_iff_lt (Nat.two_pow_pos _)).mp e2)), show c_in (nI x) (2 ^ S.1) = false from decide_eq_false (fun e => c1 (by have := e.2; rw [nI_clamp hx] at this; exact this))]
      exact ⟨Or.inl rfl, rfl⟩
end ED
