theorem en_X12_movesTo {pu : Nat → Option ((List Value → z_H → Prop) × (List Value → z_H → Int32))} {G : z_G} {d : Nat} {r : z_Res} {h : z_H} {x0 : Nat} {x1 : Int32} {x2 : Int32} {x3 : Int32} (hJ : z_J G d (m_X12_movesTo pu) r 0 [some (.ref x0), some (.int x1), some (.int x2), some (.int x3), none] [] h) : z_Ev G d k_X12_movesTo [.ref x0, .int x1, .int x2, .int x3] h r := z_enter (μ := m_X12_movesTo pu) rfl (by decide) rfl rfl (fun q => by cases q) (Nat.le_of_ble_eq_true rfl) hJ
def hd_X12_movesTo : Nat → Option (List Bool) := (fun k => none)
set_option maxRecDepth 20000 in
theorem b_X12_movesTo_0 {G : z_G} {d : Nat} {r : z_Res} (hPu : z_PuV G d (t_X12 z_puC)) {h : z_H} {x0 : Nat} {x1 : Int32} {x2 : Int32} {x3 : Int32} (hT : (z_kd h x0 = 28 ∧ s_X12_hasLine x0 (x1 ||| ((1 : Int32) <<< (x3 &&& 31))) h ∧ (if (f_X12_hasLine x0 (x1 ||| ((1 : Int32) <<< (x3 &&& 31))) h) = 0 then (z_kd h x0 = 28 ∧ (z_rc (z_or h x0 44) False (fun x_1 => (z_kd h x_1 = 1 ∧ vp_in (((256 : Int32) * x2) + (x1 ||| ((1 : Int32) <<< (x3 &&& 31)))) (z_ln h x_1) ∧ r = (.inl (some (.int (-(z_ai h x_1 (Int32.toNatClampNeg (((256 : Int32) * x2) + (x1 ||| ((1 : Int32) <<< (x3 &&& 31))))))))), h))))) else (z_kd h x0 = 28 ∧ s_X12_hasLine x0 x1 h ∧ (if (f_X12_hasLine x0 x1 h) = 0 then r = (.inl (some (.int (1 : Int32))), h) else (z_kd h x0 = 28 ∧ (z_rc (z_or h x0 44) False (fun x_2 => (z_kd h x_2 = 1 ∧ vp_in (((256 : Int32) * x2) + (x1 ||| ((1 : Int32) <<< (x3 &&& 31)))) (z_ln h x_2) ∧ r = (.inl (some (.int (-(z_ai h x_2 (Int32.toNatClampNeg (((256 : Int32) * x2) + (x1 ||| ((1 : Int32) <<< (x3 &&& 31))))))))), h)))))))))) : (z_J G (d + 1) (m_X12_movesTo z_puC) r) 0 [some (.ref x0), some (.int x1), some (.int x2), some (.int x3), none] [] h := z_bq (v_X12 z_puC (vP_X12_movesTo z_puC) hPu) hd_X12_movesTo 26 hT
theorem en_X12_canAdd {pu : Nat → Option ((List Value → z_H → Prop) × (List Value → z_H → Int32))} {G : z_G} {d : Nat} {r : z_Res} {h : z_H} {x0 : Nat} {x1 : Int32} (hJ : z_J G d (m_X12_canAdd pu) r 0 [some (.ref x0), some (.int x1)] [] h) : z_Ev G d k_X12_canAdd [.ref x0, .int x1] h r := z_enter (μ := m_X12_canAdd pu) rfl (by decide) rfl rfl (fun q => by cases q) (Nat.le_of_ble_eq_true rfl) hJ
def hd_X12_canAdd : Nat → Option (List Bool) := (fun k => none)
set_option maxRecDepth 20000 in
theorem b_X12_canAdd_0 {G : z_G} {d : Nat} {r : z_Res} (hPu : z_PuV G d (t_X12 z_puC)) {h : z_H} {x0 : Nat} {x1 : Int32} (hT : (z_kd h x0 = 28 ∧ s_X12_points x0 h ∧ (s_X12_isIn x1 (0 : Int32) (((1 : Int32) <<< ((f_X12_points x0 h) &&& 31)) - (1 : Int32)) h ∧ (if (f_X12_isIn x1 (0 : Int32) (((1 : Int32) <<< ((f_X12_points x0 h) &&& 31)) - (1 : Int32)) h) = 0 then (z_bz (0 : Int32) ∧ r = (.inl (some (.int (0 : Int32))), h)) else (s_X12_bits x1 h ∧ (s_X12_isIn (f_X12_bits x1 h) (2 : Int32) (4 : Int32) h ∧ (if (f_X12_isIn (f_X12_bits x1 h) (2 : Int32) (4 : Int32) h) = 0 then (z_bz (0 : Int32) ∧ r = (.inl (some (.int (0 : Int32))), h)) else (z_kd h x0 = 28 ∧ (z_rc (z_or h x0 1) (False ∧ (if (0 : Int32) = 0 then (z_kd h x0 = 28 ∧ s_X12_lines x0 h ∧ (if (f_X12_lines x0 h) < (12 : Int32) then (z_bz (1 : Int32) ∧ r = (.inl (some (.int (1 : Int32))), h)) else (z_bz (0 : Int32) ∧ r = (.inl (some (.int (0 : Int32))), h)))) else (z_bz (0 : Int32) ∧ r = (.inl (some (.int (0 : Int32))), h)))) (fun x_1 => (s_X12_sharesTwo x_1 x1 h ∧ (if (f_X12_sharesTwo x_1 x1 h) = 0 then (z_kd h x0 = 28 ∧ s_X12_lines x0 h ∧ (if (f_X12_lines x0 h) < (12 : Int32) then (z_bz (1 : Int32) ∧ r = (.inl (some (.int (1 : Int32))), h)) else (z_bz (0 : Int32) ∧ r = (.inl (some (.int (0 : Int32))), h)))) else (z_bz (0 : Int32) ∧ r = (.inl (some (.int (0 : Int32))), h)))))))))))))) : (z_J G (d + 1) (m_X12_canAdd z_puC) r) 0 [some (.ref x0), some (.int x1)] [] h := z_bq (v_X12 z_puC (vP_X12_canAdd z_puC) hPu) hd_X12_canAdd 30 hT
/-! moves of the game; what may be added -/
def c_mv (S : Sc) (V : Nat → Int32) (mine others p : Nat) : Int32 := if c_has S (mine ||| 2 ^ p) && !c_has S mine then 1 else -(V (256 * others + (mine ||| 2 ^ p)))
def c_canAdd (S : Sc) (a : Int32) : Bool := c_in a (2 ^ S.1) && (decide (2 ≤ n_pc a.toNatClampNeg ∧ n_pc a.toNatClampNeg ≤ 4) && (!c_two S a.toNatClampNeg && decide (S.2.1 < 12)))
section CL
variable {G : z_G} {d : Nat} {h : z_H} {M : Nat} {S : Sc}
theorem e_movesTo (hA : z_at M h S) {a b p : Nat} (ha : a < 256) (hb : b < 256) (hp : p < 8) : z_Ev G (d + 4) k_X12_movesTo [.ref M, .int (nI a), .int (nI b), .int (nI p)] h (.inl (some (.int (c_mv S (z_ai h (M + 21)) a b p))), h) := by
  have ho := or_lt256 ha (t_pow hp)
  have e2 : (256 : Int32) * nI b + nI (a ||| 2 ^ p) = nI (256 * b + (a ||| 2 ^ p)) := by
    rw [show (256 : Int32) * nI b = nI (256 * b) from n_mul 256 b, nI_add]
  have v2 : vp_in (nI (256 * b + (a ||| 2 ^ p))) (z_ln h (M + 21)) := by rw [(sh_comesTo hA.1).2.2]; exact vp_in_nI (by omega) (by omega)
  refine en_X12_movesTo (b_X12_movesTo_0 z_puCV ?_)
  rw [n_one (by omega), fa_or, t_has hA ho, t_has hA ha, e2, (sh_comesTo hA.1).1, z_rcs, nI_clamp (by omega)]
  refine ⟨t_kd hA, t_shas hA ho, ?_⟩
  unfold c_mv
  cases h1 : c_has S (a ||| 2 ^ p)
  · rw [if_pos (by decide), if_neg (by simp)]
    exact ⟨t_kd hA, (sh_comesTo hA.1).2.1, v2, rfl⟩
  · rw [if_neg (by decide)]
    refine ⟨t_kd hA, t_shas hA ha, ?_⟩
    cases h2 : c_has S a
    · rw [if_pos (by decide), if_pos (by decide)]
    · rw [if_neg (by decide), if_neg (by decide)]
      exact ⟨t_kd hA, (sh_comesTo hA.1).2.1, v2, rfl⟩
end CL
