theorem en_X12_fail {pu : Nat → Option ((List Value → z_H → Prop) × (List Value → z_H → Int32))} {G : z_G} {d : Nat} {r : z_Res} {h : z_H} {x0 : Nat} {x1 : Int32} (hJ : z_J G d (m_X12_fail pu) r 0 [some (.ref x0), some (.int x1)] [] h) : z_Ev G d k_X12_fail [.ref x0, .int x1] h r := z_enter (μ := m_X12_fail pu) rfl (by decide) rfl rfl (fun q => by cases q) (Nat.le_of_ble_eq_true rfl) hJ
def hd_X12_fail : Nat → Option (List Bool) := (fun k => none)
set_option maxRecDepth 20000 in
theorem b_X12_fail_0 {G : z_G} {d : Nat} {r : z_Res} (hPu : z_PuV G d (t_X12 z_puC)) {h : z_H} {x0 : Nat} {x1 : Int32} (hT : (z_kd h x0 = 28 ∧ r = (.inl (some (.int (0 : Int32))), z_poi h x0 0 x1))) : (z_J G (d + 1) (m_X12_fail z_puC) r) 0 [some (.ref x0), some (.int x1)] [] h := z_bq (v_X12 z_puC (vP_X12_fail z_puC) hPu) hd_X12_fail 7 hT
theorem en_X12_thrown {pu : Nat → Option ((List Value → z_H → Prop) × (List Value → z_H → Int32))} {G : z_G} {d : Nat} {r : z_Res} {h : z_H} {x0 : Nat} (hJ : z_J G d (m_X12_thrown pu) r 0 [some (.ref x0)] [] h) : z_Ev G d k_X12_thrown [.ref x0] h r := z_enter (μ := m_X12_thrown pu) rfl (by decide) rfl rfl (fun q => by cases q) (Nat.le_of_ble_eq_true rfl) hJ
def hd_X12_thrown : Nat → Option (List Bool) := (fun k => none)
set_option maxRecDepth 20000 in
theorem b_X12_thrown_0 {G : z_G} {d : Nat} {r : z_Res} (hPu : z_PuV G d (t_X12 z_puC)) {h : z_H} {x0 : Nat} (hT : (z_kd h x0 = 28 ∧ r = (.inl (some (.int (z_oi h x0 0))), h))) : (z_J G (d + 1) (m_X12_thrown z_puC) r) 0 [some (.ref x0)] [] h := z_bq (v_X12 z_puC (vP_X12_thrown z_puC) hPu) hd_X12_thrown 5 hT
theorem en_X12_fault {pu : Nat → Option ((List Value → z_H → Prop) × (List Value → z_H → Int32))} {G : z_G} {d : Nat} {r : z_Res} {h : z_H} {x0 : Nat} (hJ : z_J G d (m_X12_fault pu) r 0 [some (.ref x0)] [] h) : z_Ev G d k_X12_fault [.ref x0] h r := z_enter (μ := m_X12_fault pu) rfl (by decide) rfl rfl (fun q => by cases q) (Nat.le_of_ble_eq_true rfl) hJ
def hd_X12_fault : Nat → Option (List Bool) := (fun k => none)
set_option maxRecDepth 20000 in
theorem b_X12_fault_0 {G : z_G} {d : Nat} {r : z_Res} (hPu : z_PuV G d (t_X12 z_puC)) {h : z_H} {x0 : Nat} (hT : (z_kd h x0 = 28 ∧ (z_kd (z_poi h x0 0 (0 : Int32)) x0 = 28 ∧ r = (.inl (some (.int (z_oi (z_poi h x0 0 (0 : Int32)) x0 14))), z_poi h x0 0 (0 : Int32))))) : (z_J G (d + 1) (m_X12_fault z_puC) r) 0 [some (.ref x0)] [] h := z_bq (v_X12 z_puC (vP_X12_fault z_puC) hPu) hd_X12_fault 8 hT
theorem en_X12_line {pu : Nat → Option ((List Value → z_H → Prop) × (List Value → z_H → Int32))} {G : z_G} {d : Nat} {r : z_Res} {h : z_H} {x0 : Nat} {x1 : Int32} (hJ : z_J G d (m_X12_line pu) r 0 [some (.ref x0), some (.int x1)] [] h) : z_Ev G d k_X12_line [.ref x0, .int x1] h r := z_enter (μ := m_X12_line pu) rfl (by decide) rfl rfl (fun q => by cases q) (Nat.le_of_ble_eq_true rfl) hJ
def hd_X12_line : Nat → Option (List Bool) := (fun k => none)
set_option maxRecDepth 20000 in
theorem b_X12_line_0 {G : z_G} {d : Nat} {r : z_Res} (hPu : z_PuV G d (t_X12 z_puC)) {h : z_H} {x0 : Nat} {x1 : Int32} (hT : (z_kd h x0 = 28 ∧ (z_kd (z_poi h x0 0 (0 : Int32)) x0 = 28 ∧ s_X12_isLine x0 x1 (z_poi h x0 0 (0 : Int32)) ∧ (if (f_X12_isLine x0 x1 (z_poi h x0 0 (0 : Int32))) = 0 then (z_kd (z_poi h x0 0 (0 : Int32)) x0 = 28 ∧ ∃ x_2 h_1, z_Ev G d k_X12_fail [.ref x0, .int (1 : Int32)] (z_poi h x0 0 (0 : Int32)) (.inl (some (.int x_2)), h_1) ∧ r = (.inl (some (.int x_2)), h_1)) else (z_kd (z_poi h x0 0 (0 : Int32)) x0 = 28 ∧ s_X12_lineAt x0 x1 (z_poi h x0 0 (0 : Int32)) ∧ r = (.inl (some (.int (f_X12_lineAt x0 x1 (z_poi h x0 0 (0 : Int32))))), z_poi h x0 0 (0 : Int32))))))) : (z_J G (d + 1) (m_X12_line z_puC) r) 0 [some (.ref x0), some (.int x1)] [] h := z_bq (v_X12 z_puC (vP_X12_line z_puC) hPu) hd_X12_line 14 hT
theorem en_X12_joined {pu : Nat → Option ((List Value → z_H → Prop) × (List Value → z_H → Int32))} {G : z_G} {d : Nat} {r : z_Res} {h : z_H} {x0 : Nat} {x1 : Int32} {x2 : Int32} (hJ : z_J G d (m_X12_joined pu) r 0 [some (.ref x0), some (.int x1), some (.int x2)] [] h) : z_Ev G d k_X12_joined [.ref x0, .int x1, .int x2] h r := z_enter (μ := m_X12_joined pu) rfl (by decide) rfl rfl (fun q => by cases q) (Nat.le_of_ble_eq_true rfl) hJ
def hd_X12_joined : Nat → Option (List Bool) := (fun k => none)
set_option maxRecDepth 20000 in
theorem b_X12_joined_0 {G : z_G} {d : Nat} {r : z_Res} (hPu : z_PuV G d (t_X12 z_puC)) {h : z_H} {x0 : Nat} {x1 : Int32} {x2 : Int32} (hT : (z_kd h x0 = 28 ∧ (z_kd (z_poi h x0 0 (0 : Int32)) x0 = 28 ∧ s_X12_isPoint x0 x1 (z_poi h x0 0 (0 : Int32)) ∧ (if (f_X12_isPoint x0 x1 (z_poi h x0 0 (0 : Int32))) = 0 then (z_kd (z_poi h x0 0 (0 : Int32)) x0 = 28 ∧ ∃ x_2 h_1, z_Ev G d k_X12_fail [.ref x0, .int (1 : Int32)] (z_poi h x0 0 (0 : Int32)) (.inl (some (.int x_2)), h_1) ∧ r = (.inl (some (.int x_2)), h_1)) else (z_kd (z_poi h x0 0 (0 : Int32)) x0 = 28 ∧ s_X12_isPoint x0 x2 (z_poi h x0 0 (0 : Int32)) ∧ (if (f_X12_isPoint x0 x2 (z_poi h x0 0 (0 : Int32))) = 0 then (z_kd (z_poi h x0 0 (0 : Int32)) x0 = 28 ∧ ∃ x_4 h_3, z_Ev G d k_X12_fail [.ref x0, .int (1 : Int32)] (z_poi h x0 0 (0 : Int32)) (.inl (some (.int x_4)), h_3) ∧ r = (.inl (some (.int x_4)), h_3)) else (if x1 = x2 then (z_kd (z_poi h x0 0 (0 : Int32)) x0 = 28 ∧ ∃ x_6 h_5, z_Ev G d k_X12_fail [.ref x0, .int (2 : Int32)] (z_poi h x0 0 (0 : Int32)) (.inl (some (.int x_6)), h_5) ∧ r = (.inl (some (.int x_6)), h_5)) else (z_kd (z_poi h x0 0 (0 : Int32)) x0 = 28 ∧ s_X12_lineOf x0 (((1 : Int32) <<< (x1 &&& 31)) ||| ((1 : Int32) <<< (x2 &&& 31))) (z_poi h x0 0 (0 : Int32)) ∧ r = (.inl (some (.int (f_X12_lineOf x0 (((1 : Int32) <<< (x1 &&& 31)) ||| ((1 : Int32) <<< (x2 &&& 31))) (z_poi h x0 0 (0 : Int32))))), z_poi h x0 0 (0 : Int32)))))))))) : (z_J G (d + 1) (m_X12_joined z_puC) r) 0 [some (.ref x0), some (.int x1), some (.int x2)] [] h := z_bq (v_X12 z_puC (vP_X12_joined z_puC) hPu) hd_X12_joined 26 hT
theorem en_X12_meet {pu : Nat → Option ((List Value → z_H → Prop) × (List Value → z_H → Int32))} {G : z_G} {d : Nat} {r : z_Res} {h : z_H} {x0 : Nat} {x1 : Int32} {x2 : Int32} (hJ : z_J G d (m_X12_meet pu) r 0 [some (.ref x0), some (.int x1), some (.int x2), none] [] h) : z_Ev G d k_X12_meet [.ref x0, .int x1, .int x2] h r := z_enter (μ := m_X12_meet pu) rfl (by decide) rfl rfl (fun q => by cases q) (Nat.le_of_ble_eq_true rfl) hJ
def hd_X12_meet : Nat → Option (List Bool) := (fun k => none)
set_option maxRecDepth 20000 in
theorem b_X12_meet_0 {G : z_G} {d : Nat} {r : z_Res} (hPu : z_PuV G d (t_X12 z_puC)) {h : z_H} {x0 : Nat} {x1 : Int32} {x2 : Int32} (hT : (z_kd h x0 = 28 ∧ (z_kd (z_poi h x0 0 (0 : Int32)) x0 = 28 ∧ s_X12_isLine x0 x1 (z_poi h x0 0 (0 : Int32)) ∧ (if (f_X12_isLine x0 x1 (z_poi h x0 0 (0 : Int32))) = 0 then (z_kd (z_poi h x0 0 (0 : Int32)) x0 = 28 ∧ ∃ x_2 h_1, z_Ev G d k_X12_fail [.ref x0, .int (1 : Int32)] (z_poi h x0 0 (0 : Int32)) (.inl (some (.int x_2)), h_1) ∧ r = (.inl (some (.int x_2)), h_1)) else (z_kd (z_poi h x0 0 (0 : Int32)) x0 = 28 ∧ s_X12_isLine x0 x2 (z_poi h x0 0 (0 : Int32)) ∧ (if (f_X12_isLine x0 x2 (z_poi h x0 0 (0 : Int32))) = 0 then (z_kd (z_poi h x0 0 (0 : Int32)) x0 = 28 ∧ ∃ x_4 h_3, z_Ev G d k_X12_fail [.ref x0, .int (1 : Int32)] (z_poi h x0 0 (0 : Int32)) (.inl (some (.int x_4)), h_3) ∧ r = (.inl (some (.int x_4)), h_3)) else (z_kd (z_poi h x0 0 (0 : Int32)) x0 = 28 ∧ s_X12_lineAt x0 x1 (z_poi h x0 0 (0 : Int32)) ∧ (z_kd (z_poi h x0 0 (0 : Int32)) x0 = 28 ∧ s_X12_lineAt x0 x2 (z_poi h x0 0 (0 : Int32)) ∧ (if x1 = x2 then (z_kd (z_poi h x0 0 (0 : Int32)) x0 = 28 ∧ ∃ x_6 h_5, z_Ev G d k_X12_fail [.ref x0, .int (2 : Int32)] (z_poi h x0 0 (0 : Int32)) (.inl (some (.int x_6)), h_5) ∧ r = (.inl (some (.int x_6)), h_5)) else (if ((f_X12_lineAt x0 x1 (z_poi h x0 0 (0 : Int32))) &&& (f_X12_lineAt x0 x2 (z_poi h x0 0 (0 : Int32)))) = 0 then r = (.inl (some (.int (-1 : Int32))), z_poi h x0 0 (0 : Int32)) else (s_J6_numberOfTrailingZeros_0f7a4 ((f_X12_lineAt x0 x1 (z_poi h x0 0 (0 : Int32))) &&& (f_X12_lineAt x0 x2 (z_poi h x0 0 (0 : Int32)))) (z_poi h x0 0 (0 : Int32)) ∧ r = (.inl (some (.int (f_J6_numberOfTrailingZeros_0f7a4 ((f_X12_lineAt x0 x1 (z_poi h x0 0 (0 : Int32))) &&& (f_X12_lineAt x0 x2 (z_poi h x0 0 (0 : Int32)))) (z_poi h x0 0 (0 : Int32))))), z_poi h x0 0 (0 : Int32))))))))))))) : (z_J G (d + 1) (m_X12_meet z_puC) r) 0 [some (.ref x0), some (.int x1), some (.int x2), none] [] h := z_bq (v_X12 z_puC (vP_X12_meet z_puC) hPu) hd_X12_meet 29 hT
/-! the public ones: an answer and the code that stays -/
def c_in (v : Int32) (n : Nat) : Bool := decide (¬ v < 0 ∧ v.toNatClampNeg < n)
theorem c_in_t {v : Int32} {n : Nat} (h : c_in v n = true) : ∃ a, a < n ∧ a < 2 ^ 31 ∧ v = nI a := by
  obtain ⟨h1, h2⟩ := of_decide_eq_true h
  obtain ⟨j, hj, rfl⟩ := nI_of h1
  rw [nI_clamp hj] at h2
  exact ⟨j, h2, hj, rfl⟩
theorem f_isIn_c (v : Int32) {n : Nat} (hn : n < 2 ^ 31) (h : z_H) : f_X12_isIn v 0 (nI n - 1) h = nI (c_in v n).toNat := by
  unfold f_X12_isIn c_in
  by_cases h1 : v < 0
  · rw [if_pos h1, decide_eq_false (fun q => q.1 h1)]; rfl
  · rw [if_neg h1]
    obtain ⟨j, hj, rfl⟩ := nI_of h1
    rw [nI_clamp hj]
    cases n with
    | zero =>
      have e : nI 0 - 1 < nI j := by
        rw [show nI 0 - 1 = (-1 : Int32) from rfl, fa_lt, nI_toInt hj]
        show (-1 : Int) < _
        omega
      rw [if_pos e, decide_eq_false (fun q => Nat.not_lt_zero _ q.2)]; rfl
    | succ n =>
      rw [nI_pred]
      by_cases h2 : n < j
      · rw [if_pos (nI_lt h2 hj), decide_eq_false (fun q => by omega)]; rfl
      · rw [if_neg (nI_nlt (by omega) (by omega)), decide_eq_true ⟨h1, by omega⟩]; rfl
def c_line (S : Sc) (l : Int32) : Int32 × Int32 := if c_in l S.2.1 then (nI (S.2.2 l.toNatClampNeg), 0) else (0, 1)
def c_ofI (S : Sc) (a : Nat) : Int32 := if c_of S a < S.2.1 then nI (c_of S a) else -1
def c_joined (S : Sc) (a b : Int32) : Int32 × Int32 := if c_in a S.1 && c_in b S.1 then if a = b then (0, 2) else (c_ofI S (2 ^ a.toNatClampNeg ||| 2 ^ b.toNatClampNeg), 0) else (0, 1)
def c_meet (S : Sc) (a b : Int32) : Int32 × Int32 := if c_in a S.2.1 && c_in b S.2.1 then if a = b then (0, 2) else if S.2.2 a.toNatClampNeg &&& S.2.2 b.toNatClampNeg = 0 then (-1, 0) else (nI (n_tz (S.2.2 a.toNatClampNeg &&& S.2.2 b.toNatClampNeg)), 0) else (0, 1)
section CH
variable {G : z_G} {d : Nat} {h : z_H} {M : Nat} {S : Sc}
theorem t_poi (hA : z_at M h S) (s : Nat) (v : Int32) : z_at M (z_poi h M s v) S := hA
theorem h_poi2 (s : Nat) (v w : Int32) : z_poi (z_poi h M s v) M s w = z_poi h M s w := by
  unfold z_poi
  show (_, _, _, z_uu (z_uu (z_oi h) M s v) M s w, _) = _
  unfold z_uu
  rw [z_u_eq, z_u_u, z_u_u]
  rfl
theorem t_isL (hA : z_at M h S) (l : Int32) : f_X12_isLine M l h = nI (c_in l S.2.1).toNat := by
  have hm := t_m12 hA
  unfold f_X12_isLine
  rw [show z_ai h (M + 1) 1 = nI S.2.1 from t_m hA]
  exact f_isIn_c l (by omega) h
theorem t_isP (hA : z_at M h S) (l : Int32) : f_X12_isPoint M l h = nI (c_in l S.1).toNat := by
  have hm := t_n8 hA
  unfold f_X12_isPoint
  rw [show z_ai h (M + 1) 0 = nI S.1 from t_n hA]
  exact f_isIn_c l (by omega) h
theorem e_fail (hk : z_kd h M = 28) (k : Int32) : z_Ev G (d + 4) k_X12_fail [.ref M, .int k] h (.inl (some (.int 0)), z_poi h M 0 k) := en_X12_fail (b_X12_fail_0 z_puCV ⟨hk, rfl⟩)
theorem e_fail0 (hk : z_kd h M = 28) (k : Int32) : z_Ev G (d + 4) k_X12_fail [.ref M, .int k] (z_poi h M 0 0) (.inl (some (.int 0)), z_poi h M 0 k) := by
  have := e_fail (G := G) (d := d) (h := z_poi h M 0 0) (M := M) hk k
  rwa [h_poi2] at this
theorem e_thrown (hk : z_kd h M = 28) : z_Ev G (d + 4) k_X12_thrown [.ref M] h (.inl (some (.int (z_oi h M 0))), h) := en_X12_thrown (b_X12_thrown_0 z_puCV ⟨hk, rfl⟩)
theorem e_fault (hk : z_kd h M = 28) : z_Ev G (d + 4) k_X12_fault [.ref M] h (.inl (some (.int (z_oi (z_poi h M 0 0) M 14))), z_poi h M 0 0) := en_X12_fault (b_X12_fault_0 z_puCV ⟨hk, hk, rfl⟩)
theorem e_line (hA : z_at M h S) (l : Int32) : z_Ev G (d + 5) k_X12_line [.ref M, .int l] h (.inl (some (.int (c_line S l).1)), z_poi h M 0 (c_line S l).2) := by
  have hm := t_m12 hA
  refine en_X12_line (b_X12_line_0 z_puCV ⟨t_kd hA, t_kd hA, hA.1, ?_⟩)
  rw [t_isL (t_poi hA 0 0)]
  unfold c_line
  cases hc : c_in l S.2.1
  · rw [if_pos (by decide), if_neg (by decide)]
    exact ⟨t_kd hA, _, _, e_fail0 (t_kd hA) 1, rfl⟩
  · obtain ⟨a, ha, ha2, rfl⟩ := c_in_t hc
    rw [if_neg (by decide), if_pos rfl, t_Ln (t_poi hA 0 0) ha, nI_clamp ha2]
    exact ⟨t_kd hA, t_sL hA (by omega), rfl⟩
theorem e_joined (hA : z_at M h S) (a b : Int32) : z_Ev G (d + 5) k_X12_joined [.ref M, .int a, .int b] h (.inl (some (.int (c_joined S a b).1)), z_poi h M 0 (c_joined S a b).2) := by
  have hn := t_n8 hA
  refine en_X12_joined (b_X12_joined_0 z_puCV ⟨t_kd hA, t_kd hA, hA.1, ?_⟩)
  rw [t_isP (t_poi hA 0 0), t_isP (t_poi hA 0 0)]
  unfold c_joined
  cases hc : c_in a S.1
  · rw [if_pos (by decide), if_neg (by simp)]
    exact ⟨t_kd hA, _, _, e_fail0 (t_kd hA) 1, rfl⟩
  · rw [if_neg (by decide)]
    refine ⟨t_kd hA, hA.1, ?_⟩
    cases hc2 : c_in b S.1
    · rw [if_pos (by decide), if_neg (by decide)]
      exact ⟨t_kd hA, _, _, e_fail0 (t_kd hA) 1, rfl⟩
    · obtain ⟨i, hi, hi2, rfl⟩ := c_in_t hc
      obtain ⟨j, hj, hj2, rfl⟩ := c_in_t hc2
      rw [if_neg (by decide), if_pos (show (true && true) = true from rfl)]
      by_cases e : nI i = nI j
      · rw [if_pos e, if_pos e]
        exact ⟨t_kd hA, _, _, e_fail0 (t_kd hA) 2, rfl⟩
      · have hl := or_lt256 (t_pow (show i < 8 by omega)) (t_pow (show j < 8 by omega))
        rw [if_neg e, if_neg e, n_one (by omega), n_one (by omega), fa_or, t_of (t_poi hA 0 0) hl, nI_clamp hi2, nI_clamp hj2]
        exact ⟨t_kd hA, t_sof (t_poi hA 0 0) hl, rfl⟩
theorem e_meet (hA : z_at M h S) (a b : Int32) : z_Ev G (d + 5) k_X12_meet [.ref M, .int a, .int b] h (.inl (some (.int (c_meet S a b).1)), z_poi h M 0 (c_meet S a b).2) := by
  have hm := t_m12 hA
  refine en_X12_meet (b_X12_meet_0 z_puCV ⟨t_kd hA, t_kd hA, hA.1, ?_⟩)
  rw [t_isL (t_poi hA 0 0), t_isL (t_poi hA 0 0)]
  unfold c_meet
  cases hc : c_in a S.2.1
  · rw [if_pos (by decide), if_neg (by simp)]
    exact ⟨t_kd hA, _, _, e_fail0 (t_kd hA) 1, rfl⟩
  · rw [if_neg (by decide)]
    refine ⟨t_kd hA, hA.1, ?_⟩
    cases hc2 : c_in b S.2.1
    · rw [if_pos (by decide), if_neg (by decide)]
      exact ⟨t_kd hA, _, _, e_fail0 (t_kd hA) 1, rfl⟩
    · obtain ⟨i, hi, hi2, rfl⟩ := c_in_t hc
      obtain ⟨j, hj, hj2, rfl⟩ := c_in_t hc2
      rw [if_neg (by decide), if_pos (show (true && true) = true from rfl)]
      refine ⟨t_kd hA, t_sL hA (by omega), t_kd hA, t_sL hA (by omega), ?_⟩
      by_cases e : nI i = nI j
      · rw [if_pos e, if_pos e]
        exact ⟨t_kd hA, _, _, e_fail0 (t_kd hA) 2, rfl⟩
      · have hl := and_lt256 (b := S.2.2 j) (t_L256 hA i)
        rw [if_neg e, if_neg e, t_Ln (t_poi hA 0 0) hi, t_Ln (t_poi hA 0 0) hj, fa_and, nI_clamp hi2, nI_clamp hj2]
        by_cases h0 : S.2.2 i &&& S.2.2 j = 0
        · rw [if_pos ((n_eq0 (by omega)).mpr h0), if_pos h0]
        · rw [if_neg (fun q => h0 ((n_eq0 (by omega)).mp q)), if_neg h0, t_tz (by omega)]
          exact ⟨t_stz (by omega), rfl⟩
end CH
