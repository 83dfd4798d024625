theorem en_X4_listedNumber {pu : Nat → Option ((List Value → z_H → Prop) × (List Value → z_H → Int32))} {G : z_G} {d : Nat} {r : z_Res} {h : z_H} {x0 : Nat} {x1 : Int32} {x2 : Int32} (hJ : z_J G d (m_X4_listedNumber pu) r 0 [some (.ref x0), some (.int x1), some (.int x2), none] [] h) : z_Ev G d k_X4_listedNumber [.ref x0, .int x1, .int x2] h r := z_enter (μ := m_X4_listedNumber pu) rfl (by decide) rfl rfl (fun q => by cases q) (Nat.le_of_ble_eq_true rfl) hJ
def hd_X4_listedNumber : Nat → Option (List Bool) := (fun k => none)
set_option maxRecDepth 20000 in
theorem b_X4_listedNumber_0 {G : z_G} {d : Nat} {r : z_Res} (hPu : z_PuV G d (t_X4 z_pu0)) {h : z_H} {x0 : Nat} {x1 : Int32} {x2 : Int32} (hT : (z_kd h x0 = 20 ∧ (z_rc (z_or h x0 9) False (fun x_1 => ((z_kd h x_1 = 5 ∨ z_kd h x_1 = 6) ∧ vp_in x1 (z_ln h x_1) ∧ (z_rc (z_ar h x_1 (Int32.toNatClampNeg x1)) (r = (.inl (some (.int mI)), h)) (fun x_2 => (if x2 < (nI 0) then r = (.inl (some (.int mI)), h) else ((z_kd h x_2 ≠ 0 ∧ z_kd h x_2 < 7) ∧ (if x2 < (Int32.ofNat (z_ln h x_2)) then (z_kd h x_2 = 1 ∧ vp_in x2 (z_ln h x_2) ∧ r = (.inl (some (.int (z_ai h x_2 (Int32.toNatClampNeg x2)))), h)) else r = (.inl (some (.int mI)), h))))))))))) : (z_J G (d + 1) (m_X4_listedNumber z_pu0) r) 0 [some (.ref x0), some (.int x1), some (.int x2), none] [] h := z_bq (v_X4 z_pu0 (vP_X4_listedNumber z_pu0) hPu) hd_X4_listedNumber 19 hT
theorem en_X4_isWithin {pu : Nat → Option ((List Value → z_H → Prop) × (List Value → z_H → Int32))} {G : z_G} {d : Nat} {r : z_Res} {h : z_H} {x0 : Nat} {x1 : Int32} {x2 : Int32} {x3 : Int32} (hJ : z_J G d (m_X4_isWithin pu) r 0 [some (.ref x0), some (.int x1), some (.int x2), some (.int x3), none] [] h) : z_Ev G d k_X4_isWithin [.ref x0, .int x1, .int x2, .int x3] h r := z_enter (μ := m_X4_isWithin pu) rfl (by decide) rfl rfl (fun q => by cases q) (Nat.le_of_ble_eq_true rfl) hJ
def hd_X4_isWithin : Nat → Option (List Bool) := (fun k => (cond (Nat.blt k 35) (cond (Nat.beq k 3) (some [true, true, true, true, true]) none) none))
set_option maxRecDepth 20000 in
theorem b_X4_isWithin_0 {G : z_G} {d : Nat} {r : z_Res} (hPu : z_PuV G d (t_X4 z_pu0)) {h : z_H} {x0 : Nat} {x1 : Int32} {x2 : Int32} {x3 : Int32} (hT : (z_J G (d + 1) (m_X4_isWithin z_pu0) r) 3 [some (.ref x0), some (.int x1), some (.int x2), some (.int x3), some (.int (nI 0))] [] h) : (z_J G (d + 1) (m_X4_isWithin z_pu0) r) 0 [some (.ref x0), some (.int x1), some (.int x2), some (.int x3), none] [] h := z_bq (v_X4 z_pu0 (vP_X4_isWithin z_pu0) hPu) hd_X4_isWithin 5 hT
set_option maxRecDepth 20000 in
theorem b_X4_isWithin_3 {G : z_G} {d : Nat} {r : z_Res} (hPu : z_PuV G d (t_X4 z_pu0)) {h : z_H} {x0 : Nat} {x1 : Int32} {x2 : Int32} {x3 : Int32} {x4 : Int32} (hT : (if x4 < x2 then (z_kd h x0 = 20 ∧ ∃ x_2 h_1, z_Ev G d k_X4_listedNumber [.ref x0, .int x2, .int ((x3 * x2) + x4)] h (.inl (some (.int x_2)), h_1) ∧ (if (z_ush x_2 x1) = (nI 0) then (z_J G (d + 1) (m_X4_isWithin z_pu0) r) 3 [some (.ref x0), some (.int x1), some (.int x2), some (.int x3), some (.int (x4 + (nI 1)))] [] h_1 else (z_bz (nI 0) ∧ r = (.inl (some (.int (nI 0))), h_1)))) else (z_bz (nI 1) ∧ r = (.inl (some (.int (nI 1))), h)))) : (z_J G (d + 1) (m_X4_isWithin z_pu0) r) 3 [some (.ref x0), some (.int x1), some (.int x2), some (.int x3), some (.int x4)] [] h := z_bq (v_X4 z_pu0 (vP_X4_isWithin z_pu0) hPu) hd_X4_isWithin 19 hT
theorem en_X4_listed {pu : Nat → Option ((List Value → z_H → Prop) × (List Value → z_H → Int32))} {G : z_G} {d : Nat} {r : z_Res} {h : z_H} {x0 : Nat} {x1 : Int32} {x2 : Int32} (hJ : z_J G d (m_X4_listed pu) r 0 [some (.ref x0), some (.int x1), some (.int x2), none, none] [] h) : z_Ev G d k_X4_listed [.ref x0, .int x1, .int x2] h r := z_enter (μ := m_X4_listed pu) rfl (by decide) rfl rfl (fun q => by cases q) (Nat.le_of_ble_eq_true rfl) hJ
def hd_X4_listed : Nat → Option (List Bool) := (fun k => (cond (Nat.blt k 38) (cond (Nat.beq k 5) (some [true, true, true, true, true]) none) none))
set_option maxRecDepth 20000 in
theorem b_X4_listed_0 {G : z_G} {d : Nat} {r : z_Res} (hPu : z_PuV G d (t_X4 z_pu0)) {h : z_H} {x0 : Nat} {x1 : Int32} {x2 : Int32} (hT : (z_J G (d + 1) (m_X4_listed z_pu0) r) 5 [some (.ref x0), some (.int x1), some (.int x2), some (.int (nI 0)), some (.int (nI 0))] [] h) : (z_J G (d + 1) (m_X4_listed z_pu0) r) 0 [some (.ref x0), some (.int x1), some (.int x2), none, none] [] h := z_bq (v_X4 z_pu0 (vP_X4_listed z_pu0) hPu) hd_X4_listed 7 hT
set_option maxRecDepth 20000 in
theorem b_X4_listed_5 {G : z_G} {d : Nat} {r : z_Res} (hPu : z_PuV G d (t_X4 z_pu0)) {h : z_H} {x0 : Nat} {x1 : Int32} {x2 : Int32} {x3 : Int32} {x4 : Int32} (hT : (z_kd h x0 = 20 ∧ (z_rc (z_or h x0 10) False (fun x_1 => (z_kd h x_1 = 1 ∧ vp_in x2 (z_ln h x_1) ∧ (if x4 < (z_ai h x_1 (Int32.toNatClampNeg x2)) then (z_kd h x0 = 20 ∧ ∃ x_3 h_2, z_Ev G d k_X4_isWithin [.ref x0, .int x1, .int x2, .int x4] h (.inl (some (.int x_3)), h_2) ∧ (if x_3 = (nI 0) then (z_J G (d + 1) (m_X4_listed z_pu0) r) 5 [some (.ref x0), some (.int x1), some (.int x2), some (.int x3), some (.int (x4 + (nI 1)))] [] h_2 else (z_J G (d + 1) (m_X4_listed z_pu0) r) 5 [some (.ref x0), some (.int x1), some (.int x2), some (.int (x3 + (nI 1))), some (.int (x4 + (nI 1)))] [] h_2)) else r = (.inl (some (.int x3)), h))))))) : (z_J G (d + 1) (m_X4_listed z_pu0) r) 5 [some (.ref x0), some (.int x1), some (.int x2), some (.int x3), some (.int x4)] [] h := z_bq (v_X4 z_pu0 (vP_X4_listed z_pu0) hPu) hd_X4_listed 18 hT
theorem en_X4_startOf {pu : Nat → Option ((List Value → z_H → Prop) × (List Value → z_H → Int32))} {G : z_G} {d : Nat} {r : z_Res} {h : z_H} {x0 : Nat} {x1 : Int32} {x2 : Int32} {x3 : Int32} (hJ : z_J G d (m_X4_startOf pu) r 0 [some (.ref x0), some (.int x1), some (.int x2), some (.int x3), none, none] [] h) : z_Ev G d k_X4_startOf [.ref x0, .int x1, .int x2, .int x3] h r := z_enter (μ := m_X4_startOf pu) rfl (by decide) rfl rfl (fun q => by cases q) (Nat.le_of_ble_eq_true rfl) hJ
def hd_X4_startOf : Nat → Option (List Bool) := (fun k => (cond (Nat.blt k 50) (cond (Nat.beq k 6) (some [true, true, true, true, true, true]) none) none))
set_option maxRecDepth 20000 in
theorem b_X4_startOf_0 {G : z_G} {d : Nat} {r : z_Res} (hPu : z_PuV G d (t_X4 z_pu0)) {h : z_H} {x0 : Nat} {x1 : Int32} {x2 : Int32} {x3 : Int32} (hT : (z_J G (d + 1) (m_X4_startOf z_pu0) r) 6 [some (.ref x0), some (.int x1), some (.int x2), some (.int x3), some (.int (nI 0)), some (.int (nI 0))] [] h) : (z_J G (d + 1) (m_X4_startOf z_pu0) r) 0 [some (.ref x0), some (.int x1), some (.int x2), some (.int x3), none, none] [] h := z_bq (v_X4 z_pu0 (vP_X4_startOf z_pu0) hPu) hd_X4_startOf 7 hT
set_option maxRecDepth 20000 in
theorem b_X4_startOf_6 {G : z_G} {d : Nat} {r : z_Res} (hPu : z_PuV G d (t_X4 z_pu0)) {h : z_H} {x0 : Nat} {x1 : Int32} {x2 : Int32} {x3 : Int32} {x4 : Int32} {x5 : Int32} (hT : (z_kd h x0 = 20 ∧ (z_rc (z_or h x0 10) False (fun x_1 => (z_kd h x_1 = 1 ∧ vp_in x2 (z_ln h x_1) ∧ (if x5 < (z_ai h x_1 (Int32.toNatClampNeg x2)) then (z_kd h x0 = 20 ∧ ∃ x_3 h_2, z_Ev G d k_X4_isWithin [.ref x0, .int x1, .int x2, .int x5] h (.inl (some (.int x_3)), h_2) ∧ (if x_3 = (nI 0) then (z_J G (d + 1) (m_X4_startOf z_pu0) r) 6 [some (.ref x0), some (.int x1), some (.int x2), some (.int x3), some (.int x4), some (.int (x5 + (nI 1)))] [] h_2 else (if x4 = x3 then r = (.inl (some (.int (x5 * x2))), h_2) else (z_J G (d + 1) (m_X4_startOf z_pu0) r) 6 [some (.ref x0), some (.int x1), some (.int x2), some (.int x3), some (.int (x4 + (nI 1))), some (.int (x5 + (nI 1)))] [] h_2))) else r = (.inl (some (.int mI)), h))))))) : (z_J G (d + 1) (m_X4_startOf z_pu0) r) 6 [some (.ref x0), some (.int x1), some (.int x2), some (.int x3), some (.int x4), some (.int x5)] [] h := z_bq (v_X4 z_pu0 (vP_X4_startOf z_pu0) hPu) hd_X4_startOf 21 hT
/-! THE LISTS: read -/
/-- the lists found so far: N m rows of m numbers each, laid out in W m -/
def lst (N : Nat → Nat) (W : Nat → Nat → Nat) (L r : Nat) (h : z_H) : Prop := r ≤ 8 ∧ z_oi h (L + 25) 11 + nI 1 = nI r ∧ ∀ m, m < r → z_ai h (L + 25 + 7) m = nI (N m) ∧ ∃ a, z_ar h (L + 25 + 6) m = some a ∧ fr L h a ∧ z_kd h a = 1 ∧ z_ln h a = m * N m ∧ ∀ i, i < m * N m → z_ai h a i = nI (W m i)
/-- the lists are small -/
def vN (N : Nat → Nat) (W : Nat → Nat → Nat) : Prop := ∀ m, m < 8 → N m ≤ 64 ∧ ∀ i, i < m * N m → W m i < 128
def g_wit (W : Nat → Nat → Nat) (n m k : Nat) : Bool := !c_any (fun j => !decide (W m (k * m + j) >>> n = 0)) m
def g_lid (N : Nat → Nat) (W : Nat → Nat → Nat) (n m : Nat) : Nat := it (fun k s => s + (g_wit W n m k).toNat) 0 (N m)
def g_sta (W : Nat → Nat → Nat) (n m : Nat) (i : Int32) : Nat → Nat → Nat → Int32
  | 0, _, _ => mI
  | r + 1, k, s => if g_wit W n m k then (if nI s = i then nI (k * m) else g_sta W n m i r (k + 1) (s + 1)) else g_sta W n m i r (k + 1) s
section HV
variable {V : CV} {G : z_G} {d L r c s : Nat} {h h' : z_H} {N : Nat → Nat} {W : Nat → Nat → Nat} {X : Nat → Prop}
theorem lst_km (hI : inv V L h) (hX : ∀ a, X a → hl L a) (e : ex X c s h h') (hk : lkm L h h') (hl : lst N W L r h) : lst N W L r h' := by
  obtain ⟨l1, l2, l3⟩ := hl
  refine ⟨l1, by rw [hk.2.2]; exact l2, fun m hm => ?_⟩
  obtain ⟨a1, a, a2, a3, a4, a5, a6⟩ := l3 m hm
  obtain ⟨f1, f2, f3, -, -, f4, -⟩ := ex_fr hI hX e a3
  exact ⟨by rw [hk.2.1]; exact a1, a, by rw [hk.1]; exact a2, f1, by rw [f2]; exact a4, by rw [f3]; exact a5, fun i hi => by rw [f4]; exact a6 i hi⟩
theorem lst_b (hN : vN N W) {m k j : Nat} (hm : m < 8) (hk : k < N m) (hj : j < m) : k * m + j < m * N m ∧ m * N m ≤ 448 := by
  obtain ⟨n1, -⟩ := hN m hm
  constructor
  · calc k * m + j < k * m + m := by omega
      _ = (k + 1) * m := by rw [Nat.succ_mul]
      _ ≤ N m * m := Nat.mul_le_mul_right _ hk
      _ = m * N m := Nat.mul_comm _ _
  · calc m * N m ≤ 7 * 64 := Nat.mul_le_mul (by omega) n1
      _ = 448 := rfl
theorem e4_listedNumber (ls : lsh (L + 25) h) (hl : lst N W L r h) {m t : Nat} (hm : m < r) (ht : t < m * N m) (hs : m * N m ≤ 448) : z_Ev G (d + 1) k_X4_listedNumber [.ref (L + 25), .int (nI m), .int (nI t)] h (.inl (some (.int (nI (W m t)))), h) := by
  obtain ⟨l1, -, l3⟩ := hl
  obtain ⟨-, a, a2, -, a4, a5, a6⟩ := l3 m hm
  refine en_X4_listedNumber (b_X4_listedNumber_0 (z_pu0V rfl) ⟨ls.1, ?_⟩)
  rw [ls.2.2.2.2.2.2.1.1, z_rcs, nI_clamp (show m < 2 ^ 31 by omega), a2, z_rcs, if_neg (nI_nlt (Nat.zero_le _) (show t < 2 ^ 31 by omega)), if_pos (show nI t < Int32.ofNat (z_ln h a) from nI_lt (by omega) (by omega)), nI_clamp (show t < 2 ^ 31 by omega), a6 t ht]
  refine ⟨Or.inr ls.2.2.2.2.2.2.1.2.1, ?_, ⟨by omega, by omega⟩, a4, ?_, rfl⟩
  · rw [ls.2.2.2.2.2.2.1.2.2]; exact vp_in_nI (by omega) (by decide)
  · rw [a5]; exact vp_in_nI ht (by omega)
theorem e4_isWithin (ls : lsh (L + 25) h) (hN : vN N W) (hl : lst N W L r h) {n m k : Nat} (hn : n < 32) (hm : m < r) (hk : k < N m) : z_Ev G (d + 2) k_X4_isWithin [.ref (L + 25), .int (nI n), .int (nI m), .int (nI k)] h (.inl (some (.int (nI (g_wit W n m k).toNat))), h) := by
  have hr := hl.1
  have h64 := (hN m (by omega)).1
  refine en_X4_isWithin (b_X4_isWithin_0 (z_pu0V rfl) ?_)
  refine z_fnd (fun j => [some (.ref (L + 25)), some (.int (nI n)), some (.int (nI m)), some (.int (nI k)), some (.int (nI j))]) (fun j => !decide (W m (k * m + j) >>> n = 0)) m ?_ ?_
  · intro j hj hno hJ
    obtain ⟨b1, b2⟩ := lst_b hN (show m < 8 by omega) hk hj
    have wl := (hN m (by omega)).2 _ b1
    have sl : W m (k * m + j) >>> n < 2 ^ 31 := Nat.lt_of_le_of_lt (Nat.shiftRight_le _ _) (by omega)
    refine b_X4_isWithin_3 (z_pu0V rfl) ?_
    rw [if_pos (nI_lt hj (by omega)), n_mul, nI_add, nI_add]
    refine ⟨ls.1, _, _, e4_listedNumber ls hl hm b1 b2, ?_⟩
    rw [q_ush (by omega) hn]
    by_cases c : W m (k * m + j) >>> n = 0
    · rw [c, if_pos rfl]
      exact hJ (by rw [decide_eq_true c]; rfl)
    · rw [if_neg (fun e => c ((nI_eq sl (by decide)).mp e))]
      unfold g_wit
      rw [any_t (p := fun j => !decide (W m (k * m + j) >>> n = 0)) hj (by show (!decide _) = true; rw [decide_eq_false c]; rfl)]
      exact ⟨Or.inl rfl, rfl⟩
  · intro hno
    refine b_X4_isWithin_3 (z_pu0V rfl) ?_
    rw [if_neg (nI_nlt (Nat.le_refl _) (by omega))]
    unfold g_wit
    rw [any_f hno]
    exact ⟨Or.inr rfl, rfl⟩
theorem lid_le (n m : Nat) : ∀ k, it (fun k s => s + (g_wit W n m k).toNat) 0 k ≤ k := by
  intro k
  induction k with
  | zero => exact Nat.le_refl _
  | succ k ih =>
    rw [it_s]
    have : (g_wit W n m k).toNat ≤ 1 := by cases g_wit W n m k <;> decide
    omega
theorem e4_listed (ls : lsh (L + 25) h) (hN : vN N W) (hl : lst N W L r h) {n m : Nat} (hn : n < 32) (hm : m < r) : z_Ev G (d + 3) k_X4_listed [.ref (L + 25), .int (nI n), .int (nI m)] h (.inl (some (.int (nI (g_lid N W n m)))), h) := by
  have hr := hl.1
  have h64 := (hN m (by omega)).1
  have hmn := (hl.2.2 m hm).1
  have kl : vp_in (nI m) (z_ln h (L + 25 + 7)) := by rw [ls.2.2.2.2.2.2.2.2.2]; exact vp_in_nI (by omega) (by decide)
  refine en_X4_listed (b_X4_listed_0 (z_pu0V rfl) ?_)
  refine z_for (fun k s => [some (.ref (L + 25)), some (.int (nI n)), some (.int (nI m)), some (.int (nI s)), some (.int (nI k))]) (fun k s => s + (g_wit W n m k).toNat) 0 (N m) ?_ ?_
  · intro k hk hJ
    refine b_X4_listed_5 (z_pu0V rfl) ⟨ls.1, ?_⟩
    rw [ls.2.2.2.2.2.2.2.1, z_rcs, nI_clamp (show m < 2 ^ 31 by omega), hmn, if_pos (nI_lt hk (by omega)), nI_add, nI_add]
    refine ⟨ls.2.2.2.2.2.2.2.2.1, kl, ls.1, _, _, e4_isWithin ls hN hl hn hm hk, ?_⟩
    cases c : g_wit W n m k
    · rw [c] at hJ
      rw [if_pos (by rfl)]
      exact hJ
    · rw [c] at hJ
      rw [if_neg (by decide)]
      exact hJ
  · refine b_X4_listed_5 (z_pu0V rfl) ⟨ls.1, ?_⟩
    rw [ls.2.2.2.2.2.2.2.1, z_rcs, nI_clamp (show m < 2 ^ 31 by omega), hmn, if_neg (nI_nlt (Nat.le_refl _) (by omega))]
    exact ⟨ls.2.2.2.2.2.2.2.2.1, kl, rfl⟩
theorem e4_startOf (ls : lsh (L + 25) h) (hN : vN N W) (hl : lst N W L r h) {n m : Nat} (hn : n < 32) (hm : m < r) (i : Int32) : z_Ev G (d + 3) k_X4_startOf [.ref (L + 25), .int (nI n), .int (nI m), .int i] h (.inl (some (.int (g_sta W n m i (N m) 0 0))), h) := by
  have hr := hl.1
  have h64 := (hN m (by omega)).1
  have hmn := (hl.2.2 m hm).1
  have kl : vp_in (nI m) (z_ln h (L + 25 + 7)) := by rw [ls.2.2.2.2.2.2.2.2.2]; exact vp_in_nI (by omega) (by decide)
  have loop : ∀ t k s, k + t = N m → z_J G (d + 3) (m_X4_startOf z_pu0) (.inl (some (.int (g_sta W n m i t k s))), h) 6 [some (.ref (L + 25)), some (.int (nI n)), some (.int (nI m)), some (.int i), some (.int (nI s)), some (.int (nI k))] [] h := by
    intro t
    induction t with
    | zero =>
      intro k s hk
      refine b_X4_startOf_6 (z_pu0V rfl) ⟨ls.1, ?_⟩
      rw [ls.2.2.2.2.2.2.2.1, z_rcs, nI_clamp (show m < 2 ^ 31 by omega), hmn, if_neg (nI_nlt (by omega) (by omega))]
      exact ⟨ls.2.2.2.2.2.2.2.2.1, kl, rfl⟩
    | succ t ih =>
      intro k s hk
      refine b_X4_startOf_6 (z_pu0V rfl) ⟨ls.1, ?_⟩
      rw [ls.2.2.2.2.2.2.2.1, z_rcs, nI_clamp (show m < 2 ^ 31 by omega), hmn, if_pos (nI_lt (by omega) (by omega)), nI_add, nI_add, n_mul]
      refine ⟨ls.2.2.2.2.2.2.2.2.1, kl, ls.1, _, _, e4_isWithin ls hN hl hn hm (by omega), ?_⟩
      unfold g_sta
      cases c : g_wit W n m k
      · rw [if_pos (by rfl), if_neg (by decide)]
        exact ih (k + 1) s (by omega)
      · rw [if_neg (by decide), if_pos rfl]
        by_cases c2 : nI s = i
        · rw [if_pos c2, if_pos c2]
        · rw [if_neg c2, if_neg c2]
          exact ih (k + 1) (s + 1) (by omega)
  exact en_X4_startOf (b_X4_startOf_0 (z_pu0V rfl) (loop (N m) 0 0 (by omega)))
end HV
