theorem en_X12_goesRound {pu : Nat → Option ((List Value → z_H → Prop) × (List Value → z_H → Int32))} {G : z_G} {d : Nat} {r : z_Res} {h : z_H} {x0 : Nat} {x1 : Int32} {x2 : Int32} {x3 : Int32} {x4 : Int32} {x5 : Int32} (hJ : z_J G d (m_X12_goesRound pu) r 0 [some (.ref x0), some (.int x1), some (.int x2), some (.int x3), some (.int x4), some (.int x5), none, none, none] [] h) : z_Ev G d k_X12_goesRound [.ref x0, .int x1, .int x2, .int x3, .int x4, .int x5] h r := z_enter (μ := m_X12_goesRound pu) rfl (by decide) rfl rfl (fun q => by cases q) (Nat.le_of_ble_eq_true rfl) hJ
def hd_X12_goesRound : Nat → Option (List Bool) := (fun k => (cond (Nat.blt k 121) (cond (Nat.beq k 3) (some [true, true, true, true, true, true, true, false, false]) none) none))
set_option maxRecDepth 20000 in
theorem b_X12_goesRound_0 {G : z_G} {d : Nat} {r : z_Res} (hPu : z_PuV G d (t_X12 z_puC)) {h : z_H} {x0 : Nat} {x1 : Int32} {x2 : Int32} {x3 : Int32} {x4 : Int32} {x5 : Int32} (hT : (z_J G (d + 1) (m_X12_goesRound z_puC) r) 3 [some (.ref x0), some (.int x1), some (.int x2), some (.int x3), some (.int x4), some (.int x5), some (.int (0 : Int32)), none, none] [] h) : (z_J G (d + 1) (m_X12_goesRound z_puC) r) 0 [some (.ref x0), some (.int x1), some (.int x2), some (.int x3), some (.int x4), some (.int x5), none, none, none] [] h := z_bq (v_X12 z_puC (vP_X12_goesRound z_puC) hPu) hd_X12_goesRound 5 hT
set_option maxRecDepth 20000 in
theorem b_X12_goesRound_3 {G : z_G} {d : Nat} {r : z_Res} (hPu : z_PuV G d (t_X12 z_puC)) {h : z_H} {x0 : Nat} {x1 : Int32} {x2 : Int32} {x3 : Int32} {x4 : Int32} {x5 : Int32} {x6 : Int32} (hT : (z_kd h x0 = 28 ∧ s_X12_lines x0 h ∧ (if x6 < (f_X12_lines x0 h) then (if x3 = 0 then (if (1 : Int32) = 0 then (if ((x4 >>> (x6 &&& 31)) &&& (1 : Int32)) = (1 : Int32) then (z_J G (d + 1) (m_X12_goesRound z_puC) r) 3 [some (.ref x0), some (.int x1), some (.int x2), some (.int x3), some (.int x4), some (.int x5), some (.int (x6 + (1 : Int32))), none, none] [] h else (z_kd h x0 = 28 ∧ s_X12_lineAt x0 x2 h ∧ (z_kd h x0 = 28 ∧ s_X12_lineAt x0 x6 h ∧ (if ((f_X12_lineAt x0 x2 h) &&& (f_X12_lineAt x0 x6 h)) = 0 then (z_J G (d + 1) (m_X12_goesRound z_puC) r) 3 [some (.ref x0), some (.int x1), some (.int x2), some (.int x3), some (.int x4), some (.int x5), some (.int (x6 + (1 : Int32))), none, none] [] h else (if (((f_X12_lineAt x0 x2 h) &&& (f_X12_lineAt x0 x6 h)) &&& x5) = 0 then (if (1 : Int32) = 0 then (z_kd h x0 = 28 ∧ ∃ x_2 h_1, z_Ev G d k_X12_goesRound [.ref x0, .int x1, .int x6, .int (x3 - (1 : Int32)), .int (x4 ||| ((1 : Int32) <<< (x6 &&& 31))), .int (x5 ||| ((f_X12_lineAt x0 x2 h) &&& (f_X12_lineAt x0 x6 h)))] h (.inl (some (.int x_2)), h_1) ∧ (if x_2 = 0 then (z_J G (d + 1) (m_X12_goesRound z_puC) r) 3 [some (.ref x0), some (.int x1), some (.int x2), some (.int x3), some (.int x4), some (.int x5), some (.int (x6 + (1 : Int32))), none, none] [] h_1 else (z_bz (1 : Int32) ∧ r = (.inl (some (.int (1 : Int32))), h_1)))) else (z_bz (1 : Int32) ∧ r = (.inl (some (.int (1 : Int32))), h))) else (z_J G (d + 1) (m_X12_goesRound z_puC) r) 3 [some (.ref x0), some (.int x1), some (.int x2), some (.int x3), some (.int x4), some (.int x5), some (.int (x6 + (1 : Int32))), none, none] [] h))))) else (if x6 = x1 then (z_kd h x0 = 28 ∧ s_X12_lineAt x0 x2 h ∧ (z_kd h x0 = 28 ∧ s_X12_lineAt x0 x6 h ∧ (if ((f_X12_lineAt x0 x2 h) &&& (f_X12_lineAt x0 x6 h)) = 0 then (z_J G (d + 1) (m_X12_goesRound z_puC) r) 3 [some (.ref x0), some (.int x1), some (.int x2), some (.int x3), some (.int x4), some (.int x5), some (.int (x6 + (1 : Int32))), none, none] [] h else (if (((f_X12_lineAt x0 x2 h) &&& (f_X12_lineAt x0 x6 h)) &&& x5) = 0 then (if (1 : Int32) = 0 then (z_kd h x0 = 28 ∧ ∃ x_4 h_3, z_Ev G d k_X12_goesRound [.ref x0, .int x1, .int x6, .int (x3 - (1 : Int32)), .int (x4 ||| ((1 : Int32) <<< (x6 &&& 31))), .int (x5 ||| ((f_X12_lineAt x0 x2 h) &&& (f_X12_lineAt x0 x6 h)))] h (.inl (some (.int x_4)), h_3) ∧ (if x_4 = 0 then (z_J G (d + 1) (m_X12_goesRound z_puC) r) 3 [some (.ref x0), some (.int x1), some (.int x2), some (.int x3), some (.int x4), some (.int x5), some (.int (x6 + (1 : Int32))), none, none] [] h_3 else (z_bz (1 : Int32) ∧ r = (.inl (some (.int (1 : Int32))), h_3)))) else (z_bz (1 : Int32) ∧ r = (.inl (some (.int (1 : Int32))), h))) else (z_J G (d + 1) (m_X12_goesRound z_puC) r) 3 [some (.ref x0), some (.int x1), some (.int x2), some (.int x3), some (.int x4), some (.int x5), some (.int (x6 + (1 : Int32))), none, none] [] h)))) else (z_J G (d + 1) (m_X12_goesRound z_puC) r) 3 [some (.ref x0), some (.int x1), some (.int x2), some (.int x3), some (.int x4), some (.int x5), some (.int (x6 + (1 : Int32))), none, none] [] h)) else (if (0 : Int32) = 0 then (if ((x4 >>> (x6 &&& 31)) &&& (1 : Int32)) = (1 : Int32) then (z_J G (d + 1) (m_X12_goesRound z_puC) r) 3 [some (.ref x0), some (.int x1), some (.int x2), some (.int x3), some (.int x4), some (.int x5), some (.int (x6 + (1 : Int32))), none, none] [] h else (z_kd h x0 = 28 ∧ s_X12_lineAt x0 x2 h ∧ (z_kd h x0 = 28 ∧ s_X12_lineAt x0 x6 h ∧ (if ((f_X12_lineAt x0 x2 h) &&& (f_X12_lineAt x0 x6 h)) = 0 then (z_J G (d + 1) (m_X12_goesRound z_puC) r) 3 [some (.ref x0), some (.int x1), some (.int x2), some (.int x3), some (.int x4), some (.int x5), some (.int (x6 + (1 : Int32))), none, none] [] h else (if (((f_X12_lineAt x0 x2 h) &&& (f_X12_lineAt x0 x6 h)) &&& x5) = 0 then (if (0 : Int32) = 0 then (z_kd h x0 = 28 ∧ ∃ x_6 h_5, z_Ev G d k_X12_goesRound [.ref x0, .int x1, .int x6, .int (x3 - (1 : Int32)), .int (x4 ||| ((1 : Int32) <<< (x6 &&& 31))), .int (x5 ||| ((f_X12_lineAt x0 x2 h) &&& (f_X12_lineAt x0 x6 h)))] h (.inl (some (.int x_6)), h_5) ∧ (if x_6 = 0 then (z_J G (d + 1) (m_X12_goesRound z_puC) r) 3 [some (.ref x0), some (.int x1), some (.int x2), some (.int x3), some (.int x4), some (.int x5), some (.int (x6 + (1 : Int32))), none, none] [] h_5 else (z_bz (1 : Int32) ∧ r = (.inl (some (.int (1 : Int32))), h_5)))) else (z_bz (1 : Int32) ∧ r = (.inl (some (.int (1 : Int32))), h))) else (z_J G (d + 1) (m_X12_goesRound z_puC) r) 3 [some (.ref x0), some (.int x1), some (.int x2), some (.int x3), some (.int x4), some (.int x5), some (.int (x6 + (1 : Int32))), none, none] [] h))))) else (if x6 = x1 then (z_kd h x0 = 28 ∧ s_X12_lineAt x0 x2 h ∧ (z_kd h x0 = 28 ∧ s_X12_lineAt x0 x6 h ∧ (if ((f_X12_lineAt x0 x2 h) &&& (f_X12_lineAt x0 x6 h)) = 0 then (z_J G (d + 1) (m_X12_goesRound z_puC) r) 3 [some (.ref x0), some (.int x1), some (.int x2), some (.int x3), some (.int x4), some (.int x5), some (.int (x6 + (1 : Int32))), none, none] [] h else (if (((f_X12_lineAt x0 x2 h) &&& (f_X12_lineAt x0 x6 h)) &&& x5) = 0 then (if (0 : Int32) = 0 then (z_kd h x0 = 28 ∧ ∃ x_8 h_7, z_Ev G d k_X12_goesRound [.ref x0, .int x1, .int x6, .int (x3 - (1 : Int32)), .int (x4 ||| ((1 : Int32) <<< (x6 &&& 31))), .int (x5 ||| ((f_X12_lineAt x0 x2 h) &&& (f_X12_lineAt x0 x6 h)))] h (.inl (some (.int x_8)), h_7) ∧ (if x_8 = 0 then (z_J G (d + 1) (m_X12_goesRound z_puC) r) 3 [some (.ref x0), some (.int x1), some (.int x2), some (.int x3), some (.int x4), some (.int x5), some (.int (x6 + (1 : Int32))), none, none] [] h_7 else (z_bz (1 : Int32) ∧ r = (.inl (some (.int (1 : Int32))), h_7)))) else (z_bz (1 : Int32) ∧ r = (.inl (some (.int (1 : Int32))), h))) else (z_J G (d + 1) (m_X12_goesRound z_puC) r) 3 [some (.ref x0), some (.int x1), some (.int x2), some (.int x3), some (.int x4), some (.int x5), some (.int (x6 + (1 : Int32))), none, none] [] h)))) else (z_J G (d + 1) (m_X12_goesRound z_puC) r) 3 [some (.ref x0), some (.int x1), some (.int x2), some (.int x3), some (.int x4), some (.int x5), some (.int (x6 + (1 : Int32))), none, none] [] h))) else (z_bz (0 : Int32) ∧ r = (.inl (some (.int (0 : Int32))), h))))) : (z_J G (d + 1) (m_X12_goesRound z_puC) r) 3 [some (.ref x0), some (.int x1), some (.int x2), some (.int x3), some (.int x4), some (.int x5), some (.int x6), none, none] [] h := z_bq (v_X12 z_puC (vP_X12_goesRound z_puC) hPu) hd_X12_goesRound 55 hT
theorem en_X12_girth {pu : Nat → Option ((List Value → z_H → Prop) × (List Value → z_H → Int32))} {G : z_G} {d : Nat} {r : z_Res} {h : z_H} {x0 : Nat} (hJ : z_J G d (m_X12_girth pu) r 0 [some (.ref x0), none, none] [] h) : z_Ev G d k_X12_girth [.ref x0] h r := z_enter (μ := m_X12_girth pu) rfl (by decide) rfl rfl (fun q => by cases q) (Nat.le_of_ble_eq_true rfl) hJ
def hd_X12_girth : Nat → Option (List Bool) := (fun k => (cond (Nat.blt k 52) (cond (Nat.blt k 12) (cond (Nat.beq k 2) (some [true, true, false]) none) (cond (Nat.beq k 12) (some [true, true, true]) none)) none))
set_option maxRecDepth 20000 in
theorem b_X12_girth_0 {G : z_G} {d : Nat} {r : z_Res} (hPu : z_PuV G d (t_X12 z_puC)) {h : z_H} {x0 : Nat} (hT : (z_J G (d + 1) (m_X12_girth z_puC) r) 2 [some (.ref x0), some (.int (3 : Int32)), none] [] h) : (z_J G (d + 1) (m_X12_girth z_puC) r) 0 [some (.ref x0), none, none] [] h := z_bq (v_X12 z_puC (vP_X12_girth z_puC) hPu) hd_X12_girth 5 hT
set_option maxRecDepth 20000 in
theorem b_X12_girth_2 {G : z_G} {d : Nat} {r : z_Res} (hPu : z_PuV G d (t_X12 z_puC)) {h : z_H} {x0 : Nat} {x1 : Int32} (hT : (z_kd h x0 = 28 ∧ s_X12_lines x0 h ∧ (if (f_X12_lines x0 h) < x1 then r = (.inl (some (.int (-1 : Int32))), h) else (z_J G (d + 1) (m_X12_girth z_puC) r) 12 [some (.ref x0), some (.int x1), some (.int (0 : Int32))] [] h))) : (z_J G (d + 1) (m_X12_girth z_puC) r) 2 [some (.ref x0), some (.int x1), none] [] h := z_bq (v_X12 z_puC (vP_X12_girth z_puC) hPu) hd_X12_girth 9 hT
set_option maxRecDepth 20000 in
theorem b_X12_girth_12 {G : z_G} {d : Nat} {r : z_Res} (hPu : z_PuV G d (t_X12 z_puC)) {h : z_H} {x0 : Nat} {x1 : Int32} {x2 : Int32} (hT : (z_kd h x0 = 28 ∧ s_X12_lines x0 h ∧ (if x2 < (f_X12_lines x0 h) then (z_kd h x0 = 28 ∧ ∃ x_2 h_1, z_Ev G d k_X12_goesRound [.ref x0, .int x2, .int x2, .int (x1 - (1 : Int32)), .int ((1 : Int32) <<< (x2 &&& 31)), .int (0 : Int32)] h (.inl (some (.int x_2)), h_1) ∧ (if x_2 = 0 then (z_J G (d + 1) (m_X12_girth z_puC) r) 12 [some (.ref x0), some (.int x1), some (.int (x2 + (1 : Int32)))] [] h_1 else r = (.inl (some (.int x1)), h_1))) else (z_J G (d + 1) (m_X12_girth z_puC) r) 2 [some (.ref x0), some (.int (x1 + (1 : Int32))), none] [] h))) : (z_J G (d + 1) (m_X12_girth z_puC) r) 12 [some (.ref x0), some (.int x1), some (.int x2)] [] h := z_bq (v_X12 z_puC (vP_X12_girth z_puC) hPu) hd_X12_girth 21 hT
/-- whether a ring goes on -/
def c_rd (S : Sc) (f : Nat) : Nat → Nat → Nat → Nat → Bool
  | 0, last, _, uP => c_any (fun l => decide (l = f ∧ S.2.2 last &&& S.2.2 l ≠ 0 ∧ S.2.2 last &&& S.2.2 l &&& uP = 0)) S.2.1
  | k + 1, last, uL, uP => c_any (fun l => decide (uL.testBit l = false ∧ S.2.2 last &&& S.2.2 l ≠ 0 ∧ S.2.2 last &&& S.2.2 l &&& uP = 0 ∧ c_rd S f k l (uL ||| 2 ^ l) (uP ||| S.2.2 last &&& S.2.2 l) = true)) S.2.1
def c_ring (S : Sc) (k : Nat) : Bool := c_any (fun l => c_rd S l (k - 1) l (2 ^ l) 0) S.2.1
def c_girth (S : Sc) : Int32 := if fa_first (fun j => c_ring S (3 + j)) (S.2.1 - 2) < S.2.1 - 2 then nI (3 + fa_first (fun j => c_ring S (3 + j)) (S.2.1 - 2)) else -1
section CG
variable {G : z_G} {d : Nat} {h : z_H} {M : Nat} {S : Sc}
theorem p_lt4096 {l : Nat} (h : l < 12) : 2 ^ l < 4096 := Nat.lt_of_lt_of_le (Nat.pow_lt_pow_right (by decide) h) (by decide)
theorem e_goesRound (hA : z_at M h S) {f : Nat} (hf : f < S.2.1) : ∀ k last uL uP, k ≤ 12 → last < S.2.1 → uL < 4096 → uP < 256 → z_Ev G (k + d + 4) k_X12_goesRound [.ref M, .int (nI f), .int (nI last), .int (nI k), .int (nI uL), .int (nI uP)] h (.inl (some (.int (nI (c_rd S f k last uL uP).toNat))), h) := by
  have hm := t_m12 hA
  intro k
  induction k with
  | zero =>
    intro last uL uP _ hla huL huP
    refine en_X12_goesRound (b_X12_goesRound_0 z_puCV ?_)
    refine z_fnd (fun l => [some (.ref M), some (.int (nI f)), some (.int (nI last)), some (.int (nI 0)), some (.int (nI uL)), some (.int (nI uP)), some (.int (nI l)), none, none]) (fun l => decide (l = f ∧ S.2.2 last &&& S.2.2 l ≠ 0 ∧ S.2.2 last &&& S.2.2 l &&& uP = 0)) S.2.1 ?_ ?_
    · intro l hl hno hJ
      have hx := and_lt256 (b := S.2.2 l) (t_L256 hA last)
      have hy := and_lt256 (b := uP) hx
      refine b_X12_goesRound_3 z_puCV ⟨t_kd hA, hA.1, ?_⟩
      rw [t_m hA, if_pos (nI_lt hl (by omega)), if_pos (show nI 0 = (0 : Int32) from rfl), if_neg (show ¬ (1 : Int32) = 0 by decide)]
      by_cases h1 : l = f
      · rw [if_pos (by rw [h1]), t_Ln hA hla, t_Ln hA hl, fa_and, fa_and, nI_1]
        refine ⟨t_kd hA, t_sL hA (by omega), t_kd hA, t_sL hA (by omega), ?_⟩
        by_cases h2 : S.2.2 last &&& S.2.2 l = 0
        · rw [if_pos ((n_eq0 (by omega)).mpr h2)]
          exact hJ (decide_eq_false (fun q => q.2.1 h2))
        · rw [if_neg (fun e => h2 ((n_eq0 (by omega)).mp e))]
          by_cases h3 : S.2.2 last &&& S.2.2 l &&& uP = 0
          · rw [if_pos ((n_eq0 (by omega)).mpr h3), if_neg (show ¬ (1 : Int32) = 0 by decide)]
            rw [show c_rd S f 0 last uL uP = true from any_t hl (decide_eq_true ⟨h1, h2, h3⟩)]
            exact ⟨Or.inr rfl, rfl⟩
          · rw [if_neg (fun e => h3 ((n_eq0 (by omega)).mp e))]
            exact hJ (decide_eq_false (fun q => h3 q.2.2))
      · rw [if_neg (fun e => h1 ((n_eqn (by omega) (by omega)).mp e)), nI_1]
        exact hJ (decide_eq_false (fun q => h1 q.1))
    · intro hno
      refine b_X12_goesRound_3 z_puCV ⟨t_kd hA, hA.1, ?_⟩
      rw [t_m hA, if_neg (nI_nlt (Nat.le_refl _) (by omega)), show c_rd S f 0 last uL uP = false from any_f hno]
      exact ⟨Or.inl rfl, rfl⟩
  | succ k ih =>
    intro last uL uP hk hla huL huP
    refine en_X12_goesRound (b_X12_goesRound_0 z_puCV ?_)
    refine z_fnd (fun l => [some (.ref M), some (.int (nI f)), some (.int (nI last)), some (.int (nI (k + 1))), some (.int (nI uL)), some (.int (nI uP)), some (.int (nI l)), none, none]) (fun l => decide (uL.testBit l = false ∧ S.2.2 last &&& S.2.2 l ≠ 0 ∧ S.2.2 last &&& S.2.2 l &&& uP = 0 ∧ c_rd S f k l (uL ||| 2 ^ l) (uP ||| S.2.2 last &&& S.2.2 l) = true)) S.2.1 ?_ ?_
    · intro l hl hno hJ
      have hx := and_lt256 (b := S.2.2 l) (t_L256 hA last)
      have hy := and_lt256 (b := uP) hx
      have hpl := p_lt4096 (show l < 12 by omega)
      have hor : uL ||| 2 ^ l < 4096 := Nat.or_lt_two_pow (n := 12) huL hpl
      have hE := ih l (uL ||| 2 ^ l) (uP ||| S.2.2 last &&& S.2.2 l) (by omega) hl hor (or_lt256 huP hx)
      rw [show k + d + 4 = k + 1 + d + 3 by omega] at hE
      refine b_X12_goesRound_3 z_puCV ⟨t_kd hA, hA.1, ?_⟩
      rw [t_m hA, if_pos (nI_lt hl (by omega)), if_neg (show ¬ nI (k + 1) = (0 : Int32) from nI_ne0 (by omega) (by omega)), if_pos (show (0 : Int32) = 0 from rfl), n_bit (by omega) (by omega)]
      cases h1 : uL.testBit l
      · rw [if_neg (by decide), t_Ln hA hla, t_Ln hA hl, fa_and, fa_and, nI_1]
        refine ⟨t_kd hA, t_sL hA (by omega), t_kd hA, t_sL hA (by omega), ?_⟩
        by_cases h2 : S.2.2 last &&& S.2.2 l = 0
        · rw [if_pos ((n_eq0 (by omega)).mpr h2)]
          exact hJ (decide_eq_false (fun q => q.2.1 h2))
        · rw [if_neg (fun e => h2 ((n_eq0 (by omega)).mp e))]
          by_cases h3 : S.2.2 last &&& S.2.2 l &&& uP = 0
          · rw [if_pos ((n_eq0 (by omega)).mpr h3), if_pos (show (0 : Int32) = 0 from rfl), n_one (by omega), fa_or, fa_or, nI_pred]
            refine ⟨t_kd hA, _, _, hE, ?_⟩
            cases h4 : c_rd S f k l (uL ||| 2 ^ l) (uP ||| S.2.2 last &&& S.2.2 l)
            · rw [if_pos (by decide)]
              exact hJ (decide_eq_false (fun q => by rw [h4] at q; cases q.2.2.2))
            · rw [if_neg (by decide), show c_rd S f (k + 1) last uL uP = true from any_t hl (decide_eq_true ⟨h1, h2, h3, h4⟩)]
              exact ⟨Or.inr rfl, rfl⟩
          · rw [if_neg (fun e => h3 ((n_eq0 (by omega)).mp e))]
            exact hJ (decide_eq_false (fun q => h3 q.2.2.1))
      · rw [if_pos (by decide), nI_1]
        exact hJ (decide_eq_false (fun q => by rw [h1] at q; cases q.1))
    · intro hno
      refine b_X12_goesRound_3 z_puCV ⟨t_kd hA, hA.1, ?_⟩
      rw [t_m hA, if_neg (nI_nlt (Nat.le_refl _) (by omega)), show c_rd S f (k + 1) last uL uP = false from any_f hno]
      exact ⟨Or.inl rfl, rfl⟩
theorem z_Ev_eq {G : z_G} {d d' : Nat} {κ : z_Key} {As : List Value} {h : z_H} {r : z_Res} (e : d = d') (hE : z_Ev G d κ As h r) : z_Ev G d' κ As h r := e ▸ hE
theorem e_girth (hA : z_at M h S) : z_Ev G (d + 17) k_X12_girth [.ref M] h (.inl (some (.int (c_girth S))), h) := by
  have hm := t_m12 hA
  refine en_X12_girth (b_X12_girth_0 z_puCV ?_)
  refine z_fnd (fun j => [some (.ref M), some (.int (nI (3 + j))), none]) (fun j => c_ring S (3 + j)) (S.2.1 - 2) ?_ ?_
  · intro j hj hno hJ
    refine b_X12_girth_2 z_puCV ⟨t_kd hA, hA.1, ?_⟩
    rw [t_m hA, if_neg (nI_nlt (by omega) (by omega))]
    refine z_fnd (fun l => [some (.ref M), some (.int (nI (3 + j))), some (.int (nI l))]) (fun l => c_rd S l (3 + j - 1) l (2 ^ l) 0) S.2.1 ?_ ?_
    · intro l hl hno2 hJ2
      have hpl := p_lt4096 (show l < 12 by omega)
      refine b_X12_girth_12 z_puCV ⟨t_kd hA, hA.1, ?_⟩
      have hE := e_goesRound (G := G) (d := d + 12 - (3 + j - 1)) hA hl (3 + j - 1) l (2 ^ l) 0 (by omega) hl hpl (by decide)
      rw [t_m hA, if_pos (nI_lt hl (by omega)), n_one (by omega), show nI (3 + j) - (1 : Int32) = nI (3 + j - 1) from n_sub (b := 1) (by omega), nI_1]
      refine ⟨t_kd hA, _, _, z_Ev_eq (by omega) hE, ?_⟩
      cases hc : c_rd S l (3 + j - 1) l (2 ^ l) 0
      · rw [if_pos (by decide)]; exact hJ2 hc
      · rw [if_neg (by decide)]
        unfold c_girth
        rw [fa_first_at hj (show c_ring S (3 + j) = true from any_t hl hc) hno, if_pos hj]
    · intro hno2
      refine b_X12_girth_12 z_puCV ⟨t_kd hA, hA.1, ?_⟩
      rw [t_m hA, if_neg (nI_nlt (Nat.le_refl _) (by omega)), nI_1]
      exact hJ (any_f hno2)
  · intro hno
    refine b_X12_girth_2 z_puCV ⟨t_kd hA, hA.1, ?_⟩
    rw [t_m hA, if_pos (nI_lt (by omega) (by omega))]
    unfold c_girth
    rw [fa_first_n hno, if_neg (Nat.lt_irrefl _)]
end CG
