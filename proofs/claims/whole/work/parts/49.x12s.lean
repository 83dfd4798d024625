/-! ways into another scheme -/
abbrev tW : Type := Nat × (Nat → Int32) × (Nat → Int32)
def c_tw (S T : Sc) : Nat → Nat → Nat → tW → tW
  | 0, k, _, a => if c_lies S T (r_N a.2.2) then (a.1 + 1, (if a.1 = 0 then fa_fill a.2.2 a.2.1 k else a.2.1), a.2.2) else a
  | j + 1, k, u, a => it (fun p a => if u.testBit p then a else c_tw S T j (k + 1) (u ||| 2 ^ p) (a.1, a.2.1, z_u a.2.2 k (nI p))) a S.1
theorem nm_u {f : Nat → Int32} (h : r_nm f) {k p : Nat} (hp : p < 8) : r_nm (z_u f k (nI p)) := by
  intro i hi
  show z_u f k (nI p) i = nI (z_u f k (nI p) i).toNatClampNeg ∧ (z_u f k (nI p) i).toNatClampNeg < 8
  unfold z_u
  split
  · rw [nI_clamp (by omega)]; exact ⟨rfl, hp⟩
  · exact h i hi
theorem c_tw_inv {S T : Sc} (hn : S.1 ≤ 8) : ∀ j k u a, (c_tw S T j k u a).1 ≤ a.1 + 8 ^ j ∧ (r_nm a.2.2 → r_nm (c_tw S T j k u a).2.2) := by
  intro j
  induction j with
  | zero =>
    intro k u a
    unfold c_tw
    split
    · exact ⟨Nat.le_refl _, fun h => h⟩
    · exact ⟨Nat.le_add_right _ _, fun h => h⟩
  | succ j ih =>
    intro k u a
    unfold c_tw
    have h2 : (it (fun p a => if u.testBit p then a else c_tw S T j (k + 1) (u ||| 2 ^ p) (a.1, a.2.1, z_u a.2.2 k (nI p))) a S.1).1 ≤ a.1 + S.1 * 8 ^ j ∧ (r_nm a.2.2 → r_nm (it (fun p a => if u.testBit p then a else c_tw S T j (k + 1) (u ||| 2 ^ p) (a.1, a.2.1, z_u a.2.2 k (nI p))) a S.1).2.2) := by
      have key : ∀ m, m ≤ S.1 → (it (fun p a => if u.testBit p then a else c_tw S T j (k + 1) (u ||| 2 ^ p) (a.1, a.2.1, z_u a.2.2 k (nI p))) a m).1 ≤ a.1 + m * 8 ^ j ∧ (r_nm a.2.2 → r_nm (it (fun p a => if u.testBit p then a else c_tw S T j (k + 1) (u ||| 2 ^ p) (a.1, a.2.1, z_u a.2.2 k (nI p))) a m).2.2) := by
        intro m
        induction m with
        | zero => intro _; exact ⟨by show a.1 ≤ a.1 + 0 * 8 ^ j; omega, fun h => h⟩
        | succ m ihm =>
          intro hm
          have h1 := ihm (by omega)
          revert h1
          show _ → (if u.testBit m then it (fun p a => if u.testBit p then a else c_tw S T j (k + 1) (u ||| 2 ^ p) (a.1, a.2.1, z_u a.2.2 k (nI p))) a m else c_tw S T j (k + 1) (u ||| 2 ^ m) ((it (fun p a => if u.testBit p then a else c_tw S T j (k + 1) (u ||| 2 ^ p) (a.1, a.2.1, z_u a.2.2 k (nI p))) a m).1, (it (fun p a => if u.testBit p then a else c_tw S T j (k + 1) (u ||| 2 ^ p) (a.1, a.2.1, z_u a.2.2 k (nI p))) a m).2.1, z_u (it (fun p a => if u.testBit p then a else c_tw S T j (k + 1) (u ||| 2 ^ p) (a.1, a.2.1, z_u a.2.2 k (nI p))) a m).2.2 k (nI m))).1 ≤ a.1 + (m + 1) * 8 ^ j ∧ (_ → r_nm (if u.testBit m then it (fun p a => if u.testBit p then a else c_tw S T j (k + 1) (u ||| 2 ^ p) (a.1, a.2.1, z_u a.2.2 k (nI p))) a m else c_tw S T j (k + 1) (u ||| 2 ^ m) ((it (fun p a => if u.testBit p then a else c_tw S T j (k + 1) (u ||| 2 ^ p) (a.1, a.2.1, z_u a.2.2 k (nI p))) a m).1, (it (fun p a => if u.testBit p then a else c_tw S T j (k + 1) (u ||| 2 ^ p) (a.1, a.2.1, z_u a.2.2 k (nI p))) a m).2.1, z_u (it (fun p a => if u.testBit p then a else c_tw S T j (k + 1) (u ||| 2 ^ p) (a.1, a.2.1, z_u a.2.2 k (nI p))) a m).2.2 k (nI m))).2.2)
          generalize it (fun p a => if u.testBit p then a else c_tw S T j (k + 1) (u ||| 2 ^ p) (a.1, a.2.1, z_u a.2.2 k (nI p))) a m = b
          intro h1
          rw [Nat.succ_mul]
          split
          · exact ⟨Nat.le_trans h1.1 (Nat.add_le_add_left (Nat.le_add_right _ _) _), h1.2⟩
          · have h3 := ih (k + 1) (u ||| 2 ^ m) (b.1, b.2.1, z_u b.2.2 k (nI m))
            refine ⟨?_, fun h => h3.2 (nm_u (h1.2 h) (by omega))⟩
            have h4 : (c_tw S T j (k + 1) (u ||| 2 ^ m) (b.1, b.2.1, z_u b.2.2 k (nI m))).1 ≤ b.1 + 8 ^ j := h3.1
            omega
      exact key S.1 (Nat.le_refl _)
    refine ⟨Nat.le_trans h2.1 ?_, h2.2⟩
    have : S.1 * 8 ^ j ≤ 8 * 8 ^ j := Nat.mul_le_mul_right _ hn
    rw [Nat.pow_succ, Nat.mul_comm (8 ^ j) 8]
    exact Nat.add_le_add_left this _
def agrF (K : List Nat) (F F' : Nat → Int32) : Prop := ∀ k, k ∉ K → F' k = F k
def c_hs (R : Nat → Int32) (s : Int32) : Bool := c_in s 4 && decide (R (30 + 31 * s.toNatClampNeg) = nI 1)
def w_ok (S : Sc) : Prop := ∀ l, S.2.2 l < 2 ^ S.1
def c_wys (S T : Sc) (W f : Nat → Int32) : tW := c_tw S T T.1 0 0 (0, W, f)
def c_shelfN (S T : Sc) (W f : Nat → Int32) (w : Nat) : Nat := if w = 0 then c_likes S T else if w = 1 then (c_wys S T W f).1 else if w = 2 then T.1 else T.2.1
def c_shelf (S : Sc) (R W f : Nat → Int32) (s w : Int32) : Int32 × Int32 := if c_hs R s && c_in w 4 then (nI (c_shelfN S (r_S (c_shR R s.toNatClampNeg)) W f w.toNatClampNeg), nI 0) else (nI 0, nI 1)
def c_way (S : Sc) (R W f : Nat → Int32) (s p : Int32) : Int32 × Int32 := if c_hs R s && c_in p (r_S (c_shR R s.toNatClampNeg)).1 then (if (c_wys S (r_S (c_shR R s.toNatClampNeg)) W f).1 = 0 then mI else (c_wys S (r_S (c_shR R s.toNatClampNeg)) W f).2.1 p.toNatClampNeg, nI 0) else (nI 0, nI 1)
section CR
variable {G : z_G} {d : Nat} {h : z_H} {M : Nat} {S : Sc} {F : Nat → Int32} {A : Nat → Nat → Int32}
theorem t_hs (hM : z_sh M h) (s : Int32) : f_X12_hasShelf M s (z_rs h M F A) = nI (c_hs (A 1) s).toNat := by
  have e : f_X12_isIn s 0 3 (z_rs h M F A) = nI (c_in s 4).toNat := f_isIn_c s (n := 4) (by omega) _
  unfold f_X12_hasShelf c_hs
  rw [e, rs_ai _ _ _ _ (by omega) (by omega)]
  cases c_in s 4
  · rfl
  · rw [if_neg (by decide)]
    by_cases h1 : A 1 (30 + 31 * s.toNatClampNeg) = 1
    · rw [if_pos h1, decide_eq_true (show A 1 (30 + 31 * s.toNatClampNeg) = nI 1 from h1)]; rfl
    · rw [if_neg h1, decide_eq_false (show ¬ A 1 (30 + 31 * s.toNatClampNeg) = nI 1 from h1)]; rfl
theorem e_tellWays (hM : z_sh M h) (hR : r_ok (A 1)) (hS : r_S (A 1) = S) {s : Nat} (hs : s < 4) {T : Sc} (hT : r_is (c_shR (A 1) s) T) : ∀ j k u (a : tW), k + j = T.1 → u < 256 → r_nm a.2.2 → a.1 + 8 ^ j < 2 ^ 30 → z_Ev G (j + d + 5) k_X12_tellWays [.ref M, .int (nI s), .int (nI k), .int (nI u)] (z_rs h M (z_u F 24 (nI a.1)) (z_u (z_u A 12 a.2.1) 5 a.2.2)) (.inl none, z_rs h M (z_u F 24 (nI (c_tw S T j k u a).1)) (z_u (z_u A 12 (c_tw S T j k u a).2.1) 5 (c_tw S T j k u a).2.2)) := by
  have hn := t_n8 (at_rs (F := F) hM hR hS)
  have hTn := hT.2.2.1
  have e1 : ∀ f g, z_u (z_u A 12 f) 5 g 1 = A 1 := fun f g => by rw [u_ne _ _ (by omega), u_ne _ _ (by omega)]
  have hAt : ∀ F0 f g, z_at M (z_rs h M F0 (z_u (z_u A 12 f) 5 g)) S := fun F0 f g => at_rs hM (by rw [e1]; exact hR) (by rw [e1]; exact hS)
  have osh : ∀ F0 f g k, k < 30 → f_X12_onShelf M (nI s) (nI k) (z_rs h M F0 (z_u (z_u A 12 f) 5 g)) = c_shR (A 1) s k ∧ s_X12_onShelf M (nI s) (nI k) (z_rs h M F0 (z_u (z_u A 12 f) 5 g)) := fun F0 f g k hk => ⟨by
    unfold f_X12_onShelf; rw [nI_clamp (by omega), nI_clamp (by omega), rs_ai _ _ _ _ (by omega) (by omega), e1]; rfl, ⟨hM, s, k, hs, hk, rfl, rfl⟩⟩
  intro j
  induction j with
  | zero =>
    intro k u a hk hu hnm hb
    have o0 := osh (z_u F 24 (nI a.1)) a.2.1 a.2.2 0 (by omega)
    have ekT : k = T.1 := by omega
    have hel : z_Ev G (d + 4) k_X12_lies [.ref M, .int (nI s)] (z_rs h M (z_u F 24 (nI a.1)) (z_u (z_u A 12 a.2.1) 5 a.2.2)) (.inl (some (.int (nI (c_lies S T (r_N a.2.2)).toNat))), z_rs h M (z_u F 24 (nI a.1)) (z_u (z_u A 12 a.2.1) 5 a.2.2)) := by
      have e5 : z_ai (z_rs h M (z_u F 24 (nI a.1)) (z_u (z_u A 12 a.2.1) 5 a.2.2)) (M + 5) = a.2.2 := by rw [rs_ai _ _ _ _ (by omega) (by omega), u_eq]
      have e11 : z_ai (z_rs h M (z_u F 24 (nI a.1)) (z_u (z_u A 12 a.2.1) 5 a.2.2)) (M + 1) = A 1 := by rw [rs_ai _ _ _ _ (by omega) (by omega), e1]
      have e := e_lies (G := G) (d := d) (hAt (z_u F 24 (nI a.1)) a.2.1 a.2.2) (by rw [e5]; exact hnm) hs (T := T) (by rw [e11]; exact hT)
      rw [e5] at e
      exact e
    refine z_Ev_eq (show d + 5 = 0 + d + 5 by omega) (en_X12_tellWays (b_X12_tellWays_0 z_puCV ⟨sh_kd hM, o0.2, ?_⟩))
    rw [o0.1, hT.1, ekT, if_pos rfl]
    refine ⟨sh_kd hM, _, _, hel, ?_⟩
    unfold c_tw
    have hbb : a.1 + 1 < 2 ^ 30 := hb
    cases hc : c_lies S T (r_N a.2.2)
    · rw [if_pos (by decide), if_neg (by decide)]
    · rw [if_neg (by decide), if_pos rfl]
      by_cases hw : a.1 = 0
      · rw [if_pos hw, ← ekT]
        have key := z_forI (G := G) (d := d + 5) (μ := m_X12_tellWays z_puC) (r := (.inl none, z_rs h M (z_u F 24 (nI (a.1 + 1))) (z_u (z_u A 12 (fa_fill a.2.2 a.2.1 k)) 5 a.2.2))) (pc := 22) (α := Unit) (fun l _ => [some (.ref M), none, some (.int (nI k)), none, some (.int (nI l))]) (fun l _ => z_rs h M (z_u F 24 (nI a.1)) (z_u (z_u A 12 (fa_fill a.2.2 a.2.1 l)) 5 a.2.2)) (fun _ _ => True) (fun _ x => x) () k trivial ?_ ?_
        · rw [fa_fill_0] at key
          exact key
        · intro l _ hl _
          refine ⟨trivial, fun hJ => b_X12_tellWays_22 z_puCV ?_⟩
          simp (disch := omega) only [l0, l1, l2, l3, l4, l5, l6, l7, l8, l9, l10, l11, l12, l13, l14, l15, l16, l18, l20, l22, l24, l30, l31, l39, l40, l48, l60, l154, l255, l256, l400, l2000, l6160, l14000, lm1, q_lt, q_le, q_eq, q_mI, q_mI', q_ltmI, q_in, q_bz0, q_bz1, q_bzn0, q_bzn1, q_bzb, q_bn0, q_bn1, q_shr, q_shl, q_1s, b_one, b_two, fa_and, fa_or, nI_add, n_mul, nI_clamp, z_rcs, true_and, and_true, if_true, if_false, rs_ai, rs_oi, rs_pai, rs_poi, rs_pax, rs_kd, rs_ln, rs_or, u_eq, u_ne, hl, hw, sh_kd hM, (sh_wayFirst hM).1, (sh_wayFirst hM).2.1, (sh_wayFirst hM).2.2, (sh_naming hM).1, (sh_naming hM).2.1, (sh_naming hM).2.2]
          rw [u_mid _ _ _ _ (by decide), h_fill_u]
          rw [hw] at hJ
          exact hJ
        · intro _
          refine b_X12_tellWays_22 z_puCV ?_
          simp (disch := omega) only [l0, l1, l2, l3, l4, l5, l6, l7, l8, l9, l10, l11, l12, l13, l14, l15, l16, l18, l20, l22, l24, l30, l31, l39, l40, l48, l60, l154, l255, l256, l400, l2000, l6160, l14000, lm1, q_lt, q_le, q_eq, q_mI, q_mI', q_ltmI, q_in, q_bz0, q_bz1, q_bzn0, q_bzn1, q_bzb, q_bn0, q_bn1, q_shr, q_shl, q_1s, b_one, b_two, fa_and, fa_or, nI_add, n_mul, nI_clamp, z_rcs, true_and, and_true, if_true, if_false, rs_ai, rs_oi, rs_pai, rs_poi, rs_pax, rs_kd, rs_ln, rs_or, u_eq, u_ne, Nat.lt_irrefl, sh_kd hM, u_u]
      · rw [if_neg hw]
        refine b_X12_tellWays_22 z_puCV ?_
        simp (disch := omega) only [l0, l1, l2, l3, l4, l5, l6, l7, l8, l9, l10, l11, l12, l13, l14, l15, l16, l18, l20, l22, l24, l30, l31, l39, l40, l48, l60, l154, l255, l256, l400, l2000, l6160, l14000, lm1, q_lt, q_le, q_eq, q_mI, q_mI', q_ltmI, q_in, q_bz0, q_bz1, q_bzn0, q_bzn1, q_bzb, q_bn0, q_bn1, q_shr, q_shl, q_1s, b_one, b_two, fa_and, fa_or, nI_add, n_mul, nI_clamp, z_rcs, true_and, and_true, if_true, if_false, rs_ai, rs_oi, rs_pai, rs_poi, rs_pax, rs_kd, rs_ln, rs_or, u_eq, u_ne, hw, sh_kd hM, u_u]
        split <;> trivial
  | succ j ih =>
    intro k u a hk hu hnm hb
    have o0 := osh (z_u F 24 (nI a.1)) a.2.1 a.2.2 0 (by omega)
    refine z_Ev_eq (show j + d + 1 + 5 = j + 1 + d + 5 by omega) (en_X12_tellWays (b_X12_tellWays_0 z_puCV ⟨sh_kd hM, o0.2, ?_⟩))
    rw [o0.1, hT.1, if_neg (fun e => by have := (nI_eq (by omega) (by omega)).mp e; omega)]
    have hpow : 8 ^ (j + 1) = 8 * 8 ^ j := by rw [Nat.pow_succ, Nat.mul_comm]
    refine z_forI (fun p (b : tW) => [some (.ref M), some (.int (nI s)), some (.int (nI k)), some (.int (nI u)), some (.int (nI p))]) (fun p b => z_rs h M (z_u F 24 (nI b.1)) (z_u (z_u A 12 b.2.1) 5 b.2.2)) (fun p b => b.1 ≤ a.1 + p * 8 ^ j ∧ r_nm b.2.2) (fun p a => if u.testBit p then a else c_tw S T j (k + 1) (u ||| 2 ^ p) (a.1, a.2.1, z_u a.2.2 k (nI p))) a S.1 ⟨by omega, hnm⟩ ?_ ?_
    · intro p b hp hI
      have hA2 := hAt (z_u F 24 (nI b.1)) b.2.1 b.2.2
      cases hc : u.testBit p
      · rw [if_neg (by decide)]
        have h3 := c_tw_inv (T := T) hn.2 j (k + 1) (u ||| 2 ^ p) (b.1, b.2.1, z_u b.2.2 k (nI p))
        have h4 : (c_tw S T j (k + 1) (u ||| 2 ^ p) (b.1, b.2.1, z_u b.2.2 k (nI p))).1 ≤ b.1 + 8 ^ j := h3.1
        have hmul : p * 8 ^ j + 8 ^ j ≤ 8 * 8 ^ j := by
          rw [← Nat.succ_mul]; exact Nat.mul_le_mul_right _ (by omega)
        refine ⟨⟨by rw [Nat.succ_mul]; omega, h3.2 (nm_u hI.2 (by omega))⟩, fun hJ => b_X12_tellWays_69 z_puCV ?_⟩
        have ihh := ih (k + 1) (u ||| 2 ^ p) (b.1, b.2.1, z_u b.2.2 k (nI p)) (by omega) (or_lt256 hu (t_pow (by omega))) (nm_u hI.2 (by omega)) (by show b.1 + 8 ^ j < 2 ^ 30; omega)
        rw [t_n hA2]
        simp (disch := omega) only [l0, l1, l2, l3, l4, l5, l6, l7, l8, l9, l10, l11, l12, l13, l14, l15, l16, l18, l20, l22, l24, l30, l31, l39, l40, l48, l60, l154, l255, l256, l400, l2000, l6160, l14000, lm1, q_lt, q_le, q_eq, q_mI, q_mI', q_ltmI, q_in, q_bz0, q_bz1, q_bzn0, q_bzn1, q_bzb, q_bn0, q_bn1, q_shr, q_shl, q_1s, b_one, b_two, fa_and, fa_or, nI_add, n_mul, nI_clamp, z_rcs, true_and, and_true, if_true, if_false, rs_ai, rs_oi, rs_pai, rs_poi, rs_pax, rs_kd, rs_ln, rs_or, u_eq, u_ne, hp, hc, t_spoints hA2, sh_kd hM, (sh_naming hM).1, (sh_naming hM).2.1, (sh_naming hM).2.2, u_u]
        refine ⟨_, ihh, ?_⟩
        exact hJ
      · rw [if_pos rfl]
        refine ⟨⟨by rw [Nat.succ_mul]; omega, hI.2⟩, fun hJ => b_X12_tellWays_69 z_puCV ?_⟩
        rw [t_n hA2]
        simp (disch := omega) only [l0, l1, l2, l3, l4, l5, l6, l7, l8, l9, l10, l11, l12, l13, l14, l15, l16, l18, l20, l22, l24, l30, l31, l39, l40, l48, l60, l154, l255, l256, l400, l2000, l6160, l14000, lm1, q_lt, q_le, q_eq, q_mI, q_mI', q_ltmI, q_in, q_bz0, q_bz1, q_bzn0, q_bzn1, q_bzb, q_bn0, q_bn1, q_shr, q_shl, q_1s, b_one, b_two, fa_and, fa_or, nI_add, n_mul, nI_clamp, z_rcs, true_and, and_true, if_true, if_false, rs_ai, rs_oi, rs_pai, rs_poi, rs_pax, rs_kd, rs_ln, rs_or, u_eq, u_ne, hp, hc, t_spoints hA2, sh_kd hM]
        exact hJ
    · intro hI
      refine b_X12_tellWays_69 z_puCV ?_
      rw [t_n (hAt _ _ _)]
      simp (disch := omega) only [l0, l1, l2, l3, l4, l5, l6, l7, l8, l9, l10, l11, l12, l13, l14, l15, l16, l18, l20, l22, l24, l30, l31, l39, l40, l48, l60, l154, l255, l256, l400, l2000, l6160, l14000, lm1, q_lt, q_le, q_eq, q_mI, q_mI', q_ltmI, q_in, q_bz0, q_bz1, q_bzn0, q_bzn1, q_bzb, q_bn0, q_bn1, q_shr, q_shl, q_1s, b_one, b_two, fa_and, fa_or, nI_add, n_mul, nI_clamp, z_rcs, true_and, and_true, if_true, if_false, rs_ai, rs_oi, rs_pai, rs_poi, rs_pax, rs_kd, rs_ln, rs_or, u_eq, u_ne, Nat.lt_irrefl, t_spoints (hAt _ _ _), sh_kd hM]
      rfl
theorem z_hs_in {R : Nat → Int32} {s : Int32} (hc : c_hs R s = true) : ∃ a, a < 4 ∧ s = nI a ∧ R (30 + 31 * a) = nI 1 := by
  unfold c_hs at hc
  have h1 := (Bool.and_eq_true _ _ ▸ hc : c_in s 4 = true ∧ decide (R (30 + 31 * s.toNatClampNeg) = nI 1) = true)
  obtain ⟨a, ha, ha2, rfl⟩ := c_in_t h1.1
  have h2 := of_decide_eq_true h1.2
  rw [nI_clamp ha2] at h2
  exact ⟨a, ha, rfl, h2⟩
theorem e_failF {k : Int32} (hM : z_sh M h) : z_Ev G (d + 4) k_X12_fail [.ref M, .int k] (z_rs h M (z_u F 0 (nI 0)) A) (.inl (some (.int (nI 0))), z_rs h M (z_u F 0 k) A) := by
  have e := e_fail' (G := G) (d := d) (F := z_u F 0 (nI 0)) (A := A) (k := k) hM
  rw [u_u] at e
  exact e
theorem agrF_u {K : List Nat} {F F' : Nat → Int32} (h : agrF K F F') {k : Nat} (hk : k ∈ K) (v : Int32) : agrF K F (z_u F' k v) := fun j hj => by rw [u_ne _ _ (show j ≠ k from fun e => hj (by rw [e]; exact hk))]; exact h j hj
theorem agrF_rf {K : List Nat} {F : Nat → Int32} : agrF K F F := fun _ _ => rfl
/-- shelves are laid as schemes -/
def r_shs (R : Nat → Int32) : Prop := ∀ s, s < 4 → R (30 + 31 * s) = nI 1 → r_ok (c_shR R s) ∧ w_ok (r_S (c_shR R s))
theorem e_shelf (hM : z_sh M h) (hR : r_ok (A 1)) (hS : r_S (A 1) = S) (h5 : r_nm (A 5)) (hsh : r_shs (A 1)) (s w : Int32) : ∃ F' A', agr [5, 6, 12] A A' ∧ agrF [0, 24] F F' ∧ F' 0 = (c_shelf S (A 1) (A 12) (A 5) s w).2 ∧ z_Ev G (d + 16) k_X12_shelf [.ref M, .int s, .int w] (z_rs h M F A) (.inl (some (.int (c_shelf S (A 1) (A 12) (A 5) s w).1)), z_rs h M F' A') := by
  have hA := at_rs (F := z_u F 0 (nI 0)) hM hR hS
  have ei : f_X12_isIn w (nI 0) (nI 3) (z_rs h M (z_u F 0 (nI 0)) A) = nI (c_in w 4).toNat := f_isIn_c w (n := 4) (by omega) _
  unfold c_shelf
  cases hc : c_hs (A 1) s
  · refine ⟨z_u F 0 (nI 1), A, agr_rf h5, agrF_u agrF_rf (by decide) _, u_eq _ _ _, en_X12_shelf (b_X12_shelf_0 z_puCV ⟨sh_kd hM, ?_⟩)⟩
    rw [rs_poi, t_hs hM, hc, if_pos (by decide)]
    exact ⟨sh_kd hM, hM, sh_kd hM, _, _, e_failF (d := d + 11) hM, rfl⟩
  · cases hw : c_in w 4
    · refine ⟨z_u F 0 (nI 1), A, agr_rf h5, agrF_u agrF_rf (by decide) _, u_eq _ _ _, en_X12_shelf (b_X12_shelf_0 z_puCV ⟨sh_kd hM, ?_⟩)⟩
      rw [rs_poi, t_hs hM, hc, if_neg (by decide), ei, hw, if_pos (by decide)]
      exact ⟨sh_kd hM, hM, trivial, sh_kd hM, _, _, e_failF (d := d + 11) hM, rfl⟩
    · obtain ⟨a, ha, rfl, h1⟩ := z_hs_in hc
      obtain ⟨b, hb, hb2, rfl⟩ := c_in_t hw
      obtain ⟨hok, hwT⟩ := hsh a ha h1
      have hTn := hok.2.2.1
      have hTm := hok.2.2.2.1
      rw [nI_clamp (by omega), nI_clamp hb2, if_pos (by rfl)]
      have osh : ∀ k, k < 30 → f_X12_onShelf M (nI a) (nI k) (z_rs h M (z_u F 0 (nI 0)) A) = c_shR (A 1) a k ∧ s_X12_onShelf M (nI a) (nI k) (z_rs h M (z_u F 0 (nI 0)) A) := fun k hk => ⟨by
        unfold f_X12_onShelf; rw [nI_clamp (by omega), nI_clamp (by omega), rs_ai _ _ _ _ (by omega) (by omega)]; rfl, ⟨hM, a, k, ha, hk, rfl, rfl⟩⟩
      have start : ∀ r, (if b = 0 then ∃ x1 h1, z_Ev G (d + 15) k_X12_likes [.ref M, .int (nI a)] (z_rs h M (z_u F 0 (nI 0)) A) (.inl (some (.int x1)), h1) ∧ r = (.inl (some (.int x1)), h1) else if 1 < b then r = (.inl (some (.int (c_shR (A 1) a (if b = 2 then 0 else 1)))), z_rs h M (z_u F 0 (nI 0)) A) else ∃ h7, z_Ev G (d + 15) k_X12_tellWays [.ref M, .int (nI a), .int (nI 0), .int (nI 0)] (z_rs h M (z_u (z_u F 0 (nI 0)) 24 (nI 0)) A) (.inl none, h7) ∧ z_kd h7 M = 28 ∧ r = (.inl (some (.int (z_oi h7 M 24))), h7)) → z_Ev G (d + 16) k_X12_shelf [.ref M, .int (nI a), .int (nI b)] (z_rs h M F A) r := by
        intro r hr
        refine en_X12_shelf (b_X12_shelf_0 z_puCV ⟨sh_kd hM, ?_⟩)
        rw [rs_poi, t_hs hM, hc, if_neg (by decide), ei, hw, if_neg (by decide), rs_poi]
        refine ⟨sh_kd hM, hM, trivial, ?_⟩
        by_cases b0 : b = 0
        · rw [if_pos b0] at hr
          rw [if_pos (by rw [b0])]
          exact ⟨sh_kd hM, hr⟩
        · rw [if_neg b0] at hr
          rw [if_neg (fun e => b0 ((nI_eq hb2 (by omega)).mp e))]
          by_cases b1 : 1 < b
          · rw [if_pos b1] at hr
            rw [if_pos (nI_lt b1 hb2)]
            by_cases b2 : b = 2
            · rw [if_pos b2] at hr
              rw [if_pos (by rw [b2]), (osh 0 (by omega)).1]
              exact ⟨sh_kd hM, (osh 0 (by omega)).2, hr⟩
            · rw [if_neg b2] at hr
              rw [if_neg (fun e => b2 ((nI_eq hb2 (by omega)).mp e)), (osh 1 (by omega)).1]
              exact ⟨sh_kd hM, (osh 1 (by omega)).2, hr⟩
          · rw [if_neg b1] at hr
            rw [if_neg (fun e => b1 ((nI_ltI (by omega) hb2).mp e))]
            exact ⟨sh_kd hM, sh_kd hM, hr⟩
      unfold c_shelfN
      by_cases b0 : b = 0
      · rw [if_pos b0]
        obtain ⟨A', ha', he⟩ := e_likes (G := G) (d := d + 9) (F := z_u F 0 (nI 0)) hM hR hS h5 ha hok hwT
        refine ⟨z_u F 0 (nI 0), A', agr_mono ha' (by decide), agrF_u agrF_rf (by decide) _, u_eq _ _ _, start _ ?_⟩
        rw [if_pos b0]
        exact ⟨_, _, he, rfl⟩
      · rw [if_neg b0]
        by_cases b1 : b = 1
        · rw [if_pos b1]
          have e0 := e_tellWays (G := G) (d := d + 10 - (r_S (c_shR (A 1) a)).1) (F := z_u F 0 (nI 0)) (A := A) hM hR hS ha hok (r_S (c_shR (A 1) a)).1 0 0 (0, A 12, A 5) (Nat.zero_add _) (by decide) h5 (by
            have : 8 ^ (r_S (c_shR (A 1) a)).1 ≤ 8 ^ 8 := Nat.pow_le_pow_right (by decide) hTn.2
            show 0 + 8 ^ (r_S (c_shR (A 1) a)).1 < 2 ^ 30
            rw [Nat.zero_add]
            exact Nat.lt_of_le_of_lt this (by decide))
          dsimp only at e0
          rw [u_self, u_self] at e0
          refine ⟨z_u (z_u F 0 (nI 0)) 24 (nI (c_wys S (r_S (c_shR (A 1) a)) (A 12) (A 5)).1), z_u (z_u A 12 (c_wys S (r_S (c_shR (A 1) a)) (A 12) (A 5)).2.1) 5 (c_wys S (r_S (c_shR (A 1) a)) (A 12) (A 5)).2.2, agr_5 (agr_u (agr_rf h5) (by decide) (by decide) _) (by decide) ((c_tw_inv (t_n8 hA).2 _ _ _ _).2 h5), agrF_u (agrF_u agrF_rf (by decide) _) (by decide) _, by rw [u_ne _ _ (by decide), u_eq], start _ ?_⟩
          rw [if_neg b0, if_neg (by omega)]
          refine ⟨_, z_Ev_eq (by omega) e0, sh_kd hM, ?_⟩
          rw [rs_oi, u_eq]
          rfl
        · rw [if_neg b1]
          refine ⟨z_u F 0 (nI 0), A, agr_rf h5, agrF_u agrF_rf (by decide) _, u_eq _ _ _, start _ ?_⟩
          rw [if_neg b0, if_pos (by omega)]
          by_cases b2 : b = 2
          · rw [if_pos b2, if_pos b2]
            exact congrArg (fun v => ((.inl (some (.int v)), z_rs h M (z_u F 0 (nI 0)) A) : z_Res)) hok.1.symm
          · rw [if_neg b2, if_neg b2]
            exact congrArg (fun v => ((.inl (some (.int v)), z_rs h M (z_u F 0 (nI 0)) A) : z_Res)) hok.2.1.symm
theorem e_way (hM : z_sh M h) (hR : r_ok (A 1)) (hS : r_S (A 1) = S) (h5 : r_nm (A 5)) (hsh : r_shs (A 1)) (s p : Int32) : ∃ F' A', agr [5, 12] A A' ∧ agrF [0, 24] F F' ∧ F' 0 = (c_way S (A 1) (A 12) (A 5) s p).2 ∧ z_Ev G (d + 16) k_X12_way [.ref M, .int s, .int p] (z_rs h M F A) (.inl (some (.int (c_way S (A 1) (A 12) (A 5) s p).1)), z_rs h M F' A') := by
  have hA := at_rs (F := z_u F 0 (nI 0)) hM hR hS
  unfold c_way
  cases hc : c_hs (A 1) s
  · refine ⟨z_u F 0 (nI 1), A, agr_rf h5, agrF_u agrF_rf (by decide) _, u_eq _ _ _, en_X12_way (b_X12_way_0 z_puCV ⟨sh_kd hM, ?_⟩)⟩
    rw [rs_poi, t_hs hM, hc, if_pos (by decide)]
    exact ⟨sh_kd hM, hM, sh_kd hM, _, _, e_failF (d := d + 11) hM, rfl⟩
  · obtain ⟨a, ha, rfl, h1⟩ := z_hs_in hc
    obtain ⟨hok, hwT⟩ := hsh a ha h1
    have hTn := hok.2.2.1
    rw [nI_clamp (by omega)]
    have o0 : f_X12_onShelf M (nI a) (nI 0) (z_rs h M (z_u F 0 (nI 0)) A) = nI (r_S (c_shR (A 1) a)).1 ∧ s_X12_onShelf M (nI a) (nI 0) (z_rs h M (z_u F 0 (nI 0)) A) := ⟨by
      unfold f_X12_onShelf; rw [nI_clamp (by omega), nI_clamp (by omega), rs_ai _ _ _ _ (by omega) (by omega)]; exact hok.1, ⟨hM, a, 0, ha, by omega, rfl, rfl⟩⟩
    have ei : f_X12_isIn p (nI 0) (nI (r_S (c_shR (A 1) a)).1 - nI 1) (z_rs h M (z_u F 0 (nI 0)) A) = nI (c_in p (r_S (c_shR (A 1) a)).1).toNat := f_isIn_c p (by omega) _
    cases hw : c_in p (r_S (c_shR (A 1) a)).1
    · refine ⟨z_u F 0 (nI 1), A, agr_rf h5, agrF_u agrF_rf (by decide) _, u_eq _ _ _, en_X12_way (b_X12_way_0 z_puCV ⟨sh_kd hM, ?_⟩)⟩
      rw [rs_poi, t_hs hM, hc, if_neg (by decide), o0.1, ei, hw, if_pos (by decide)]
      exact ⟨sh_kd hM, hM, sh_kd hM, o0.2, trivial, sh_kd hM, _, _, e_failF (d := d + 11) hM, rfl⟩
    · obtain ⟨b, hb, hb2, rfl⟩ := c_in_t hw
      rw [nI_clamp hb2, if_pos (by rfl)]
      have e0 := e_tellWays (G := G) (d := d + 10 - (r_S (c_shR (A 1) a)).1) (F := z_u F 0 (nI 0)) (A := A) hM hR hS ha hok (r_S (c_shR (A 1) a)).1 0 0 (0, A 12, A 5) (Nat.zero_add _) (by decide) h5 (by
        have : 8 ^ (r_S (c_shR (A 1) a)).1 ≤ 8 ^ 8 := Nat.pow_le_pow_right (by decide) hTn.2
        show 0 + 8 ^ (r_S (c_shR (A 1) a)).1 < 2 ^ 30
        rw [Nat.zero_add]
        exact Nat.lt_of_le_of_lt this (by decide))
      dsimp only at e0
      rw [u_self, u_self] at e0
      have hlt : (c_wys S (r_S (c_shR (A 1) a)) (A 12) (A 5)).1 < 2 ^ 31 := by
        have h2 := (c_tw_inv (S := S) (T := r_S (c_shR (A 1) a)) (t_n8 hA).2 (r_S (c_shR (A 1) a)).1 0 0 (0, A 12, A 5)).1
        have : 8 ^ (r_S (c_shR (A 1) a)).1 ≤ 8 ^ 8 := Nat.pow_le_pow_right (by decide) hTn.2
        refine Nat.lt_of_le_of_lt (Nat.le_trans h2 ?_) (show 8 ^ 8 < 2 ^ 31 by decide)
        show 0 + 8 ^ (r_S (c_shR (A 1) a)).1 ≤ 8 ^ 8
        rw [Nat.zero_add]; exact this
      refine ⟨z_u (z_u F 0 (nI 0)) 24 (nI (c_wys S (r_S (c_shR (A 1) a)) (A 12) (A 5)).1), z_u (z_u A 12 (c_wys S (r_S (c_shR (A 1) a)) (A 12) (A 5)).2.1) 5 (c_wys S (r_S (c_shR (A 1) a)) (A 12) (A 5)).2.2, agr_5 (agr_u (agr_rf h5) (by decide) (by decide) _) (by decide) ((c_tw_inv (t_n8 hA).2 _ _ _ _).2 h5), agrF_u (agrF_u agrF_rf (by decide) _) (by decide) _, by rw [u_ne _ _ (by decide), u_eq], en_X12_way (b_X12_way_0 z_puCV ⟨sh_kd hM, ?_⟩)⟩
      rw [rs_poi, t_hs hM, hc, if_neg (by decide), o0.1, ei, hw, if_neg (by decide), rs_poi]
      refine ⟨sh_kd hM, hM, sh_kd hM, o0.2, trivial, sh_kd hM, sh_kd hM, _, z_Ev_eq (by omega) e0, sh_kd hM, ?_⟩
      have hb8 : b < 8 := by omega
      show (if z_oi (z_rs h M (z_u (z_u F 0 (nI 0)) 24 (nI (c_wys S (r_S (c_shR (A 1) a)) (A 12) (A 5)).1)) (z_u (z_u A 12 (c_wys S (r_S (c_shR (A 1) a)) (A 12) (A 5)).2.1) 5 (c_wys S (r_S (c_shR (A 1) a)) (A 12) (A 5)).2.2)) M 24 = nI 0 then _ else _)
      rw [rs_oi, u_eq]
      by_cases hz : (c_wys S (r_S (c_shR (A 1) a)) (A 12) (A 5)).1 = 0
      · rw [if_pos (by rw [hz]), if_pos hz]
        rfl
      · rw [if_neg (fun e => hz ((nI_eq hlt (by omega)).mp e)), if_neg hz]
        show z_kd h M = 28 ∧ z_rc (z_or h M 23) _ _
        rw [(sh_wayFirst hM).1, z_rcs]
        refine ⟨sh_kd hM, (sh_wayFirst hM).2.1, by show vp_in (nI b) (z_ln h (M + 12)); rw [(sh_wayFirst hM).2.2]; exact vp_in_nI hb8 (by omega), ?_⟩
        show _ = ((.inl (some (.int (z_ai (z_rs h M (z_u (z_u F 0 (nI 0)) 24 (nI (c_wys S (r_S (c_shR (A 1) a)) (A 12) (A 5)).1)) (z_u (z_u A 12 (c_wys S (r_S (c_shR (A 1) a)) (A 12) (A 5)).2.1) 5 (c_wys S (r_S (c_shR (A 1) a)) (A 12) (A 5)).2.2)) (M + 12) (nI b).toNatClampNeg))), _) : z_Res)
        rw [nI_clamp hb2, rs_ai _ _ _ _ (by omega) (by omega), u_ne _ _ (show 12 ≠ 5 by decide), u_eq]
        rfl
end CR
