/-! MATHEMATICS: the class's lists are the reference's -/
def stR (m : Nat) (l : List (Nat → Nat)) (st : (Nat → Nat) × Nat) : Prop := st.2 = m * l.length ∧ ∀ k j, k < l.length → j < m → st.1 (m * k + j) = (l[k]?.getD (fun _ => 0)) j
theorem rwk_n {m k l : Nat} (hl : l < m) : rwk Wn m k l = rwn m k l := Wn_at hl
theorem crw_n {m k : Nat} (hk : k < Nn m) : c_rw (rwk Wn m k) m = (7, m, rwn m k) := by
  unfold c_rw
  congr 2
  funext l
  by_cases c : l < m
  · rw [if_pos c, rwk_n c]
  · rw [if_neg c, (lst_ok 7 m _ (rwn_mem hk)).2.2.2 l (by omega)]
theorem stR_app {m : Nat} {l : List (Nat → Nat)} {st : (Nat → Nat) × Nat} {g row : Nat → Nat} (h : stR m l st) (hg : ∀ j, j < m → row j = g j) : stR m (l ++ [g]) (fun i => if i < st.2 then st.1 i else row (i - st.2), st.2 + m) := by
  obtain ⟨h1, h2⟩ := h
  refine ⟨?_, fun k j hk hj => ?_⟩
  · show st.2 + m = m * (l ++ [g]).length
    rw [List.length_append, List.length_cons, List.length_nil, h1, Nat.mul_add, Nat.mul_one]
  · rw [List.length_append, List.length_cons, List.length_nil] at hk
    show (if m * k + j < st.2 then st.1 (m * k + j) else row (m * k + j - st.2)) = _
    by_cases c : k < l.length
    · have : m * k + j < st.2 := by
        rw [h1]
        have : m * (k + 1) ≤ m * l.length := Nat.mul_le_mul_left m c
        rw [Nat.mul_add, Nat.mul_one] at this
        omega
      rw [if_pos this, List.getElem?_append_left c]
      exact h2 k j c hj
    · have e : k = l.length := by omega
      rw [e, if_neg (by rw [h1]; omega), h1, Nat.add_sub_cancel_left, List.getElem?_append_right (Nat.le_refl _), Nat.sub_self]
      exact hg j hj
def cn1 (k : Nat) (f : Nat → Nat) (s : Nat) : List (Nat → Nat) := if c_okS f k s && c_isLst 7 (z_u f k s) (k + 1) then [z_u f k s] else []
theorem lnC_e {k kk t : Nat} (hk : k ≤ 6) (hkk : kk < Nn k) (ht : t < 128) (hs : k ≠ 0 → rwn k kk (k - 1) < t) : lnC ilq (k + 1) (rwk Wn k kk) t = (c_okS (rwn k kk) k t && c_isLst 7 (z_u (rwn k kk) k t) (k + 1)) := by
  have hf := lst_ok 7 k _ (rwn_mem hkk)
  unfold lnC
  rw [show k + 1 - 1 = k from rfl]
  have e1 : c_any (fun l => decide (1 < n_pc (t &&& rwk Wn k kk l))) k = c_any (fun i => !decide (n_pc (rwn k kk i &&& t) < 2)) k := any_cg (fun i hi => by
    rw [rwk_n hi, Nat.and_comm]
    by_cases c : n_pc (rwn k kk i &&& t) < 2
    · rw [decide_eq_true c, decide_eq_false (by omega)]; rfl
    · rw [decide_eq_false c, decide_eq_true (by omega)]; rfl)
  rw [e1, ← Bool.and_assoc]
  show (c_okS (rwn k kk) k t && ilq (c_rw (z_u (rwk Wn k kk) k t) (k + 1))) = _
  have e2 : c_rw (z_u (rwk Wn k kk) k t) (k + 1) = (7, k + 1, z_u (rwn k kk) k t) := by
    unfold c_rw
    congr 2
    funext l
    by_cases c : l < k + 1
    · rw [if_pos c]
      by_cases c2 : l = k
      · rw [c2, u_eq, u_eq]
      · rw [u_ne _ _ c2, u_ne _ _ c2, rwk_n (by omega)]
    · rw [if_neg c, u_ne _ _ (by omega), hf.2.2.2 l (by omega)]
  rw [e2]
  cases o : c_okS (rwn k kk) k t
  · rfl
  · obtain ⟨o1, o2⟩ := okS_i.mp o
    have hr : rwok 7 (k + 1) (z_u (rwn k kk) k t) := by
      refine ⟨fun l hl => ?_, fun i j hij hj => ?_, fun i j hij hj => ?_, fun l hl => ?_⟩
      · by_cases e : l = k
        · rw [e, u_eq]; exact ⟨o1, ht⟩
        · rw [u_ne _ _ e]; exact hf.1 l (by omega)
      · by_cases e : j = k
        · rw [e, u_eq, u_ne _ _ (by omega)]
          have := hs (by omega)
          by_cases e2 : i = k - 1
          · rw [e2]; exact this
          · have := hf.2.1 i (k - 1) (by omega) (by omega)
            omega
        · rw [u_ne _ _ (by omega), u_ne _ _ e]
          exact hf.2.1 i j hij (by omega)
      · by_cases e : j = k
        · rw [e, u_eq, u_ne _ _ (by omega)]
          exact o2 i (by omega)
        · rw [u_ne _ _ (by omega), u_ne _ _ e]
          exact hf.2.2.1 i j hij (by omega)
      · rw [u_ne _ _ (by omega)]
        exact hf.2.2.2 l (by omega)
    have hl : c_isLst 7 (z_u (rwn k kk) k t) (k + 1) = ilq (7, k + 1, z_u (rwn k kk) k t) := lst_i (rw_sc (by omega) hr) hr.2.1
    rw [hl]
theorem lnU_n {k kk : Nat} (hk : k ≤ 6) (hkk : kk < Nn k) : ∀ r t l st, t + r = 128 → (k ≠ 0 → rwn k kk (k - 1) < t) → stR (k + 1) l st → stR (k + 1) (l ++ c_cat (cn1 k (rwn k kk)) r t) (lnU ilq (k + 1) (rwk Wn k kk) r t st) := by
  intro r
  induction r with
  | zero =>
    intro t l st _ _ h
    show stR (k + 1) (l ++ []) st
    rw [List.append_nil]
    exact h
  | succ r ih =>
    intro t l st e hs h
    show stR (k + 1) (l ++ (cn1 k (rwn k kk) t ++ c_cat (cn1 k (rwn k kk)) r (t + 1))) (lnU ilq (k + 1) (rwk Wn k kk) r (t + 1) (lnB ilq (k + 1) (rwk Wn k kk) t st))
    rw [← List.append_assoc]
    refine ih (t + 1) _ _ (by omega) (fun q => Nat.lt_succ_of_lt (hs q)) ?_
    unfold lnB cn1
    rw [lnC_e hk hkk (by omega) hs]
    cases c : c_okS (rwn k kk) k t && c_isLst 7 (z_u (rwn k kk) k t) (k + 1)
    · show stR (k + 1) (l ++ []) st
      rw [List.append_nil]
      exact h
    · refine stR_app h (fun j hj => ?_)
      show z_u (rwk Wn k kk) k t j = z_u (rwn k kk) k t j
      by_cases e : j = k
      · rw [e, u_eq, u_eq]
      · rw [u_ne _ _ e, u_ne _ _ e, rwk_n (by omega)]
theorem cat_skip {α : Type} {g : Nat → List α} (c : Nat) : ∀ a s, (∀ t, s ≤ t → t < s + a → g t = []) → c_cat g (c + a) s = c_cat g c (s + a)
  | 0, s, _ => rfl
  | a + 1, s, h => by
    show g s ++ c_cat g (c + a) (s + 1) = _
    rw [h s (Nat.le_refl _) (by omega), List.nil_append, cat_skip c a (s + 1) (fun t h1 h2 => h t (by omega) (by omega)), show s + 1 + a = s + (a + 1) by omega]
theorem lnQ_n {k kk : Nat} (hk : k ≤ 6) (hkk : kk < Nn k) {l : List (Nat → Nat)} {st : (Nat → Nat) × Nat} (h : stR (k + 1) l st) : stR (k + 1) (l ++ c_lf 7 1 k (rwn k kk)) (lnQ ilq Wn (k + 1) kk st) := by
  have hf := lst_ok 7 k _ (rwn_mem hkk)
  have e : c_lf 7 1 k (rwn k kk) = c_cat (cn1 k (rwn k kk)) (128 - lnO Wn (k + 1) kk) (lnO Wn (k + 1) kk) := by
    show c_cat (cn1 k (rwn k kk)) (2 ^ 7 - c_st (rwn k kk) k) (c_st (rwn k kk) k) = _
    unfold c_st lnO
    by_cases c : k = 0
    · rw [if_pos c, if_pos (by omega)]
      refine (cat_skip 121 6 1 (fun t h1 h2 => ?_)).symm
      unfold cn1 c_okS
      rw [decide_eq_false (pc_lo t (by omega))]
      rfl
    · rw [if_neg c, if_neg (by omega)]
      rw [show k + 1 - 1 = k from rfl, show k + 1 - 2 = k - 1 by omega, rwk_n (by omega)]
  rw [e]
  unfold lnQ
  have hO : lnO Wn (k + 1) kk ≤ 128 ∧ (k ≠ 0 → rwn k kk (k - 1) < lnO Wn (k + 1) kk) := by
    unfold lnO
    by_cases c : k = 0
    · rw [if_pos (by omega)]
      exact ⟨by decide, fun q => absurd c q⟩
    · rw [if_neg (by omega), show k + 1 - 1 = k from rfl, show k + 1 - 2 = k - 1 by omega, rwk_n (by omega)]
      exact ⟨(hf.1 (k - 1) (by omega)).2, fun _ => Nat.lt_succ_self _⟩
  exact lnU_n hk hkk _ _ l st (by omega) hO.2 h
theorem lnZ_n {k : Nat} (hk : k ≤ 6) : ∀ t kk l st, kk + t = Nn k → stR (k + 1) l st → stR (k + 1) (l ++ ((c_lst 7 k).drop kk).flatMap (fun g => c_lf 7 1 k g)) (lnZ ilq Wn (k + 1) t kk st) := by
  intro t
  induction t with
  | zero =>
    intro kk l st e h
    rw [List.drop_eq_nil_of_le (by show Nn k ≤ kk; omega)]
    show stR (k + 1) (l ++ []) st
    rw [List.append_nil]
    exact h
  | succ t ih =>
    intro kk l st e h
    have hkk : kk < (c_lst 7 k).length := by show kk < Nn k; omega
    have hd : (c_lst 7 k).drop kk = rwn k kk :: (c_lst 7 k).drop (kk + 1) := by
      rw [List.drop_eq_getElem_cons hkk]
      unfold rwn
      rw [List.getElem?_eq_getElem hkk]
      rfl
    rw [hd, List.flatMap_cons, ← List.append_assoc]
    exact ih (kk + 1) _ _ (by omega) (lnQ_n hk hkk h)
theorem vW_n : vW ilq Nn Wn := by
  refine ⟨rfl, fun m hm k hk => ?_, fun m h1 h7 => ?_⟩
  · rw [crw_n hk]
    exact rw_sc (by omega) (lst_ok 7 m _ (rwn_mem hk))
  · obtain ⟨k, rfl⟩ : ∃ k, m = k + 1 := ⟨m - 1, by omega⟩
    have h := lnZ_n (k := k) (by omega) (Nn k) 0 [] (fun _ => 0, 0) (Nat.zero_add _) ⟨rfl, fun _ _ h _ => absurd h (Nat.not_lt_zero _)⟩
    rw [List.drop_zero, List.nil_append, ← lst_s] at h
    refine ⟨h.1, fun i hi => ?_⟩
    have hq : i / (k + 1) < Nn (k + 1) := (Nat.div_lt_iff_lt_mul (Nat.succ_pos _)).mpr (by rw [Nat.mul_comm]; exact hi)
    have := h.2 (i / (k + 1)) (i % (k + 1)) hq (Nat.mod_lt _ (Nat.succ_pos _))
    rw [Nat.div_add_mod] at this
    exact this
