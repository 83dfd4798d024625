/-! MATHEMATICS: what is kept, named; and that it is so -/
theorem fm_lnB {β : Type} {f : Nat → List β} {B : Nat} : ∀ l : List Nat, (∀ v, (f v).length ≤ B) → (l.flatMap f).length ≤ l.length * B
  | [], _ => Nat.zero_le _
  | a :: l, h => by
    rw [List.flatMap_cons, List.length_append, List.length_cons, Nat.add_mul, Nat.one_mul, Nat.add_comm]
    exact Nat.add_le_add (fm_lnB l h) (h a)
theorem ij_len (m : Nat) : ∀ k p N, (ijs m k p N).length ≤ m ^ k
  | 0, _, _ => Nat.le_refl _
  | k + 1, p, N => by
    have := fm_lnB (f := fun v => if usd N p v then [] else ijs m k (p + 1) (z_u N p v)) (B := m ^ k) (List.range m) (fun v => by
      by_cases c : usd N p v = true
      · rw [if_pos c]; exact Nat.zero_le _
      · rw [if_neg c]; exact ij_len m k (p + 1) _)
    rw [List.length_range] at this
    rw [Nat.pow_succ, Nat.mul_comm]
    exact this
theorem sq_lt {F T : Sc} {ex : Bool} (hF : c_sok F) (hT : c_sok T) (p : Nat) (N : Nat → Nat) : (sq F T ex p N).length < 2 ^ 31 := by
  unfold sq
  refine Nat.lt_of_le_of_lt (List.length_filter_le _ _) (Nat.lt_of_le_of_lt (ij_len _ _ _ _) ?_)
  refine Nat.lt_of_le_of_lt (Nat.le_trans (Nat.pow_le_pow_left hT.1.2 _) (Nat.pow_le_pow_right (by decide) (show F.1 - p ≤ 8 by have := hF.1.2; omega))) ?_
  decide
theorem ord_lt {S : Sc} (hS : c_sok S) (p : Nat) : ordS S p < 2 ^ 31 := by
  unfold ordS
  by_cases c : p < S.1
  · rw [if_pos c]; exact sq_lt hS hS _ _
  · rw [if_neg c]; decide
noncomputable def vV : CV := fun s S i => if s = 8 then nI (ordS S i) else if s = 9 then nI ((meaR S S.1 W0n (fun i => i) (fun i => i)).2.2 i) else if s = 10 then (c_tl S (fun _ => nI 0) (fun _ => nI 0)).2.2 i else if s = 11 then (if i = 0 then (g_so S).1 else nI (g_so S).2) else if s = 13 then nI (g_twT S i) else if s < 23 then d_sqv S (s - 20) i else d_pnv S (s - 20) i
noncomputable def uU : UV := (ordS, fun S i p => (match (sq S S true 0 (fun i => i))[i]? with
  | some M => M p
  | none => 0), fun F T => (sq F T false 0 (fun i => i)).length, fun F T p => (match (sq F T false 0 (fun i => i)).head? with
  | some M => M p
  | none => 0))
theorem v8 (S : Sc) (i : Nat) : vV 8 S i = nI (ordS S i) := rfl
theorem v9 (S : Sc) (i : Nat) : vV 9 S i = nI ((meaR S S.1 W0n (fun i => i) (fun i => i)).2.2 i) := rfl
theorem v10 (S : Sc) (i : Nat) : vV 10 S i = (c_tl S (fun _ => nI 0) (fun _ => nI 0)).2.2 i := rfl
theorem v11 (S : Sc) : vV 11 S 0 = (g_so S).1 ∧ vV 11 S 1 = nI (g_so S).2 := ⟨rfl, rfl⟩
theorem v13 (S : Sc) (i : Nat) : vV 13 S i = nI (g_twT S i) := rfl
theorem vM_v : vM vV := fun S hS => by
  refine ⟨fun p _ => v13 S p, fun N O hO p hp => ?_, fun N O hO p hp => ?_⟩
  · rw [v8, (mea_ord hS hO).1 p hp]
  · rw [v9]
    obtain ⟨_, a2, a3⟩ := mea_ord hS (N := N) hO
    obtain ⟨_, b2, b3⟩ := mea_ord hS (N := fun i => i) (O := fun i => i) (fun i _ => rfl)
    congr 1
    by_cases c : p < S.1
    · exact Nat.le_antisymm ((b3 p c).2 _ (a3 p c).1) ((a3 p c).2 _ (b3 p c).1)
    · rw [a2 p (by omega) hp, b2 p (by omega) hp]
theorem vL_v : vL vV := fun S hS => ⟨fun p _ => v13 S p, fun P C E M B _ hB i hi => by
  rw [v10]
  exact tl_eq hS _ _ hB i hi⟩
theorem vI_v : vI vV ilq := fun S hS => ⟨fun p _ => v13 S p, fun _ s0 _ h0 => isl_q hS s0 h0⟩
theorem vD_v : vD vV := fun S hS => by
  refine ⟨fun p _ => v13 S p, fun i hi j _ => ?_, fun i hi j _ => ?_⟩
  · have : i = 0 ∨ i = 1 ∨ i = 2 := by omega
    rcases this with e | e | e <;> subst e <;> rfl
  · have : i = 3 ∨ i = 4 := by omega
    rcases this with e | e <;> subst e <;> rfl
theorem sq_N {F T : Sc} {ex : Bool} (N N' : Nat → Nat) : sq F T ex 0 N = sq F T ex 0 N' := rfl
theorem vU_v : vU vV uU := by
  refine ⟨fun S hS => ⟨fun p _ => ⟨v8 S p, ord_lt hS p⟩, fun i hi N p hp => ?_⟩, fun F T hF hT => ⟨sq_lt hF hT _ _, fun N => ?_, fun hne N => ?_⟩⟩
  · have hi : i < (sq S S true 0 (fun i => i)).length := by
      rw [← ord_sq hS (Nat.zero_le _)]; exact hi
    have := sym_ith hS (od := ordS S) (fun _ _ => rfl) (N := N) (List.getElem?_eq_getElem hi) p hp
    show (it (symS S (ordS S)) (i, 0, N) S.1).2.2 p = (match (sq S S true 0 (fun i => i))[i]? with
      | some M => M p
      | none => 0)
    rw [this, List.getElem?_eq_getElem hi]
  · show (sq F T false 0 (fun i => i)).length = _
    by_cases c : T.1 < F.1 ∨ T.2.1 < F.2.1
    · rw [if_pos c, wit_none hF hT _ c]
    · rw [if_neg c, sq_N _ N, tal_all hF hT (fun e => by cases e) N]
  · have hne : (sq F T false 0 (fun i => i)).length ≠ 0 := hne
    cases e : sq F T false 0 (fun i => i) with
    | nil => rw [e] at hne; exact absurd rfl hne
    | cons M l =>
      have := fin_first hF hT (ex := false) (fun e => by cases e) N (fun i => i) (M := M) (by rw [e]; rfl)
      refine ⟨this.1, fun p hp => ?_⟩
      show _ = (match (sq F T false 0 (fun i => i)).head? with
        | some M => M p
        | none => 0)
      rw [this.2 p hp, e]
      rfl
