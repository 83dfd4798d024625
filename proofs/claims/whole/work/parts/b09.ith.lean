/-! MATHEMATICS: the i-th symmetry -/
noncomputable def exb (S : Sc) (p : Nat) (N : Nat → Nat) (v : Nat) : Bool := @decide (∃ M, wy S S true M ∧ agp p N M ∧ M p = v) (Classical.propDecidable _)
section B9
variable {S : Sc}
theorem exb_t {p v : Nat} {N : Nat → Nat} : exb S p N v = true ↔ ∃ M, wy S S true M ∧ agp p N M ∧ M p = v := @decide_eq_true_iff _ (Classical.propDecidable _)
theorem sq_l {F T : Sc} {ex : Bool} {p : Nat} {N : Nat → Nat} (hp : p < F.1) : sq F T ex p N = (List.range T.1).flatMap (fun v => if usd N p v then [] else sq F T ex (p + 1) (z_u N p v)) := by
  unfold sq
  have e1 : F.1 - p = (F.1 - (p + 1)) + 1 := by omega
  rw [e1]
  show ((List.range T.1).flatMap (fun v => if usd (nrm p N) p v then [] else ijs T.1 (F.1 - (p + 1)) (p + 1) (z_u (nrm p N) p v))).filter (wb F T ex) = _
  rw [List.filter_flatMap]
  refine fm_cg _ (fun v _ => ?_)
  have eu : usd (nrm p N) p v = usd N p v := usd_c (fun i hi => if_pos hi)
  rw [eu]
  cases usd N p v
  · rw [if_neg (by decide), if_neg (by decide)]
    have : z_u (nrm p N) p v = nrm (p + 1) (z_u N p v) := funext fun i => by
      unfold nrm
      by_cases c : i = p
      · rw [c, u_eq, if_pos (by omega), u_eq]
      · rw [u_ne _ _ c]
        by_cases d : i < p
        · rw [if_pos d, if_pos (by omega), u_ne _ _ c]
        · rw [if_neg d, if_neg (by omega)]
    rw [this]
  · rfl
theorem fm_get {α : Type} {f : Nat → List α} {P : Nat → Bool} {c : Nat} (hc : 0 < c) : ∀ l : List Nat, (∀ v, v ∈ l → (f v).length = if P v then c else 0) → ∀ i, i < l.countP P * c → ∃ v, (l.filter P)[i / c]? = some v ∧ v ∈ l ∧ P v = true ∧ (l.flatMap f)[i]? = (f v)[i % c]?
  | [], _, i, h => by simp at h
  | a :: l, hl, i, h => by
    have ih := fm_get hc l (fun v hv => hl v (List.mem_cons_of_mem _ hv))
    have ha := hl a List.mem_cons_self
    rw [List.countP_cons] at h
    rw [List.filter_cons, List.flatMap_cons]
    cases hp : P a
    · rw [hp, if_neg (by decide)] at ha h
      rw [if_neg (by decide), List.length_eq_zero_iff.mp ha, List.nil_append]
      obtain ⟨v, h1, h2, h3⟩ := ih i (by simpa using h)
      exact ⟨v, h1, List.mem_cons_of_mem _ h2, h3⟩
    · rw [hp, if_pos rfl] at ha h
      rw [if_pos rfl]
      by_cases ci : i < c
      · refine ⟨a, ?_, List.mem_cons_self, hp, ?_⟩
        · rw [Nat.div_eq_of_lt ci]; rfl
        · rw [List.getElem?_append_left (by omega), Nat.mod_eq_of_lt ci]
      · have hi : i - c < l.countP P * c := by rw [Nat.add_mul] at h; omega
        obtain ⟨v, h1, h2, h3, h4⟩ := ih (i - c) hi
        refine ⟨v, ?_, List.mem_cons_of_mem _ h2, h3, ?_⟩
        · rw [show i / c = (i - c) / c + 1 by rw [Nat.div_eq_sub_div hc (by omega)], List.getElem?_cons_succ]
          exact h1
        · rw [List.getElem?_append_right (by omega), ha, h4, Nat.mod_eq_sub_mod (a := i) (by omega)]
theorem ord_pos (hS : c_sok S) (p : Nat) : 0 < ordS S p := by
  unfold ordS
  by_cases c : p < S.1
  · rw [if_pos c]
    apply List.length_pos_of_mem (a := nrm S.1 (fun i => i))
    exact (sq_mem (by omega)).mpr ⟨wy_c hS (fun i hi => (if_pos hi).symm) (wy_id S), fun i hi => if_pos (by omega), fun i hi => if_neg (by omega)⟩
  · rw [if_neg c]; decide
theorem ord_sq (hS : c_sok S) {p : Nat} (hp : p ≤ S.1) : ordS S p = (sq S S true p (fun i => i)).length := by
  unfold ordS
  by_cases c : p < S.1
  · rw [if_pos c]
  · rw [if_neg c, show p = S.1 by omega, sq_n hS]
/-- the name after so many -/
theorem nm_spec (hS : c_sok S) {p us sk : Nat} (hp : p < S.1) {N : Nat → Nat} (hw : pw S S true N p 0) (hu : ∀ v, v < S.1 → us.testBit v = usd N p v) : ∀ r v s N', v + r = S.1 → (∀ i, i < p → N i = N' i) → s ≤ sk → ∀ w, ((List.range' v r).filter (exb S p N))[sk - s]? = some w → (nmV (fun u N => g_fin S S true (S.1 - (p + 1)) (p + 1) u 0 N) S S true p us sk r v s N').1 = w ∧ ∀ i, i < p → (nmV (fun u N => g_fin S S true (S.1 - (p + 1)) (p + 1) u 0 N) S S true p us sk r v s N').2 i = N i := by
  intro r
  induction r with
  | zero => intro v s N' hv hN hs w h; simp at h
  | succ r ih =>
    intro v s N' hv hN hs w h
    have hvS : v < S.1 := by omega
    have aN : ∀ M, agp p N M → agp p N' M := fun M hM i hi => by rw [← hN i hi]; exact hM i hi
    have huN : ∀ w, w < S.1 → us.testBit w = usd N' p w := fun w hw => by rw [hu w hw]; exact usd_c hN
    rw [List.range'_succ, List.filter_cons] at h
    unfold nmV
    by_cases c : us.testBit v = false ∧ g_fit S S true N' p v 0 ≠ none
    · rw [if_pos c]
      have hun : ∀ q, q < p → N' q ≠ v := fun q hq => by rw [huN v hvS] at c; exact usd_f.mp c.1 q hq
      obtain ⟨t', hf⟩ : ∃ t', g_fit S S true N' p v 0 = some t' := by
        cases hg : g_fit S S true N' p v 0 with
        | none => exact absurd hg c.2
        | some t' => exact ⟨t', rfl⟩
      have sp := fin_spec (ex := true) hS hS (fun _ => ⟨rfl, rfl⟩) (S.1 - (p + 1)) (p + 1) (us ||| 2 ^ v) 0 (z_u N' p v) (by omega) (pw_t (pw_fit hS hS (pw_c hS hN hw) hvS hun hf)) (ti_0 _ _) (us_s huN)
      obtain ⟨s1, s2, s3⟩ := sp
      have hN' : ∀ i, i < p → (g_fin S S true (S.1 - (p + 1)) (p + 1) (us ||| 2 ^ v) 0 (z_u N' p v)).2 i = N i := fun i hi => by
        rw [s1 i (by omega), u_ne _ _ (by omega)]; exact (hN i hi).symm
      cases hg : (g_fin S S true (S.1 - (p + 1)) (p + 1) (us ||| 2 ^ v) 0 (z_u N' p v)).1
      · rw [if_neg (by decide)]
        have hno : exb S p N v = false := by
          apply Bool.eq_false_iff.mpr
          intro h
          obtain ⟨M, h1, h2, h3⟩ := exb_t.mp h
          refine s3 hg M h1 (fun i hi => ?_)
          by_cases e : i = p
          · rw [e, u_eq]; exact h3
          · rw [u_ne _ _ e]; exact aN M h2 i (by omega)
        rw [hno, if_neg (by decide)] at h
        exact ih (v + 1) s _ (by omega) (fun i hi => (hN' i hi).symm) hs w h
      · rw [if_pos rfl]
        obtain ⟨w1, _⟩ := s2 hg
        have hyes : exb S p N v = true := exb_t.mpr ⟨_, w1, hN', by rw [s1 p (by omega), u_eq]⟩
        rw [hyes, if_pos rfl] at h
        by_cases e : s = sk
        · rw [if_pos e]
          rw [e, Nat.sub_self] at h
          exact ⟨Option.some.inj h, hN'⟩
        · rw [if_neg e]
          rw [show sk - s = (sk - (s + 1)) + 1 by omega, List.getElem?_cons_succ] at h
          exact ih (v + 1) (s + 1) _ (by omega) (fun i hi => (hN' i hi).symm) (by omega) w h
    · rw [if_neg c]
      have hno : exb S p N v = false := by
        apply Bool.eq_false_iff.mpr
        intro h
        obtain ⟨M, h1, h2, h3⟩ := exb_t.mp h
        apply c
        refine ⟨?_, fun e => ?_⟩
        · rw [hu v hvS]
          exact usd_f.mpr (fun q hq e => by
            have := h1.1.2 q p (by omega) hp (by rw [h2 q hq, h3]; exact e)
            omega)
        · obtain ⟨t', ht⟩ := fit_wy (ex := true) hS hS (fun _ => ⟨rfl, rfl⟩) h1 (p := p) (N := N') (t := 0) hp (aN M h2) (ti_0 _ _)
          rw [h3, e] at ht
          cases ht
      rw [hno, if_neg (by decide)] at h
      exact ih (v + 1) s N' (by omega) hN hs w h
theorem pw_ext (hS : c_sok S) {N M : Nat → Nat} {p : Nat} (hp : p ≤ S.1) (hM : wy S S true M) (ha : agp p N M) : pw S S true N p 0 := by
  refine pw_c hS (N := M) (fun i hi => ha i hi) ⟨⟨fun i hi => hM.1.1 i (by omega), fun i j hi hj e => hM.1.2 i j (by omega) (by omega) e⟩, fun b q hq hb => ?_, fun h => by cases h⟩
  obtain ⟨t', ht⟩ := fit_wy (ex := true) hS hS (fun _ => ⟨rfl, rfl⟩) hM (p := b) (N := M) (t := 0) (by omega) (fun _ _ => rfl) (ti_0 _ _)
  exact (fit_so ht).2.1 q hq
theorem sym_spec (hS : c_sok S) {od : Nat → Nat} (hod : ∀ p, p < 9 → od p = ordS S p) {i : Nat} {M N : Nat → Nat} (hi : (sq S S true 0 (fun i => i))[i]? = some M) : ∀ p, p ≤ S.1 → (sq S S true p (it (symS S od) (i, 0, N) p).2.2)[(it (symS S od) (i, 0, N) p).1]? = some M ∧ ∀ v, v < S.1 → (it (symS S od) (i, 0, N) p).2.1.testBit v = usd (it (symS S od) (i, 0, N) p).2.2 p v := by
  have n8 := hS.1.2
  intro p
  induction p with
  | zero =>
    intro _
    refine ⟨?_, fun v _ => ?_⟩
    · show (sq S S true 0 N)[i]? = some M
      rw [sq_c (N' := fun i => i) (fun i hi => absurd hi (Nat.not_lt_zero _))]
      exact hi
    · show (0 : Nat).testBit v = usd N 0 v
      rw [Nat.zero_testBit]
      rfl
  | succ p ih =>
    intro hp
    obtain ⟨h1, h2⟩ := ih (by omega)
    rw [it_s]
    obtain ⟨st, est⟩ : ∃ st, st = it (symS S od) (i, 0, N) p := ⟨_, rfl⟩
    rw [← est] at h1 h2 ⊢
    obtain ⟨lf, us, Np⟩ := st
    dsimp only at h1 h2
    have hm : M ∈ sq S S true p Np := List.mem_of_getElem? h1
    obtain ⟨w1, w2, _⟩ := (sq_mem (by omega)).mp hm
    have op := ord_pos hS (p + 1)
    have eo : od (p + 1) = ordS S (p + 1) := hod (p + 1) (by omega)
    have ee : (if od (p + 1) < 1 then 1 else od (p + 1)) = ordS S (p + 1) := by rw [eo, if_neg (by omega)]
    have lens : ∀ v, v ∈ List.range S.1 → (if usd Np p v then [] else sq S S true (p + 1) (z_u Np p v)).length = if exb S p Np v then ordS S (p + 1) else 0 := fun v hv => by
      have hv := List.mem_range.mp hv
      cases hx : exb S p Np v
      · rw [if_neg (show ¬ (false = true) by decide)]
        cases usd Np p v
        · rw [if_neg (show ¬ (false = true) by decide)]
          apply List.length_eq_zero_iff.mpr
          apply List.eq_nil_iff_forall_not_mem.mpr
          intro K hK
          obtain ⟨k1, k2, _⟩ := (sq_mem (by omega)).mp hK
          have : exb S p Np v = true := exb_t.mpr ⟨K, k1, fun j hj => by rw [k2 j (by omega), u_ne _ _ (by omega)], by rw [k2 p (by omega), u_eq]⟩
          rw [hx] at this
          cases this
        · rfl
      · rw [if_pos (show true = true from rfl)]
        obtain ⟨K, k1, k2, k3⟩ := exb_t.mp hx
        have hus : usd Np p v = false := usd_f.mpr (fun q hq e => by
          have := k1.1.2 q p (by omega) (by omega) (by rw [k2 q hq, k3]; exact e)
          omega)
        rw [hus, if_neg (by decide), ord_sq hS hp]
        refine sq_eq hS hp k1 (fun j hj => ?_)
        by_cases e : j = p
        · rw [e, u_eq]; exact k3
        · rw [u_ne _ _ e]; exact k2 j (by omega)
    have hlt : lf < (List.range S.1).countP (exb S p Np) * ordS S (p + 1) := by
      have l1 : lf < (sq S S true p Np).length := by
        apply Classical.byContradiction
        intro n
        rw [List.getElem?_eq_none (by omega)] at h1
        cases h1
      rw [sq_l (by omega), List.length_flatMap, sum_c _ lens] at l1
      exact l1
    obtain ⟨v, v1, v2, v3, v4⟩ := fm_get op (List.range S.1) lens lf hlt
    rw [sq_l (by omega), v4] at h1
    obtain ⟨K, k1, k2, k3⟩ := exb_t.mp v3
    have hus : usd Np p v = false := usd_f.mpr (fun q hq e => by
      have := k1.1.2 q p (by omega) (by omega) (by rw [k2 q hq, k3]; exact e)
      omega)
    rw [hus, if_neg (by decide)] at h1
    rw [List.range_eq_range'] at v1
    obtain ⟨n1, n2⟩ := nm_spec hS (us := us) (sk := lf / ordS S (p + 1)) (by omega) (pw_ext hS (by omega) k1 k2) h2 S.1 0 0 Np (by omega) (fun _ _ => rfl) (Nat.zero_le _) v (by rw [Nat.sub_zero]; exact v1)
    have eg : g_nmA S S true p us (lf / ordS S (p + 1)) Np = nmV (fun u N => g_fin S S true (S.1 - (p + 1)) (p + 1) u 0 N) S S true p us (lf / ordS S (p + 1)) S.1 0 0 Np := rfl
    rw [← eg] at n1 n2
    unfold symS
    dsimp only
    rw [ee, n1]
    have ag : ∀ j, j < p + 1 → z_u (g_nmA S S true p us (lf / ordS S (p + 1)) Np).2 p v j = z_u Np p v j := fun j hj => by
      by_cases e : j = p
      · rw [e, u_eq, u_eq]
      · rw [u_ne _ _ e, u_ne _ _ e]; exact n2 j (by omega)
    refine ⟨?_, fun w hw => ?_⟩
    · rw [sq_c (N' := z_u Np p v) ag]
      exact h1
    · rw [usd_c (N' := z_u Np p v) ag]
      exact us_s h2 w hw
/-- the names that are found are the i-th symmetry's -/
theorem sym_ith (hS : c_sok S) {od : Nat → Nat} (hod : ∀ p, p < 9 → od p = ordS S p) {i : Nat} {M N : Nat → Nat} (hi : (sq S S true 0 (fun i => i))[i]? = some M) : ∀ p, p < S.1 → (it (symS S od) (i, 0, N) S.1).2.2 p = M p := by
  intro p hp
  obtain ⟨h1, _⟩ := sym_spec hS hod (N := N) hi S.1 (Nat.le_refl _)
  exact (((sq_mem (Nat.le_refl _)).mp (List.mem_of_getElem? h1)).2.1 p hp).symm
/-- how the reference finds it -/
theorem fds_sym {i : Nat} (hi : i < 2 ^ 31) : ∀ (L : List (Nat → Nat)) c, c ≤ i → fds (c_syS S (nI i)) L c = match (L.filter (c_symN S))[i - c]? with
    | some N => .inr N
    | none => .inl (c + (L.filter (c_symN S)).length)
  | [], c, _ => rfl
  | M :: L, c, hc => by
    have e0 : fds (c_syS S (nI i)) (M :: L) c = match c_syS S (nI i) M c with | .inl b => fds (c_syS S (nI i)) L b | .inr v => .inr v := by rw [fds]; cases c_syS S (nI i) M c <;> rfl
    have e1 : c_syS S (nI i) M c = if c_symN S M then (if nI c = nI i then .inr M else .inl (c + 1)) else .inl c := rfl
    rw [e0, e1, List.filter_cons]
    cases hs : c_symN S M
    · rw [if_neg (by decide), if_neg (by decide)]
      exact fds_sym hi L c hc
    · rw [if_pos rfl, if_pos rfl]
      by_cases e : c = i
      · rw [if_pos (by rw [e]), e, Nat.sub_self]
        rfl
      · rw [if_neg (fun q => e ((nI_eq (by omega) hi).mp q)), show i - c = (i - (c + 1)) + 1 by omega, List.getElem?_cons_succ]
        dsimp only
        rw [fds_sym hi L (c + 1) (by omega), List.length_cons]
        cases (L.filter (c_symN S))[i - (c + 1)]? with
        | some N => rfl
        | none => dsimp only; congr 1; omega
theorem symR_ref (hS : c_sok S) {i : Nat} (hi : i < 2 ^ 31) (p : Nat) : c_symR S (nI i) p = match (sq S S true 0 (fun i => i))[i]? with
    | some N => (nI (N p), nI 0)
    | none => (nI 0, nI 1) := by
  unfold c_symR
  rw [fds_sym hi (pms S.1) 0 (Nat.zero_le _), Nat.sub_zero, sym_lik, sq_pms hS hS ⟨rfl, rfl⟩ (fun i => i)]
  cases (sq S S true 0 (fun i => i))[i]? with
  | some N => rfl
  | none => rfl
end B9
