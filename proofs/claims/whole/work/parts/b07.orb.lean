/-! MATHEMATICS: orders and orbits -/
def okO (O : Nat → Nat) : Prop := ∀ i, i < 8 → O i ≤ i ∧ O (O i) = O i
section B7
variable {S : Sc}
theorem uni_lo (O : Nat → Nat) (p q : Nat) : (if O q < O p then O q else O p) = min (O p) (O q) ∧ (if O p < O q then O q else O p) = max (O p) (O q) := by
  constructor
  · split <;> omega
  · split <;> omega
theorem uni_v (O : Nat → Nat) (p q i : Nat) : g_uni O p q i = if i < 8 ∧ O i = max (O p) (O q) then min (O p) (O q) else O i := by
  unfold g_uni
  rw [(uni_lo O p q).1, (uni_lo O p q).2]
theorem uni_ok {O : Nat → Nat} {p q : Nat} (hp : p < 8) (hq : q < 8) (h : okO O) : okO (g_uni O p q) := by
  intro i hi
  obtain ⟨h1, h2⟩ := h i hi
  obtain ⟨p1, p2⟩ := h p hp
  obtain ⟨q1, q2⟩ := h q hq
  rw [uni_v O p q i]
  by_cases c : i < 8 ∧ O i = max (O p) (O q)
  · rw [if_pos c]
    refine ⟨by omega, ?_⟩
    rw [uni_v]
    have e : O (min (O p) (O q)) = min (O p) (O q) := by
      rcases Nat.le_total (O p) (O q) with d | d
      · rw [show min (O p) (O q) = O p by omega]; exact p2
      · rw [show min (O p) (O q) = O q by omega]; exact q2
    rw [e]
    split
    · rfl
    · rfl
  · rw [if_neg c]
    refine ⟨h1, ?_⟩
    rw [uni_v, h2, if_neg (fun d => c ⟨hi, d.2⟩)]
theorem uni_mo {O : Nat → Nat} {p q i j : Nat} (hi : i < 8) (hj : j < 8) (e : O i = O j) : g_uni O p q i = g_uni O p q j := by
  rw [uni_v, uni_v, e]
  by_cases c : O j = max (O p) (O q)
  · rw [if_pos ⟨hi, c⟩, if_pos ⟨hj, c⟩]
  · rw [if_neg (fun d => c d.2), if_neg (fun d => c d.2)]
theorem uni_pq {O : Nat → Nat} {p q : Nat} (hp : p < 8) (hq : q < 8) : g_uni O p q p = g_uni O p q q := by
  rw [uni_v, uni_v]
  split
  · split
    · rfl
    · omega
  · split
    · omega
    · omega
/-- what a symmetry makes of a point -/
def rl (S : Sc) (i j : Nat) : Prop := ∃ M, wy S S true M ∧ M i = j
theorem rl_id (i : Nat) : rl S i i := ⟨_, wy_id S, rfl⟩
theorem rl_tr {i j k : Nat} (h1 : rl S i j) (h2 : rl S j k) : rl S i k := by
  obtain ⟨M, a1, a2⟩ := h1
  obtain ⟨M', b1, b2⟩ := h2
  exact ⟨_, wy_comp a1 b1, by show M' (M i) = k; rw [a2, b2]⟩
theorem rl_sy (hS : c_sok S) {i j : Nat} (hi : i < S.1) (h : rl S i j) : rl S j i := by
  obtain ⟨M, a1, a2⟩ := h
  obtain ⟨σ, s1, s2, _⟩ := wy_inv hS hS ⟨rfl, rfl⟩ a1
  exact ⟨σ, s1, by rw [← a2]; exact s2 i hi⟩
theorem rl_lt {i j : Nat} (hi : i < S.1) (h : rl S i j) : j < S.1 := by
  obtain ⟨M, a1, a2⟩ := h
  rw [← a2]; exact a1.1.1 i hi
/-- the orbits' row, as far as it is found -/
def oR (S : Sc) (O : Nat → Nat) : Prop := okO O ∧ (∀ i, i < S.1 → rl S i (O i)) ∧ ∀ i, S.1 ≤ i → i < 8 → O i = i
def moO (S : Sc) (O O' : Nat → Nat) : Prop := ∀ i j, i < S.1 → j < S.1 → O i = O j → O' i = O' j
theorem oR_uni (hS : c_sok S) {O : Nat → Nat} {p q : Nat} (hp : p < S.1) (hq : q < S.1) (h : oR S O) (hr : rl S p q) : oR S (g_uni O p q) ∧ moO S O (g_uni O p q) ∧ g_uni O p q p = g_uni O p q q := by
  obtain ⟨h1, h2, h3⟩ := h
  have n8 := hS.1.2
  refine ⟨⟨uni_ok (by omega) (by omega) h1, fun i hi => ?_, fun i hi h8 => ?_⟩, fun i j hi hj e => uni_mo (by omega) (by omega) e, uni_pq (by omega) (by omega)⟩
  · rw [uni_v]
    by_cases c : i < 8 ∧ O i = max (O p) (O q)
    · rw [if_pos c]
      have rp := h2 p hp
      have rq := h2 q hq
      have ri := h2 i hi
      rw [c.2] at ri
      have hb : rl S (O p) (O q) := rl_tr (rl_sy hS hp rp) (rl_tr hr rq)
      rcases Nat.le_total (O p) (O q) with d | d
      · rw [show max (O p) (O q) = O q by omega] at ri
        rw [show min (O p) (O q) = O p by omega]
        exact rl_tr ri (rl_sy hS (rl_lt hp rp) hb)
      · rw [show max (O p) (O q) = O p by omega] at ri
        rw [show min (O p) (O q) = O q by omega]
        exact rl_tr ri hb
    · rw [if_neg c]; exact h2 i hi
  · rw [uni_v, if_neg]
    · exact h3 i hi h8
    · intro c
      have a1 := (h1 p (by omega)).1
      have a2 := (h1 q (by omega)).1
      have := h3 i hi h8
      omega
theorem moO_t {O O' O'' : Nat → Nat} (h1 : moO S O O') (h2 : moO S O' O'') : moO S O O'' := fun i j hi hj e => h2 i j hi hj (h1 i j hi hj e)
theorem oR_unN (hS : c_sok S) {N O : Nat → Nat} (hN : wy S S true N) (h : oR S O) : oR S (g_unN S N O) ∧ moO S O (g_unN S N O) ∧ ∀ i, i < S.1 → g_unN S N O (N i) = g_unN S N O i := by
  unfold g_unN
  have key : ∀ k, k ≤ S.1 → oR S (it (fun p O => g_uni O p (N p)) O k) ∧ moO S O (it (fun p O => g_uni O p (N p)) O k) ∧ ∀ i, i < k → it (fun p O => g_uni O p (N p)) O k (N i) = it (fun p O => g_uni O p (N p)) O k i := by
    intro k
    induction k with
    | zero => intro _; exact ⟨h, fun i j _ _ e => e, fun i hi => absurd hi (Nat.not_lt_zero _)⟩
    | succ k ih =>
      intro hk
      obtain ⟨i1, i2, i3⟩ := ih (by omega)
      rw [it_s]
      obtain ⟨u1, u2, u3⟩ := oR_uni hS (p := k) (q := N k) (by omega) (hN.1.1 k (by omega)) i1 ⟨N, hN, rfl⟩
      refine ⟨u1, moO_t i2 u2, fun i hi => ?_⟩
      by_cases e : i = k
      · rw [e]; exact u3.symm
      · exact u2 _ _ (hN.1.1 i (by omega)) (by omega) (i3 i (by omega))
  exact key S.1 (Nat.le_refl _)
/-- a symmetry for each place of p -/
def rep (S : Sc) (O : Nat → Nat) (p w : Nat) : Prop := ∃ r, wy S S true r ∧ agp p (fun i => i) r ∧ r p = w ∧ ∀ i, i < S.1 → O (r i) = O i
theorem rep_mo {O O' : Nat → Nat} {p w : Nat} (hm : moO S O O') (h : rep S O p w) : rep S O' p w := by
  obtain ⟨r, h1, h2, h3, h4⟩ := h
  exact ⟨r, h1, h2, h3, fun i hi => hm _ _ (h1.1.1 i hi) hi (h4 i hi)⟩
theorem pw_id (hS : c_sok S) {N : Nat → Nat} {p t : Nat} (hp : p ≤ S.1) (hN : ∀ i, i < p → N i = i) : pw S S true N p t := by
  refine pw_c hS (N := fun i => i) (fun i hi => (hN i hi).symm) ⟨⟨fun i hi => Nat.lt_of_lt_of_le hi hp, fun i j _ _ e => e⟩, fun b q hq hb => ?_, fun h => by cases h⟩
  obtain ⟨t', ht⟩ := fit_wy (ex := true) hS hS (fun _ => ⟨rfl, rfl⟩) (wy_id S) (p := b) (N := fun i => i) (t := 0) (by omega) (fun _ _ => rfl) (ti_0 _ _)
  exact (fit_so ht).2.1 q hq
theorem pw_t {F T : Sc} {N : Nat → Nat} {p t t' : Nat} (h : pw F T true N p t) : pw F T true N p t' := ⟨h.1, h.2.1, fun e => by cases e⟩
theorem usd_id {N : Nat → Nat} {p : Nat} (hN : ∀ i, i < p → N i = i) (w : Nat) : (2 ^ p - 1).testBit w = usd N p w := by
  rw [Nat.testBit_two_pow_sub_one]
  apply Bool.eq_iff_iff.mpr
  rw [decide_eq_true_iff, usd_t]
  exact ⟨fun h => ⟨w, h, hN w h⟩, fun ⟨q, h1, h2⟩ => by rw [hN q h1] at h2; omega⟩
theorem mov_spec (hS : c_sok S) {p : Nat} (hp : p < S.1) {O0 : Nat → Nat} : ∀ r v m N O, v + r = S.1 → p < v → (∀ i, i < p → N i = i) → oR S O → moO S O0 O → (∀ w, p < w → w < v → mvb S p w = true → rep S O p w) → (movV (fun u N => g_fin S S true (S.1 - (p + 1)) (p + 1) u 0 N) S S true p r v m N O).1 = m + (List.range' v r).countP (mvb S p) ∧ (∀ i, i < p → (movV (fun u N => g_fin S S true (S.1 - (p + 1)) (p + 1) u 0 N) S S true p r v m N O).2.1 i = i) ∧ oR S (movV (fun u N => g_fin S S true (S.1 - (p + 1)) (p + 1) u 0 N) S S true p r v m N O).2.2 ∧ moO S O0 (movV (fun u N => g_fin S S true (S.1 - (p + 1)) (p + 1) u 0 N) S S true p r v m N O).2.2 ∧ ∀ w, p < w → w < S.1 → mvb S p w = true → rep S (movV (fun u N => g_fin S S true (S.1 - (p + 1)) (p + 1) u 0 N) S S true p r v m N O).2.2 p w := by
  intro r
  induction r with
  | zero =>
    intro v m N O hv hpv hN hO hm hr
    exact ⟨rfl, hN, hO, hm, fun w h1 h2 h3 => hr w h1 (by omega) h3⟩
  | succ r ih =>
    intro v m N O hv hpv hN hO hm hr
    have hvS : v < S.1 := by omega
    have ext : ∀ O', moO S O O' → (mvb S p v = true → rep S O' p v) → ∀ w, p < w → w < v + 1 → mvb S p w = true → rep S O' p w := fun O' h1 h2 w h3 h4 h5 => by
      by_cases e : w = v
      · rw [e] at h5 ⊢; exact h2 h5
      · exact rep_mo h1 (hr w h3 (by omega) h5)
    rw [List.range'_succ, List.countP_cons]
    unfold movV
    cases ht : (g_twT S p).testBit v
    · rw [if_neg (by decide)]
      cases hf : g_fit S S true N p v 0 with
      | none =>
        dsimp only
        have hno : mvb S p v = false := by
          apply Bool.eq_false_iff.mpr
          intro h
          obtain ⟨M, h1, h2, h3⟩ := mvb_t.mp h
          obtain ⟨t', e⟩ := fit_wy (ex := true) hS hS (fun _ => ⟨rfl, rfl⟩) h1 (p := p) (N := N) (t := 0) hp (fun i hi => by rw [hN i hi]; exact h2 i hi) (ti_0 _ _)
          rw [h3, hf] at e
          cases e
        have := ih (v + 1) m N O (by omega) (by omega) hN hO hm (ext O (fun _ _ _ _ e => e) (fun h => by rw [hno] at h; cases h))
        rw [hno, if_neg (by decide), Nat.add_zero]
        exact this
      | some t' =>
        dsimp only
        have hun : ∀ q, q < p → N q ≠ v := fun q hq => by rw [hN q hq]; omega
        have sp := fin_spec (ex := true) hS hS (fun _ => ⟨rfl, rfl⟩) (S.1 - (p + 1)) (p + 1) ((2 ^ p - 1) ||| 2 ^ v) 0 (z_u N p v) (by omega) (pw_t (pw_fit hS hS (pw_id hS (t := 0) (by omega) hN) hvS hun hf)) (ti_0 _ _) (us_s (fun w _ => usd_id hN w))
        obtain ⟨s1, s2, s3⟩ := sp
        have hN' : ∀ i, i < p → (g_fin S S true (S.1 - (p + 1)) (p + 1) ((2 ^ p - 1) ||| 2 ^ v) 0 (z_u N p v)).2 i = i := fun i hi => by
          rw [s1 i (by omega), u_ne _ _ (by omega)]; exact hN i hi
        cases hg : (g_fin S S true (S.1 - (p + 1)) (p + 1) ((2 ^ p - 1) ||| 2 ^ v) 0 (z_u N p v)).1
        · rw [if_neg (by decide)]
          have hno : mvb S p v = false := by
            apply Bool.eq_false_iff.mpr
            intro h
            obtain ⟨M, h1, h2, h3⟩ := mvb_t.mp h
            refine s3 hg M h1 (fun i hi => ?_)
            by_cases e : i = p
            · rw [e, u_eq]; exact h3
            · rw [u_ne _ _ e, hN i (by omega)]; exact h2 i (by omega)
          have := ih (v + 1) m _ O (by omega) (by omega) hN' hO hm (ext O (fun _ _ _ _ e => e) (fun h => by rw [hno] at h; cases h))
          rw [hno, if_neg (by decide), Nat.add_zero]
          exact this
        · rw [if_pos rfl]
          obtain ⟨w1, _⟩ := s2 hg
          obtain ⟨u1, u2, u3⟩ := oR_unN hS w1 hO
          have ep : (g_fin S S true (S.1 - (p + 1)) (p + 1) ((2 ^ p - 1) ||| 2 ^ v) 0 (z_u N p v)).2 p = v := by rw [s1 p (by omega), u_eq]
          have hyes : mvb S p v = true := mvb_t.mpr ⟨_, w1, hN', ep⟩
          have := ih (v + 1) (m + 1) _ _ (by omega) (by omega) hN' u1 (moO_t hm u2) (ext _ u2 (fun _ => ⟨_, w1, hN', ep, u3⟩))
          rw [hyes, if_pos rfl]
          refine ⟨by rw [this.1]; omega, this.2⟩
    · rw [if_pos rfl]
      obtain ⟨t1, t2, t3, t4⟩ := (twT_iff hS p v).mp ht
      have tp : trs p v p = v := by unfold trs; rw [if_pos rfl]
      have tl : ∀ i, i < p → trs p v i = i := fun i hi => by unfold trs; rw [if_neg (by omega), if_neg (by omega)]
      obtain ⟨u1, u2, u3⟩ := oR_uni hS t1 t2 hO ⟨_, t4, tp⟩
      have hyes : mvb S p v = true := mvb_t.mpr ⟨_, t4, tl, tp⟩
      have := ih (v + 1) (m + 1) N _ (by omega) (by omega) hN u1 (moO_t hm u2) (ext _ u2 (fun _ => ⟨_, t4, tl, tp, fun i _ => by
        unfold trs
        by_cases e1 : i = p
        · rw [if_pos e1, e1]; exact u3.symm
        · rw [if_neg e1]
          by_cases e2 : i = v
          · rw [if_pos e2, e2]; exact u3
          · rw [if_neg e2]⟩))
      rw [hyes, if_pos rfl]
      refine ⟨by rw [this.1]; omega, this.2⟩
/-- all symmetries that leave the points below p stay in the row's classes -/
def cmp (S : Sc) (O : Nat → Nat) (p : Nat) : Prop := ∀ M, wy S S true M → agp p (fun i => i) M → ∀ i, i < S.1 → O (M i) = O i
theorem mov_cmp (hS : c_sok S) {p : Nat} (hp : p < S.1) {O : Nat → Nat} (h1 : cmp S O (p + 1)) (h2 : ∀ w, p < w → w < S.1 → mvb S p w = true → rep S O p w) : cmp S O p := by
  intro M hM ha i hi
  have hge : p ≤ M p := by
    apply Classical.byContradiction
    intro n
    have := hM.1.2 (M p) p (by omega) hp (ha (M p) (by omega))
    omega
  by_cases e : M p = p
  · exact h1 M hM (fun j hj => by
      by_cases ej : j = p
      · rw [ej]; exact e
      · exact ha j (by omega)) i hi
  · obtain ⟨r, r1, r2, r3, r4⟩ := h2 (M p) (by omega) (hM.1.1 p hp) (mvb_t.mpr ⟨M, hM, ha, rfl⟩)
    obtain ⟨σ, s1, s2, s3⟩ := wy_inv hS hS ⟨rfl, rfl⟩ r1
    have hc := wy_comp hM s1
    have := h1 _ hc (fun j hj => by
      show σ (M j) = j
      by_cases ej : j = p
      · rw [ej, ← r3]; exact s2 p hp
      · rw [ha j (by omega)]
        have := s2 j (by omega)
        rw [r2 j (by omega)] at this
        exact this) i hi
    have h3 : O (σ (M i)) = O i := this
    rw [← h3, ← r4 (σ (M i)) (s1.1.1 _ (hM.1.1 i hi)), s3 (M i) (hM.1.1 i hi)]
/-- the orders and the orbits -/
noncomputable def ordS (S : Sc) (p : Nat) : Nat := if p < S.1 then (sq S S true p (fun i => i)).length else 1
theorem ord_s (hS : c_sok S) {p : Nat} (hp : p < S.1) : ordS S p = (1 + (List.range' (p + 1) (S.1 - (p + 1))).countP (mvb S p)) * ordS S (p + 1) := by
  have e1 : ordS S (p + 1) = (sq S S true (p + 1) (fun i => i)).length := by
    unfold ordS
    by_cases c : p + 1 < S.1
    · rw [if_pos c]
    · rw [if_neg c, show p + 1 = S.1 by omega, sq_n hS]
  have e2 : ordS S p = (sq S S true p (fun i => i)).length := if_pos hp
  rw [e1, e2, sq_orb hS hp]
  congr 1
  have e3 : List.range S.1 = List.range p ++ p :: List.range' (p + 1) (S.1 - (p + 1)) := by
    rw [List.range_eq_range', List.range_eq_range']
    have : S.1 = p + (1 + (S.1 - (p + 1))) := by omega
    rw [show List.range' 0 S.1 = List.range' 0 (p + (1 + (S.1 - (p + 1)))) by rw [← this], List.range'_append_1.symm]
    congr 1
    rw [Nat.zero_add, show 1 + (S.1 - (p + 1)) = (S.1 - (p + 1)) + 1 by omega, List.range'_succ]
  rw [e3, List.countP_append, List.countP_cons]
  have z : (List.range p).countP (mvb S p) = 0 := by
    rw [List.countP_eq_zero]
    intro v hv h
    obtain ⟨M, h1, h2, h3⟩ := mvb_t.mp h
    have hv := List.mem_range.mp hv
    have := h1.1.2 v p (by omega) hp (by rw [h2 v hv, h3])
    omega
  have o : mvb S p p = true := mvb_t.mpr ⟨_, wy_id S, fun _ _ => rfl, rfl⟩
  rw [z, o, if_pos rfl]
  omega
theorem mea_spec (hS : c_sok S) : ∀ k W N O, k ≤ S.1 → (∀ p, k ≤ p → p < 9 → W p = ordS S p) → oR S O → cmp S O k → (∀ p, p < 9 → (meaR S k W N O).1 p = ordS S p) ∧ oR S (meaR S k W N O).2.2 ∧ cmp S (meaR S k W N O).2.2 0 := by
  intro k
  induction k with
  | zero => intro W N O _ hW hO hC; exact ⟨fun p hp => hW p (Nat.zero_le _) hp, hO, hC⟩
  | succ k ih =>
    intro W N O hk hW hO hC
    have n8 := hS.1.2
    have hkS : k < S.1 := by omega
    obtain ⟨m1, _, m3, m4, m5⟩ := mov_spec hS hkS (O0 := O) (S.1 - (k + 1)) (k + 1) 1 (idN k N) O (by omega) (by omega) (fun i hi => if_pos hi) hO (fun _ _ _ _ e => e) (fun w h1 h2 => by omega)
    have em : g_mov S S true k N O = movV (fun u N => g_fin S S true (S.1 - (k + 1)) (k + 1) u 0 N) S S true k (S.1 - (k + 1)) (k + 1) 1 (idN k N) O := rfl
    rw [← em] at m1 m3 m4 m5
    unfold meaR
    refine ih _ _ _ (by omega) (fun p hp h9 => ?_) m3 (mov_cmp hS hkS (fun M hM ha i hi => m4 _ _ (hM.1.1 i hi) hi (hC M hM ha i hi)) m5)
    by_cases e : p = k
    · rw [e, u_eq, m1, hW (k + 1) (by omega) (by omega), Nat.mul_comm, ← ord_s hS hkS]
    · rw [u_ne _ _ e]; exact hW p (by omega) h9
theorem oR_id (hS : c_sok S) {O : Nat → Nat} (h : ∀ i, i < 8 → O i = i) : oR S O := ⟨fun i hi => by rw [h i hi]; exact ⟨Nat.le_refl _, h i hi⟩, fun i hi => by rw [h i (by have := hS.1.2; omega)]; exact rl_id i, fun i _ h8 => h i h8⟩
/-- the orders are the reference's numbers, the orbits have their least points told -/
theorem mea_ord (hS : c_sok S) {N O : Nat → Nat} (hO : ∀ i, i < 8 → O i = i) : (∀ p, p < 9 → (meaR S S.1 W0n N O).1 p = ordS S p) ∧ (∀ i, S.1 ≤ i → i < 8 → (meaR S S.1 W0n N O).2.2 i = i) ∧ ∀ i, i < S.1 → rl S i ((meaR S S.1 W0n N O).2.2 i) ∧ ∀ j, rl S i j → (meaR S S.1 W0n N O).2.2 i ≤ j := by
  have n8 := hS.1.2
  obtain ⟨h1, h2, h3⟩ := mea_spec hS S.1 W0n N O (Nat.le_refl _) (fun p hp h9 => by
    unfold W0n ordS
    rw [if_pos h9, if_neg (by omega)]) (oR_id hS hO) (fun M hM ha i hi => by rw [ha i hi])
  refine ⟨h1, h2.2.2, fun i hi => ⟨h2.2.1 i hi, fun j hj => ?_⟩⟩
  obtain ⟨M, a1, a2⟩ := hj
  have := h3 M a1 (fun q hq => absurd hq (Nat.not_lt_zero _)) i hi
  rw [a2] at this
  rw [← this]
  exact (h2.1 j (by have := a1.1.1 i hi; omega)).1
end B7
