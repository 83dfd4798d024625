/-! MATHEMATICS: whether a row is least: the search until beaten -/
section B41
variable {S : Sc}
theorem ext_fn (hS : c_sok S) : ∀ k d Q, d + k = S.1 → pin S.1 d Q → ∃ Q', fn S.1 Q' ∧ ∀ j, j < d → Q' j = Q j := by
  intro k
  induction k with
  | zero =>
    intro d Q hd h
    have e : d = S.1 := by omega
    subst e
    exact ⟨Q, h, fun _ _ => rfl⟩
  | succ k ih =>
    intro d Q hd h
    obtain ⟨p, p1, p2⟩ := ft_some hS (Q := Q) (d := d) (by omega)
    obtain ⟨Q', q1, q2⟩ := ih (d + 1) (z_u Q d p) (by omega) (pin_u h p1 (us_n (ft_i.mp p2).1))
    exact ⟨Q', q1, fun j hj => by rw [q2 j (by omega), u_ne _ _ (by omega)]⟩
def uPre (S : Sc) (Q : Nat → Nat) (d : Nat) (s : lS) : Prop := pin S.1 d Q ∧ rgt S Q d (lP s) ∧ (∀ j, j < d → lB s j = kap S Q j) ∧ s.1 = false
def uPost (S : Sc) (Q : Nat → Nat) (d : Nat) (s s' : lS) : Prop := lB s' = lB s ∧ (∀ j, j < 12 * d + 12 → lP s' j = lP s j) ∧ (s'.1 = true ↔ ∃ Q', fn S.1 Q' ∧ (∀ j, j < d → Q' j = Q j) ∧ lxn S.1 (lB s) (kap S Q'))
theorem fol_u (hS : c_sok S) {Q : Nat → Nat} {d eq t : Nat} (hd : d < S.1) (go : Nat → Bool → lS → lS) (hgo : ∀ Q1 s, uPre S Q1 (d + 1) s → uPost S Q1 (d + 1) s (go (usm Q1 (d + 1)) false s)) (heq : ∀ p, eq.testBit p = true → (p < S.1 ∧ g_ft S (usm Q d) p = true ∧ kc S Q d p = t)) (hpin : pin S.1 d Q) : ∀ r p s, p + r = S.1 → rgt S Q d (lP s) → (∀ j, j < d → lB s j = kap S Q j) → lB s d = t → lB (folV go S true d (usm Q d) eq r p false s) = lB s ∧ (∀ j, j < 12 * d + 12 → lP (folV go S true d (usm Q d) eq r p false s) j = lP s j) ∧ ((folV go S true d (usm Q d) eq r p false s).1 = true ↔ (s.1 = true ∨ ∃ Q', fn S.1 Q' ∧ (∀ j, j < d → Q' j = Q j) ∧ p ≤ Q' d ∧ eq.testBit (Q' d) = true ∧ lxn S.1 (lB s) (kap S Q'))) := by
  intro r
  induction r with
  | zero =>
    intro p s hp h1 h2 h3
    refine ⟨rfl, fun _ _ => rfl, ⟨fun h => Or.inl h, fun h => ?_⟩⟩
    rcases h with h | ⟨Q', q1, q2, q3, q4, q5⟩
    · exact h
    · have := (heq _ q4).1; omega
  | succ r ih =>
    intro p s hp h1 h2 h3
    cases hb : s.1 with
    | true =>
      have ef : folV go S true d (usm Q d) eq (r + 1) p false s = s := by
        show (if s.1 = true ∧ true = true then s else _) = _
        rw [if_pos ⟨hb, rfl⟩]
      rw [ef]
      exact ⟨rfl, fun _ _ => rfl, ⟨fun _ => Or.inl rfl, fun _ => hb⟩⟩
    | false =>
      have ef : folV go S true d (usm Q d) eq (r + 1) p false s = if eq.testBit p then folV go S true d (usm Q d) eq r (p + 1) false (go (usm Q d ||| 2 ^ p) false (s.1, g_ren S p d (lP s), lC s, lE s, lM s, lB s)) else folV go S true d (usm Q d) eq r (p + 1) false s := by
        show (if s.1 = true ∧ true = true then s else _) = _
        rw [if_neg (fun q => by rw [hb] at q; cases q.1)]
      rw [ef]
      by_cases c : eq.testBit p = true
      · rw [if_pos c]
        obtain ⟨c1, c2, c3⟩ := heq p c
        have cu := us_n (ft_i.mp c2).1
        obtain ⟨k1, k2⟩ := kap_u hS (Q := Q) (p := p) hd
        rw [c3] at k2
        have pre : uPre S (z_u Q d p) (d + 1) (s.1, g_ren S p d (lP s), lC s, lE s, lM s, lB s) := by
          refine ⟨pin_u hpin c1 cu, ren_rgt hS h1, fun j hj => ?_, hb⟩
          show lB s j = _
          by_cases e : j = d
          · rw [e, k2]; exact h3
          · rw [k1 j (by omega)]; exact h2 j (by omega)
        obtain ⟨p1, p2, p3⟩ := hgo _ _ pre
        rw [usm_u] at p1 p2 p3
        obtain ⟨s1, es⟩ : ∃ s1, s1 = go (usm Q d ||| 2 ^ p) false (s.1, g_ren S p d (lP s), lC s, lE s, lM s, lB s) := ⟨_, rfl⟩
        rw [← es] at p1 p2 p3 ⊢
        have p1 : lB s1 = lB s := p1
        have p2 : ∀ j, j < 12 * (d + 1) + 12 → lP s1 j = g_ren S p d (lP s) j := p2
        have p3 : s1.1 = true ↔ ∃ Q', fn S.1 Q' ∧ (∀ j, j < d + 1 → Q' j = z_u Q d p j) ∧ lxn S.1 (lB s) (kap S Q') := p3
        have rP : ∀ j, j < 12 * d + 12 → lP s1 j = lP s j := fun j hj => by
          rw [p2 j (by omega)]
          exact ren_out p d (lP s) hS.2.1 hj _
        have rg : rgt S Q d (lP s1) := by
          rcases h1 with z | z
          · exact Or.inl z
          · exact Or.inr fun i hi => by
              have := hS.2.1
              rw [rP _ (by omega)]; exact z i hi
        obtain ⟨f1, f2, f3⟩ := ih (p + 1) s1 (by omega) rg (fun j hj => by rw [p1]; exact h2 j hj) (by rw [p1]; exact h3)
        refine ⟨by rw [f1, p1], fun j hj => by rw [f2 j hj]; exact rP j hj, ?_⟩
        rw [f3, p3, p1]
        constructor
        · rintro (⟨Q', a1, a2, a3⟩ | ⟨Q', a1, a2, a3, a4, a5⟩)
          · have e : Q' d = p := by rw [a2 d (by omega), u_eq]
            exact Or.inr ⟨Q', a1, fun j hj => by rw [a2 j (by omega), u_ne _ _ (by omega)], by omega, by rw [e]; exact c, a3⟩
          · exact Or.inr ⟨Q', a1, a2, by omega, a4, a5⟩
        · rintro (h | ⟨Q', a1, a2, a3, a4, a5⟩)
          · cases h
          · by_cases e : Q' d = p
            · refine Or.inl ⟨Q', a1, fun j hj => ?_, a5⟩
              by_cases e2 : j = d
              · rw [e2, u_eq]; exact e
              · rw [u_ne _ _ e2]; exact a2 j (by omega)
            · exact Or.inr ⟨Q', a1, a2, by omega, a4, a5⟩
      · rw [if_neg c]
        obtain ⟨f1, f2, f3⟩ := ih (p + 1) s (by omega) h1 h2 h3
        refine ⟨f1, f2, ?_⟩
        rw [f3, hb]
        constructor
        · rintro (h | ⟨Q', a1, a2, a3, a4, a5⟩)
          · exact Or.inl h
          · exact Or.inr ⟨Q', a1, a2, by omega, a4, a5⟩
        · rintro (h | ⟨Q', a1, a2, a3, a4, a5⟩)
          · exact Or.inl h
          · refine Or.inr ⟨Q', a1, a2, ?_, a4, a5⟩
            by_cases e : Q' d = p
            · rw [e] at a4; exact absurd a4 c
            · omega
theorem des_u (hS : c_sok S) : ∀ k d, d + k = S.1 → ∀ Q s, uPre S Q d s → uPost S Q d s (g_des S true k d (usm Q d) false s) := by
  have hs := hS.1
  intro k
  induction k with
  | zero =>
    intro d hd Q s ⟨h1, h2, h3, h4⟩
    have ed : d = S.1 := by omega
    subst ed
    show uPost S Q S.1 s (if false = true then (s.1, lP s, g_kbC S (lP s) (lC s), lE s, lM s, g_kbB (lM s) (lB s)) else s)
    rw [if_neg (show ¬ (false = true) by decide)]
    refine ⟨rfl, fun _ _ => rfl, ⟨fun h => (by rw [h4] at h; cases h), fun ⟨Q', q1, q2, l⟩ => ?_⟩⟩
    exfalso
    have e : ∀ j, j < S.1 → kap S Q' j = kap S Q j := fun j hj => kap_cg hS (by omega) (fun i hi => q2 i (by omega))
    have := lxn_cg h3 e l
    exact lxn_as this this
  | succ k ih =>
    intro d hd Q s ⟨h1, h2, h3, h4⟩
    have hd1 : d < S.1 := by omega
    obtain ⟨t1, t2, t3, t4⟩ := top_all hS hd1 h2 (lE s)
    unfold g_des
    obtain ⟨T, eT⟩ : ∃ T, T = g_top S (lP s) (usm Q d) d (lE s) := ⟨_, rfl⟩
    rw [← eT] at t1 t2 t3 t4 ⊢
    obtain ⟨t, eq, E1⟩ := T
    have t1 : ∀ p, p < S.1 → g_ft S (usm Q d) p = true → kc S Q d p ≤ t := t1
    have t2 : ∀ p, eq.testBit p = true ↔ (p < S.1 ∧ g_ft S (usm Q d) p = true ∧ kc S Q d p = t) := t2
    have ext : ∀ Q', fn S.1 Q' → (∀ j, j < d → Q' j = Q j) → ∃ Q'', fn S.1 Q'' ∧ (∀ j, j < d → Q'' j = Q j) ∧ g_ft S (usm Q d) (Q'' d) = true ∧ kap S Q'' d = kc S Q d (Q'' d) ∧ (∀ j, j < d → kap S Q'' j = kap S Q j) ∧ ∀ j, j < S.1 → kap S Q'' j = kap S Q' j := fun Q' q1 q2 => by
      obtain ⟨Q'', a1, a2, a3, a4⟩ := ft_ex hS (Q := Q) hd1 (Q' d) (Q' d) (Nat.le_refl _) Q' q1 q2 rfl
      exact ⟨Q'', a1, a2, a3, kc_cg hS (by omega) a2, fun j hj => kap_cg hS (by omega) (fun i hi => a2 i (by omega)), a4⟩
    by_cases c : t < lB s d
    · rw [if_pos ⟨rfl, c⟩]
      refine ⟨rfl, fun _ _ => rfl, ⟨fun h => (by
        have h : s.1 = true := h
        rw [h4] at h; cases h), fun ⟨Q', q1, q2, l⟩ => ?_⟩⟩
      exfalso
      obtain ⟨Q'', a1, a2, a3, a4, a5, a6⟩ := ext Q' q1 q2
      have l2 : lxn S.1 (lB s) (kap S Q'') := lxn_cg (fun _ _ => rfl) (fun j hj => (a6 j hj).symm) l
      have := t1 _ (a1.1 d hd1) a3
      exact lxn_as l2 ⟨d, hd1, fun j hj => by rw [a5 j hj, h3 j hj], by rw [a4]; omega⟩
    · rw [if_neg (fun q => c q.2)]
      show uPost S Q d s (g_fol (fun us' ah' s' => g_des S true k (d + 1) us' ah' s') S true d (usm Q d) eq t (false || decide (lB s d < t)) (s.1, lP s, lC s, E1, lM s, lB s))
      unfold g_fol
      rw [Bool.false_or]
      by_cases c2 : lB s d < t
      · rw [if_pos ⟨decide_eq_true c2, rfl⟩]
        refine ⟨rfl, fun _ _ => rfl, ⟨fun _ => ?_, fun _ => rfl⟩⟩
        obtain ⟨p, p1, p2⟩ := t4
        obtain ⟨c1, cf, c3⟩ := (t2 p).mp p2
        obtain ⟨k1, k2⟩ := kap_u hS (Q := Q) (p := p) hd1
        obtain ⟨Q', q1, q2⟩ := ext_fn hS k (d + 1) (z_u Q d p) (by omega) (pin_u h1 c1 (us_n (ft_i.mp cf).1))
        refine ⟨Q', q1, fun j hj => by rw [q2 j (by omega), u_ne _ _ (by omega)], ⟨d, hd1, fun j hj => ?_, ?_⟩⟩
        · rw [h3 j hj, ← k1 j hj]
          exact (kap_cg hS (by omega) (fun i hi => q2 i (by omega))).symm
        · have e : kap S Q' d = kap S (z_u Q d p) d := kap_cg hS (by omega) (fun i hi => q2 i (by omega))
          rw [e, k2, c3]
          exact c2
      · rw [if_neg (fun q => c2 (of_decide_eq_true q.1)), decide_eq_false c2]
        have eb : lB s d = t := by omega
        obtain ⟨f1, f2, f3⟩ := fol_u hS (t := t) (eq := eq) hd1 (fun us' ah' s' => g_des S true k (d + 1) us' ah' s') (fun Q1 s => ih (d + 1) (by omega) Q1 s) (fun p hp => (t2 p).mp hp) h1 S.1 0 (s.1, lP s, lC s, E1, z_u (lM s) d t, lB s) (by omega) h2 h3 eb
        refine ⟨f1, f2, ?_⟩
        show (folV (fun us' ah' s' => g_des S true k (d + 1) us' ah' s') S true d (usm Q d) eq S.1 0 false (s.1, lP s, lC s, E1, z_u (lM s) d t, lB s)).1 = true ↔ _
        rw [f3]
        constructor
        · rintro (h | ⟨Q', a1, a2, a3, a4, a5⟩)
          · have h : s.1 = true := h
            rw [h4] at h; cases h
          · exact ⟨Q', a1, a2, a5⟩
        · rintro ⟨Q', q1, q2, l⟩
          obtain ⟨Q'', a1, a2, a3, a4, a5, a6⟩ := ext Q' q1 q2
          have l2 : lxn S.1 (lB s) (kap S Q'') := lxn_cg (fun _ _ => rfl) (fun j hj => (a6 j hj).symm) l
          by_cases e : kc S Q d (Q'' d) = t
          · exact Or.inr ⟨Q'', a1, a2, by omega, (t2 _).mpr ⟨a1.1 d hd1, a3, e⟩, l2⟩
          · exfalso
            have := t1 _ (a1.1 d hd1) a3
            exact lxn_as l2 ⟨d, hd1, fun j hj => by rw [a5 j hj, h3 j hj], by rw [a4]; omega⟩
theorem usm_id : ∀ d, usm (fun j => j) d = 2 ^ d - 1 := fun d => by
  apply Nat.eq_of_testBit_eq
  intro p
  rw [Nat.testBit_two_pow_sub_one]
  apply Bool.eq_iff_iff.mpr
  rw [usm_b, decide_eq_true_iff]
  exact ⟨fun ⟨j, h, e⟩ => by omega, fun h => ⟨p, h, rfl⟩⟩
theorem isl_pre (hS : c_sok S) (s : lS) : ∀ k, k ≤ S.1 → (it (ilS S) s k).1 = s.1 ∧ rgt S (fun j => j) k (lP (it (ilS S) s k)) ∧ ∀ j, j < k → lB (it (ilS S) s k) j = kap S (fun j => j) j := by
  have hs := hS.1.2
  intro k
  induction k with
  | zero => intro _; exact ⟨rfl, Or.inl rfl, fun j hj => absurd hj (Nat.not_lt_zero _)⟩
  | succ k ih =>
    intro hk
    obtain ⟨i1, i2, i3⟩ := ih (by omega)
    rw [it_s]
    obtain ⟨a, ea⟩ : ∃ a, a = it (ilS S) s k := ⟨_, rfl⟩
    rw [← ea] at i1 i2 i3 ⊢
    refine ⟨i1, ?_, fun j hj => ?_⟩
    · have := ren_rgt hS (p := k) i2
      have e : z_u (fun j => j) k k = fun j => j := funext fun j => by
        by_cases c : j = k
        · rw [c, u_eq]
        · rw [u_ne _ _ c]
      rw [e] at this
      exact this
    · show z_u (lB a) k (g_key S (lP a) k (2 ^ k - 1) k (lE a)).1 j = _
      by_cases c : j = k
      · rw [c, u_eq, ← usm_id, key_kc hS (by omega) i2]
        rfl
      · rw [u_ne _ _ c]
        exact i3 j (by omega)
theorem isl_i (hS : c_sok S) (s : lS) (h0 : s.1 = false) : g_isl S s = true ↔ ∀ Q', fn S.1 Q' → ¬ lxn S.1 (kap S (fun j => j)) (kap S Q') := by
  obtain ⟨i1, i2, i3⟩ := isl_pre hS s S.1 (Nat.le_refl _)
  unfold g_isl
  obtain ⟨a, ea⟩ : ∃ a, a = it (ilS S) s S.1 := ⟨_, rfl⟩
  rw [← ea] at i1 i2 i3 ⊢
  have pre : uPre S (fun _ => 0) 0 a := ⟨⟨fun j hj => absurd hj (Nat.not_lt_zero _), fun i j hi => absurd hi (Nat.not_lt_zero _)⟩, Or.inl rfl, fun j hj => absurd hj (Nat.not_lt_zero _), by rw [i1]; exact h0⟩
  obtain ⟨_, _, p3⟩ := des_u hS S.1 0 (by omega) (fun _ => 0) a pre
  have eu : usm (fun _ => 0) 0 = 0 := rfl
  rw [eu] at p3
  have cg : ∀ Q', lxn S.1 (lB a) (kap S Q') ↔ lxn S.1 (kap S (fun j => j)) (kap S Q') := fun Q' => ⟨lxn_cg i3 (fun _ _ => rfl), lxn_cg (fun j hj => (i3 j hj).symm) (fun _ _ => rfl)⟩
  cases hb : (g_des S true S.1 0 0 false a).1 with
  | true =>
    obtain ⟨Q', q1, _, q3⟩ := p3.mp hb
    exact ⟨fun h => (by cases h), fun h => absurd ((cg Q').mp q3) (h Q' q1)⟩
  | false =>
    refine ⟨fun _ Q' q1 l => ?_, fun _ => rfl⟩
    rw [p3.mpr ⟨Q', q1, fun j hj => absurd hj (Nat.not_lt_zero _), (cg Q').mpr l⟩] at hb
    cases hb
end B41
