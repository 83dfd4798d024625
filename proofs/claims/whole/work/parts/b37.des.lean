/-! MATHEMATICS: the search finds the best keys -/
section B37
variable {S : Sc}
def bOK (S : Sc) (C B : Nat → Nat) : Prop := (∀ i, i < 8 → B i = 0) ∨ ∃ Q, fn S.1 Q ∧ (∀ j, j < S.1 → B j = kap S Q j) ∧ ∀ i, i < S.2.1 → C i = par S Q S.1 i
def pin (n d : Nat) (Q : Nat → Nat) : Prop := (∀ j, j < d → Q j < n) ∧ ∀ i j, i < d → j < d → Q i = Q j → i = j
/-- what holds before a search at a depth -/
def dPre (S : Sc) (Q : Nat → Nat) (d : Nat) (ah : Bool) (s : lS) : Prop := pin S.1 d Q ∧ rgt S Q d (lP s) ∧ (∀ j, j < d → lM s j = kap S Q j) ∧ bOK S (lC s) (lB s) ∧ (ah = true → lxn d (lB s) (kap S Q)) ∧ (ah = false → ∀ j, j < d → lB s j = kap S Q j)
/-- and behind it -/
def dPost (S : Sc) (Q : Nat → Nat) (d : Nat) (s s' : lS) : Prop := bOK S (lC s') (lB s') ∧ (∀ Q', fn S.1 Q' → (∀ j, j < d → Q' j = Q j) → ¬ lxn S.1 (lB s') (kap S Q')) ∧ ble S.1 (lB s) (lB s') ∧ (∀ j, j < d → lB s' j = kap S Q j) ∧ (∀ j, j < 12 * d + 12 → lP s' j = lP s j) ∧ ∀ j, j < d → lM s' j = lM s j
theorem kap_u (hS : c_sok S) {Q : Nat → Nat} {d p : Nat} (hd : d < S.1) : (∀ j, j < d → kap S (z_u Q d p) j = kap S Q j) ∧ kap S (z_u Q d p) d = kc S Q d p := by
  have hs := hS.1.2
  constructor
  · intro j hj
    exact kap_cg hS (by omega) (fun i hi => u_ne _ _ (by omega))
  · unfold kap
    rw [u_eq]
    exact kc_cg hS (by omega) (fun i hi => u_ne _ _ (by omega))
theorem pin_u {n d p : Nat} {Q : Nat → Nat} (h : pin n d Q) (hp : p < n) (hu : ∀ j, j < d → Q j ≠ p) : pin n (d + 1) (z_u Q d p) := by
  refine ⟨fun j hj => ?_, fun i j hi hj e => ?_⟩
  · by_cases c : j = d
    · rw [c, u_eq]; exact hp
    · rw [u_ne _ _ c]; exact h.1 j (by omega)
  · by_cases c : i = d
    · by_cases c' : j = d
      · omega
      · rw [c, u_eq, u_ne _ _ c'] at e
        exact absurd e.symm (hu j (by omega))
    · by_cases c' : j = d
      · rw [c', u_eq, u_ne _ _ c] at e
        exact absurd e (hu i (by omega))
      · rw [u_ne _ _ c, u_ne _ _ c'] at e
        exact h.2 i j (by omega) (by omega) e
theorem fol_ok (hS : c_sok S) {Q : Nat → Nat} {d eq t : Nat} (hd : d < S.1) (go : Nat → Bool → lS → lS) (hgo : ∀ Q1 ah s, dPre S Q1 (d + 1) ah s → dPost S Q1 (d + 1) s (go (usm Q1 (d + 1)) ah s)) (heq : ∀ p, eq.testBit p = true → (p < S.1 ∧ g_ft S (usm Q d) p = true ∧ kc S Q d p = t)) (hpin : pin S.1 d Q) : ∀ r p ah s, p + r = S.1 → rgt S Q d (lP s) → (∀ j, j < d → lM s j = kap S Q j) → lM s d = t → bOK S (lC s) (lB s) → (ah = true → lxn (d + 1) (lB s) (fun j => if j < d then kap S Q j else t)) → (ah = false → (∀ j, j < d → lB s j = kap S Q j) ∧ lB s d = t) → bOK S (lC (folV go S false d (usm Q d) eq r p ah s)) (lB (folV go S false d (usm Q d) eq r p ah s)) ∧ (∀ Q', fn S.1 Q' → (∀ j, j < d → Q' j = Q j) → p ≤ Q' d → eq.testBit (Q' d) = true → ¬ lxn S.1 (lB (folV go S false d (usm Q d) eq r p ah s)) (kap S Q')) ∧ ble S.1 (lB s) (lB (folV go S false d (usm Q d) eq r p ah s)) ∧ ((ah = false ∨ ∃ p', p ≤ p' ∧ eq.testBit p' = true) → (∀ j, j < d → lB (folV go S false d (usm Q d) eq r p ah s) j = kap S Q j) ∧ lB (folV go S false d (usm Q d) eq r p ah s) d = t) ∧ (∀ j, j < 12 * d + 12 → lP (folV go S false d (usm Q d) eq r p ah s) j = lP s j) ∧ ∀ j, j < d + 1 → lM (folV go S false d (usm Q d) eq r p ah s) j = lM s j := by
  intro r
  induction r with
  | zero =>
    intro p ah s hp h1 h2 h3 h4 h5 h6
    refine ⟨h4, fun Q' q1 _ q3 q4 => ?_, Or.inl fun _ _ => rfl, fun c => ?_, fun _ _ => rfl, fun _ _ => rfl⟩
    · have := (heq _ q4).1; omega
    · rcases c with c | ⟨p', c1, c2⟩
      · exact h6 c
      · have := (heq _ c2).1; omega
  | succ r ih =>
    intro p ah s hp h1 h2 h3 h4 h5 h6
    have ef : folV go S false d (usm Q d) eq (r + 1) p ah s = if eq.testBit p then folV go S false d (usm Q d) eq r (p + 1) false (go (usm Q d ||| 2 ^ p) ah (s.1, g_ren S p d (lP s), lC s, lE s, lM s, lB s)) else folV go S false d (usm Q d) eq r (p + 1) ah s := by
      show (if s.1 = true ∧ false = true then s else _) = _
      rw [if_neg (fun q => by cases q.2)]
    rw [ef]
    by_cases c : eq.testBit p = true
    · rw [if_pos c]
      obtain ⟨c1, c2, c3⟩ := heq p c
      have cu := us_n (ft_i.mp c2).1
      obtain ⟨k1, k2⟩ := kap_u hS (Q := Q) (p := p) hd
      rw [c3] at k2
      have pre : dPre S (z_u Q d p) (d + 1) ah (s.1, g_ren S p d (lP s), lC s, lE s, lM s, lB s) := by
        refine ⟨pin_u hpin c1 cu, ren_rgt hS h1, fun j hj => ?_, h4, fun a => ?_, fun a j hj => ?_⟩
        · show lM s j = _
          by_cases e : j = d
          · rw [e, h3, k2]
          · rw [h2 j (by omega), k1 j (by omega)]
        · refine lxn_cg (fun _ _ => rfl) (fun j hj => ?_) (h5 a)
          by_cases e : j < d
          · rw [k1 j e]; exact if_pos e
          · rw [show j = d by omega, k2]; exact if_neg (by omega)
        · show lB s j = _
          by_cases e : j = d
          · rw [e, k2]; exact (h6 a).2
          · rw [k1 j (by omega)]; exact (h6 a).1 j (by omega)
      obtain ⟨p1, p2, p3, p4, p5, p6⟩ := hgo _ _ _ pre
      rw [usm_u] at p1 p2 p3 p4 p5 p6
      obtain ⟨s1, es⟩ : ∃ s1, s1 = go (usm Q d ||| 2 ^ p) ah (s.1, g_ren S p d (lP s), lC s, lE s, lM s, lB s) := ⟨_, rfl⟩
      rw [← es] at p1 p2 p3 p4 p5 p6 ⊢
      have p3 : ble S.1 (lB s) (lB s1) := p3
      have p5 : ∀ j, j < 12 * (d + 1) + 12 → lP s1 j = g_ren S p d (lP s) j := p5
      have p6 : ∀ j, j < d + 1 → lM s1 j = lM s j := p6
      have rP : ∀ j, j < 12 * d + 12 → lP s1 j = lP s j := fun j hj => by
        rw [p5 j (by omega)]
        exact ren_out p d (lP s) hS.2.1 hj _
      have b1 : ∀ j, j < d → lB s1 j = kap S Q j := fun j hj => by rw [p4 j (by omega), k1 j hj]
      have b2 : lB s1 d = t := by rw [p4 d (by omega), k2]
      have rg : rgt S Q d (lP s1) := by
        rcases h1 with z | z
        · exact Or.inl z
        · exact Or.inr fun i hi => by
            have := hS.2.1
            rw [rP _ (by omega)]; exact z i hi
      obtain ⟨f1, f2, f3, f4, f5, f6⟩ := ih (p + 1) false s1 (by omega) rg (fun j hj => by rw [p6 j (by omega)]; exact h2 j hj) (by rw [p6 d (by omega)]; exact h3) p1 (fun a => by cases a) (fun _ => ⟨b1, b2⟩)
      refine ⟨f1, fun Q' q1 q2 q3 q4 => ?_, ble_tr p3 f3, fun _ => f4 (Or.inl rfl), fun j hj => by rw [f5 j hj]; exact rP j hj, fun j hj => by rw [f6 j hj]; exact p6 j hj⟩
      by_cases e : Q' d = p
      · refine ble_n f3 (p2 Q' q1 (fun j hj => ?_))
        by_cases e2 : j = d
        · rw [e2, u_eq]; exact e
        · rw [u_ne _ _ e2]; exact q2 j (by omega)
      · exact f2 Q' q1 q2 (by omega) q4
    · rw [if_neg c]
      obtain ⟨f1, f2, f3, f4, f5, f6⟩ := ih (p + 1) ah s (by omega) h1 h2 h3 h4 h5 h6
      refine ⟨f1, fun Q' q1 q2 q3 q4 => f2 Q' q1 q2 (by
        by_cases e : Q' d = p
        · rw [e] at q4; exact absurd q4 c
        · omega) q4, f3, fun z => f4 (by
        rcases z with z | ⟨p', z1, z2⟩
        · exact Or.inl z
        · refine Or.inr ⟨p', ?_, z2⟩
          by_cases e : p' = p
          · rw [e] at z2; exact absurd z2 c
          · omega), f5, f6⟩
theorem des_ok (hS : c_sok S) : ∀ k d, d + k = S.1 → ∀ Q ah s, dPre S Q d ah s → dPost S Q d s (g_des S false k d (usm Q d) ah s) := by
  have hs := hS.1
  intro k
  induction k with
  | zero =>
    intro d hd Q ah s ⟨h1, h2, h3, h4, h5, h6⟩
    have ed : d = S.1 := by omega
    subst ed
    show dPost S Q S.1 s (if ah then (s.1, lP s, g_kbC S (lP s) (lC s), lE s, lM s, g_kbB (lM s) (lB s)) else s)
    cases ah with
    | true =>
      rw [if_pos rfl]
      have eB : ∀ j, j < S.1 → g_kbB (lM s) (lB s) j = kap S Q j := fun j hj => by
        rw [← h3 j hj]
        unfold g_kbB va_cpy
        rw [if_pos ⟨by omega, by omega⟩]
        congr 1
        omega
      have eC : ∀ i, i < S.2.1 → g_kbC S (lP s) (lC s) i = par S Q S.1 i := fun i hi => by
        have := hS.2.1
        unfold g_kbC va_cpy
        rw [if_pos ⟨by omega, by omega⟩]
        rcases h2 with z | z
        · omega
        · rw [← z i hi]
          congr 1
      refine ⟨Or.inr ⟨Q, h1, eB, eC⟩, fun Q' q1 q2 l => ?_, Or.inr ?_, eB, fun _ _ => rfl, fun _ _ => rfl⟩
      · have e : ∀ j, j < S.1 → kap S Q' j = kap S Q j := fun j hj => kap_cg hS (by omega) (fun i hi => q2 i (by omega))
        have := lxn_cg eB e l
        exact lxn_as this this
      · exact lxn_cg (fun _ _ => rfl) (fun j hj => (eB j hj).symm) (h5 rfl)
    | false =>
      rw [if_neg (show ¬ (false = true) by decide)]
      refine ⟨h4, fun Q' q1 q2 l => ?_, Or.inl fun _ _ => rfl, h6 rfl, fun _ _ => rfl, fun _ _ => rfl⟩
      have e : ∀ j, j < S.1 → kap S Q' j = kap S Q j := fun j hj => kap_cg hS (by omega) (fun i hi => q2 i (by omega))
      have := lxn_cg (h6 rfl) e l
      exact lxn_as this this
  | succ k ih =>
    intro d hd Q ah s ⟨h1, h2, h3, h4, h5, h6⟩
    have hd1 : d < S.1 := by omega
    obtain ⟨t1, t2, t3, t4⟩ := top_all hS hd1 h2 (lE s)
    unfold g_des
    obtain ⟨T, eT⟩ : ∃ T, T = g_top S (lP s) (usm Q d) d (lE s) := ⟨_, rfl⟩
    rw [← eT] at t1 t2 t3 t4 ⊢
    obtain ⟨t, eq, E1⟩ := T
    have t1 : ∀ p, p < S.1 → g_ft S (usm Q d) p = true → kc S Q d p ≤ t := t1
    have t2 : ∀ p, eq.testBit p = true ↔ (p < S.1 ∧ g_ft S (usm Q d) p = true ∧ kc S Q d p = t) := t2
    -- what a naming has at this depth
    have ext : ∀ Q', fn S.1 Q' → (∀ j, j < d → Q' j = Q j) → ∃ Q'', fn S.1 Q'' ∧ (∀ j, j < d → Q'' j = Q j) ∧ g_ft S (usm Q d) (Q'' d) = true ∧ kap S Q'' d = kc S Q d (Q'' d) ∧ (∀ j, j < d → kap S Q'' j = kap S Q j) ∧ ∀ j, j < S.1 → kap S Q'' j = kap S Q' j := fun Q' q1 q2 => by
      obtain ⟨Q'', a1, a2, a3, a4⟩ := ft_ex hS (Q := Q) hd1 (Q' d) (Q' d) (Nat.le_refl _) Q' q1 q2 rfl
      exact ⟨Q'', a1, a2, a3, kc_cg hS (by omega) a2, fun j hj => kap_cg hS (by omega) (fun i hi => a2 i (by omega)), a4⟩
    by_cases c : ah = false ∧ t < lB s d
    · rw [if_pos c]
      have hb := h6 c.1
      refine ⟨h4, fun Q' q1 q2 l => ?_, Or.inl fun _ _ => rfl, hb, fun _ _ => rfl, fun _ _ => rfl⟩
      obtain ⟨Q'', a1, a2, a3, a4, a5, a6⟩ := ext Q' q1 q2
      have l2 : lxn S.1 (lB s) (kap S Q'') := lxn_cg (fun _ _ => rfl) (fun j hj => (a6 j hj).symm) l
      have := t1 _ (a1.1 d hd1) a3
      exact lxn_as l2 ⟨d, hd1, fun j hj => by rw [a5 j hj, hb j hj], by rw [a4]; omega⟩
    · rw [if_neg c]
      show dPost S Q d s (g_fol (fun us' ah' s' => g_des S false k (d + 1) us' ah' s') S false d (usm Q d) eq t (ah || decide (lB s d < t)) (s.1, lP s, lC s, E1, lM s, lB s))
      unfold g_fol
      rw [if_neg (fun q => by cases q.2)]
      obtain ⟨f1, f2, f3, f4, f5, f6⟩ := fol_ok hS (t := t) (eq := eq) hd1 (fun us' ah' s' => g_des S false k (d + 1) us' ah' s') (fun Q1 a s => ih (d + 1) (by omega) Q1 a s) (fun p hp => (t2 p).mp hp) h1 S.1 0 (ah || decide (lB s d < t)) (s.1, lP s, lC s, E1, z_u (lM s) d t, lB s) (by omega) h2 (fun j hj => by
        show z_u (lM s) d t j = _
        rw [u_ne _ _ (by omega)]; exact h3 j hj) (u_eq _ _ _) h4 (fun a => by
        show lxn (d + 1) (lB s) _
        cases e : ah with
        | true =>
          obtain ⟨i, i1, i2, i3⟩ := h5 e
          exact ⟨i, by omega, fun j hj => by rw [i2 j hj]; exact (if_pos (by omega)).symm, by
            show lB s i < if i < d then kap S Q i else t
            rw [if_pos i1]; exact i3⟩
        | false =>
          rw [e, Bool.false_or] at a
          have a := of_decide_eq_true a
          exact ⟨d, by omega, fun j hj => by rw [h6 e j hj]; exact (if_pos hj).symm, by
            show lB s d < if d < d then kap S Q d else t
            rw [if_neg (by omega)]; exact a⟩) (fun a => by
        rw [Bool.or_eq_false_iff] at a
        have := of_decide_eq_false a.2
        refine ⟨h6 a.1, ?_⟩
        show lB s d = t
        have : ¬ t < lB s d := fun q => c ⟨a.1, q⟩
        omega)
      obtain ⟨s1, es⟩ : ∃ s1, s1 = folV (fun us' ah' s' => g_des S false k (d + 1) us' ah' s') S false d (usm Q d) eq S.1 0 (ah || decide (lB s d < t)) (s.1, lP s, lC s, E1, z_u (lM s) d t, lB s) := ⟨_, rfl⟩
      rw [← es] at f1 f2 f3 f4 f5 f6
      show dPost S Q d s (folV (fun us' ah' s' => g_des S false k (d + 1) us' ah' s') S false d (usm Q d) eq S.1 0 (ah || decide (lB s d < t)) (s.1, lP s, lC s, E1, z_u (lM s) d t, lB s))
      rw [← es]
      obtain ⟨p0, p1, p2⟩ := t4
      obtain ⟨g1, g2⟩ := f4 (Or.inr ⟨p0, by omega, p2⟩)
      refine ⟨f1, fun Q' q1 q2 l => ?_, f3, g1, f5, fun j hj => by
        rw [f6 j (by omega)]
        exact u_ne _ _ (by omega)⟩
      obtain ⟨Q'', a1, a2, a3, a4, a5, a6⟩ := ext Q' q1 q2
      have l2 : lxn S.1 (lB s1) (kap S Q'') := lxn_cg (fun _ _ => rfl) (fun j hj => (a6 j hj).symm) l
      by_cases e : kc S Q d (Q'' d) = t
      · exact f2 Q'' a1 a2 (by omega) ((t2 _).mpr ⟨a1.1 d hd1, a3, e⟩) l2
      · have := t1 _ (a1.1 d hd1) a3
        exact lxn_as l2 ⟨d, hd1, fun j hj => by rw [a5 j hj, g1 j hj], by rw [a4, g2]; omega⟩
/-- the least row: the best of all namings -/
theorem des_best (hS : c_sok S) {P C E M B : Nat → Nat} (hB : ∀ i, i < 8 → B i = 0) : ∃ Q, fn S.1 Q ∧ (∀ i, i < S.2.1 → lC (g_des S false S.1 0 0 false (false, P, C, E, M, B)) i = par S Q S.1 i) ∧ ∀ Q', fn S.1 Q' → ¬ lxn S.1 (kap S Q) (kap S Q') := by
  have hs := hS.1
  have pre : dPre S (fun _ => 0) 0 false (false, P, C, E, M, B) := ⟨⟨fun j hj => absurd hj (Nat.not_lt_zero _), fun i j hi => absurd hi (Nat.not_lt_zero _)⟩, Or.inl rfl, fun j hj => absurd hj (Nat.not_lt_zero _), Or.inl hB, fun a => (by cases a), fun _ j hj => absurd hj (Nat.not_lt_zero _)⟩
  obtain ⟨p1, p2, _, _, _, _⟩ := des_ok hS S.1 0 (by omega) (fun _ => 0) false _ pre
  have eu : usm (fun _ => 0) 0 = 0 := rfl
  rw [eu] at p1 p2
  rcases p1 with z | ⟨Q, q1, q2, q3⟩
  · exfalso
    refine p2 (fun j => j) ⟨fun _ h => h, fun _ _ _ _ e => e⟩ (fun j hj => absurd hj (Nat.not_lt_zero _)) ⟨0, by omega, fun j hj => absurd hj (Nat.not_lt_zero _), ?_⟩
    rw [z 0 (by omega)]
    exact kc_pos hS _ (by omega) _
  · exact ⟨Q, q1, q3, fun Q' h l => p2 Q' h (fun j hj => absurd hj (Nat.not_lt_zero _)) (lxn_cg (fun j hj => (q2 j hj).symm) (fun _ _ => rfl) l)⟩
end B37
