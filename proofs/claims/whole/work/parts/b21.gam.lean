/-! MATHEMATICS: the game's table, the first move -/
section B21
variable {S : Sc}
/-- the next lesser set within a set -/
theorem sub_nx : ∀ n a t s, a ≤ n → a &&& t = a → s &&& t = s → s < a → s ≤ (a - 1) &&& t := by
  intro n
  induction n with
  | zero => intro a t s h1 _ _ h4; omega
  | succ n ih =>
    intro a t s h1 h2 h3 h4
    have a2 : (a / 2) &&& (t / 2) = a / 2 := by rw [← Nat.and_div_two, h2]
    have s2 : (s / 2) &&& (t / 2) = s / 2 := by rw [← Nat.and_div_two, h3]
    by_cases c : a % 2 = 1
    · -- one less is within
      have d : (a - 1) / 2 = a / 2 := by omega
      have m : (a - 1) % 2 = 0 := by omega
      have e1 : ((a - 1) &&& t) / 2 = a / 2 := by rw [Nat.and_div_two, d, a2]
      have e2 : ((a - 1) &&& t) % 2 = 0 := by
        have : ¬ ((a - 1) &&& t) % 2 = 1 := fun h => by rw [Nat.and_mod_two_eq_one] at h; omega
        omega
      omega
    · have d : (a - 1) / 2 = a / 2 - 1 := by omega
      have m : (a - 1) % 2 = 1 := by omega
      have i := ih (a / 2) (t / 2) (s / 2) (by omega) a2 s2 (by omega)
      have e1 : ((a - 1) &&& t) / 2 = (a / 2 - 1) &&& (t / 2) := by rw [Nat.and_div_two, d]
      have e2 : s % 2 = 1 → ((a - 1) &&& t) % 2 = 1 := fun h => by
        rw [Nat.and_mod_two_eq_one]
        refine ⟨m, ?_⟩
        have : (s &&& t) % 2 = 1 := by rw [h3]; exact h
        exact (Nat.and_mod_two_eq_one.mp this).2
      omega
theorem an_b (t a i : Nat) : (anot t a).testBit i = (t.testBit i && !a.testBit i) := by
  unfold anot
  rw [Nat.testBit_xor, Nat.testBit_and]
  cases t.testBit i <;> cases a.testBit i <;> rfl
theorem an_or {t a : Nat} (h : a &&& t = a) : a ||| anot t a = t := by
  apply Nat.eq_of_testBit_eq
  intro i
  rw [Nat.testBit_or, an_b]
  have := congrArg (fun x => x.testBit i) h
  simp only [Nat.testBit_and] at this
  revert this
  cases a.testBit i <;> cases t.testBit i <;> simp
theorem an_an {t a : Nat} (h : a &&& t = a) : anot t (anot t a) = a := by
  apply Nat.eq_of_testBit_eq
  intro i
  rw [an_b, an_b]
  have := congrArg (fun x => x.testBit i) h
  simp only [Nat.testBit_and] at this
  revert this
  cases a.testBit i <;> cases t.testBit i <;> simp
theorem an_u {t a p : Nat} (h : a &&& t = a) (hp : t.testBit p = false) : anot (t ||| 2 ^ p) (anot t a) = a ||| 2 ^ p ∧ anot t a &&& (t ||| 2 ^ p) = anot t a := by
  constructor
  · apply Nat.eq_of_testBit_eq
    intro i
    rw [an_b, an_b, Nat.testBit_or, Nat.testBit_or, Nat.testBit_two_pow]
    have := congrArg (fun x => x.testBit i) h
    simp only [Nat.testBit_and] at this
    by_cases e : p = i
    · subst e
      rw [hp, decide_eq_true rfl]
      cases a.testBit p <;> rfl
    · rw [decide_eq_false e]
      revert this
      cases a.testBit i <;> cases t.testBit i <;> simp
  · apply Nat.eq_of_testBit_eq
    intro i
    rw [Nat.testBit_and, an_b, Nat.testBit_or]
    cases a.testBit i <;> cases t.testBit i <;> simp
theorem an_lt {t a n : Nat} (h : t < 2 ^ n) : anot t a < 2 ^ n := Nat.xor_lt_two_pow h (Nat.lt_of_le_of_lt Nat.and_le_left h)
/-- the table is right for all that is beyond t -/
def gT (S : Sc) (V : Nat → Int32) (t : Nat) : Prop := ∀ t' a, t ≤ t' → t' < 2 ^ S.1 → a &&& t' = a → V (256 * a + anot t' a) = rW S (S.1 - n_pc t') a (anot t' a)
theorem or_gt {t p : Nat} (hp : t.testBit p = false) : t < t ||| 2 ^ p := by
  have h1 : t ≤ t ||| 2 ^ p := Nat.left_le_or
  have h2 : t ≠ t ||| 2 ^ p := fun e => by
    have := congrArg (fun x => x.testBit p) e
    simp only [Nat.testBit_or, Nat.testBit_two_pow] at this
    rw [hp] at this
    simp at this
  omega
theorem bo_rW (hS : c_sok S) {V : Nat → Int32} {t a : Nat} (hT : gT S V (t + 1)) (ht : t < 2 ^ S.1) (ha : a &&& t = a) : c_bo S V a (anot t a) = rW S (S.1 - n_pc t) a (anot t a) := by
  have n8 := hS.1.2
  have pn := pc_n ht
  have hor := an_or ha
  have mv : ∀ p, p < S.1 → t.testBit p = false → c_mv S V a (anot t a) p = rmv S (rW S (S.1 - n_pc t - 1)) a (anot t a) p := fun p hp hf => by
    unfold c_mv rmv
    by_cases c : (c_has S (a ||| 2 ^ p) && !c_has S a) = true
    · rw [if_pos c, if_pos c]
    · rw [if_neg c, if_neg c]
      obtain ⟨u1, u2⟩ := an_u ha hf
      have lt : t ||| 2 ^ p < 2 ^ S.1 := Nat.or_lt_two_pow ht (Nat.pow_lt_pow_right (by decide) hp)
      have := hT (t ||| 2 ^ p) (anot t a) (or_gt hf) lt u2
      rw [u1] at this
      have pc : n_pc (t ||| 2 ^ p) = n_pc t + 1 := by
        have po := pc_or t (2 ^ p)
        have z : t &&& 2 ^ p = 0 := by
          apply Nat.eq_of_testBit_eq
          intro i
          rw [Nat.testBit_and, Nat.zero_testBit, Nat.testBit_two_pow]
          by_cases e : p = i
          · rw [← e, hf]; rfl
          · rw [decide_eq_false e, Bool.and_false]
        have z0 : n_pc 0 = 0 := by decide
        rw [z, z0, pc_2p (by omega)] at po
        omega
      rw [this, pc, show S.1 - (n_pc t + 1) = S.1 - n_pc t - 1 by omega]
  have eit : ∀ m : Nat → Int32, (∀ p, p < S.1 → t.testBit p = false → c_mv S V a (anot t a) p = m p) → it (c_boF S V a (anot t a)) (-nI 2) S.1 = rmx m (a ||| anot t a) S.1 := fun m hm => by
    unfold rmx
    refine it_congr _ (fun p x hp => ?_)
    unfold c_boF
    rw [hor]
    cases hb : t.testBit p
    · rw [if_neg (show ¬ (false = true) by decide), if_neg (show ¬ (false = true) by decide), hm p hp hb]
    · rw [if_pos rfl, if_pos rfl]
  unfold c_bo
  by_cases c : S.1 - n_pc t = 0
  · -- all are taken
    have full : ∀ p, p < S.1 → t.testBit p = true := fun p hp => by
      cases hb : t.testBit p
      · exfalso
        have lt := sb_lt (x := t) (y := 2 ^ S.1 - 1) (Nat.lt_of_lt_of_le (Nat.sub_lt (Nat.two_pow_pos _) (by decide)) (Nat.pow_le_pow_right (by decide) (by omega))) (fun i hi => by
          rw [Nat.testBit_two_pow_sub_one]
          apply decide_eq_true
          apply Classical.byContradiction
          intro q
          rw [Nat.testBit_lt_two_pow (Nat.lt_of_lt_of_le ht (Nat.pow_le_pow_right (by decide) (by omega)))] at hi
          cases hi) (fun e => by rw [e, Nat.testBit_two_pow_sub_one, decide_eq_true hp] at hb; cases hb)
        have : ∀ n, n < 9 → n_pc (2 ^ n - 1) = n := by decide +kernel
        rw [this S.1 (by omega)] at lt
        omega
      · rfl
    rw [c, eit (fun _ => nI 0) (fun p hp hf => by rw [full p hp] at hf; cases hf), hor]
    rcases rmx_s (m := fun _ => nI 0) (u := t) S.1 (fun p hp hf => by rw [full p hp] at hf; cases hf) with ⟨_, h2⟩ | ⟨q, q1, q2, _⟩
    · rw [h2, if_pos rfl]; rfl
    · rw [full q q1] at q2; cases q2
  · obtain ⟨k, ek⟩ : ∃ k, S.1 - n_pc t = k + 1 := ⟨S.1 - n_pc t - 1, by omega⟩
    have mv' : ∀ p, p < S.1 → t.testBit p = false → c_mv S V a (anot t a) p = rmv S (rW S k) a (anot t a) p := fun p hp hf => by rw [mv p hp hf, ek]; rfl
    rw [eit _ mv', ek]
    rfl
theorem gi_spec (hS : c_sok S) {t : Nat} (ht : t < 2 ^ S.1) : ∀ k a V, a < k → a &&& t = a → gT S V (t + 1) → (∀ s, s &&& t = s → a < s → V (256 * s + anot t s) = rW S (S.1 - n_pc t) s (anot t s)) → gT S (c_gi S t k a V) t := by
  have n8 := hS.1.2
  have t256 : t < 256 := Nat.lt_of_lt_of_le ht (n_p8 n8)
  intro k
  induction k with
  | zero => intro a V h; omega
  | succ k ih =>
    intro a V hk ha hT hs
    have a256 : a < 256 := by
      have : a ≤ t := by rw [← ha]; exact Nat.and_le_right
      omega
    have nl : ∀ t' a', t' < 2 ^ S.1 → anot t' a' < 256 := fun t' a' h => Nat.lt_of_lt_of_le (an_lt h) (n_p8 n8)
    obtain ⟨W, eW⟩ : ∃ W, W = z_u V (256 * a + anot t a) (c_bo S V a (anot t a)) := ⟨_, rfl⟩
    have hW1 : gT S W (t + 1) := fun t' a' h1 h2 h3 => by
      rw [eW, u_ne _ _ (fun e => ?_)]
      · exact hT t' a' h1 h2 h3
      · have b1 := nl t' a' h2
        have b2 := nl t a ht
        have e1 : a' = a := by omega
        have e2 : anot t' a' = anot t a := by omega
        rw [e1] at e2 h3
        have := an_or h3
        rw [e2, an_or ha] at this
        omega
    have hW2 : ∀ s, s &&& t = s → a ≤ s → W (256 * s + anot t s) = rW S (S.1 - n_pc t) s (anot t s) := fun s h1 h2 => by
      rw [eW]
      by_cases e : s = a
      · rw [e, u_eq]; exact bo_rW hS hT ht ha
      · rw [u_ne _ _ (fun q => ?_)]
        · exact hs s h1 (by omega)
        · have b1 := nl t s ht
          have b2 := nl t a ht
          omega
    unfold c_gi
    rw [← eW]
    by_cases c : a = 0
    · rw [if_pos c]
      intro t' a' h1 h2 h3
      by_cases e : t' = t
      · rw [e] at h3 ⊢; exact hW2 a' h3 (by omega)
      · exact hW1 t' a' (by omega) h2 h3
    · rw [if_neg c]
      have lt : (a - 1) &&& t < a := by
        have : (a - 1) &&& t ≤ a - 1 := Nat.and_le_left
        omega
      refine ih ((a - 1) &&& t) W (by omega) (by rw [Nat.and_assoc, Nat.and_self]) hW1 (fun s h1 h2 => ?_)
      by_cases q : a ≤ s
      · exact hW2 s h1 q
      · have := sub_nx a a t s (Nat.le_refl _) ha h1 (by omega)
        omega
theorem gv_spec (hS : c_sok S) (V : Nat → Int32) : gT S (c_gv S V) 0 := by
  have key : ∀ i, i ≤ 2 ^ S.1 → gT S (it (fun i V => c_gi S (2 ^ S.1 - 1 - i) (2 ^ S.1 - i) (2 ^ S.1 - 1 - i) V) V i) (2 ^ S.1 - i) := by
    intro i
    induction i with
    | zero => intro _ t' a h1 h2; omega
    | succ i ih =>
      intro hi
      rw [it_s]
      have := gi_spec hS (t := 2 ^ S.1 - 1 - i) (by omega) (2 ^ S.1 - i) (2 ^ S.1 - 1 - i) _ (by omega) (Nat.and_self _) (by rw [show 2 ^ S.1 - 1 - i + 1 = 2 ^ S.1 - i by omega]; exact ih (by omega)) (fun s h1 h2 => by
        have : s ≤ 2 ^ S.1 - 1 - i := by rw [← h1]; exact Nat.and_le_right
        omega)
      rw [show 2 ^ S.1 - (i + 1) = 2 ^ S.1 - 1 - i by omega]
      exact this
  have := key (2 ^ S.1) (Nat.le_refl _)
  rw [Nat.sub_self] at this
  exact this
/-! the first move -/
theorem gso_s {m : Nat → Int32} (hm : ∀ p, m p = -(gW S (S.1 - 1) 0 (2 ^ p))) : ∀ r p b g, p + r = S.1 → ((p = 0 ∧ b = -nI 2) ∨ (g < p ∧ b = m g ∧ (∀ q, q < p → (m q).toInt ≤ b.toInt) ∧ ∀ q, q < g → m q ≠ b)) → 0 < S.1 → (gSo S r p b g).2 < S.1 ∧ (gSo S r p b g).1 = m (gSo S r p b g).2 ∧ (∀ q, q < S.1 → (m q).toInt ≤ ((gSo S r p b g).1).toInt) ∧ ∀ q, q < (gSo S r p b g).2 → m q ≠ (gSo S r p b g).1 := by
  have wm : ∀ p, w3 (m p) := fun p => by rw [hm]; exact w3_neg (gW_w3 S _ _ _)
  intro r
  induction r with
  | zero =>
    intro p b g hp hI hn
    rcases hI with ⟨h1, _⟩ | ⟨h1, h2, h3, h4⟩
    · omega
    · exact ⟨by show g < S.1; omega, h2, fun q hq => h3 q (by omega), h4⟩
  | succ r ih =>
    intro p b g hp hI hn
    unfold gSo
    rw [← hm p]
    have wp := w3_i (wm p)
    by_cases c : b < nI 1
    · rw [if_pos c]
      by_cases d : b < m p
      · rw [if_pos d]
        have dl := (fa_lt _ _).mp d
        refine ih (p + 1) (m p) p (by omega) (Or.inr ⟨by omega, rfl, fun q hq => ?_, fun q hq e => ?_⟩) hn
        · by_cases e : q = p
          · rw [e]; exact Int.le_refl _
          · rcases hI with ⟨h1, _⟩ | ⟨_, _, h3, _⟩
            · omega
            · have := h3 q (by omega); omega
        · rcases hI with ⟨h1, _⟩ | ⟨_, _, h3, _⟩
          · omega
          · have := h3 q hq; rw [e] at this; omega
      · rw [if_neg d]
        have dl : ¬ b.toInt < (m p).toInt := fun h => d ((fa_lt _ _).mpr h)
        refine ih (p + 1) b g (by omega) ?_ hn
        rcases hI with ⟨h1, h2⟩ | ⟨h1, h2, h3, h4⟩
        · rw [h2, m2_i] at dl; omega
        · refine Or.inr ⟨by omega, h2, fun q hq => ?_, h4⟩
          by_cases e : q = p
          · rw [e]; omega
          · exact h3 q (by omega)
    · rw [if_neg c]
      have cl : ¬ b.toInt < 1 := fun h => c ((fa_lt _ _).mpr (by rw [show (nI 1).toInt = 1 by decide]; exact h))
      rcases hI with ⟨h1, h2⟩ | ⟨h1, h2, h3, h4⟩
      · rw [h2, m2_i] at cl; omega
      · exact ⟨by show g < S.1; omega, h2, fun q hq => by
          have := w3_i (wm q)
          show (m q).toInt ≤ b.toInt
          omega, h4⟩
theorem has_0 (hS : c_sok S) {x : Nat} (hx : n_pc x < 2) : c_has S x = false := by
  unfold c_has
  have key : ∀ k, k ≤ S.2.1 → it (fun l b => b || S.2.2 l &&& x == S.2.2 l) false k = false := by
    intro k
    induction k with
    | zero => intro _; rfl
    | succ k ih =>
      intro hk
      rw [it_s, ih (by omega), Bool.false_or]
      apply Bool.eq_false_iff.mpr
      intro e
      have e := eq_of_beq e
      have h2 := (hS.2.2.1 k (by omega)).2.1
      have : n_pc (S.2.2 k) ≤ n_pc x := sb_pc (fun i hi => by
        have := congrArg (fun z => z.testBit i) e
        simp only [Nat.testBit_and] at this
        rw [hi, Bool.true_and] at this
        exact this)
      omega
  exact key S.2.1 (Nat.le_refl _)
theorem game_eq (hS : c_sok S) (V : Nat → Int32) : (g_so S).1 = c_gv S V 0 ∧ (g_so S).2 = c_gp S (c_gv S V) ∧ c_gp S (c_gv S V) < S.1 := by
  have n1 := hS.1
  have gt := gv_spec hS V
  obtain ⟨m, em⟩ : ∃ m : Nat → Int32, m = fun p => -(gW S (S.1 - 1) 0 (2 ^ p)) := ⟨_, rfl⟩
  have z0 : n_pc 0 = 0 := by decide
  have h0 : c_has S 0 = false := has_0 hS (by rw [z0]; decide)
  have hp1 : ∀ p, p < S.1 → c_has S (2 ^ p) = false := fun p hp => has_0 hS (by rw [pc_2p (by omega)]; decide)
  have mr : ∀ p, p < S.1 → rmv S (rW S (S.1 - 1)) 0 0 p = m p := fun p hp => by
    unfold rmv
    rw [Nat.zero_or, hp1 p hp, Bool.false_and, if_neg (by decide), em]
    show -(rW S (S.1 - 1) 0 (2 ^ p)) = -(gW S (S.1 - 1) 0 (2 ^ p))
    rw [gW_rW hS (S.1 - 1) 0 (2 ^ p) ⟨by rw [Nat.zero_or]; exact Nat.pow_lt_pow_right (by decide) hp, by rw [Nat.zero_or, pc_2p (by omega)]; omega⟩ h0 (hp1 p hp)]
  have mv : ∀ p, p < S.1 → c_mv S (c_gv S V) 0 0 p = m p := fun p hp => by
    rw [← mr p hp]
    unfold c_mv rmv
    rw [Nat.zero_or, hp1 p hp, Bool.false_and, if_neg (by decide), if_neg (by decide)]
    have := gt (2 ^ p) 0 (Nat.zero_le _) (Nat.pow_lt_pow_right (by decide) hp) (Nat.zero_and _)
    have ea : anot (2 ^ p) 0 = 2 ^ p := by unfold anot; rw [Nat.and_zero, Nat.xor_zero]
    rw [ea, pc_2p (by omega)] at this
    rw [this]
  have v0 : c_gv S V 0 = rW S S.1 0 0 := by
    have := gt 0 0 (Nat.le_refl _) (Nat.two_pow_pos _) rfl
    have ea : anot 0 0 = 0 := rfl
    rw [ea, z0, Nat.sub_zero] at this
    exact this
  obtain ⟨k, ek⟩ : ∃ k, S.1 = k + 1 := ⟨S.1 - 1, by omega⟩
  obtain ⟨q, q1, q2, q3, q4⟩ := rW_s (S := S) (k := k) (a := 0) (b := 0) ⟨0, by omega, by rw [Nat.zero_or, Nat.zero_testBit]⟩
  have ek1 : S.1 - 1 = k := by omega
  rw [ek1] at mr
  have v1 : c_gv S V 0 = m q := by rw [v0, ek, q3, mr q q1]
  have mx : ∀ p, p < S.1 → (m p).toInt ≤ (m q).toInt := fun p hp => by
    have := q4 p hp (by rw [Nat.zero_or, Nat.zero_testBit])
    rw [mr p hp, mr q q1] at this
    exact this
  obtain ⟨g1, g2, g3, g4⟩ := gso_s (S := S) (m := m) (fun p => by rw [em]) S.1 0 (-nI 2) 0 (by omega) (Or.inl ⟨rfl, rfl⟩) (by omega)
  have eg : gSo S S.1 0 (-nI 2) 0 = g_so S := rfl
  rw [eg] at g1 g2 g3 g4
  have e1 : (g_so S).1 = c_gv S V 0 := by
    rw [v1]
    apply i_eq
    have a1 := g3 q q1
    have a2 := mx (g_so S).2 g1
    rw [← g2] at a2
    omega
  have e2 : c_gp S (c_gv S V) = (g_so S).2 := by
    unfold c_gp
    refine fa_first_at g1 ?_ (fun i hi => ?_)
    · exact decide_eq_true (by rw [mv _ g1, ← e1]; exact g2.symm)
    · exact decide_eq_false (fun h => g4 i hi (by rw [mv i (by omega), ← e1] at h; exact h))
  exact ⟨e1, e2.symm, by rw [e2]; exact g1⟩
end B21
