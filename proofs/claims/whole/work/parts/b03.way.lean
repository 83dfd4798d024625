/-! MATHEMATICS: ways -/
/-- names of n points among m, each another -/
def inj (N : Nat → Nat) (n m : Nat) : Prop := (∀ i, i < n → N i < m) ∧ ∀ i j, i < n → j < n → N i = N j → i = j
def wy (F T : Sc) (ex : Bool) (N : Nat → Nat) : Prop := inj N F.1 T.1 ∧ ∃ φ : Nat → Nat, (∀ l, l < F.2.1 → φ l < T.2.1 ∧ (∀ i, on F l i → on T (φ l) (N i)) ∧ g_hold F T ex (φ l) l = true) ∧ ∀ l l', l < F.2.1 → l' < F.2.1 → φ l = φ l' → l = l'
/-- schemes as large as each other, where ways are exact -/
def sx (F T : Sc) (ex : Bool) : Prop := ex = true → F.1 = T.1 ∧ F.2.1 = T.2.1
def ti (F T : Sc) (N : Nat → Nat) (p t : Nat) : Prop := ∀ o, t.testBit o = true → ∃ l a b, a < b ∧ b < p ∧ on F l a ∧ on F l b ∧ on T o (N a) ∧ on T o (N b)
def agp (p : Nat) (N M : Nat → Nat) : Prop := ∀ i, i < p → M i = N i
section B3
variable {F T : Sc} {ex : Bool}
theorem hold_x {o l : Nat} (h : g_hold F T true o l = true) : n_pc (T.2.2 o) = n_pc (F.2.2 l) := by
  unfold g_hold at h
  rw [if_pos rfl] at h
  exact of_decide_eq_true h
/-- an exact way takes whole lines -/
theorem wx_iff (hF : c_sok F) (hT : c_sok T) {M φ : Nat → Nat} (hi : inj M F.1 T.1) (hφ : ∀ l, l < F.2.1 → φ l < T.2.1 ∧ (∀ i, on F l i → on T (φ l) (M i)) ∧ g_hold F T true (φ l) l = true) {l : Nat} (hl : l < F.2.1) : ∀ j, on T (φ l) j → ∃ i, on F l i ∧ M i = j := by
  intro j hj
  obtain ⟨h1, h2, h3⟩ := hφ l hl
  have h8 := hT.1.2
  obtain ⟨i, _, e1, e2⟩ := pc_onto (a := F.2.2 l) (b := T.2.2 (φ l)) M (fun i _ hb => ⟨by have := on_8 hT (h2 i hb); omega, h2 i hb⟩) (fun i j _ _ hi' hj' e => hi.2 i j (on_lt hF hi') (on_lt hF hj') e) (by rw [hold_x h3]; exact Nat.le_refl _) j (by have := on_8 hT hj; omega) hj
  exact ⟨i, e1, e2⟩
theorem wx_all (hF : c_sok F) (hT : c_sok T) (hx : F.1 = T.1 ∧ F.2.1 = T.2.1) {M φ : Nat → Nat} (hi : inj M F.1 T.1) (hφ : ∀ l, l < F.2.1 → φ l < T.2.1 ∧ (∀ i, on F l i → on T (φ l) (M i)) ∧ g_hold F T true (φ l) l = true) (hd : ∀ l l', l < F.2.1 → l' < F.2.1 → φ l = φ l' → l = l') {o : Nat} (ho : o < T.2.1) : ∃ l, l < F.2.1 ∧ φ l = o := rg_onto (n := F.2.1) (fun l hl => by rw [hx.2]; exact (hφ l hl).1) (fun l l' h1 h2 => hd l l' h1 h2) o (by rw [hx.2]; exact ho)
theorem wx_deg (hF : c_sok F) (hT : c_sok T) (hx : F.1 = T.1 ∧ F.2.1 = T.2.1) {M : Nat → Nat} (hw : wy F T true M) {p : Nat} (hp : p < F.1) : n_pc (c_on F p) = n_pc (c_on T (M p)) := by
  obtain ⟨hi, φ, hφ, hd⟩ := hw
  have m1 := hF.2.1
  have m2 := hT.2.1
  have bF : ∀ l, (c_on F p).testBit l = true ↔ on F l p := fun l => by
    rw [c_on_bit, Bool.and_eq_true]
    exact ⟨fun h => h.2, fun h => ⟨decide_eq_true (on_m hF h), h⟩⟩
  have bT : ∀ l, (c_on T (M p)).testBit l = true ↔ on T l (M p) := fun l => by
    rw [c_on_bit, Bool.and_eq_true]
    exact ⟨fun h => h.2, fun h => ⟨decide_eq_true (on_m hT h), h⟩⟩
  apply Nat.le_antisymm
  · refine pc_inj φ (fun l _ hb => ?_) (fun l l' _ _ h1 h2 e => hd l l' (on_m hF ((bF l).mp h1)) (on_m hF ((bF l').mp h2)) e)
    have h1 := (bF l).mp hb
    have h2 := hφ l (on_m hF h1)
    exact ⟨by omega, (bT _).mpr (h2.2.1 p h1)⟩
  · have sk : ∀ o, ∃ l, o < T.2.1 → l < F.2.1 ∧ φ l = o := fun o => by
      by_cases ho : o < T.2.1
      · obtain ⟨l, h1, h2⟩ := wx_all hF hT hx hi hφ hd ho
        exact ⟨l, fun _ => ⟨h1, h2⟩⟩
      · exact ⟨0, fun h => absurd h ho⟩
    obtain ⟨ψ, hψ⟩ := Classical.axiomOfChoice sk
    refine pc_inj ψ (fun o _ hb => ?_) (fun o o' _ _ h1 h2 e => ?_)
    · have h1 := (bT o).mp hb
      obtain ⟨h2, h3⟩ := hψ o (on_m hT h1)
      refine ⟨by omega, (bF _).mpr ?_⟩
      obtain ⟨i, h4, h5⟩ := wx_iff hF hT hi hφ h2 (M p) (by rw [h3]; exact h1)
      rw [← hi.2 i p (on_lt hF h4) hp h5]
      exact h4
    · have a1 := (hψ o (on_m hT ((bT o).mp h1))).2
      have a2 := (hψ o' (on_m hT ((bT o').mp h2))).2
      rw [← a1, ← a2, e]
/-- whoever is named as a way does, fits -/
theorem fit_wy (hF : c_sok F) (hT : c_sok T) (hs : sx F T ex) {M N : Nat → Nat} {p t : Nat} (hw : wy F T ex M) (hp : p < F.1) (ha : agp p N M) (ht : ti F T N p t) : ∃ t', g_fit F T ex N p (M p) t = some t' := by
  have hw0 := hw
  obtain ⟨hi, φ, hφ, hd⟩ := hw
  have n8 := hF.1.2
  have ne : ∀ q, q < p → M p ≠ M q := fun q hq e => by have := hi.2 p q hp (by omega) e; omega
  have jo : ∀ l q, q < p → on F l p → on F l q → jn T (M p) (N q) = some (φ l) := fun l q hq h1 h2 => by
    have h3 := hφ l (on_m hF h1)
    rw [← ha q hq]
    exact (jn_s hT).mpr ⟨ne q hq, h3.2.1 p h1, h3.2.1 q h2⟩
  have fo_e : ∀ q o, q < p → fo F T N p (M p) q = some o → ∃ l, on F l p ∧ on F l q ∧ fst1 F l p q ∧ o = φ l := fun q o hq h => by
    unfold fo at h
    cases hj : jn F p q with
    | none => rw [hj] at h; cases h
    | some l =>
      rw [hj] at h
      obtain ⟨_, h1, h2⟩ := (jn_s hF).mp hj
      dsimp only at h
      by_cases c : F.2.2 l &&& (2 ^ p - 1) = 2 ^ q
      · rw [if_pos c, jo l q hq h1 h2] at h
        exact ⟨l, h1, h2, c, (Option.some.inj h).symm⟩
      · rw [if_neg c] at h; cases h
  refine fit_co (fun he => ?_) (fun q hq => ?_) ⟨fun q hq o ho => ?_, fun q q' o hqq hq' h1 h2 => ?_⟩
  · subst he
    exact wx_deg hF hT (hs rfl) hw0 hp
  · unfold pq
    cases hj : jn F p q with
    | none =>
      dsimp only
      intro he
      subst he
      cases hT2 : jn T (M p) (N q) with
      | none => rfl
      | some o =>
        exfalso
        obtain ⟨_, h1, h2⟩ := (jn_s hT).mp hT2
        rw [← ha q hq] at h2
        obtain ⟨l, h3, h4⟩ := wx_all hF hT (hs rfl) hi hφ hd (on_m hT h1)
        rw [← h4] at h1 h2
        obtain ⟨i, i1, i2⟩ := wx_iff hF hT hi hφ h3 _ h1
        obtain ⟨j, j1, j2⟩ := wx_iff hF hT hi hφ h3 _ h2
        have e1 := hi.2 i p (on_lt hF i1) hp i2
        have e2 := hi.2 j q (on_lt hF j1) (by omega) j2
        rw [e1] at i1
        rw [e2] at j1
        rw [(jn_s hF).mpr ⟨by omega, i1, j1⟩] at hj
        cases hj
    | some l =>
      dsimp only
      obtain ⟨_, h1, h2⟩ := (jn_s hF).mp hj
      have h3 := tz_l hF h2
      exact ⟨φ l, jo l q hq h1 h2, (hφ l (on_m hF h1)).2.2, jo l _ (by omega) h1 (tz_o hF (on_m hF h1))⟩
  · obtain ⟨l, h1, h2, h3, h4⟩ := fo_e q o hq ho
    apply Bool.eq_false_iff.mpr
    intro hb
    obtain ⟨l', a, b, hab, hb', c1, c2, c3, c4⟩ := ht o hb
    have hl' := hφ l' (on_m hF c1)
    rw [← ha a (by omega)] at c3
    rw [← ha b hb'] at c4
    have e : o = φ l' := ln_un hT (fun e => by have := hi.2 a b (by omega) (by omega) e; omega) c3 c4 (hl'.2.1 a c1) (hl'.2.1 b c2)
    have el := hd l l' (on_m hF h1) (on_m hF c1) (by rw [← h4]; exact e)
    subst el
    have f := (fst1_i.mp h3).1
    have := (f a (by omega)).mp c1
    have := (f b hb').mp c2
    omega
  · obtain ⟨l, a1, a2, a3, a4⟩ := fo_e q o (by omega) h1
    obtain ⟨l', b1, b2, b3, b4⟩ := fo_e q' o hq' h2
    have el := hd l l' (on_m hF a1) (on_m hF b1) (by rw [← a4]; exact b4)
    subst el
    have := ((fst1_i.mp b3).1 q (by omega)).mp a2
    omega
theorem ti_fit (hF : c_sok F) (hT : c_sok T) {N : Nat → Nat} {p v t t' : Nat} (ht : ti F T N p t) (h : g_fit F T ex N p v t = some t') : ti F T (z_u N p v) (p + 1) t' := by
  obtain ⟨_, _, _, h4⟩ := fit_so h
  intro o ho
  rcases (h4 o).mp ho with c | ⟨q, hq, c⟩
  · obtain ⟨l, a, b, h1, h2, h3, h5, h6, h7⟩ := ht o c
    exact ⟨l, a, b, h1, by omega, h3, h5, by rw [u_ne _ _ (by omega)]; exact h6, by rw [u_ne _ _ (by omega)]; exact h7⟩
  · unfold fo at c
    cases hj : jn F p q with
    | none => rw [hj] at c; cases c
    | some l =>
      rw [hj] at c
      dsimp only at c
      obtain ⟨_, h1, h2⟩ := (jn_s hF).mp hj
      by_cases c3 : F.2.2 l &&& (2 ^ p - 1) = 2 ^ q
      · rw [if_pos c3] at c
        obtain ⟨_, h5, h6⟩ := (jn_s hT).mp c
        exact ⟨l, q, p, hq, by omega, h2, h1, by rw [u_ne _ _ (by omega)]; exact h6, by rw [u_eq]; exact h5⟩
      · rw [if_neg c3] at c; cases c
theorem ti_0 (N : Nat → Nat) (p : Nat) : ti F T N p 0 := fun o h => by rw [Nat.zero_testBit] at h; cases h
/-! names that have fitted make a way -/
def lo (F T : Sc) (N : Nat → Nat) (p l o : Nat) : Prop := ∃ a b, a < b ∧ b < p ∧ on F l a ∧ on F l b ∧ jn T (N b) (N a) = some o
def pw (F T : Sc) (ex : Bool) (N : Nat → Nat) (p t : Nat) : Prop := inj N p T.1 ∧ (∀ b q, q < b → b < p → pq F T ex N b (N b) q) ∧ (ex = false → (∀ l o, lo F T N p l o → t.testBit o = true) ∧ ∀ l l' o, lo F T N p l o → lo F T N p l' o → l = l')
theorem pq_c {N N' : Nat → Nat} {b v q : Nat} (hF : c_sok F) (hq : q < b) (h : ∀ i, i < b → N i = N' i) (hp : pq F T ex N b v q) : pq F T ex N' b v q := by
  unfold pq at hp ⊢
  cases hj : jn F b q with
  | none =>
    rw [hj] at hp
    dsimp only at hp ⊢
    rw [← h q hq]; exact hp
  | some l =>
    rw [hj] at hp
    dsimp only at hp ⊢
    have := tz_l hF ((jn_s hF).mp hj).2.2
    rw [← h q hq, ← h (n_tz (F.2.2 l)) (by omega)]
    exact hp
theorem pq_s {N : Nat → Nat} {b v q l : Nat} (hF : c_sok F) (h : pq F T ex N b v q) (hn : b ≠ q) (h1 : on F l b) (h2 : on F l q) : ∃ o, jn T v (N q) = some o ∧ g_hold F T ex o l = true ∧ jn T v (N (n_tz (F.2.2 l))) = some o := by
  unfold pq at h
  rw [(jn_s hF).mpr ⟨hn, h1, h2⟩] at h
  exact h
theorem lo_u (hF : c_sok F) (hT : c_sok T) {N : Nat → Nat} {p l o o' : Nat} (hi : inj N p T.1) (hq : ∀ b q, q < b → b < p → pq F T ex N b (N b) q) (h1 : lo F T N p l o) (h2 : lo F T N p l o') : o = o' := by
  -- the line of the first point and another
  have key : ∀ a b o, a < b → b < p → on F l a → on F l b → jn T (N b) (N a) = some o → n_tz (F.2.2 l) < b ∧ jn T (N b) (N (n_tz (F.2.2 l))) = some o := fun a b o h1 h2 h3 h4 h5 => by
    have := tz_l hF h3
    obtain ⟨o1, e1, _, e2⟩ := pq_s hF (hq b a h1 h2) (by omega) h4 h3
    rw [h5] at e1
    cases e1
    exact ⟨by omega, e2⟩
  have both : ∀ b b' o o', b < b' → b' < p → on F l b → on F l b' → n_tz (F.2.2 l) < b → jn T (N b) (N (n_tz (F.2.2 l))) = some o → jn T (N b') (N (n_tz (F.2.2 l))) = some o' → o = o' := fun b b' o o' h1 h2 h3 h4 h5 h6 h7 => by
    obtain ⟨o1, e1, _, e2⟩ := pq_s hF (hq b' b h1 h2) (by omega) h4 h3
    rw [h7] at e2
    cases e2
    obtain ⟨_, a1, a2⟩ := (jn_s hT).mp h6
    obtain ⟨_, c1, c2⟩ := (jn_s hT).mp h7
    obtain ⟨_, d1, d2⟩ := (jn_s hT).mp e1
    exact ln_un hT (fun e => by have := hi.2 b (n_tz (F.2.2 l)) (by omega) (by omega) e; omega) a1 a2 d2 c2
  obtain ⟨a, b, h3, h4, h5, h6, h7⟩ := h1
  obtain ⟨a', b', g3, g4, g5, g6, g7⟩ := h2
  obtain ⟨k1, k2⟩ := key a b o h3 h4 h5 h6 h7
  obtain ⟨j1, j2⟩ := key a' b' o' g3 g4 g5 g6 g7
  rcases Nat.lt_trichotomy b b' with c | c | c
  · exact both b b' o o' c g4 h6 g6 k1 k2 j2
  · subst c
    rw [k2] at j2
    exact Option.some.inj j2
  · exact (both b' b o' o c h4 g6 h6 j1 j2 k2).symm
theorem pw_0 (N : Nat → Nat) (t : Nat) : pw F T ex N 0 t := ⟨⟨fun i hi => absurd hi (Nat.not_lt_zero _), fun i j hi => absurd hi (Nat.not_lt_zero _)⟩, fun b q _ hb => absurd hb (Nat.not_lt_zero _), fun _ => ⟨fun l o h => by obtain ⟨a, b, _, h2, _⟩ := h; exact absurd h2 (Nat.not_lt_zero _), fun l l' o h => by obtain ⟨a, b, _, h2, _⟩ := h; exact absurd h2 (Nat.not_lt_zero _)⟩⟩
theorem pw_fit (hF : c_sok F) (hT : c_sok T) {N : Nat → Nat} {p v t t' : Nat} (hw : pw F T ex N p t) (hv : v < T.1) (hu : ∀ q, q < p → N q ≠ v) (h : g_fit F T ex N p v t = some t') : pw F T ex (z_u N p v) (p + 1) t' := by
  obtain ⟨h1, h2, h3⟩ := hw
  obtain ⟨_, g2, ⟨g3, g4⟩, g5⟩ := fit_so h
  have un : ∀ i, i < p → N i = z_u N p v i := fun i hi => (u_ne _ _ (by omega)).symm
  have hi' : inj (z_u N p v) (p + 1) T.1 := by
    refine ⟨fun i hi => ?_, fun i j hi hj e => ?_⟩
    · by_cases e : i = p
      · rw [e, u_eq]; exact hv
      · rw [u_ne _ _ e]; exact h1.1 i (by omega)
    · by_cases ei : i = p
      · by_cases ej : j = p
        · omega
        · rw [ei, u_eq, u_ne _ _ ej] at e; exact absurd e.symm (hu j (by omega))
      · by_cases ej : j = p
        · rw [ej, u_eq, u_ne _ _ ei] at e; exact absurd e (hu i (by omega))
        · rw [u_ne _ _ ei, u_ne _ _ ej] at e; exact h1.2 i j (by omega) (by omega) e
  have hq' : ∀ b q, q < b → b < p + 1 → pq F T ex (z_u N p v) b (z_u N p v b) q := fun b q hqb hb => by
    by_cases e : b = p
    · subst e
      rw [u_eq]
      exact pq_c hF hqb un (g2 q hqb)
    · rw [u_ne _ _ e]
      exact pq_c hF hqb (fun i hi => un i (by omega)) (h2 b q hqb (by omega))
  refine ⟨hi', hq', fun he => ?_⟩
  obtain ⟨i1, i2⟩ := h3 he
  have old : ∀ l a b, a < b → b < p → ∀ o, on F l a → on F l b → jn T (z_u N p v b) (z_u N p v a) = some o → lo F T N p l o := fun l a b hab hb o o1 o2 e => ⟨a, b, hab, hb, o1, o2, by rw [un a (by omega), un b hb]; exact e⟩
  have split : ∀ l o, lo F T (z_u N p v) (p + 1) l o → lo F T N p l o ∨ ∃ a, a < p ∧ on F l a ∧ on F l p ∧ fo F T N p v a = some o := fun l o hl => by
    have hl0 := hl
    obtain ⟨a, b, hab, hb, o1, o2, e⟩ := hl
    by_cases eb : b = p
    · subst eb
      by_cases c : ∃ a' b', a' < b' ∧ b' < b ∧ on F l a' ∧ on F l b'
      · obtain ⟨a', b', c1, c2, c3, c4⟩ := c
        left
        obtain ⟨o', e1, _, _⟩ := pq_s hF (hq' b' a' c1 (by omega)) (by omega) c4 c3
        have : o = o' := lo_u hF hT hi' hq' hl0 ⟨a', b', c1, by omega, c3, c4, e1⟩
        rw [this]
        exact old l a' b' c1 c2 o' c3 c4 e1
      · right
        refine ⟨a, hab, o1, o2, ?_⟩
        have f1 : fst1 F l b a := fst1_i.mpr ⟨fun i hi => ⟨fun oi => ?_, fun ei => by rw [ei]; exact o1⟩, hab, o1⟩
        · unfold fo
          rw [(jn_s hF).mpr ⟨by omega, o2, o1⟩]
          dsimp only
          rw [if_pos (show F.2.2 l &&& (2 ^ b - 1) = 2 ^ a from f1), un a hab]
          rw [u_eq] at e
          exact e
        · apply Classical.byContradiction
          intro n
          rcases Nat.lt_or_gt_of_ne n with d | d
          · exact c ⟨i, a, d, hab, oi, o1⟩
          · exact c ⟨a, i, d, hi, o1, oi⟩
    · exact Or.inl (old l a b hab (by omega) o o1 o2 e)
  refine ⟨fun l o hl => ?_, fun l l' o hl hl' => ?_⟩
  · rcases split l o hl with c | ⟨a, c1, c2, c3, c4⟩
    · exact (g5 o).mpr (Or.inl (i1 l o c))
    · exact (g5 o).mpr (Or.inr ⟨a, c1, c4⟩)
  · rcases split l o hl with c | ⟨a, c1, c2, c3, c4⟩
    · rcases split l' o hl' with d | ⟨a', d1, d2, d3, d4⟩
      · exact i2 l l' o c d
      · have := g3 a' d1 o d4
        rw [i1 l o c] at this
        cases this
    · rcases split l' o hl' with d | ⟨a', d1, d2, d3, d4⟩
      · have := g3 a c1 o c4
        rw [i1 l' o d] at this
        cases this
      · rcases Nat.lt_trichotomy a a' with q | q | q
        · exact absurd d4 (g4 a a' o q d1 c4)
        · subst q
          exact ln_un hF (by omega) c2 c3 d2 d3
        · exact absurd c4 (g4 a' a o q c1 d4)
theorem pw_end (hF : c_sok F) (hT : c_sok T) {N : Nat → Nat} {t : Nat} (hw : pw F T ex N F.1 t) : wy F T ex N := by
  obtain ⟨h1, h2, h3⟩ := hw
  have sk : ∀ l, ∃ o, l < F.2.1 → lo F T N F.1 l o := fun l => by
    by_cases hl : l < F.2.1
    · obtain ⟨a, b, hab, o1, o2⟩ := ln_two hF hl
      obtain ⟨o, e, _, _⟩ := pq_s hF (h2 b a hab (on_lt hF o2)) (by omega) o2 o1
      exact ⟨o, fun _ => ⟨a, b, hab, on_lt hF o2, o1, o2, e⟩⟩
    · exact ⟨0, fun h => absurd h hl⟩
  obtain ⟨φ, hφ⟩ := Classical.axiomOfChoice sk
  have pr : ∀ l a b, a < b → on F l a → on F l b → jn T (N b) (N a) = some (φ l) ∧ g_hold F T ex (φ l) l = true := fun l a b hab o1 o2 => by
    obtain ⟨o, e, e2, _⟩ := pq_s hF (h2 b a hab (on_lt hF o2)) (by omega) o2 o1
    have : φ l = o := lo_u hF hT h1 h2 (hφ l (on_m hF o1)) ⟨a, b, hab, on_lt hF o2, o1, o2, e⟩
    rw [this]
    exact ⟨e, e2⟩
  have main : ∀ l, l < F.2.1 → φ l < T.2.1 ∧ (∀ i, on F l i → on T (φ l) (N i)) ∧ g_hold F T ex (φ l) l = true := fun l hl => by
    obtain ⟨a, b, hab, o1, o2⟩ := ln_two hF hl
    obtain ⟨e1, e2⟩ := pr l a b hab o1 o2
    obtain ⟨_, j1, j2⟩ := (jn_s hT).mp e1
    refine ⟨on_m hT j1, fun i hi => ?_, e2⟩
    by_cases c : i = a
    · rw [c]; exact j2
    · rcases Nat.lt_or_gt_of_ne c with d | d
      · exact ((jn_s hT).mp (pr l i a d hi o1).1).2.2
      · exact ((jn_s hT).mp (pr l a i d o1 hi).1).2.1
  refine ⟨h1, φ, main, fun l l' hl hl' e => ?_⟩
  cases ex with
  | false =>
    obtain ⟨_, i2⟩ := h3 rfl
    exact i2 l l' (φ l) (hφ l hl) (by rw [e]; exact hφ l' hl')
  | true =>
    obtain ⟨a, b, hab, o1, o2⟩ := ln_two hF hl
    have m1 := main l hl
    obtain ⟨a', x1, x2⟩ := wx_iff hF hT h1 main hl' (N a) (by rw [← e]; exact m1.2.1 a o1)
    obtain ⟨b', y1, y2⟩ := wx_iff hF hT h1 main hl' (N b) (by rw [← e]; exact m1.2.1 b o2)
    have ea := h1.2 a' a (on_lt hF x1) (on_lt hF o1) x2
    have eb := h1.2 b' b (on_lt hF y1) (on_lt hF o2) y2
    rw [ea] at x1
    rw [eb] at y1
    exact ln_un hF (by omega) o1 o2 x1 y1
end B3
