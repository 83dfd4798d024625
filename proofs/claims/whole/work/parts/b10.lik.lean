/-! MATHEMATICS: likeness, dualities, polarities -/
section B10
variable {F T U S : Sc}
theorem sq_r {p : Nat} {N : Nat → Nat} (hU : c_sok U) (hF : c_sok F) (hx : U.1 = F.1 ∧ U.2.1 = F.2.1) {σ : Nat → Nat} (hσ : wy U F true σ) : (sq F T true 0 N).length ≤ (sq U T true 0 N).length := by
  refine nd_le (fun M => nrm U.1 (fun i => M (σ i))) (sq_nd 0 N) (fun M hM => ?_) (fun M M' hM hM' e => ?_)
  · obtain ⟨h1, h2, h3⟩ := (sq_mem (Nat.zero_le _)).mp hM
    exact (sq_mem (Nat.zero_le _)).mpr ⟨wy_c hU (fun i hi => (if_pos hi).symm) (wy_comp hσ h1), fun i hi => absurd hi (Nat.not_lt_zero _), fun i hi => if_neg (by omega)⟩
  · obtain ⟨h1, h2, h3⟩ := (sq_mem (Nat.zero_le _)).mp hM
    obtain ⟨g1, g2, g3⟩ := (sq_mem (Nat.zero_le _)).mp hM'
    funext j
    by_cases c : j < F.1
    · obtain ⟨i, i1, i2⟩ := rg_onto (n := U.1) (f := σ) (fun i hi => by rw [hx.1]; exact hσ.1.1 i hi) hσ.1.2 j (by rw [hx.1]; exact c)
      have := congrFun e i
      unfold nrm at this
      rw [if_pos i1, if_pos i1] at this
      have this : M (σ i) = M' (σ i) := this
      rw [i2] at this
      exact this
    · rw [h3 j (by omega), g3 j (by omega)]
theorem fold_cnt {α : Type} (P : α → Bool) : ∀ (L : List α) c, L.foldl (fun c N => c + (P N).toNat) c = c + (L.filter P).length
  | [], c => rfl
  | a :: L, c => by
    rw [List.foldl_cons, fold_cnt P L, List.filter_cons]
    cases P a
    · rw [if_neg (by decide)]; rfl
    · rw [if_pos rfl, List.length_cons]
      show c + 1 + _ = _
      omega
theorem pw0 {ex : Bool} (N : Nat → Nat) : pw F T ex N 0 0 := pw_0 N 0
theorem us0 (N : Nat → Nat) (m : Nat) : ∀ v, v < m → (0 : Nat).testBit v = usd N 0 v := fun v _ => by rw [Nat.zero_testBit]; rfl
/-- how often a scheme is another one -/
theorem like_ref (hF : c_sok F) (hT : c_sok T) (N : Nat → Nat) : c_likes T F = if F.1 = T.1 ∧ F.2.1 = T.2.1 then (if (g_fin F T true F.1 0 0 0 N).1 then ordS T 0 else 0) else 0 := by
  unfold c_likes
  by_cases hx : F.1 = T.1 ∧ F.2.1 = T.2.1
  · rw [if_pos hx, if_pos hx]
    have e : (pms T.1).foldl (fun c N => c_likG T F N c) 0 = (sq F T true 0 N).length := by
      rw [← sq_pms hF hT hx N]
      have := fold_cnt (fun M => c_likN T F M) (pms T.1) 0
      rw [Nat.zero_add] at this
      exact this
    rw [e]
    obtain ⟨_, s2, s3⟩ := fin_spec (ex := true) hF hT (fun _ => hx) F.1 0 0 0 N (by omega) (pw0 N) (ti_0 _ _) (us0 N T.1)
    cases hg : (g_fin F T true F.1 0 0 0 N).1
    · rw [if_neg (by decide)]
      apply List.length_eq_zero_iff.mpr
      apply List.eq_nil_iff_forall_not_mem.mpr
      intro M hM
      obtain ⟨h1, h2, _⟩ := (sq_mem (Nat.zero_le _)).mp hM
      exact s3 hg M h1 h2
    · rw [if_pos rfl]
      obtain ⟨w, _⟩ := s2 hg
      obtain ⟨σ, t1, _, _⟩ := wy_inv hF hT hx w
      rw [ord_sq hT (Nat.zero_le _), sq_c (F := T) (N' := N) (fun i hi => absurd hi (Nat.not_lt_zero _))]
      apply Nat.le_antisymm
      · exact sq_r (p := 0) hT hF ⟨hx.1.symm, hx.2.symm⟩ t1
      · exact sq_r (p := 0) hF hT hx w
  · rw [if_neg hx, if_neg hx]
/-! the dual -/
theorem td_full (hS : c_sok S) {t : Nat × (Nat → Nat)} (ht : c_td S = some t) (e : t.1 = S.1) : ∀ p, p < S.1 → t.2 p = c_on S p ∧ 2 ≤ n_pc (c_on S p) ∧ n_pc (c_on S p) ≤ 4 := by
  unfold c_td at ht
  by_cases c : S.2.1 = 0 ∨ 8 < S.2.1
  · rw [if_pos c] at ht; cases ht
  · rw [if_neg c] at ht
    cases hi : its (c_tdF S) (0, fun _ => 0) S.1 with
    | inr v => rw [hi] at ht; cases ht
    | inl a =>
      rw [hi] at ht
      cases ht
      obtain ⟨g, g1, g2⟩ := td_inv S.1 (Nat.le_refl _) t hi
      have ge : ∀ i, i < t.1 → i ≤ g i := by
        intro i
        induction i with
        | zero => intro _; exact Nat.zero_le _
        | succ i ih => intro h; have := ih (by omega); have := g1 i (i + 1) (by omega) h; omega
      have le : ∀ k i, i + k + 1 = t.1 → g i ≤ i := by
        intro k
        induction k with
        | zero => intro i h; have := (g2 i (by omega)).1; omega
        | succ k ih => intro i h; have := ih (i + 1) (by omega); have := g1 i (i + 1) (by omega) (by omega); omega
      intro p hp
      have h := g2 p (by omega)
      have e1 : g p = p := by
        have := ge p (by omega)
        have := le (t.1 - p - 1) p (by omega)
        omega
      rw [e1] at h
      exact h.2
theorem td_all (hS : c_sok S) (h1 : 1 ≤ S.2.1) (h8 : S.2.1 ≤ 8) (h : ∀ p, p < S.1 → 2 ≤ n_pc (c_on S p) ∧ n_pc (c_on S p) ≤ 4) : ∃ t, c_td S = some t ∧ t.1 = S.1 := by
  have key : ∀ k, k ≤ S.1 → ∃ f, its (c_tdF S) (0, fun _ => 0) k = .inl (k, f) := by
    intro k
    induction k with
    | zero => intro _; exact ⟨_, rfl⟩
    | succ k ih =>
      intro hk
      obtain ⟨f, e⟩ := ih (by omega)
      have := h k (by omega)
      refine ⟨z_u f k (c_on S k), ?_⟩
      unfold its
      rw [e]
      dsimp only
      unfold c_tdF
      rw [if_neg (by omega), if_neg (by omega)]
  obtain ⟨f, e⟩ := key S.1 (Nat.le_refl _)
  refine ⟨(S.1, f), ?_, rfl⟩
  unfold c_td
  rw [if_neg (by omega), e]
theorem con_12 (hS : c_sok S) (p : Nat) : c_on S p < 4096 := Nat.lt_of_lt_of_le (c_on_lt S p) (show 2 ^ S.2.1 ≤ 2 ^ 12 from Nat.pow_le_pow_right (by decide) hS.2.1)
theorem con_b (hS : c_sok S) (p l : Nat) : (c_on S p).testBit l = true ↔ on S l p := by
  rw [c_on_bit, Bool.and_eq_true]
  exact ⟨fun h => h.2, fun h => ⟨decide_eq_true (on_m hS h), h⟩⟩
theorem con_un (hS : c_sok S) {p q : Nat} (h2 : 2 ≤ n_pc (c_on S p)) (e : c_on S p = c_on S q) : p = q := by
  obtain ⟨i, _, j, _, hij, b1, b2⟩ := pc_two _ (con_12 hS p) h2
  apply Classical.byContradiction
  intro n
  have c1 := (con_b hS p i).mp b1
  have c2 := (con_b hS p j).mp b2
  rw [e] at b1 b2
  have d1 := (con_b hS q i).mp b1
  have d2 := (con_b hS q j).mp b2
  have := ln_un hS n c1 d1 c2 d2
  omega
theorem thr_spec (O : Nat → Int32) (n x : Nat) : ∀ k, k ≤ n → (it (fun p t => if O p = nI x then p else t) n k = n ∧ ∀ p, p < k → O p ≠ nI x) ∨ (it (fun p t => if O p = nI x then p else t) n k < k ∧ O (it (fun p t => if O p = nI x then p else t) n k) = nI x) := by
  intro k
  induction k with
  | zero => intro _; exact Or.inl ⟨rfl, fun p hp => absurd hp (Nat.not_lt_zero _)⟩
  | succ k ih =>
    intro hk
    rw [it_s]
    by_cases c : O k = nI x
    · rw [if_pos c]; exact Or.inr ⟨by omega, c⟩
    · rw [if_neg c]
      rcases ih (by omega) with ⟨h1, h2⟩ | ⟨h1, h2⟩
      · exact Or.inl ⟨h1, fun p hp => by
          by_cases e : p = k
          · rw [e]; exact c
          · exact h2 p (by omega)⟩
      · exact Or.inr ⟨by omega, h2⟩
theorem dua_bits (S : Sc) (O : Nat → Int32) (N : Nat → Nat) : ∀ k b, itx (c_duaF S O N) 0 k = some b → ∀ v, b.testBit v = true ↔ ∃ l, l < k ∧ c_thr O S.1 (c_nm N (S.2.2 l)) = v := by
  intro k
  induction k with
  | zero =>
    intro b hk v
    cases hk
    rw [Nat.zero_testBit]
    exact ⟨fun h => (by cases h), fun ⟨l, hl, _⟩ => absurd hl (Nat.not_lt_zero _)⟩
  | succ k ih =>
    intro b hk v
    rw [itx] at hk
    cases hk2 : itx (c_duaF S O N) 0 k with
    | none => rw [hk2] at hk; cases hk
    | some b2 =>
      rw [hk2] at hk
      dsimp only at hk
      have f2 := ih b2 hk2
      unfold c_duaF at hk
      by_cases c : c_thr O S.1 (c_nm N (S.2.2 k)) = S.1 ∨ b2.testBit (c_thr O S.1 (c_nm N (S.2.2 k))) = true
      · rw [if_pos c] at hk; cases hk
      · rw [if_neg c] at hk
        cases hk
        rw [Nat.testBit_or, Bool.or_eq_true, Nat.testBit_two_pow, decide_eq_true_iff, f2]
        constructor
        · rintro (⟨l, l1, l2⟩ | h)
          · exact ⟨l, by omega, l2⟩
          · exact ⟨k, by omega, h⟩
        · rintro ⟨l, l1, l2⟩
          by_cases el : l = k
          · rw [el] at l2; exact Or.inr l2
          · exact Or.inl ⟨l, by omega, l2⟩
theorem dua_some (S : Sc) (O : Nat → Int32) (N : Nat → Nat) : ∀ k, (itx (c_duaF S O N) 0 k).isSome = true ↔ ((∀ l, l < k → c_thr O S.1 (c_nm N (S.2.2 l)) ≠ S.1) ∧ ∀ l l', l < l' → l' < k → c_thr O S.1 (c_nm N (S.2.2 l)) ≠ c_thr O S.1 (c_nm N (S.2.2 l'))) := by
  intro k
  induction k with
  | zero => exact ⟨fun _ => ⟨fun l hl => absurd hl (Nat.not_lt_zero _), fun l l' _ hl => absurd hl (Nat.not_lt_zero _)⟩, fun _ => rfl⟩
  | succ k ih =>
    rw [itx]
    cases hk : itx (c_duaF S O N) 0 k with
    | none =>
      rw [hk] at ih
      dsimp only
      constructor
      · intro h; cases h
      · rintro ⟨h1, h2⟩
        have := ih.mpr ⟨fun l hl => h1 l (by omega), fun l l' hll hl' => h2 l l' hll (by omega)⟩
        cases this
    | some b =>
      rw [hk] at ih
      obtain ⟨i1, i2⟩ := ih.mp rfl
      have f := dua_bits S O N k b hk
      dsimp only
      unfold c_duaF
      by_cases c : c_thr O S.1 (c_nm N (S.2.2 k)) = S.1 ∨ b.testBit (c_thr O S.1 (c_nm N (S.2.2 k))) = true
      · rw [if_pos c]
        constructor
        · intro h; cases h
        · rintro ⟨h1, h2⟩
          exfalso
          rcases c with c | c
          · exact h1 k (by omega) c
          · obtain ⟨l, l1, l2⟩ := (f _).mp c
            exact h2 l k l1 (by omega) l2
      · rw [if_neg c]
        refine ⟨fun _ => ⟨fun l hl => ?_, fun l l' hll hl' => ?_⟩, fun _ => rfl⟩
        · by_cases e : l = k
          · rw [e]; exact fun q => c (Or.inl q)
          · exact i1 l (by omega)
        · by_cases e : l' = k
          · rw [e]
            intro q
            exact c (Or.inr ((f _).mpr ⟨l, by omega, q⟩))
          · exact i2 l l' hll (by omega)
/-- a naming of points by lines that is a duality -/
theorem dua_iff (hS : c_sok S) (hn : S.1 = S.2.1) {N : Nat → Nat} (hi : inj N S.1 S.1) : c_duaN S N = true ↔ ∃ t, c_td S = some t ∧ t.1 = S.2.1 ∧ c_likN (dS S t) S N = true := by
  have n1 := hS.1
  have lt12 : ∀ l, c_nm N (S.2.2 l) < 256 := fun l => by
    apply Nat.lt_pow_two_of_testBit (n := 8)
    intro j hj
    apply Bool.eq_false_iff.mpr
    intro h
    obtain ⟨i, _, h2, h3⟩ := nm_on.mp h
    have : on S l i := h2
    have := hi.1 i (on_lt hS this)
    omega
  have eqO : ∀ p l, (nI (c_on S p) = nI (c_nm N (S.2.2 l))) ↔ c_on S p = c_nm N (S.2.2 l) := fun p l => nI_eq (by have := con_12 hS p; omega) (by have := lt12 l; omega)
  have pcn : ∀ l, n_pc (c_nm N (S.2.2 l)) = n_pc (S.2.2 l) := fun l => pc_nmI hS n1.2 hi l
  have thr : ∀ l, c_thr (fun p => nI (c_on S p)) S.1 (c_nm N (S.2.2 l)) ≠ S.1 → c_thr (fun p => nI (c_on S p)) S.1 (c_nm N (S.2.2 l)) < S.1 ∧ c_on S (c_thr (fun p => nI (c_on S p)) S.1 (c_nm N (S.2.2 l))) = c_nm N (S.2.2 l) := fun l h => by
    rcases thr_spec (fun p => nI (c_on S p)) S.1 (c_nm N (S.2.2 l)) S.1 (Nat.le_refl _) with ⟨h1, _⟩ | ⟨h1, h2⟩
    · exact absurd h1 h
    · exact ⟨h1, (eqO _ l).mp h2⟩
  unfold c_duaN c_dua
  rw [dua_some]
  constructor
  · rintro ⟨h1, h2⟩
    obtain ⟨τ, eτ⟩ : ∃ τ : Nat → Nat, τ = fun l => c_thr (fun p => nI (c_on S p)) S.1 (c_nm N (S.2.2 l)) := ⟨_, rfl⟩
    have t1 : ∀ l, l < S.2.1 → τ l < S.1 ∧ c_on S (τ l) = c_nm N (S.2.2 l) := fun l hl => by rw [eτ]; exact thr l (h1 l hl)
    have t2 : ∀ l l', l < S.2.1 → l' < S.2.1 → τ l = τ l' → l = l' := fun l l' hl hl' e => by
      rcases Nat.lt_trichotomy l l' with c | c | c
      · rw [eτ] at e; exact absurd e (h2 l l' c hl')
      · exact c
      · rw [eτ] at e; exact absurd e.symm (h2 l' l c hl)
    have onto := rg_onto (n := S.2.1) (f := τ) (fun l hl => by rw [← hn]; exact (t1 l hl).1) t2
    have deg : ∀ p, p < S.1 → 2 ≤ n_pc (c_on S p) ∧ n_pc (c_on S p) ≤ 4 := fun p hp => by
      obtain ⟨l, l1, l2⟩ := onto p (by omega)
      rw [← l2, (t1 l l1).2, pcn]
      exact (hS.2.2.1 l l1).2
    obtain ⟨t, t3, t4⟩ := td_all hS (by omega) (by omega) deg
    refine ⟨t, t3, by omega, likN_iff.mpr (fun l hl => ?_)⟩
    have hl' : l < S.2.1 := by have : l < t.1 := hl; omega
    refine ⟨τ l, by show τ l < t.1; have := (t1 l hl').1; omega, ?_⟩
    show (if τ l < t.1 then t.2 (τ l) else 0) = _
    rw [if_pos (by have := (t1 l hl').1; omega), (td_full hS t3 t4 (τ l) (t1 l hl').1).1]
    exact (t1 l hl').2
  · rintro ⟨t, t3, t4, h⟩
    have t5 : t.1 = S.1 := by omega
    have full := td_full hS t3 t5
    have hl := likN_iff.mp h
    have ex : ∀ l, l < S.2.1 → ∃ o, o < S.1 ∧ c_on S o = c_nm N (S.2.2 l) := fun l hl1 => by
      obtain ⟨o, o1, o2⟩ := hl l (by show l < t.1; omega)
      have o1' : o < t.1 := o1
      have o2' : (if o < t.1 then t.2 o else 0) = c_nm N (S.2.2 l) := o2
      rw [if_pos o1', (full o (by omega)).1] at o2'
      exact ⟨o, by omega, o2'⟩
    have ne : ∀ l, l < S.2.1 → c_thr (fun p => nI (c_on S p)) S.1 (c_nm N (S.2.2 l)) ≠ S.1 := fun l hl1 e => by
      obtain ⟨o, o1, o2⟩ := ex l hl1
      rcases thr_spec (fun p => nI (c_on S p)) S.1 (c_nm N (S.2.2 l)) S.1 (Nat.le_refl _) with ⟨_, h2⟩ | ⟨h1, _⟩
      · exact h2 o o1 ((eqO o l).mpr o2)
      · have : c_thr (fun p => nI (c_on S p)) S.1 (c_nm N (S.2.2 l)) < S.1 := h1
        omega
    refine ⟨ne, fun l l' hll hl' e => ?_⟩
    have e1 := (thr l (ne l (by omega))).2
    have e2 := (thr l' (ne l' hl')).2
    rw [e, e2] at e1
    have : l = l' := ln_ext hS (by omega) (fun i h1 => by
      have h2 : (c_nm N (S.2.2 l')).testBit (N i) = true := by
        rw [e1]
        exact nm_on.mpr ⟨i, on_8 hS h1, h1, rfl⟩
      obtain ⟨j, _, h3, h4⟩ := nm_on.mp h2
      have h3' : on S l' j := h3
      rw [← hi.2 j i (on_lt hS h3') (on_lt hS h1) h4]
      exact h3')
    omega
theorem pms_inj {n : Nat} {N : Nat → Nat} (h : N ∈ pms n) : inj N n n := by rw [pms_ij] at h; exact ij_inj h
theorem dual_cnt (polar : Bool) : (pms S.1).foldl (fun c N => c_duG S polar N c) 0 = ((pms S.1).filter (fun N => c_duaN S N && (!polar || c_pol S N))).length := by
  have := fold_cnt (fun N => c_duaN S N && (!polar || c_pol S N)) (pms S.1) 0
  rw [Nat.zero_add] at this
  exact this
/-- dualities: likeness to the dual -/
theorem dual_ref (hS : c_sok S) : c_dual S false = match c_td S with
    | none => 0
    | some t => if S.1 = S.2.1 then c_likes (dS S t) S else 0 := by
  unfold c_dual
  by_cases hn : S.1 = S.2.1
  · rw [if_pos hn, dual_cnt]
    have none_of : (∀ N, N ∈ pms S.1 → c_duaN S N = false) → ((pms S.1).filter (fun N => c_duaN S N && (!false || c_pol S N))).length = 0 := fun h => by
      apply List.length_eq_zero_iff.mpr
      apply List.filter_eq_nil_iff.mpr
      intro N hN
      rw [h N hN]
      simp
    cases ht : c_td S with
    | none =>
      dsimp only
      refine none_of (fun N hN => ?_)
      apply Bool.eq_false_iff.mpr
      intro h
      obtain ⟨t, h1, _⟩ := (dua_iff hS hn (pms_inj hN)).mp h
      rw [ht] at h1
      cases h1
    | some t =>
      dsimp only
      rw [if_pos hn]
      unfold c_likes
      by_cases e : t.1 = S.2.1
      · rw [if_pos ⟨hn, e.symm⟩]
        have := fold_cnt (fun M => c_likN (dS S t) S M) (pms (dS S t).1) 0
        rw [Nat.zero_add] at this
        have e2 : (pms (dS S t).1).foldl (fun c N => c_likG (dS S t) S N c) 0 = ((pms (dS S t).1).filter (fun M => c_likN (dS S t) S M)).length := this
        rw [e2]
        have e3 : (dS S t).1 = S.1 := hn.symm
        rw [e3]
        congr 1
        refine List.filter_congr (fun N hN => ?_)
        apply Bool.eq_iff_iff.mpr
        rw [Bool.not_false, Bool.true_or, Bool.and_true, dua_iff hS hn (pms_inj hN)]
        constructor
        · rintro ⟨t', h1, _, h3⟩
          rw [ht] at h1
          cases h1
          exact h3
        · intro h; exact ⟨t, ht, e, h⟩
      · rw [if_neg (fun c => e c.2.symm)]
        refine none_of (fun N hN => ?_)
        apply Bool.eq_false_iff.mpr
        intro h
        obtain ⟨t', h1, h2, _⟩ := (dua_iff hS hn (pms_inj hN)).mp h
        rw [ht] at h1
        cases h1
        exact e h2
  · rw [if_neg hn]
    cases c_td S with
    | none => rfl
    | some t => dsimp only; rw [if_neg hn]
end B10
