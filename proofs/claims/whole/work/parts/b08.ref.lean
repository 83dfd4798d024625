/-! MATHEMATICS: the reference's namings -/
section B8
variable {F T S : Sc}
theorem fm_if {α β : Type} (c : α → Bool) (g : α → List β) : ∀ l : List α, l.flatMap (fun v => if c v then [] else g v) = (l.filter (fun v => !c v)).flatMap g
  | [] => rfl
  | a :: l => by
    rw [List.flatMap_cons, List.filter_cons, fm_if c g l]
    cases c a
    · rw [if_neg (by decide), if_pos (by decide), List.flatMap_cons]
    · rw [if_pos rfl, if_neg (by decide)]; rfl
theorem fm_map {α β γ : Type} (f : α → β) (g : β → List γ) : ∀ l : List α, (l.map f).flatMap g = l.flatMap (fun a => g (f a))
  | [] => rfl
  | a :: l => by rw [List.map_cons, List.flatMap_cons, List.flatMap_cons, fm_map f g l]
theorem fm_cg {α β : Type} {f g : α → List β} : ∀ l : List α, (∀ a, a ∈ l → f a = g a) → l.flatMap f = l.flatMap g
  | [], _ => rfl
  | a :: l, h => by rw [List.flatMap_cons, List.flatMap_cons, h a List.mem_cons_self, fm_cg l (fun b hb => h b (List.mem_cons_of_mem _ hb))]
theorem al_ij {n : Nat} : ∀ k p ρ f, mono k ρ → (∀ i, i < k → ρ i < n) → (∀ v, v < n → (usd f p v = false ↔ ∃ i, i < k ∧ ρ i = v)) → al p k ρ f = ijs n k p f := by
  intro k
  induction k with
  | zero => intro p ρ f _ _ _; rfl
  | succ k ih =>
    intro p ρ f hm hr hu
    show (List.range (k + 1)).flatMap (fun i => al (p + 1) k (er ρ i) (z_u f p (ρ i))) = (List.range n).flatMap (fun v => if usd f p v then [] else ijs n k (p + 1) (z_u f p v))
    rw [fm_if]
    have e1 : (List.range n).filter (fun v => !usd f p v) = (List.range (k + 1)).map ρ := by
      refine sr_eq (R := (· < ·)) (fun x y h1 h2 => by omega) (List.Pairwise.filter _ List.pairwise_lt_range) ?_ (fun v => ?_)
      · rw [List.pairwise_map]
        refine List.Pairwise.imp_of_mem (fun {a b} _ hb h => ?_) List.pairwise_lt_range
        exact hm a b h (List.mem_range.mp hb)
      · rw [List.mem_filter, List.mem_range, List.mem_map, Bool.not_eq_true']
        constructor
        · rintro ⟨h1, h2⟩
          obtain ⟨i, h3, h4⟩ := (hu v h1).mp h2
          exact ⟨i, List.mem_range.mpr h3, h4⟩
        · rintro ⟨i, h3, h4⟩
          have h3 := List.mem_range.mp h3
          have h1 : v < n := by rw [← h4]; exact hr i h3
          exact ⟨h1, (hu v h1).mpr ⟨i, h3, h4⟩⟩
    rw [e1, fm_map]
    refine fm_cg _ (fun i hi => ?_)
    have hi := List.mem_range.mp hi
    refine ih (p + 1) (er ρ i) (z_u f p (ρ i)) (mono_er hm i) (fun t ht => ?_) (fun v hv => ?_)
    · unfold er
      split
      · exact hr t (by omega)
      · exact hr (t + 1) (by omega)
    · have s : usd (z_u f p (ρ i)) (p + 1) v = false ↔ usd f p v = false ∧ ρ i ≠ v := by
        rw [usd_f, usd_f]
        constructor
        · intro h
          exact ⟨fun q hq => by have := h q (by omega); rw [u_ne _ _ (by omega)] at this; exact this, by have := h p (by omega); rw [u_eq] at this; exact this⟩
        · rintro ⟨h1, h2⟩ q hq
          by_cases e : q = p
          · rw [e, u_eq]; exact h2
          · rw [u_ne _ _ e]; exact h1 q (by omega)
      rw [s, hu v hv]
      constructor
      · rintro ⟨⟨j, h1, h2⟩, h3⟩
        have hji : j ≠ i := fun e => h3 (by rw [← e]; exact h2)
        rcases Nat.lt_or_gt_of_ne hji with c | c
        · exact ⟨j, by omega, by unfold er; rw [if_pos c]; exact h2⟩
        · exact ⟨j - 1, by omega, by unfold er; rw [if_neg (by omega), show j - 1 + 1 = j by omega]; exact h2⟩
      · rintro ⟨t, h1, h2⟩
        unfold er at h2
        by_cases c : t < i
        · rw [if_pos c] at h2
          exact ⟨⟨t, by omega, h2⟩, fun e => by have := hm t i c hi; omega⟩
        · rw [if_neg c] at h2
          exact ⟨⟨t + 1, by omega, h2⟩, fun e => by have := hm i (t + 1) (by omega) (by omega); omega⟩
theorem pms_ij (n : Nat) : pms n = ijs n n 0 (fun _ => 0) := al_ij n 0 _ _ (fun i j h _ => h) (fun i h => h) (fun v hv => ⟨fun _ => ⟨v, hv, rfl⟩, fun _ => usd_f.mpr (fun q hq => absurd hq (Nat.not_lt_zero _))⟩)
theorem nm_on {N : Nat → Nat} {a j : Nat} : (c_nm N a).testBit j = true ↔ ∃ i, i < 8 ∧ a.testBit i = true ∧ N i = j := by
  rw [c_nm_bit, List.any_eq_true]
  constructor
  · rintro ⟨i, h1, h2⟩
    rw [Bool.and_eq_true] at h2
    exact ⟨i, List.mem_range.mp h1, h2.1, eq_of_beq h2.2⟩
  · rintro ⟨i, h1, h2, h3⟩
    exact ⟨i, List.mem_range.mpr h1, by rw [h2, h3]; simp⟩
theorem isL_iff {x : Nat} : c_isL S x = true ↔ ∃ l, l < S.2.1 ∧ S.2.2 l = x := by
  unfold c_isL
  constructor
  · intro h
    apply Classical.byContradiction
    intro n
    rw [any_f (fun l hl => ?_)] at h
    · cases h
    · apply Bool.eq_false_iff.mpr
      intro e
      exact n ⟨l, hl, eq_of_beq e⟩
  · rintro ⟨l, h1, h2⟩
    exact any_t h1 (by rw [h2]; exact beq_self_eq_true _)
theorem likN_iff {N : Nat → Nat} : c_likN T F N = true ↔ ∀ l, l < T.2.1 → ∃ o, o < T.2.1 ∧ T.2.2 o = c_nm N (F.2.2 l) := by
  unfold c_likN
  rw [Bool.not_eq_true', any_fiff]
  constructor
  · intro h l hl
    have := h l hl
    rw [Bool.not_eq_false'] at this
    exact isL_iff.mp this
  · intro h l hl
    rw [Bool.not_eq_false']
    exact isL_iff.mpr (h l hl)
theorem pc_nmI (hF : c_sok F) {N : Nat → Nat} {m : Nat} (hm : m ≤ 8) (hi : inj N F.1 m) (l : Nat) : n_pc (c_nm N (F.2.2 l)) = n_pc (F.2.2 l) := by
  apply Nat.le_antisymm
  · have sk : ∀ j, ∃ i, (c_nm N (F.2.2 l)).testBit j = true → i < 8 ∧ on F l i ∧ N i = j := fun j => by
      by_cases c : (c_nm N (F.2.2 l)).testBit j = true
      · obtain ⟨i, h⟩ := nm_on.mp c
        exact ⟨i, fun _ => h⟩
      · exact ⟨0, fun h => absurd h c⟩
    obtain ⟨g, hg⟩ := Classical.axiomOfChoice sk
    exact pc_inj g (fun j _ hb => ⟨by have := (hg j hb).1; omega, (hg j hb).2.1⟩) (fun j k _ _ h1 h2 e => by rw [← (hg j h1).2.2, ← (hg k h2).2.2, e])
  · exact pc_inj N (fun i _ hb => ⟨by have := hi.1 i (on_lt hF hb); omega, nm_on.mpr ⟨i, on_8 hF hb, hb, rfl⟩⟩) (fun i j _ _ h1 h2 e => hi.2 i j (on_lt hF h1) (on_lt hF h2) e)
theorem lik_iff (hF : c_sok F) (hT : c_sok T) (hx : F.1 = T.1 ∧ F.2.1 = T.2.1) {N : Nat → Nat} (hi : inj N F.1 T.1) : c_likN T F N = true ↔ wy F T true N := by
  rw [likN_iff]
  constructor
  · intro h
    have sk : ∀ l, ∃ o, l < F.2.1 → o < T.2.1 ∧ T.2.2 o = c_nm N (F.2.2 l) := fun l => by
      by_cases c : l < F.2.1
      · obtain ⟨o, ho⟩ := h l (by rw [← hx.2]; exact c)
        exact ⟨o, fun _ => ho⟩
      · exact ⟨0, fun q => absurd q c⟩
    obtain ⟨φ, hφ⟩ := Classical.axiomOfChoice sk
    refine ⟨hi, φ, fun l hl => ⟨(hφ l hl).1, fun i h1 => ?_, ?_⟩, fun l l' hl hl' e => ?_⟩
    · unfold on
      rw [(hφ l hl).2]
      exact nm_on.mpr ⟨i, on_8 hF h1, h1, rfl⟩
    · unfold g_hold
      rw [if_pos rfl, (hφ l hl).2, pc_nmI hF hT.1.2 hi]
      exact decide_eq_true rfl
    · refine ln_ext hF hl (fun i h1 => ?_)
      have h2 : (c_nm N (F.2.2 l')).testBit (N i) = true := by
        rw [← (hφ l' hl').2, ← e, (hφ l hl).2]
        exact nm_on.mpr ⟨i, on_8 hF h1, h1, rfl⟩
      obtain ⟨j, _, h3, h4⟩ := nm_on.mp h2
      have h3' : on F l' j := h3
      rw [← hi.2 j i (on_lt hF h3') (on_lt hF h1) h4]
      exact h3'
  · rintro ⟨_, φ, hφ, _⟩ l hl
    have hl' : l < F.2.1 := by rw [hx.2]; exact hl
    refine ⟨φ l, (hφ l hl').1, ?_⟩
    apply Nat.eq_of_testBit_eq
    intro j
    apply Bool.eq_iff_iff.mpr
    rw [nm_on]
    constructor
    · intro hb
      obtain ⟨i, h1, h2⟩ := wx_iff hF hT hi hφ hl' j hb
      exact ⟨i, on_8 hF h1, h1, h2⟩
    · rintro ⟨i, _, h1, h2⟩
      rw [← h2]
      exact (hφ l hl').2.1 i h1
theorem ij_inj {n : Nat} {M N : Nat → Nat} (h : M ∈ ijs n n 0 N) : inj M n n := by
  obtain ⟨_, h2, h3⟩ := (ij_mem n n 0 N M).mp h
  refine ⟨fun i hi => h2 i (Nat.zero_le _) (by omega), fun i j hi hj e => ?_⟩
  rcases Nat.lt_trichotomy i j with c | c | c
  · exact absurd e (h3 i j c (Nat.zero_le _) (by omega))
  · exact c
  · exact absurd e.symm (h3 j i c (Nat.zero_le _) (by omega))
theorem sq_pms (hF : c_sok F) (hT : c_sok T) (hx : F.1 = T.1 ∧ F.2.1 = T.2.1) (N : Nat → Nat) : (pms T.1).filter (fun M => c_likN T F M) = sq F T true 0 N := by
  have e : nrm 0 N = fun _ => 0 := funext fun i => if_neg (Nat.not_lt_zero _)
  unfold sq
  rw [e, pms_ij, Nat.sub_zero, hx.1]
  refine List.filter_congr (fun M hM => ?_)
  apply Bool.eq_iff_iff.mpr
  rw [wb_t]
  exact lik_iff hF hT hx (by rw [hx.1]; exact ij_inj hM)
theorem syA_fold : ∀ (L : List (Nat → Nat)) (a : Nat × (Nat → Nat)), (L.foldl (fun a N => c_syF S N a) a).1 = a.1 + (L.filter (c_symN S)).length ∧ ∀ p j, ((L.foldl (fun a N => c_syF S N a) a).2 p).testBit j = true ↔ (a.2 p).testBit j = true ∨ (p < S.1 ∧ ∃ N, N ∈ L ∧ c_symN S N = true ∧ N p = j)
  | [], a => ⟨rfl, fun p j => ⟨Or.inl, fun h => by
      rcases h with h | ⟨_, N, hN, _⟩
      · exact h
      · cases hN⟩⟩
  | M :: L, a => by
    obtain ⟨h1, h2⟩ := syA_fold L (c_syF S M a)
    rw [List.foldl_cons, h1, List.filter_cons]
    have key : ∀ p j, ((L.foldl (fun a N => c_syF S N a) (c_syF S M a)).2 p).testBit j = true ↔ (a.2 p).testBit j = true ∨ (p < S.1 ∧ ∃ N, N ∈ M :: L ∧ c_symN S N = true ∧ N p = j) := fun p j => by
      rw [h2 p j]
      unfold c_syF
      cases hc : c_symN S M
      · rw [if_neg (by decide)]
        constructor
        · rintro (h | ⟨h3, N, h4, h5⟩)
          · exact Or.inl h
          · exact Or.inr ⟨h3, N, List.mem_cons_of_mem _ h4, h5⟩
        · rintro (h | ⟨h3, N, h4, h5, h6⟩)
          · exact Or.inl h
          · rcases List.mem_cons.mp h4 with e | e
            · rw [e, hc] at h5; cases h5
            · exact Or.inr ⟨h3, N, e, h5, h6⟩
      · rw [if_pos rfl]
        show (c_bec S.1 M a.2 p).testBit j = true ∨ _ ↔ _
        unfold c_bec
        by_cases hp : p < S.1
        · rw [if_pos hp, Nat.testBit_or, Bool.or_eq_true, Nat.testBit_two_pow, decide_eq_true_iff]
          constructor
          · rintro ((h | h) | ⟨h3, N, h4, h5⟩)
            · exact Or.inl h
            · exact Or.inr ⟨hp, M, List.mem_cons_self, hc, h⟩
            · exact Or.inr ⟨h3, N, List.mem_cons_of_mem _ h4, h5⟩
          · rintro (h | ⟨h3, N, h4, h5, h6⟩)
            · exact Or.inl (Or.inl h)
            · rcases List.mem_cons.mp h4 with e | e
              · rw [e] at h6; exact Or.inl (Or.inr h6)
              · exact Or.inr ⟨h3, N, e, h5, h6⟩
        · rw [if_neg hp]
          constructor
          · rintro (h | ⟨h3, _⟩)
            · exact Or.inl h
            · exact absurd h3 hp
          · rintro (h | ⟨h3, _⟩)
            · exact Or.inl h
            · exact absurd h3 hp
    refine ⟨?_, key⟩
    unfold c_syF
    cases hc : c_symN S M
    · rw [if_neg (by decide), if_neg (by decide)]
    · rw [if_pos rfl, if_pos rfl, List.length_cons]
      show a.1 + 1 + _ = _
      omega
theorem sym_lik : c_symN S = fun N => c_likN S S N := rfl
theorem syA_ord (hS : c_sok S) : (c_syA S).1 = ordS S 0 := by
  unfold c_syA
  rw [(syA_fold (pms S.1) _).1, sym_lik, sq_pms hS hS ⟨rfl, rfl⟩ (fun i => i)]
  unfold ordS
  rw [if_pos (show 0 < S.1 from hS.1.1)]
  exact Nat.zero_add _
theorem syA_bit (hS : c_sok S) {p : Nat} (hp : p < S.1) (j : Nat) : ((c_syA S).2 p).testBit j = true ↔ rl S p j := by
  unfold c_syA
  rw [(syA_fold (pms S.1) _).2 p j]
  have mem : ∀ N, N ∈ pms S.1 ∧ c_symN S N = true ↔ N ∈ sq S S true 0 (fun i => i) := fun N => by
    rw [← sq_pms hS hS ⟨rfl, rfl⟩ (fun i => i), List.mem_filter]
    rfl
  constructor
  · rintro (h | ⟨_, N, h1, h2, h3⟩)
    · rw [Nat.zero_testBit] at h; cases h
    · exact ⟨N, ((sq_mem (Nat.zero_le _)).mp ((mem N).mp ⟨h1, h2⟩)).1, h3⟩
  · rintro ⟨M, h1, h2⟩
    have hm : nrm S.1 M ∈ sq S S true 0 (fun i => i) := (sq_mem (Nat.zero_le _)).mpr ⟨wy_c hS (fun i hi => (if_pos hi).symm) h1, fun i hi => absurd hi (Nat.not_lt_zero _), fun i hi => if_neg (by omega)⟩
    obtain ⟨a, b⟩ := (mem _).mpr hm
    exact Or.inr ⟨hp, _, a, b, by unfold nrm; rw [if_pos hp]; exact h2⟩
/-- the orbits' least points are the reference's -/
theorem orb_ref (hS : c_sok S) {N O : Nat → Nat} (hO : ∀ i, i < 8 → O i = i) {p : Nat} (hp : p < S.1) : (meaR S S.1 W0n N O).2.2 p = n_tz ((c_syA S).2 p) := by
  have n8 := hS.1.2
  obtain ⟨_, _, h3⟩ := mea_ord hS (N := N) hO
  obtain ⟨a1, a2⟩ := h3 p hp
  have lt : (c_syA S).2 p < 256 := syA_lt n8 p (by omega)
  have b1 := (syA_bit hS hp _).mpr a1
  have ne : (c_syA S).2 p ≠ 0 := fun e => by rw [e, Nat.zero_testBit] at b1; cases b1
  have l1 := rl_lt hp a1
  have c1 := tz_le _ lt _ (by omega) b1
  have c2 := a2 _ ((syA_bit hS hp _).mp (tz_on _ lt ne))
  omega
end B8
