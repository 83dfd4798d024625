/-! MATHEMATICS: how the reference finds the ways within -/
section B14
variable {F T S : Sc}
theorem lie_bits (S T : Sc) (N : Nat → Nat) : ∀ k b, itx (c_lieF S T N) 0 k = some b → ∀ v, b.testBit v = true ↔ ∃ l, l < k ∧ c_of S (c_nm N (T.2.2 l)) = v := by
  intro k
  induction k with
  | zero =>
    intro b hk v
    cases hk
    rw [Nat.zero_testBit]
    exact ⟨fun h => (by cases h), fun ⟨l, hl, _⟩ => absurd hl (Nat.not_lt_zero _)⟩
  | succ k ih =>
    intro b hk v
    rw [itx] at hk
    cases hk2 : itx (c_lieF S T N) 0 k with
    | none => rw [hk2] at hk; cases hk
    | some b2 =>
      rw [hk2] at hk
      dsimp only at hk
      have f2 := ih b2 hk2
      unfold c_lieF at hk
      by_cases c : c_of S (c_nm N (T.2.2 k)) < S.2.1 ∧ b2.testBit (c_of S (c_nm N (T.2.2 k))) = false
      · rw [if_pos c] at hk
        cases hk
        rw [Nat.testBit_or, Bool.or_eq_true, Nat.testBit_two_pow, decide_eq_true_iff, f2]
        constructor
        · rintro (⟨l, l1, l2⟩ | h)
          · exact ⟨l, by omega, l2⟩
          · exact ⟨k, by omega, h⟩
        · rintro ⟨l, l1, l2⟩
          by_cases el : l = k
          · rw [el] at l2; exact Or.inr l2
          · exact Or.inl ⟨l, by omega, l2⟩
      · rw [if_neg c] at hk; cases hk
theorem lie_some (S T : Sc) (N : Nat → Nat) : ∀ k, (itx (c_lieF S T N) 0 k).isSome = true ↔ ((∀ l, l < k → c_of S (c_nm N (T.2.2 l)) < S.2.1) ∧ ∀ l l', l < l' → l' < k → c_of S (c_nm N (T.2.2 l)) ≠ c_of S (c_nm N (T.2.2 l'))) := by
  intro k
  induction k with
  | zero => exact ⟨fun _ => ⟨fun l hl => absurd hl (Nat.not_lt_zero _), fun l l' _ hl => absurd hl (Nat.not_lt_zero _)⟩, fun _ => rfl⟩
  | succ k ih =>
    rw [itx]
    cases hk : itx (c_lieF S T N) 0 k with
    | none =>
      rw [hk] at ih
      dsimp only
      constructor
      · intro h; cases h
      · rintro ⟨h1, h2⟩
        have := ih.mpr ⟨fun l hl => h1 l (by omega), fun l l' hll hl' => h2 l l' hll (by omega)⟩
        cases this
    | some b =>
      rw [hk] at ih
      obtain ⟨i1, i2⟩ := ih.mp rfl
      have f := lie_bits S T N k b hk
      dsimp only
      unfold c_lieF
      by_cases c : c_of S (c_nm N (T.2.2 k)) < S.2.1 ∧ b.testBit (c_of S (c_nm N (T.2.2 k))) = false
      · rw [if_pos c]
        refine ⟨fun _ => ⟨fun l hl => ?_, fun l l' hll hl' => ?_⟩, fun _ => rfl⟩
        · by_cases e : l = k
          · rw [e]; exact c.1
          · exact i1 l (by omega)
        · by_cases e : l' = k
          · rw [e]
            intro q
            have := (f _).mpr ⟨l, by omega, q⟩
            rw [c.2] at this
            cases this
          · exact i2 l l' hll (by omega)
      · rw [if_neg c]
        constructor
        · intro h; cases h
        · rintro ⟨h1, h2⟩
          exfalso
          apply c
          refine ⟨h1 k (by omega), Bool.eq_false_iff.mpr (fun q => ?_)⟩
          obtain ⟨l, l1, l2⟩ := (f _).mp q
          exact h2 l k l1 (by omega) l2
theorem and_sub {x y : Nat} : x &&& y = y ↔ ∀ i, y.testBit i = true → x.testBit i = true := by
  constructor
  · intro e i hi
    have := congrArg (fun z => z.testBit i) e
    simp only [Nat.testBit_and] at this
    rw [hi, Bool.and_true] at this
    exact this
  · intro h
    apply Nat.eq_of_testBit_eq
    intro i
    rw [Nat.testBit_and]
    cases hy : y.testBit i
    · rw [Bool.and_false]
    · rw [h i hy, Bool.and_true]
theorem cof_y {x : Nat} (h : c_of S x < S.2.1) : ∀ i, x.testBit i = true → on S (c_of S x) i := by
  have := fa_first_yes (fun l => S.2.2 l &&& x == x) S.2.1 h
  exact and_sub.mp (eq_of_beq this)
theorem cof_n {x l : Nat} (hl : l < S.2.1) (h : ∀ i, x.testBit i = true → on S l i) : c_of S x < S.2.1 := by
  apply Classical.byContradiction
  intro n
  have := fa_first_no (fun l => S.2.2 l &&& x == x) S.2.1 l (Nat.lt_of_lt_of_le hl (Nat.not_lt.mp n))
  have e : (S.2.2 l &&& x == x) = true := by rw [and_sub.mpr h]; exact beq_self_eq_true _
  rw [e] at this
  cases this
theorem lies_iff (hF : c_sok F) (hT : c_sok T) {N : Nat → Nat} (hi : inj N F.1 T.1) : c_lies T F N = true ↔ wy F T false N := by
  unfold c_lies
  rw [lie_some]
  have im : ∀ l i, on F l i → (c_nm N (F.2.2 l)).testBit (N i) = true := fun l i h => nm_on.mpr ⟨i, on_8 hF h, h, rfl⟩
  constructor
  · rintro ⟨h1, h2⟩
    refine ⟨hi, fun l => c_of T (c_nm N (F.2.2 l)), fun l hl => ⟨h1 l hl, fun i h => cof_y (h1 l hl) _ (im l i h), ?_⟩, fun l l' hl hl' e => ?_⟩
    · unfold g_hold
      rw [if_neg (by decide)]
      apply decide_eq_true
      exact pc_inj N (fun i _ hb => ⟨by have := on_8 hT (cof_y (h1 l hl) _ (im l i hb)); omega, cof_y (h1 l hl) _ (im l i hb)⟩) (fun i j _ _ a b e => hi.2 i j (on_lt hF a) (on_lt hF b) e)
    · rcases Nat.lt_trichotomy l l' with c | c | c
      · exact absurd e (h2 l l' c hl')
      · exact c
      · exact absurd e.symm (h2 l' l c hl)
  · rintro ⟨_, φ, f1, f2⟩
    have key : ∀ l, l < F.2.1 → c_of T (c_nm N (F.2.2 l)) < T.2.1 ∧ c_of T (c_nm N (F.2.2 l)) = φ l := fun l hl => by
      obtain ⟨a1, a2, _⟩ := f1 l hl
      have lt : c_of T (c_nm N (F.2.2 l)) < T.2.1 := cof_n a1 (fun j hj => by
        obtain ⟨i, _, h2, h3⟩ := nm_on.mp hj
        rw [← h3]; exact a2 i h2)
      refine ⟨lt, ?_⟩
      obtain ⟨a, b, hab, o1, o2⟩ := ln_two hF hl
      exact ln_un hT (fun e => by have := hi.2 a b (on_lt hF o1) (on_lt hF o2) e; omega) (cof_y lt _ (im l a o1)) (cof_y lt _ (im l b o2)) (a2 a o1) (a2 b o2)
    refine ⟨fun l hl => (key l hl).1, fun l l' hll hl' e => ?_⟩
    rw [(key l (by omega)).2, (key l' hl').2] at e
    have := f2 l l' (by omega) hl' e
    omega
theorem rN_u {f : Nat → Int32} {k v : Nat} (hv : v < 2 ^ 31) : r_N (z_u f k (nI v)) = z_u (r_N f) k v := funext fun i => by
  show (z_u f k (nI v) i).toNatClampNeg = _
  unfold z_u
  split
  · exact nI_clamp hv
  · rfl
theorem fm_app {β : Type} (f : Nat → List β) (p : Nat) : (List.range (p + 1)).flatMap f = (List.range p).flatMap f ++ f p := by
  rw [List.range_succ, List.flatMap_append]
  congr 1
  rw [List.flatMap_cons]
  exact List.append_nil _
/-- the first of a list, told -/
def hdv (c : Nat) (L : List (Nat → Nat)) (W : Nat → Int32) (i : Nat) : Int32 := if c = 0 then (match L.head? with
  | some M => nI (M i)
  | none => W i) else W i
theorem hdv_app {c : Nat} {L L' : List (Nat → Nat)} {W W1 : Nat → Int32} {i : Nat} (h : W1 i = hdv c L W i) : hdv (c + L.length) L' W1 i = hdv c (L ++ L') W i := by
  unfold hdv at h ⊢
  cases L with
  | nil =>
    rw [List.nil_append]
    have e : W1 i = W i := by
      rw [h]
      split <;> rfl
    rw [e]
    rfl
  | cons M L =>
    rw [List.length_cons, if_neg (by omega), h]
    rfl
theorem tw_ref (hF : c_sok F) (hT : c_sok T) : ∀ j k u (a : tW), k + j = F.1 → inj (r_N a.2.2) k T.1 → (∀ i, i < k → a.2.2 i = nI (r_N a.2.2 i)) → (∀ v, v < T.1 → u.testBit v = usd (r_N a.2.2) k v) → (c_tw T F j k u a).1 = a.1 + (sq F T false k (r_N a.2.2)).length ∧ (∀ i, i < k → (c_tw T F j k u a).2.2 i = a.2.2 i) ∧ ∀ i, i < F.1 → (c_tw T F j k u a).2.1 i = hdv a.1 (sq F T false k (r_N a.2.2)) a.2.1 i := by
  have n8 := hT.1.2
  intro j
  induction j with
  | zero =>
    intro k u a hk hi hr hu
    have e : k = F.1 := by omega
    subst e
    unfold c_tw
    cases hl : c_lies T F (r_N a.2.2)
    · rw [if_neg (by decide)]
      have z : sq F T false F.1 (r_N a.2.2) = [] := by
        apply List.eq_nil_iff_forall_not_mem.mpr
        intro M hM
        obtain ⟨h1, h2, _⟩ := (sq_mem (Nat.le_refl _)).mp hM
        have := (lies_iff hF hT hi).mpr (wy_c hF (fun i hi => h2 i hi) h1)
        rw [hl] at this
        cases this
      rw [z]
      refine ⟨rfl, fun _ _ => rfl, fun i _ => ?_⟩
      unfold hdv
      split <;> rfl
    · rw [if_pos rfl, sq_one hF ((lies_iff hF hT hi).mp hl)]
      refine ⟨rfl, fun _ _ => rfl, fun i hiF => ?_⟩
      unfold hdv
      dsimp only
      by_cases c : a.1 = 0
      · rw [if_pos c, if_pos c, fa_fill_in hiF, hr i hiF]
        show _ = nI (nrm F.1 (r_N a.2.2) i)
        unfold nrm
        rw [if_pos hiF]
      · rw [if_neg c, if_neg c]
  | succ j ih =>
    intro k u a hk hi hr hu
    have hkF : k < F.1 := by omega
    obtain ⟨N, eN⟩ : ∃ N, N = r_N a.2.2 := ⟨_, rfl⟩
    rw [← eN] at hi hu ⊢
    obtain ⟨f, ef⟩ : ∃ f : Nat → List (Nat → Nat), f = fun v => if usd N k v then [] else sq F T false (k + 1) (z_u N k v) := ⟨_, rfl⟩
    have key : ∀ p, p ≤ T.1 → (it (fun p (a : tW) => if u.testBit p then a else c_tw T F j (k + 1) (u ||| 2 ^ p) (a.1, a.2.1, z_u a.2.2 k (nI p))) a p).1 = a.1 + ((List.range p).flatMap f).length ∧ (∀ i, i < k → (it (fun p (a : tW) => if u.testBit p then a else c_tw T F j (k + 1) (u ||| 2 ^ p) (a.1, a.2.1, z_u a.2.2 k (nI p))) a p).2.2 i = a.2.2 i) ∧ ∀ i, i < F.1 → (it (fun p (a : tW) => if u.testBit p then a else c_tw T F j (k + 1) (u ||| 2 ^ p) (a.1, a.2.1, z_u a.2.2 k (nI p))) a p).2.1 i = hdv a.1 ((List.range p).flatMap f) a.2.1 i := by
      intro p
      induction p with
      | zero =>
        intro _
        refine ⟨rfl, fun _ _ => rfl, fun i _ => ?_⟩
        unfold hdv
        show a.2.1 i = _
        split <;> rfl
      | succ p ihp =>
        intro hp
        obtain ⟨h1, h2, h3⟩ := ihp (by omega)
        rw [it_s, fm_app]
        obtain ⟨b, eb⟩ : ∃ b, b = it (fun p (a : tW) => if u.testBit p then a else c_tw T F j (k + 1) (u ||| 2 ^ p) (a.1, a.2.1, z_u a.2.2 k (nI p))) a p := ⟨_, rfl⟩
        rw [← eb] at h1 h2 h3 ⊢
        have up := hu p (by omega)
        cases hb : u.testBit p
        · rw [if_neg (by decide)]
          rw [hb] at up
          have ag : ∀ i, i < k → N i = r_N b.2.2 i := fun i hi2 => by
            rw [eN]
            show (a.2.2 i).toNatClampNeg = (b.2.2 i).toNatClampNeg
            rw [h2 i hi2]
          have eR : r_N (z_u b.2.2 k (nI p)) = z_u (r_N b.2.2) k p := rN_u (by omega)
          have ag2 : ∀ i, i < k + 1 → z_u N k p i = z_u (r_N b.2.2) k p i := fun i hi2 => by
            by_cases e : i = k
            · rw [e, u_eq, u_eq]
            · rw [u_ne _ _ e, u_ne _ _ e]; exact ag i (by omega)
          have un := usd_f.mp up.symm
          have ij : inj (z_u N k p) (k + 1) T.1 := by
            refine ⟨fun i hi2 => ?_, fun i i' h4 h5 e => ?_⟩
            · by_cases e : i = k
              · rw [e, u_eq]; omega
              · rw [u_ne _ _ e]; exact hi.1 i (by omega)
            · by_cases e1 : i = k
              · by_cases e2 : i' = k
                · omega
                · rw [e1, u_eq, u_ne _ _ e2] at e; exact absurd e.symm (un i' (by omega))
              · by_cases e2 : i' = k
                · rw [e2, u_eq, u_ne _ _ e1] at e; exact absurd e (un i (by omega))
                · rw [u_ne _ _ e1, u_ne _ _ e2] at e; exact hi.2 i i' (by omega) (by omega) e
          have hu2 : ∀ v, v < T.1 → (u ||| 2 ^ p).testBit v = usd (z_u N k p) (k + 1) v := us_s hu
          obtain ⟨s1, s2, s3⟩ := ih (k + 1) (u ||| 2 ^ p) (b.1, b.2.1, z_u b.2.2 k (nI p)) (by omega) (by
            show inj (r_N (z_u b.2.2 k (nI p))) (k + 1) T.1
            rw [eR]
            exact ⟨fun i h => by rw [← ag2 i h]; exact ij.1 i h, fun i i' h h' e => ij.2 i i' h h' (by rw [ag2 i h, ag2 i' h']; exact e)⟩) (fun i hi2 => by
            show z_u b.2.2 k (nI p) i = nI (r_N (z_u b.2.2 k (nI p)) i)
            rw [eR]
            by_cases e : i = k
            · rw [e, u_eq, u_eq]
            · rw [u_ne _ _ e, u_ne _ _ e, h2 i (by omega), hr i (by omega), ← eN, ← ag i (by omega)]) (fun v hv => by
            show (u ||| 2 ^ p).testBit v = usd (r_N (z_u b.2.2 k (nI p))) (k + 1) v
            rw [eR, ← usd_c ag2]
            exact hu2 v hv)
          have es : sq F T false (k + 1) (r_N (z_u b.2.2 k (nI p))) = f p := by
            rw [eR, ef]
            show _ = if usd N k p then [] else sq F T false (k + 1) (z_u N k p)
            rw [← up, if_neg (by decide)]
            exact (sq_c ag2).symm
          dsimp only at s1 s2 s3
          rw [es] at s1 s3
          refine ⟨?_, fun i hi2 => ?_, fun i hi2 => ?_⟩
          · rw [s1, h1, List.length_append]; omega
          · rw [s2 i (by omega), u_ne _ _ (by omega)]; exact h2 i hi2
          · rw [s3 i hi2, h1]
            exact hdv_app (h3 i hi2)
        · rw [if_pos rfl]
          rw [hb] at up
          have z : f p = [] := by
            rw [ef]
            show (if usd N k p then [] else _) = []
            rw [← up, if_pos rfl]
          rw [z, List.append_nil]
          exact ⟨h1, h2, h3⟩
    have e2 : c_tw T F (j + 1) k u a = it (fun p (a : tW) => if u.testBit p then a else c_tw T F j (k + 1) (u ||| 2 ^ p) (a.1, a.2.1, z_u a.2.2 k (nI p))) a T.1 := rfl
    rw [e2, sq_l hkF, ← ef]
    exact key T.1 (Nat.le_refl _)
/-- the ways within, as the reference counts them and tells the first -/
theorem wys_ref (hF : c_sok F) (hT : c_sok T) (W f : Nat → Int32) (N : Nat → Nat) : (c_wys T F W f).1 = (sq F T false 0 N).length ∧ ∀ i, i < F.1 → (c_wys T F W f).2.1 i = hdv 0 (sq F T false 0 N) W i := by
  obtain ⟨h1, _, h3⟩ := tw_ref hF hT F.1 0 0 (0, W, f) (by omega) ⟨fun i hi => absurd hi (Nat.not_lt_zero _), fun i j hi => absurd hi (Nat.not_lt_zero _)⟩ (fun i hi => absurd hi (Nat.not_lt_zero _)) (us0 _ _)
  rw [sq_c (N' := N) (fun i hi => absurd hi (Nat.not_lt_zero _))] at h1 h3
  unfold c_wys
  refine ⟨?_, h3⟩
  rw [h1]
  exact Nat.zero_add _
/-- the first way is the one that is found first -/
theorem fin_first {ex : Bool} (hF : c_sok F) (hT : c_sok T) (hs : sx F T ex) (N N0 : Nat → Nat) {M : Nat → Nat} (hM : (sq F T ex 0 N0).head? = some M) : (g_fin F T ex F.1 0 0 0 N).1 = true ∧ ∀ p, p < F.1 → (g_fin F T ex F.1 0 0 0 N).2 p = M p := by
  obtain ⟨_, s2, s3⟩ := fin_spec hF hT hs F.1 0 0 0 N (by omega) (pw_0 N 0) (ti_0 _ _) (us0 N T.1)
  have hm : M ∈ sq F T ex 0 N0 := List.mem_of_head? hM
  obtain ⟨m1, _, m3⟩ := (sq_mem (Nat.zero_le _)).mp hm
  have tr : (g_fin F T ex F.1 0 0 0 N).1 = true := by
    cases hg : (g_fin F T ex F.1 0 0 0 N).1
    · exact absurd (fun i hi => absurd hi (Nat.not_lt_zero _)) (s3 hg M m1)
    · rfl
  refine ⟨tr, fun p hp => ?_⟩
  obtain ⟨w1, w2⟩ := s2 tr
  obtain ⟨R, eR⟩ : ∃ R, R = nrm F.1 (g_fin F T ex F.1 0 0 0 N).2 := ⟨_, rfl⟩
  have hR : R ∈ sq F T ex 0 N0 := (sq_mem (Nat.zero_le _)).mpr ⟨by rw [eR]; exact wy_c hF (fun i hi => (if_pos hi).symm) w1, fun i hi => absurd hi (Nat.not_lt_zero _), fun i hi => by rw [eR]; exact if_neg (by omega)⟩
  have e : R p = (g_fin F T ex F.1 0 0 0 N).2 p := by rw [eR]; exact if_pos hp
  rw [← e]
  apply Classical.byContradiction
  intro n
  have pw : (sq F T ex 0 N0).Pairwise lx := List.Pairwise.filter _ (ij_pw _ _ _ _)
  cases hq : sq F T ex 0 N0 with
  | nil => rw [hq] at hM; cases hM
  | cons a l =>
    rw [hq] at hM hR pw
    have ea : a = M := Option.some.inj hM
    subst ea
    rcases List.mem_cons.mp hR with c | c
    · rw [c] at n; exact n rfl
    · obtain ⟨i, i1, i2⟩ := (List.pairwise_cons.mp pw).1 R c
      have hi : i < F.1 := by
        apply Classical.byContradiction
        intro q
        have : R i = 0 := by rw [eR]; exact if_neg q
        omega
      refine w2 a m1 (fun i hi => absurd hi (Nat.not_lt_zero _)) ⟨i, hi, fun j hj => ?_, ?_⟩
      · rw [i1 j hj, eR]; exact if_pos (by omega)
      · have : R i = (g_fin F T ex F.1 0 0 0 N).2 i := by rw [eR]; exact if_pos hi
        rw [← this]; exact i2
end B14
