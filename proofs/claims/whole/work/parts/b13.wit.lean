/-! MATHEMATICS: ways within -/
section B13
variable {F T S : Sc} {ex : Bool}
theorem wy_pre {M τ : Nat → Nat} (h1 : wy F F true τ) (h2 : wy F T ex M) : wy F T ex (fun i => M (τ i)) := by
  obtain ⟨i1, φ, f1, f2⟩ := h1
  obtain ⟨i2, ψ, g1, g2⟩ := h2
  refine ⟨⟨fun i hi => i2.1 _ (i1.1 i hi), fun i j hi hj e => i1.2 i j hi hj (i2.2 _ _ (i1.1 i hi) (i1.1 j hj) e)⟩, fun l => ψ (φ l), fun l hl => ?_, fun l l' hl hl' e => f2 l l' hl hl' (g2 _ _ (f1 l hl).1 (f1 l' hl').1 e)⟩
  obtain ⟨a1, a2, a3⟩ := f1 l hl
  obtain ⟨b1, b2, b3⟩ := g1 (φ l) a1
  refine ⟨b1, fun i hi => b2 _ (a2 i hi), ?_⟩
  have e := hold_x a3
  unfold g_hold at b3 ⊢
  rw [← e]
  exact b3
def tE (F : Sc) (q b : Nat) : Bool := (g_twT F b).testBit q
theorem tE_i (hF : c_sok F) {q b : Nat} : tE F q b = true ↔ (b < F.1 ∧ q < F.1 ∧ b ≠ q ∧ wy F F true (trs b q)) := twT_iff hF b q
theorem tE_s (hF : c_sok F) (a b : Nat) (h : tE F a b = true) : tE F b a = true := by
  obtain ⟨h1, h2, h3, h4⟩ := (tE_i hF).mp h
  exact (tE_i hF).mpr ⟨h2, h1, fun e => h3 e.symm, wy_c hF (fun i _ => trs_c b a i) h4⟩
theorem trs3 {a b c : Nat} (hab : a ≠ b) (hbc : b ≠ c) (hac : a ≠ c) (i : Nat) : trs a b (trs b c (trs a b i)) = trs a c i := by
  have v : ∀ x y z, trs x y z = if z = x then y else if z = y then x else z := fun _ _ _ => rfl
  by_cases h1 : i = a
  · subst h1
    rw [v i b i, if_pos rfl, v b c b, if_pos rfl, v i b c, if_neg (fun e => hac e.symm), if_neg (fun e => hbc e.symm), v i c i, if_pos rfl]
  · by_cases h2 : i = b
    · subst h2
      rw [v a i i, if_neg h1, if_pos rfl, v i c a, if_neg hab, if_neg hac, v a i a, if_pos rfl, v a c i, if_neg h1, if_neg hbc]
    · by_cases h3 : i = c
      · subst h3
        rw [v a b i, if_neg h1, if_neg h2, v b i i, if_neg h2, if_pos rfl, v a b b, if_neg (fun e => hab e.symm), if_pos rfl, v a i i, if_neg h1, if_pos rfl]
      · rw [v a b i, if_neg h1, if_neg h2, v b c i, if_neg h2, if_neg h3, v a b i, if_neg h1, if_neg h2, v a c i, if_neg h1, if_neg h3]
theorem tE_t (hF : c_sok F) (a b c : Nat) (h : tE F a b = true) (h' : tE F b c = true) (hn : a ≠ c) : tE F a c = true := by
  obtain ⟨h1, h2, h3, h4⟩ := (tE_i hF).mp h
  obtain ⟨g1, g2, g3, g4⟩ := (tE_i hF).mp h'
  have ab : wy F F true (trs a b) := wy_c hF (fun i _ => trs_c b a i) h4
  have bc : wy F F true (trs b c) := wy_c hF (fun i _ => trs_c c b i) g4
  have := wy_comp (wy_comp ab bc) ab
  refine (tE_i hF).mpr ⟨g1, h2, fun e => hn e.symm, wy_c hF (fun i _ => ?_) this⟩
  show trs a b (trs b c (trs a b i)) = trs c a i
  rw [trs3 (fun e => h3 e.symm) (fun e => g3 e.symm) hn, trs_c]
theorem tw_twc (hF : c_sok F) (N : Nat → Nat) : twc (tE F) F.1 (sq F T ex 0 N) := by
  refine ⟨tE_s hF, tE_t hF, sq_nd 0 N, fun M hM i j hi hj e => ((sq_mem (Nat.zero_le _)).mp hM).1.1.2 i j hi hj e, fun M hM a b ha hb he => ?_⟩
  obtain ⟨h1, _, h3⟩ := (sq_mem (Nat.zero_le _)).mp hM
  have w := ((tE_i hF).mp (tE_s hF a b he)).2.2.2
  refine (sq_mem (Nat.zero_le _)).mpr ⟨wy_pre w h1, fun i hi => absurd hi (Nat.not_lt_zero _), fun i hi => ?_⟩
  show M (trs a b i) = 0
  unfold trs
  rw [if_neg (by omega), if_neg (by omega)]
  exact h3 i hi
theorem pc_cls {x p : Nat} (hp : p ≤ 12) : n_pc (x &&& (2 ^ p - 1)) = ((List.range p).filter (fun q => x.testBit q)).length := by
  rw [pc_len]
  congr 1
  refine sr_eq (R := (· < ·)) (fun a b h1 h2 => by omega) (List.Pairwise.filter _ List.pairwise_lt_range) (List.Pairwise.filter _ List.pairwise_lt_range) (fun q => ?_)
  rw [List.mem_filter, List.mem_filter, List.mem_range, List.mem_range, Nat.testBit_and, Nat.testBit_two_pow_sub_one, Bool.and_eq_true, decide_eq_true_iff]
  exact ⟨fun h => ⟨h.2.2, h.2.1⟩, fun h => ⟨by omega, h.2, h.1⟩⟩
theorem twO_cls (hF : c_sok F) : g_twO F = it (fun p x => x * (1 + (cls (tE F) p).length)) 1 F.1 := by
  unfold g_twO
  refine it_congr F.1 (fun p x hp => ?_)
  have := hF.1.2
  rw [pc_cls (by omega)]
  rfl
/-! the tally -/
theorem lnR_c {N N' : Nat → Nat} {b : Nat} : ∀ k, (∀ i, i < k → N i = N' i) → lnR F N b k = lnR F N' b k := by
  intro k
  induction k with
  | zero => intro _; rfl
  | succ k ih =>
    intro h
    unfold lnR
    rw [h k (by omega), ih (fun i hi => h i (by omega))]
theorem ln_c {N N' : Nat → Nat} {b : Nat} (h : ∀ i, i < b → N i = N' i) : g_ln F N b = g_ln F N' b := lnR_c b h
theorem lnR_s {M : Nat → Nat} {b : Nat} : ∀ k, (lnR F M b k = 0 ∧ ∀ q, q < k → tE F q b = false) ∨ ∃ q, q < k ∧ tE F q b = true ∧ lnR F M b k = M q + 1 ∧ ∀ q', q < q' → q' < k → tE F q' b = false := by
  intro k
  induction k with
  | zero => exact Or.inl ⟨rfl, fun q hq => absurd hq (Nat.not_lt_zero _)⟩
  | succ k ih =>
    unfold lnR
    cases ht : (g_twT F b).testBit k
    · rw [if_neg (by decide)]
      rcases ih with ⟨h1, h2⟩ | ⟨q, h1, h2, h3, h4⟩
      · exact Or.inl ⟨h1, fun q hq => by
          by_cases e : q = k
          · rw [e]; exact ht
          · exact h2 q (by omega)⟩
      · exact Or.inr ⟨q, by omega, h2, h3, fun q' h5 h6 => by
          by_cases e : q' = k
          · rw [e]; exact ht
          · exact h4 q' h5 (by omega)⟩
    · rw [if_pos rfl]
      exact Or.inr ⟨k, by omega, ht, rfl, fun q' h5 h6 => by omega⟩
def rsl (F : Sc) (p n : Nat) (M : Nat → Nat) : Bool := (List.range' p (n - p)).all (fun b => decide (g_ln F M b ≤ M b))
theorem rsl_ris (hF : c_sok F) {n : Nat} (M : Nat → Nat) : rsl F 0 n M = ris (tE F) n M := by
  apply Bool.eq_iff_iff.mpr
  rw [ris_t]
  unfold rsl
  rw [List.all_eq_true, Nat.sub_zero, ← List.range_eq_range']
  constructor
  · intro h
    have key : ∀ k b q, b < k → b < n → q < b → tE F q b = true → M q < M b := by
      intro k
      induction k with
      | zero => intro b q hb; omega
      | succ k ih =>
        intro b q hb hbn hq he
        have h1 := of_decide_eq_true (h b (List.mem_range.mpr hbn))
        rcases lnR_s (F := F) (M := M) (b := b) b with ⟨_, h3⟩ | ⟨q', h2, h3, h4, h5⟩
        · rw [h3 q hq] at he; cases he
        · have h1' : lnR F M b b ≤ M b := h1
          rw [h4] at h1'
          rcases Nat.lt_trichotomy q q' with c | c | c
          · have := ih q' q (by omega) (by omega) c (tE_t hF q b q' he (tE_s hF _ _ h3) (by omega))
            omega
          · subst c; omega
          · rw [h5 q c hq] at he; cases he
    exact fun b q hb hq he => key (b + 1) b q (by omega) hb hq he
  · intro h b hb
    have hb := List.mem_range.mp hb
    apply decide_eq_true
    show lnR F M b b ≤ M b
    rcases lnR_s (F := F) (M := M) (b := b) b with ⟨h2, _⟩ | ⟨q', h2, h3, h4, _⟩
    · rw [h2]; exact Nat.zero_le _
    · rw [h4]; exact h b q' hb h2 h3
noncomputable def taq (F T : Sc) (ex : Bool) (p : Nat) (N : Nat → Nat) : List (Nat → Nat) := (sq F T ex p N).filter (rsl F p F.1)
theorem taq_s {p : Nat} {N : Nat → Nat} (hp : p < F.1) : taq F T ex p N = (List.range T.1).flatMap (fun v => if usd N p v || decide (v < g_ln F N p) then [] else taq F T ex (p + 1) (z_u N p v)) := by
  unfold taq
  rw [sq_l hp, List.filter_flatMap]
  refine fm_cg _ (fun v _ => ?_)
  cases hu : usd N p v
  · rw [if_neg (by decide), Bool.false_or]
    have key : ∀ M, M ∈ sq F T ex (p + 1) (z_u N p v) → rsl F p F.1 M = (decide (g_ln F N p ≤ v) && rsl F (p + 1) F.1 M) := fun M hM => by
      obtain ⟨_, h2, _⟩ := (sq_mem (by omega)).mp hM
      unfold rsl
      rw [show F.1 - p = (F.1 - (p + 1)) + 1 by omega, List.range'_succ, List.all_cons]
      congr 1
      rw [h2 p (by omega), u_eq, ln_c (N' := N) (fun i hi => by rw [h2 i (by omega), u_ne _ _ (by omega)])]
    rw [List.filter_congr key]
    by_cases hg : v < g_ln F N p
    · rw [decide_eq_true hg, if_pos rfl]
      apply List.filter_eq_nil_iff.mpr
      intro M _
      rw [decide_eq_false (by omega)]
      simp
    · rw [decide_eq_false hg, if_neg (by decide)]
      exact List.filter_congr (fun M _ => by rw [decide_eq_true (show g_ln F N p ≤ v by omega), Bool.true_and])
  · rw [if_pos rfl, Bool.true_or, if_pos rfl]
    rfl
theorem sum_z {f : Nat → Nat} : ∀ l : List Nat, (∀ v, v ∈ l → f v = 0) → (l.map f).sum = 0
  | [], _ => rfl
  | a :: l, h => by rw [List.map_cons, List.sum_cons, sum_z l (fun v hv => h v (List.mem_cons_of_mem _ hv)), h a List.mem_cons_self]
theorem tal_spec (hF : c_sok F) (hT : c_sok T) (hs : sx F T ex) : ∀ k p us t N, p + k = F.1 → pw F T ex N p t → ti F T N p t → (∀ v, v < T.1 → us.testBit v = usd N p v) → (g_tal F T ex k p us t N).1 = (taq F T ex p N).length ∧ ∀ i, i < p → (g_tal F T ex k p us t N).2 i = N i := by
  intro k
  induction k with
  | zero =>
    intro p us t N hp hw ht hu
    have e : p = F.1 := by omega
    subst e
    refine ⟨?_, fun i _ => rfl⟩
    unfold taq
    rw [sq_one hF (pw_end hF hT hw)]
    have : rsl F F.1 F.1 (nrm F.1 N) = true := by unfold rsl; rw [Nat.sub_self]; rfl
    rw [List.filter_cons, this, if_pos rfl]
    rfl
  | succ k ih =>
    intro p us t N hp hw ht hu
    have hpF : p < F.1 := by omega
    obtain ⟨g, eg⟩ : ∃ g, g = g_ln F N p := ⟨_, rfl⟩
    have loop : ∀ r v s N', (r = 0 ∨ v + r = T.1) → g ≤ v → (∀ i, i < p → N i = N' i) → (talV (fun u t N => g_tal F T ex k (p + 1) u t N) F T ex p us t r v s N').1 = s + ((List.range' v r).map (fun w => (if usd N p w || decide (w < g) then [] else taq F T ex (p + 1) (z_u N p w)).length)).sum ∧ ∀ i, i < p → (talV (fun u t N => g_tal F T ex k (p + 1) u t N) F T ex p us t r v s N').2 i = N i := by
      intro r
      induction r with
      | zero => intro v s N' hv hg hN; exact ⟨rfl, fun i hi => (hN i hi).symm⟩
      | succ r ihr =>
        intro v s N' hv hg hN
        have hvT : v < T.1 := by omega
        have huN : ∀ w, w < T.1 → us.testBit w = usd N' p w := fun w hw => by rw [hu w hw]; exact usd_c hN
        rw [List.range'_succ, List.map_cons, List.sum_cons]
        have nx : r = 0 ∨ v + 1 + r = T.1 := by omega
        have none_of : (∀ M, wy F T ex M → agp p N M → M p ≠ v) → (if usd N p v || decide (v < g) then [] else taq F T ex (p + 1) (z_u N p v)).length = 0 := fun h => by
          cases hun : usd N p v
          · rw [Bool.false_or, decide_eq_false (by omega), if_neg (by decide)]
            apply List.length_eq_zero_iff.mpr
            apply List.filter_eq_nil_iff.mpr
            intro M hM
            obtain ⟨h1, h2, _⟩ := (sq_mem (by omega)).mp hM
            exact absurd (by rw [h2 p (by omega), u_eq]) (h M h1 (fun i hi => by rw [h2 i (by omega), u_ne _ _ (by omega)]))
          · rfl
        unfold talV
        by_cases c : us.testBit v = false
        · rw [if_pos c]
          have hun : usd N p v = false := by rw [← hu v hvT]; exact c
          cases hf : g_fit F T ex N' p v t with
          | none =>
            dsimp only
            obtain ⟨r1, r2⟩ := ihr (v + 1) s N' nx (by omega) hN
            refine ⟨?_, r2⟩
            rw [r1, none_of (fun M h1 h2 e => ?_)]
            · omega
            · obtain ⟨t', ht'⟩ := fit_wy hF hT hs h1 (p := p) (N := N') (t := t) hpF (fun i hi => by rw [← hN i hi]; exact h2 i hi) (ti_c hN ht)
              rw [e, hf] at ht'
              cases ht'
          | some t' =>
            dsimp only
            obtain ⟨s1, s2⟩ := ih (p + 1) (us ||| 2 ^ v) t' (z_u N' p v) (by omega) (pw_fit hF hT (pw_c hF hN hw) hvT (fun q hq => by rw [← hN q hq]; exact usd_f.mp hun q hq) hf) (ti_fit hF hT (ti_c hN ht) hf) (us_s huN)
            have e1 : taq F T ex (p + 1) (z_u N' p v) = taq F T ex (p + 1) (z_u N p v) := by
              unfold taq
              rw [sq_c (N' := z_u N p v) (fun i hi => by
                by_cases e : i = p
                · rw [e, u_eq, u_eq]
                · rw [u_ne _ _ e, u_ne _ _ e]; exact (hN i (by omega)).symm)]
            have hN2 : ∀ i, i < p → N i = (g_tal F T ex k (p + 1) (us ||| 2 ^ v) t' (z_u N' p v)).2 i := fun i hi => by
              rw [s2 i (by omega), u_ne _ _ (by omega)]; exact hN i hi
            obtain ⟨r1, r2⟩ := ihr (v + 1) (s + (g_tal F T ex k (p + 1) (us ||| 2 ^ v) t' (z_u N' p v)).1) _ nx (by omega) hN2
            refine ⟨?_, r2⟩
            rw [r1, hun, Bool.false_or, decide_eq_false (show ¬ v < g by omega), if_neg (by decide), s1, e1]
            omega
        · rw [if_neg c]
          obtain ⟨r1, r2⟩ := ihr (v + 1) s N' nx (by omega) hN
          refine ⟨?_, r2⟩
          rw [r1, none_of (fun M h1 h2 e => ?_)]
          · omega
          · have hb : us.testBit v = true := by
              cases hb : us.testBit v
              · exact absurd hb c
              · rfl
            rw [hu v hvT] at hb
            obtain ⟨q, q1, q2⟩ := usd_t.mp hb
            have := h1.1.2 q p (by omega) hpF (by rw [h2 q q1, e, q2])
            omega
    obtain ⟨l1, l2⟩ := loop (T.1 - g) g 0 N (by omega) (Nat.le_refl _) (fun _ _ => rfl)
    have et : g_tal F T ex (k + 1) p us t N = talV (fun u t N => g_tal F T ex k (p + 1) u t N) F T ex p us t (T.1 - g) g 0 N := by rw [eg]; rfl
    rw [et]
    refine ⟨?_, l2⟩
    rw [l1, taq_s hpF, List.length_flatMap, ← eg, Nat.zero_add]
    by_cases c : g ≤ T.1
    · have e3 : List.range T.1 = List.range g ++ List.range' g (T.1 - g) := by
        rw [List.range_eq_range', List.range_eq_range']
        have : T.1 = g + (T.1 - g) := by omega
        rw [show List.range' 0 T.1 = List.range' 0 (g + (T.1 - g)) by rw [← this], List.range'_append_1.symm, Nat.zero_add]
      rw [e3, List.map_append, List.sum_append, sum_z (List.range g) (fun v hv => by
        have := List.mem_range.mp hv
        rw [decide_eq_true this, Bool.or_true, if_pos rfl]
        rfl), Nat.zero_add]
    · rw [show T.1 - g = 0 by omega, sum_z (List.range T.1) (fun v hv => by
        have := List.mem_range.mp hv
        rw [decide_eq_true (show v < g by omega), Bool.or_true, if_pos rfl]
        rfl)]
      rfl
/-- all ways within: the tally times the orders of twins -/
theorem tal_all (hF : c_sok F) (hT : c_sok T) (hs : sx F T ex) (N : Nat → Nat) : (sq F T ex 0 N).length = (g_tal F T ex F.1 0 0 0 N).1 * g_twO F := by
  rw [(tal_spec hF hT hs F.1 0 0 0 N (by omega) (pw_0 N 0) (ti_0 _ _) (us0 N _)).1, ris_all (tw_twc hF N), twO_cls hF, Nat.mul_comm]
  unfold taq
  congr 2
  exact List.filter_congr (fun M _ => (rsl_ris hF M).symm)
theorem wit_none (hF : c_sok F) (hT : c_sok T) (N : Nat → Nat) (h : T.1 < F.1 ∨ T.2.1 < F.2.1) : (sq F T ex 0 N).length = 0 := by
  apply List.length_eq_zero_iff.mpr
  apply List.eq_nil_iff_forall_not_mem.mpr
  intro M hM
  obtain ⟨⟨h1, φ, f1, f2⟩, _, _⟩ := (sq_mem (Nat.zero_le _)).mp hM
  rcases h with h | h
  · have := nd_le (A := List.range F.1) (B := List.range T.1) M List.nodup_range (fun i hi => List.mem_range.mpr (h1.1 i (List.mem_range.mp hi))) (fun i j hi hj e => h1.2 i j (List.mem_range.mp hi) (List.mem_range.mp hj) e)
    rw [List.length_range, List.length_range] at this
    omega
  · have := nd_le (A := List.range F.2.1) (B := List.range T.2.1) φ List.nodup_range (fun i hi => List.mem_range.mpr (f1 i (List.mem_range.mp hi)).1) (fun i j hi hj e => f2 i j (List.mem_range.mp hi) (List.mem_range.mp hj) e)
    rw [List.length_range, List.length_range] at this
    omega
end B13
