/-! MATHEMATICS: polarities -/
def mtl (F : Sc) (p n : Nat) (M : Nat → Nat) : Bool := (List.range' p (n - p)).all (fun b => g_mut F M b (M b))
noncomputable def plq (F T : Sc) (p : Nat) (N : Nat → Nat) : List (Nat → Nat) := (sq F T true p N).filter (mtl F p F.1)
section B11
variable {F T S : Sc}
theorem mut_c {N N' : Nat → Nat} {p v : Nat} (h : ∀ i, i < p → N i = N' i) : g_mut F N p v = g_mut F N' p v := by
  unfold g_mut
  congr 1
  have e : ∀ i, i < p → decide (((F.2.2 (N i)).testBit p).toNat ≠ ((F.2.2 v).testBit i).toNat) = decide (((F.2.2 (N' i)).testBit p).toNat ≠ ((F.2.2 v).testBit i).toNat) := fun i hi => by rw [h i hi]
  cases c : c_any (fun q => decide (((F.2.2 (N' q)).testBit p).toNat ≠ ((F.2.2 v).testBit q).toNat)) p
  · exact any_f (fun i hi => by rw [e i hi]; exact any_fiff.mp c i hi)
  · cases c' : c_any (fun q => decide (((F.2.2 (N q)).testBit p).toNat ≠ ((F.2.2 v).testBit q).toNat)) p
    · rw [any_f (fun i hi => by rw [← e i hi]; exact any_fiff.mp c' i hi)] at c
      cases c
    · rfl
theorem sq_one {ex : Bool} {N : Nat → Nat} (hF : c_sok F) (h : wy F T ex N) : sq F T ex F.1 N = [nrm F.1 N] := by
  refine sr_eq (R := lx) (fun _ _ => lx_as) (List.Pairwise.filter _ (ij_pw _ _ _ _)) (List.pairwise_singleton _ _) (fun M => ?_)
  rw [sq_mem (Nat.le_refl _), List.mem_singleton]
  constructor
  · rintro ⟨_, h2, h3⟩
    funext i
    unfold nrm
    by_cases c : i < F.1
    · rw [if_pos c]; exact h2 i c
    · rw [if_neg c]; exact h3 i (by omega)
  · rintro rfl
    exact ⟨wy_c hF (fun i hi => (if_pos hi).symm) h, fun i hi => if_pos hi, fun i hi => if_neg (by omega)⟩
theorem plq_s {p : Nat} {N : Nat → Nat} (hp : p < F.1) : plq F T p N = (List.range T.1).flatMap (fun v => if usd N p v || !g_mut F N p v then [] else plq F T (p + 1) (z_u N p v)) := by
  unfold plq
  rw [sq_l hp, List.filter_flatMap]
  refine fm_cg _ (fun v _ => ?_)
  cases hu : usd N p v
  · rw [if_neg (by decide), Bool.false_or]
    have key : ∀ M, M ∈ sq F T true (p + 1) (z_u N p v) → mtl F p F.1 M = (g_mut F N p v && mtl F (p + 1) F.1 M) := fun M hM => by
      obtain ⟨_, h2, _⟩ := (sq_mem (by omega)).mp hM
      unfold mtl
      rw [show F.1 - p = (F.1 - (p + 1)) + 1 by omega, List.range'_succ, List.all_cons]
      congr 1
      rw [h2 p (by omega), u_eq]
      exact mut_c (fun i hi => by rw [h2 i (by omega), u_ne _ _ (by omega)])
    rw [List.filter_congr key]
    cases hg : g_mut F N p v
    · rw [if_pos (by decide)]
      apply List.filter_eq_nil_iff.mpr
      intro M _
      simp
    · rw [if_neg (by decide)]
      exact List.filter_congr (fun M _ => by rw [Bool.true_and])
  · rw [if_pos rfl, Bool.true_or, if_pos rfl]
    rfl
theorem pol_spec (hF : c_sok F) (hT : c_sok T) (hx : F.1 = T.1 ∧ F.2.1 = T.2.1) : ∀ k p us N, p + k = F.1 → pw F T true N p 0 → (∀ v, v < T.1 → us.testBit v = usd N p v) → (g_pol F T true k p us N).1 = (plq F T p N).length ∧ ∀ i, i < p → (g_pol F T true k p us N).2 i = N i := by
  intro k
  induction k with
  | zero =>
    intro p us N hp hw hu
    have e : p = F.1 := by omega
    subst e
    refine ⟨?_, fun i _ => rfl⟩
    unfold plq
    rw [sq_one hF (pw_end hF hT hw)]
    have : mtl F F.1 F.1 (nrm F.1 N) = true := by unfold mtl; rw [Nat.sub_self]; rfl
    rw [List.filter_cons, this, if_pos rfl]
    rfl
  | succ k ih =>
    intro p us N hp hw hu
    have hpF : p < F.1 := by omega
    have loop : ∀ r v s N', v + r = T.1 → (∀ i, i < p → N i = N' i) → (polV (fun u N => g_pol F T true k (p + 1) u N) F T true p us r v s N').1 = s + ((List.range' v r).map (fun w => (if usd N p w || !g_mut F N p w then [] else plq F T (p + 1) (z_u N p w)).length)).sum ∧ ∀ i, i < p → (polV (fun u N => g_pol F T true k (p + 1) u N) F T true p us r v s N').2 i = N i := by
      intro r
      induction r with
      | zero => intro v s N' hv hN; exact ⟨rfl, fun i hi => (hN i hi).symm⟩
      | succ r ihr =>
        intro v s N' hv hN
        have hvT : v < T.1 := by omega
        have huN : ∀ w, w < T.1 → us.testBit w = usd N' p w := fun w hw => by rw [hu w hw]; exact usd_c hN
        rw [List.range'_succ, List.map_cons, List.sum_cons]
        unfold polV
        by_cases c : us.testBit v = false ∧ g_mut F N' p v = true ∧ g_fit F T true N' p v 0 ≠ none
        · rw [if_pos c]
          obtain ⟨c1, c2, c3⟩ := c
          have hun : usd N p v = false := by rw [← hu v hvT]; exact c1
          have hm : g_mut F N p v = true := by rw [mut_c hN]; exact c2
          obtain ⟨t', hf⟩ : ∃ t', g_fit F T true N' p v 0 = some t' := by
            cases hg : g_fit F T true N' p v 0 with
            | none => exact absurd hg c3
            | some t' => exact ⟨t', rfl⟩
          obtain ⟨s1, s2⟩ := ih (p + 1) (us ||| 2 ^ v) (z_u N' p v) (by omega) (pw_t (pw_fit hF hT (pw_c hF hN hw) hvT (fun q hq => by rw [← hN q hq]; exact usd_f.mp hun q hq) hf)) (us_s huN)
          have e1 : plq F T (p + 1) (z_u N' p v) = plq F T (p + 1) (z_u N p v) := by
            unfold plq
            rw [sq_c (N' := z_u N p v) (fun i hi => by
              by_cases e : i = p
              · rw [e, u_eq, u_eq]
              · rw [u_ne _ _ e, u_ne _ _ e]; exact (hN i (by omega)).symm)]
          have hN2 : ∀ i, i < p → N i = (g_pol F T true k (p + 1) (us ||| 2 ^ v) (z_u N' p v)).2 i := fun i hi => by
            rw [s2 i (by omega), u_ne _ _ (by omega)]; exact hN i hi
          obtain ⟨r1, r2⟩ := ihr (v + 1) (s + (g_pol F T true k (p + 1) (us ||| 2 ^ v) (z_u N' p v)).1) _ (by omega) hN2
          refine ⟨?_, r2⟩
          rw [r1, hun, hm, Bool.not_true, Bool.or_false, if_neg (by decide), s1, e1]
          omega
        · rw [if_neg c]
          obtain ⟨r1, r2⟩ := ihr (v + 1) s N' (by omega) hN
          refine ⟨?_, r2⟩
          have z : (if usd N p v || !g_mut F N p v then [] else plq F T (p + 1) (z_u N p v)).length = 0 := by
            cases hun : usd N p v
            · cases hm : g_mut F N p v
              · rfl
              · rw [Bool.not_true, Bool.or_false, if_neg (by decide)]
                apply List.length_eq_zero_iff.mpr
                apply List.filter_eq_nil_iff.mpr
                intro M hM
                exfalso
                obtain ⟨h1, h2, _⟩ := (sq_mem (by omega)).mp hM
                apply c
                refine ⟨by rw [hu v hvT]; exact hun, by rw [← mut_c hN]; exact hm, fun e => ?_⟩
                obtain ⟨t', ht⟩ := fit_wy (ex := true) hF hT (fun _ => hx) h1 (p := p) (N := N') (t := 0) hpF (fun i hi => by rw [h2 i (by omega), u_ne _ _ (by omega)]; exact hN i hi) (ti_0 _ _)
                rw [h2 p (by omega), u_eq, e] at ht
                cases ht
            · rfl
          rw [r1, z]
          omega
    obtain ⟨l1, l2⟩ := loop T.1 0 0 N (by omega) (fun _ _ => rfl)
    refine ⟨?_, l2⟩
    rw [plq_s hpF, List.length_flatMap, List.range_eq_range', ← Nat.zero_add (List.sum _)]
    exact l1
theorem cpol_iff {N : Nat → Nat} : c_pol S N = mtl S 0 S.1 N := by
  apply Bool.eq_iff_iff.mpr
  unfold c_pol mtl g_mut
  rw [Bool.not_eq_true', any_fiff, List.all_eq_true]
  have tn : ∀ x y : Bool, (x.toNat ≠ y.toNat) ↔ (x ≠ y) := fun x y => by cases x <;> cases y <;> simp
  constructor
  · intro h b hb
    rw [Nat.sub_zero, ← List.range_eq_range', List.mem_range] at hb
    have h1 := any_fiff.mp (h b hb)
    rw [Bool.not_eq_true', any_fiff]
    intro q hq
    have := of_decide_eq_false (h1 q hq)
    exact decide_eq_false (fun c => this ((tn _ _).mp c))
  · intro h b hb
    have h1 := h b (by rw [Nat.sub_zero, ← List.range_eq_range', List.mem_range]; exact hb)
    rw [Bool.not_eq_true', any_fiff] at h1
    refine any_f (fun q hq => ?_)
    have := of_decide_eq_false (h1 q hq)
    exact decide_eq_false (fun c => this ((tn _ _).mpr c))
theorem pol_ref (hS : c_sok S) (N : Nat → Nat) : c_dual S true = g_pola S N := by
  unfold c_dual g_pola
  by_cases hn : S.1 = S.2.1
  · rw [if_pos hn, dual_cnt]
    have none_of : (∀ N, N ∈ pms S.1 → c_duaN S N = false) → ((pms S.1).filter (fun N => c_duaN S N && (!true || c_pol S N))).length = 0 := fun h => by
      apply List.length_eq_zero_iff.mpr
      apply List.filter_eq_nil_iff.mpr
      intro N hN
      rw [h N hN]
      simp
    cases ht : c_td S with
    | none =>
      dsimp only
      refine none_of (fun N hN => ?_)
      apply Bool.eq_false_iff.mpr
      intro h
      obtain ⟨t, h1, _⟩ := (dua_iff hS hn (pms_inj hN)).mp h
      rw [ht] at h1
      cases h1
    | some t =>
      dsimp only
      by_cases e : t.1 = S.2.1
      · rw [if_pos ⟨hn, e⟩]
        have hT := dS_sok hS ht
        have hx : S.1 = (dS S t).1 ∧ S.2.1 = (dS S t).2.1 := ⟨hn, e.symm⟩
        obtain ⟨p1, _⟩ := pol_spec hS hT hx S.1 0 0 N (by omega) (pw0 N) (us0 N _)
        rw [p1]
        unfold plq
        rw [← sq_pms hS hT hx N, List.filter_filter]
        have e3 : (dS S t).1 = S.1 := hn.symm
        rw [e3]
        congr 1
        refine List.filter_congr (fun M hM => ?_)
        rw [Bool.not_true, Bool.false_or, cpol_iff, Bool.and_comm]
        congr 1
        apply Bool.eq_iff_iff.mpr
        rw [dua_iff hS hn (pms_inj hM)]
        constructor
        · rintro ⟨t', h1, _, h3⟩
          rw [ht] at h1
          cases h1
          exact h3
        · intro h; exact ⟨t, ht, e, h⟩
      · rw [if_neg (fun c => e c.2)]
        refine none_of (fun N hN => ?_)
        apply Bool.eq_false_iff.mpr
        intro h
        obtain ⟨t', h1, h2, _⟩ := (dua_iff hS hn (pms_inj hN)).mp h
        rw [ht] at h1
        cases h1
        exact e h2
  · rw [if_neg hn]
    cases c_td S with
    | none => rfl
    | some t => dsimp only; rw [if_neg (fun c => hn c.1)]
end B11
