/-! MATHEMATICS: the first way that goes on from some names -/
def lxn (n : Nat) (M M' : Nat → Nat) : Prop := ∃ i, i < n ∧ (∀ j, j < i → M j = M' j) ∧ M i < M' i
def fsp (F T : Sc) (ex : Bool) (p : Nat) (N : Nat → Nat) (R : Bool × (Nat → Nat)) : Prop := agp p N R.2 ∧ (R.1 = true → wy F T ex R.2 ∧ ∀ M, wy F T ex M → agp p N M → ¬ lxn F.1 M R.2) ∧ (R.1 = false → ∀ M, wy F T ex M → ¬ agp p N M)
section B5
variable {F T : Sc} {ex : Bool}
theorem usd_c {N N' : Nat → Nat} {p v : Nat} (h : ∀ i, i < p → N i = N' i) : usd N p v = usd N' p v := by
  apply Bool.eq_iff_iff.mpr
  rw [usd_t, usd_t]
  exact ⟨fun ⟨q, h1, h2⟩ => ⟨q, h1, by rw [← h q h1]; exact h2⟩, fun ⟨q, h1, h2⟩ => ⟨q, h1, by rw [h q h1]; exact h2⟩⟩
theorem us_s {N : Nat → Nat} {p v m us : Nat} (h : ∀ w, w < m → us.testBit w = usd N p w) : ∀ w, w < m → (us ||| 2 ^ v).testBit w = usd (z_u N p v) (p + 1) w := by
  intro w hw
  rw [Nat.testBit_or, Nat.testBit_two_pow, h w hw]
  apply Bool.eq_iff_iff.mpr
  rw [Bool.or_eq_true, decide_eq_true_iff, usd_t, usd_t]
  constructor
  · rintro (⟨q, h1, h2⟩ | e)
    · exact ⟨q, by omega, by rw [u_ne _ _ (by omega)]; exact h2⟩
    · exact ⟨p, by omega, by rw [u_eq]; exact e⟩
  · rintro ⟨q, h1, h2⟩
    by_cases e : q = p
    · rw [e, u_eq] at h2; exact Or.inr h2
    · rw [u_ne _ _ e] at h2; exact Or.inl ⟨q, by omega, h2⟩
theorem ti_c {N N' : Nat → Nat} {p t : Nat} (h : ∀ i, i < p → N i = N' i) (ht : ti F T N p t) : ti F T N' p t := fun o ho => by
  obtain ⟨l, a, b, h1, h2, h3, h4, h5, h6⟩ := ht o ho
  exact ⟨l, a, b, h1, h2, h3, h4, by rw [← h a (by omega)]; exact h5, by rw [← h b h2]; exact h6⟩
theorem pw_c (hF : c_sok F) {N N' : Nat → Nat} {p t : Nat} (h : ∀ i, i < p → N i = N' i) (hw : pw F T ex N p t) : pw F T ex N' p t := by
  obtain ⟨h1, h2, h3⟩ := hw
  have lc : ∀ l o, lo F T N' p l o → lo F T N p l o := fun l o hl => by
    obtain ⟨a, b, k1, k2, k3, k4, k5⟩ := hl
    exact ⟨a, b, k1, k2, k3, k4, by rw [h a (by omega), h b k2]; exact k5⟩
  refine ⟨⟨fun i hi => by rw [← h i hi]; exact h1.1 i hi, fun i j hi hj e => h1.2 i j hi hj (by rw [h i hi, h j hj]; exact e)⟩, fun b q hq hb => ?_, fun he => ⟨fun l o hl => (h3 he).1 l o (lc l o hl), fun l l' o hl hl' => (h3 he).2 l l' o (lc l o hl) (lc l' o hl')⟩⟩
  rw [← h b hb]
  exact pq_c hF hq (fun i hi => h i (by omega)) (h2 b q hq hb)
theorem fsp_c {p : Nat} {N N' : Nat → Nat} {R : Bool × (Nat → Nat)} (h : ∀ i, i < p → N i = N' i) (hf : fsp F T ex p N R) : fsp F T ex p N' R := by
  have e : ∀ M, agp p N' M → agp p N M := fun M hM i hi => by rw [h i hi]; exact hM i hi
  exact ⟨fun i hi => by rw [← h i hi]; exact hf.1 i hi, fun hr => ⟨(hf.2.1 hr).1, fun M hw hM => (hf.2.1 hr).2 M hw (e M hM)⟩, fun hr M hw hM => hf.2.2 hr M hw (e M hM)⟩
theorem fin_spec (hF : c_sok F) (hT : c_sok T) (hs : sx F T ex) : ∀ k p us t N, p + k = F.1 → pw F T ex N p t → ti F T N p t → (∀ v, v < T.1 → us.testBit v = usd N p v) → fsp F T ex p N (g_fin F T ex k p us t N) := by
  intro k
  induction k with
  | zero =>
    intro p us t N hp hw ht hu
    have e : p = F.1 := by omega
    subst e
    refine ⟨fun i _ => rfl, fun _ => ⟨pw_end hF hT hw, fun M _ hM hl => ?_⟩, fun h => by cases h⟩
    obtain ⟨i, h1, _, h3⟩ := hl
    have h4 : M i < N i := h3
    rw [hM i h1] at h4
    omega
  | succ k ih =>
    intro p us t N hp hw ht hu
    have hpF : p < F.1 := by omega
    have loop : ∀ r v fl N', v + r = T.1 → (∀ i, i < p → N i = N' i) → (∀ w, w < v → ∀ M, wy F T ex M → agp p N M → M p ≠ w) → (∀ w, fl.testBit w = true → w < T.1 ∧ usd N p w = false ∧ ∀ M, wy F T ex M → agp p N M → M p ≠ w) → fsp F T ex p N (finV (fun u t N => g_fin F T ex k (p + 1) u t N) F T ex p us t r v fl N') := by
      intro r
      induction r with
      | zero =>
        intro v fl N' hv hN hlow hfl
        refine ⟨fun i hi => (hN i hi).symm, fun h => (by cases h), fun _ M hM ha => ?_⟩
        exact hlow (M p) (by have := hM.1.1 p hpF; omega) M hM ha rfl
      | succ r ihr =>
        intro v fl N' hv hN hlow hfl
        have hvT : v < T.1 := by omega
        have huN : ∀ w, w < T.1 → us.testBit w = usd N' p w := fun w hw => by rw [hu w hw]; exact usd_c hN
        have aN : ∀ M, agp p N M → agp p N' M := fun M hM i hi => by rw [← hN i hi]; exact hM i hi
        unfold finV
        by_cases c : us.testBit v = false ∧ g_twT T v &&& fl = 0
        · rw [if_pos c]
          have hun : usd N p v = false := by rw [← hu v hvT]; exact c.1
          have hunq : ∀ q, q < p → N' q ≠ v := fun q hq => by rw [← hN q hq]; exact usd_f.mp hun q hq
          -- v failed
          have next : ∀ N'', (∀ i, i < p → N i = N'' i) → (∀ M, wy F T ex M → agp p N M → M p ≠ v) → fsp F T ex p N (finV (fun u t N => g_fin F T ex k (p + 1) u t N) F T ex p us t r (v + 1) (fl ||| 2 ^ v) N'') := fun N'' hN'' hno => by
            refine ihr (v + 1) (fl ||| 2 ^ v) N'' (by omega) hN'' (fun w hw M hM ha => ?_) (fun w hw => ?_)
            · by_cases e : w = v
              · rw [e]; exact hno M hM ha
              · exact hlow w (by omega) M hM ha
            · rw [Nat.testBit_or, Bool.or_eq_true, Nat.testBit_two_pow, decide_eq_true_iff] at hw
              rcases hw with hw | hw
              · exact hfl w hw
              · rw [← hw]; exact ⟨hvT, hun, hno⟩
          cases hfit : g_fit F T ex N' p v t with
          | none =>
            dsimp only
            refine next N' hN (fun M hM ha e => ?_)
            obtain ⟨t', ht'⟩ := fit_wy hF hT hs hM hpF (aN M ha) (ti_c hN ht)
            rw [e, hfit] at ht'
            cases ht'
          | some t' =>
            dsimp only
            have sub := ih (p + 1) (us ||| 2 ^ v) t' (z_u N' p v) (by omega) (pw_fit hF hT (pw_c hF hN hw) hvT hunq hfit) (ti_fit hF hT (ti_c hN ht) hfit) (us_s huN)
            have up : ∀ M, agp p N M → M p = v → agp (p + 1) (z_u N' p v) M := fun M hM e i hi => by
              by_cases ei : i = p
              · rw [ei, u_eq]; exact e
              · rw [u_ne _ _ ei, ← hN i (by omega)]; exact hM i (by omega)
            obtain ⟨s1, s2, s3⟩ := sub
            have s1' : ∀ i, i < p → N i = (g_fin F T ex k (p + 1) (us ||| 2 ^ v) t' (z_u N' p v)).2 i := fun i hi => by
              rw [s1 i (by omega), u_ne _ _ (by omega)]; exact hN i hi
            cases hr : (g_fin F T ex k (p + 1) (us ||| 2 ^ v) t' (z_u N' p v)).1
            · rw [if_neg (by decide)]
              exact next _ s1' (fun M hM ha e => s3 hr M hM (up M ha e))
            · rw [if_pos rfl]
              obtain ⟨w1, w2⟩ := s2 hr
              refine ⟨fun i hi => (s1' i hi).symm, fun _ => ⟨w1, fun M hM ha hl => ?_⟩, fun h => by cases h⟩
              have hRp : (g_fin F T ex k (p + 1) (us ||| 2 ^ v) t' (z_u N' p v)).2 p = v := by rw [s1 p (by omega), u_eq]
              obtain ⟨i, i1, i2, i3⟩ := hl
              by_cases e : M p = v
              · exact w2 M hM (up M ha e) ⟨i, i1, i2, i3⟩
              · have hge : v < M p := by
                  rcases Nat.lt_or_gt_of_ne e with d | d
                  · exact absurd rfl (hlow (M p) d M hM ha)
                  · exact d
                rcases Nat.lt_trichotomy i p with d | d | d
                · have q1 := ha i d
                  have q2 := s1' i d
                  have i3' : M i < (g_fin F T ex k (p + 1) (us ||| 2 ^ v) t' (z_u N' p v)).2 i := i3
                  omega
                · subst d
                  have i3' : M i < (g_fin F T ex k (i + 1) (us ||| 2 ^ v) t' (z_u N' i v)).2 i := i3
                  omega
                · have q1 : M p = (g_fin F T ex k (p + 1) (us ||| 2 ^ v) t' (z_u N' p v)).2 p := i2 p d
                  omega
        · rw [if_neg c]
          refine ihr (v + 1) fl N' (by omega) hN (fun w hw M hM ha => ?_) hfl
          by_cases e : w = v
          · rw [e]
            intro eM
            cases hb : us.testBit v
            · -- a twin has failed
              have hun : usd N p v = false := by rw [← hu v hvT]; exact hb
              have hne : g_twT T v &&& fl ≠ 0 := fun h0 => c ⟨hb, h0⟩
              have : ∃ w, (g_twT T v &&& fl).testBit w = true := by
                apply Classical.byContradiction
                intro n
                apply hne
                apply Nat.eq_of_testBit_eq
                intro i
                rw [Nat.zero_testBit]
                apply Bool.eq_false_iff.mpr
                exact fun h => n ⟨i, h⟩
              obtain ⟨w', hw'⟩ := this
              rw [Nat.testBit_and, Bool.and_eq_true] at hw'
              obtain ⟨k1, k2, k3⟩ := hfl w' hw'.2
              obtain ⟨t1, t2, t3, t4⟩ := (twT_iff hT v w').mp hw'.1
              have hM' := wy_comp hM t4
              refine k3 _ hM' (fun i hi => ?_) ?_
              · show trs v w' (M i) = N i
                rw [ha i hi]
                unfold trs
                rw [if_neg (usd_f.mp hun i hi), if_neg (usd_f.mp k2 i hi)]
              · show trs v w' (M p) = w'
                rw [eM]
                unfold trs
                rw [if_pos rfl]
            · rw [hu v hvT] at hb
              obtain ⟨q, q1, q2⟩ := usd_t.mp hb
              have := ha q q1
              have := hM.1.2 p q hpF (by omega) (by rw [eM, this, q2])
              omega
          · exact hlow w (by omega) M hM ha
    exact loop T.1 0 0 N (by omega) (fun _ _ => rfl) (fun w hw => absurd hw (Nat.not_lt_zero _)) (fun w hw => by rw [Nat.zero_testBit] at hw; cases hw)
end B5
