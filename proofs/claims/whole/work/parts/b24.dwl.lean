/-! MATHEMATICS: the reference's search for places, as a list -/
section B24
variable {S : Sc} {il : Nat → Nat → Nat → Bool} {pm : Nat}
def fok (S : Sc) (il : Nat → Nat → Nat → Bool) (k : Nat) (M : Nat → Nat) : Bool := (List.range' k (S.1 - k)).all (fun r => c_fwL S il M r)
def rlq (S : Sc) (il : Nat → Nat → Nat → Bool) (pm k : Nat) (N : Nat → Nat) : List (Nat → Nat) := (fps pm (S.1 - k) k (nrm k N)).filter (fok S il k)
theorem c_any_cg {P Q : Nat → Bool} {n : Nat} (h : ∀ i, i < n → P i = Q i) : c_any P n = c_any Q n := by
  cases c : c_any Q n
  · exact any_f (fun i hi => by rw [h i hi]; exact any_fiff.mp c i hi)
  · cases c' : c_any P n
    · rw [any_f (fun i hi => by rw [← h i hi]; exact any_fiff.mp c' i hi)] at c
      cases c
    · rfl
theorem fwL_c {P Q : Nat → Nat} {k : Nat} (h : ∀ i, i ≤ k → P i = Q i) : c_fwL S il P k = c_fwL S il Q k := by
  unfold c_fwL
  congr 1
  refine c_any_cg (fun a ha => ?_)
  rw [h a (by omega), h k (Nat.le_refl _)]
  congr 1
  exact c_any_cg (fun b hb => by rw [h b (by omega)])
theorem nrm_u (k : Nat) (N : Nat → Nat) (v : Nat) : z_u (nrm k N) k v = nrm (k + 1) (z_u N k v) := funext fun i => by
  unfold nrm
  by_cases c : i = k
  · rw [c, u_eq, if_pos (by omega), u_eq]
  · rw [u_ne _ _ c]
    by_cases d : i < k
    · rw [if_pos d, if_pos (by omega), u_ne _ _ c]
    · rw [if_neg d, if_neg (by omega)]
theorem rlq_c {k : Nat} {N N' : Nat → Nat} (h : ∀ i, i < k → N i = N' i) : rlq S il pm k N = rlq S il pm k N' := by
  have e : nrm k N = nrm k N' := funext fun i => by
    unfold nrm
    by_cases c : i < k
    · rw [if_pos c, if_pos c, h i c]
    · rw [if_neg c, if_neg c]
  unfold rlq
  rw [e]
theorem rlq_s {k : Nat} {N : Nat → Nat} (hk : k < S.1) : rlq S il pm k N = (List.range pm).flatMap (fun v => if c_fwL S il (z_u N k v) k then rlq S il pm (k + 1) (z_u N k v) else []) := by
  unfold rlq
  rw [show S.1 - k = (S.1 - (k + 1)) + 1 by omega]
  show ((List.range pm).flatMap (fun v => fps pm (S.1 - (k + 1)) (k + 1) (z_u (nrm k N) k v))).filter _ = _
  rw [List.filter_flatMap]
  refine fm_cg _ (fun v _ => ?_)
  rw [nrm_u]
  have key : ∀ M, M ∈ fps pm (S.1 - (k + 1)) (k + 1) (nrm (k + 1) (z_u N k v)) → fok S il k M = (c_fwL S il (z_u N k v) k && fok S il (k + 1) M) := fun M hM => by
    have h1 := ((fps_mem pm _ (k + 1) _ M).mp hM).1
    unfold fok
    rw [show S.1 - k = (S.1 - (k + 1)) + 1 by omega, List.range'_succ, List.all_cons]
    congr 1
    exact fwL_c (fun i hi => by rw [h1 i (by omega)]; exact if_pos (by omega))
  rw [List.filter_congr key]
  cases c_fwL S il (z_u N k v) k
  · rw [if_neg (by decide)]
    apply List.filter_eq_nil_iff.mpr
    intro M _
    simp
  · rw [if_pos rfl]
    exact List.filter_congr (fun M _ => by rw [Bool.true_and])
theorem rlq_mem {N M : Nat → Nat} : M ∈ rlq S il pm 0 N ↔ ((∀ i, S.1 ≤ i → M i = 0) ∧ (∀ i, i < S.1 → M i < pm) ∧ ∀ r, r < S.1 → c_fwL S il M r = true) := by
  unfold rlq
  rw [List.mem_filter, fps_mem, Nat.sub_zero]
  have er : fok S il 0 M = true ↔ ∀ r, r < S.1 → c_fwL S il M r = true := by
    unfold fok
    rw [List.all_eq_true, Nat.sub_zero, ← List.range_eq_range']
    exact ⟨fun h r hr => h r (List.mem_range.mpr hr), fun h r hr => h r (List.mem_range.mp hr)⟩
  rw [er]
  constructor
  · rintro ⟨⟨h1, h2⟩, h3⟩
    exact ⟨fun i hi => by rw [h1 i (Or.inr (by omega))]; exact if_neg (Nat.not_lt_zero _), fun i hi => h2 i (Nat.zero_le _) (by omega), h3⟩
  · rintro ⟨h1, h2, h3⟩
    exact ⟨⟨fun i hi => by rw [h1 i (by omega)]; exact (if_neg (Nat.not_lt_zero _)).symm, fun i _ hi => h2 i (by omega)⟩, h3⟩
theorem rlq_pw (k : Nat) (N : Nat → Nat) : (rlq S il pm k N).Pairwise lx := List.Pairwise.filter _ (fps_pw _ _ _ _)
theorem dw_list (hpm : pm ≤ 16) (one : Bool) : ∀ j k (a : tW), k + j = S.1 → (one = true → a.1 = 0) → (∀ i, i < k → a.2.2 i = nI (r_N a.2.2 i)) → (c_dw S il pm one j k a).1 = a.1 + (if one then min 1 (rlq S il pm k (r_N a.2.2)).length else (rlq S il pm k (r_N a.2.2)).length) ∧ (∀ i, i < k → (c_dw S il pm one j k a).2.2 i = a.2.2 i) ∧ ∀ i, i < S.1 → (c_dw S il pm one j k a).2.1 i = hdv a.1 (rlq S il pm k (r_N a.2.2)) a.2.1 i := by
  intro j
  induction j with
  | zero =>
    intro k a hk h1 hr
    have e : k = S.1 := by omega
    subst e
    have el : rlq S il pm S.1 (r_N a.2.2) = [nrm S.1 (r_N a.2.2)] := by
      unfold rlq
      have : fok S il S.1 (nrm S.1 (r_N a.2.2)) = true := by unfold fok; rw [Nat.sub_self]; rfl
      rw [Nat.sub_self]
      show ([nrm S.1 (r_N a.2.2)]).filter _ = _
      rw [List.filter_cons, this, if_pos rfl]
      rfl
    rw [el]
    unfold c_dw
    refine ⟨by cases one <;> rfl, fun _ _ => rfl, fun i hi => ?_⟩
    unfold hdv
    dsimp only
    by_cases c : a.1 = 0
    · rw [if_pos c, if_pos c, fa_fill_in hi, hr i hi]
      show _ = nI (nrm S.1 (r_N a.2.2) i)
      unfold nrm
      rw [if_pos hi]
    · rw [if_neg c, if_neg c]
  | succ j ih =>
    intro k a hk h1 hr
    have hkn : k < S.1 := by omega
    obtain ⟨N, eN⟩ : ∃ N, N = r_N a.2.2 := ⟨_, rfl⟩
    rw [← eN]
    obtain ⟨f, ef⟩ : ∃ f : Nat → List (Nat → Nat), f = fun v => if c_fwL S il (z_u N k v) k then rlq S il pm (k + 1) (z_u N k v) else [] := ⟨_, rfl⟩
    have key : ∀ p, p ≤ pm → (it (fun v (a : tW) => if one && decide (0 < a.1) then a else if c_fwL S il (r_N (z_u a.2.2 k (nI v))) k then c_dw S il pm one j (k + 1) (a.1, a.2.1, z_u a.2.2 k (nI v)) else (a.1, a.2.1, z_u a.2.2 k (nI v))) a p).1 = a.1 + (if one then min 1 ((List.range p).flatMap f).length else ((List.range p).flatMap f).length) ∧ (∀ i, i < k → (it (fun v (a : tW) => if one && decide (0 < a.1) then a else if c_fwL S il (r_N (z_u a.2.2 k (nI v))) k then c_dw S il pm one j (k + 1) (a.1, a.2.1, z_u a.2.2 k (nI v)) else (a.1, a.2.1, z_u a.2.2 k (nI v))) a p).2.2 i = a.2.2 i) ∧ ∀ i, i < S.1 → (it (fun v (a : tW) => if one && decide (0 < a.1) then a else if c_fwL S il (r_N (z_u a.2.2 k (nI v))) k then c_dw S il pm one j (k + 1) (a.1, a.2.1, z_u a.2.2 k (nI v)) else (a.1, a.2.1, z_u a.2.2 k (nI v))) a p).2.1 i = hdv a.1 ((List.range p).flatMap f) a.2.1 i := by
      intro p
      induction p with
      | zero =>
        intro _
        refine ⟨by show a.1 = _; cases one <;> rfl, fun _ _ => rfl, fun i _ => ?_⟩
        unfold hdv
        show a.2.1 i = _
        split <;> rfl
      | succ p ihp =>
        intro hp
        obtain ⟨i1, i2, i3⟩ := ihp (by omega)
        rw [it_s, fm_app]
        obtain ⟨b, eb⟩ : ∃ b, b = it (fun v (a : tW) => if one && decide (0 < a.1) then a else if c_fwL S il (r_N (z_u a.2.2 k (nI v))) k then c_dw S il pm one j (k + 1) (a.1, a.2.1, z_u a.2.2 k (nI v)) else (a.1, a.2.1, z_u a.2.2 k (nI v))) a p := ⟨_, rfl⟩
        rw [← eb] at i1 i2 i3 ⊢
        obtain ⟨G, eG⟩ : ∃ G, G = (List.range p).flatMap f := ⟨_, rfl⟩
        rw [← eG] at i1 i3 ⊢
        have ag : ∀ i, i < k → N i = r_N b.2.2 i := fun i hi => by
          rw [eN]
          show (a.2.2 i).toNatClampNeg = (b.2.2 i).toNatClampNeg
          rw [i2 i hi]
        have eR : r_N (z_u b.2.2 k (nI p)) = z_u (r_N b.2.2) k p := rN_u (by omega)
        have ag2 : ∀ i, i < k + 1 → z_u N k p i = z_u (r_N b.2.2) k p i := fun i hi => by
          by_cases e : i = k
          · rw [e, u_eq, u_eq]
          · rw [u_ne _ _ e, u_ne _ _ e]; exact ag i (by omega)
        have ec : c_fwL S il (r_N (z_u b.2.2 k (nI p))) k = c_fwL S il (z_u N k p) k := by
          rw [eR]
          exact fwL_c (fun i hi => (ag2 i (by omega)).symm)
        by_cases c : (one && decide (0 < b.1)) = true
        · rw [if_pos c]
          rw [Bool.and_eq_true] at c
          have c2 := of_decide_eq_true c.2
          have a0 := h1 c.1
          rw [c.1, if_pos rfl, a0] at i1
          have hG : 0 < G.length := by omega
          refine ⟨?_, i2, fun i hi => ?_⟩
          · rw [i1, c.1, if_pos rfl, a0, List.length_append]; omega
          · rw [i3 i hi]
            unfold hdv
            cases G with
            | nil => simp at hG
            | cons x G => rfl
        · rw [if_neg c, ec]
          have fp : f p = if c_fwL S il (z_u N k p) k then rlq S il pm (k + 1) (z_u N k p) else [] := by rw [ef]
          cases hf : c_fwL S il (z_u N k p) k
          · rw [hf, if_neg (by decide)] at fp
            rw [if_neg (by decide), fp, List.append_nil]
            refine ⟨i1, fun i hi => ?_, i3⟩
            show z_u b.2.2 k (nI p) i = _
            rw [u_ne _ _ (by omega)]; exact i2 i hi
          · rw [hf, if_pos rfl] at fp
            rw [if_pos rfl]
            have b0 : one = true → b.1 = 0 := fun h => by
              apply Classical.byContradiction
              intro q
              exact c (by rw [h, decide_eq_true (show 0 < b.1 by omega)]; rfl)
            obtain ⟨s1, s2, s3⟩ := ih (k + 1) (b.1, b.2.1, z_u b.2.2 k (nI p)) (by omega) b0 (fun i hi => by
              show z_u b.2.2 k (nI p) i = nI (r_N (z_u b.2.2 k (nI p)) i)
              rw [eR]
              by_cases e : i = k
              · rw [e, u_eq, u_eq]
              · rw [u_ne _ _ e, u_ne _ _ e, i2 i (by omega), hr i (by omega), ← eN, ← ag i (by omega)])
            have es : rlq S il pm (k + 1) (r_N (z_u b.2.2 k (nI p))) = f p := by
              rw [eR, fp]
              exact (rlq_c ag2).symm
            dsimp only at s1 s2 s3
            rw [es] at s1 s3
            refine ⟨?_, fun i hi => ?_, fun i hi => ?_⟩
            · rw [s1, List.length_append]
              cases one
              · rw [if_neg (by decide)] at i1 ⊢
                rw [if_neg (by decide), i1]; omega
              · rw [if_pos rfl] at i1 ⊢
                have z1 := b0 rfl
                have z2 := h1 rfl
                rw [if_pos rfl]
                omega
            · rw [s2 i (by omega), u_ne _ _ (by omega)]; exact i2 i hi
            · rw [s3 i hi]
              have hb1 : hdv b.1 (f p) b.2.1 i = hdv (a.1 + G.length) (f p) b.2.1 i := by
                cases one
                · rw [if_neg (by decide)] at i1; rw [i1]
                · rw [if_pos rfl] at i1
                  have z1 := b0 rfl
                  have z2 := h1 rfl
                  have : G.length = 0 := by omega
                  rw [z1, z2, this]
              rw [hb1]
              exact hdv_app (i3 i hi)
    have e2 : c_dw S il pm one (j + 1) k a = it (fun v (a : tW) => if one && decide (0 < a.1) then a else if c_fwL S il (r_N (z_u a.2.2 k (nI v))) k then c_dw S il pm one j (k + 1) (a.1, a.2.1, z_u a.2.2 k (nI v)) else (a.1, a.2.1, z_u a.2.2 k (nI v))) a pm := rfl
    rw [e2, rlq_s hkn, ← ef]
    exact key pm (Nat.le_refl _)
theorem dwA_list (hpm : pm ≤ 16) (one : Bool) (W P : Nat → Int32) (N : Nat → Nat) : (c_dwA S il pm one W P).1 = (if one then min 1 (rlq S il pm 0 N).length else (rlq S il pm 0 N).length) ∧ ∀ i, i < S.1 → (c_dwA S il pm one W P).2.1 i = hdv 0 (rlq S il pm 0 N) W i := by
  obtain ⟨h1, _, h3⟩ := dw_list (S := S) (il := il) hpm one S.1 0 (0, W, P) (by omega) (fun _ => rfl) (fun i hi => absurd hi (Nat.not_lt_zero _))
  rw [rlq_c (N' := N) (fun i hi => absurd hi (Nat.not_lt_zero _))] at h1 h3
  unfold c_dwA
  refine ⟨?_, h3⟩
  rw [h1]
  exact Nat.zero_add _
end B24
