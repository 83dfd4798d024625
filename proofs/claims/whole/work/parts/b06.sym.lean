/-! MATHEMATICS: how many ways go on from some names -/
noncomputable def wb (F T : Sc) (ex : Bool) (M : Nat → Nat) : Bool := @decide (wy F T ex M) (Classical.propDecidable _)
theorem wb_t {F T : Sc} {ex : Bool} {M : Nat → Nat} : wb F T ex M = true ↔ wy F T ex M := @decide_eq_true_iff _ (Classical.propDecidable _)
def nrm (n : Nat) (M : Nat → Nat) : Nat → Nat := fun i => if i < n then M i else 0
noncomputable def sq (F T : Sc) (ex : Bool) (p : Nat) (N : Nat → Nat) : List (Nat → Nat) := (ijs T.1 (F.1 - p) p (nrm p N)).filter (wb F T ex)
section B6
variable {F T S : Sc} {ex : Bool}
theorem sq_mem {p : Nat} {N M : Nat → Nat} (hp : p ≤ F.1) : M ∈ sq F T ex p N ↔ wy F T ex M ∧ agp p N M ∧ ∀ i, F.1 ≤ i → M i = 0 := by
  unfold sq
  rw [List.mem_filter, wb_t, ij_mem]
  constructor
  · rintro ⟨⟨h1, h2, h3⟩, h4⟩
    refine ⟨h4, fun i hi => ?_, fun i hi => ?_⟩
    · rw [h1 i (Or.inl hi)]; exact if_pos hi
    · rw [h1 i (Or.inr (by omega))]; exact if_neg (by omega)
  · rintro ⟨h1, h2, h3⟩
    refine ⟨⟨fun i hi => ?_, fun i h4 h5 => h1.1.1 i (by omega), fun i j h4 h5 h6 e => by have := h1.1.2 i j (by omega) (by omega) e; omega⟩, h1⟩
    unfold nrm
    by_cases c : i < p
    · rw [if_pos c]; exact h2 i c
    · rw [if_neg c]; exact h3 i (by omega)
theorem sq_nd (p : Nat) (N : Nat → Nat) : (sq F T ex p N).Nodup := nd_fil _ (ij_nd _ _ _ _)
theorem sq_c {p : Nat} {N N' : Nat → Nat} (h : ∀ i, i < p → N i = N' i) : sq F T ex p N = sq F T ex p N' := by
  have e : nrm p N = nrm p N' := funext fun i => by
    unfold nrm
    by_cases c : i < p
    · rw [if_pos c, if_pos c, h i c]
    · rw [if_neg c, if_neg c]
  unfold sq
  rw [e]
/-- a way there and a way back -/
theorem wy_inv (hF : c_sok F) (hT : c_sok T) (hx : F.1 = T.1 ∧ F.2.1 = T.2.1) {M : Nat → Nat} (hw : wy F T true M) : ∃ σ, wy T F true σ ∧ (∀ i, i < F.1 → σ (M i) = i) ∧ ∀ j, j < T.1 → M (σ j) = j := by
  obtain ⟨hi, φ, hφ, hd⟩ := hw
  have on1 := rg_onto (n := F.1) (f := M) (fun i h => by rw [hx.1]; exact hi.1 i h) hi.2
  have sk : ∀ j, ∃ i, j < T.1 → i < F.1 ∧ M i = j := fun j => by
    by_cases c : j < T.1
    · obtain ⟨i, h⟩ := on1 j (by rw [hx.1]; exact c)
      exact ⟨i, fun _ => h⟩
    · exact ⟨0, fun h => absurd h c⟩
  obtain ⟨σ, hσ⟩ := Classical.axiomOfChoice sk
  have sk2 : ∀ o, ∃ l, o < T.2.1 → l < F.2.1 ∧ φ l = o := fun o => by
    by_cases c : o < T.2.1
    · obtain ⟨l, h1, h2⟩ := wx_all hF hT hx hi hφ hd c
      exact ⟨l, fun _ => ⟨h1, h2⟩⟩
    · exact ⟨0, fun h => absurd h c⟩
  obtain ⟨ψ, hψ⟩ := Classical.axiomOfChoice sk2
  have s1 : ∀ i, i < F.1 → σ (M i) = i := fun i h => by
    obtain ⟨a, b⟩ := hσ (M i) (hi.1 i h)
    exact hi.2 _ _ a h b
  refine ⟨σ, ⟨⟨fun j h => (hσ j h).1, fun j k h1 h2 e => by rw [← (hσ j h1).2, ← (hσ k h2).2, e]⟩, ψ, fun o ho => ?_, fun o o' h1 h2 e => by rw [← (hψ o h1).2, ← (hψ o' h2).2, e]⟩, s1, fun j h => (hσ j h).2⟩
  obtain ⟨a, b⟩ := hψ o ho
  refine ⟨a, fun j hj => ?_, ?_⟩
  · obtain ⟨i, h1, h2⟩ := wx_iff hF hT hi hφ a j (by rw [b]; exact hj)
    rw [← h2, s1 i (on_lt hF h1)]
    exact h1
  · have := hold_x (hφ (ψ o) a).2.2
    rw [b] at this
    unfold g_hold
    rw [if_pos rfl]
    exact decide_eq_true this.symm
theorem sq_le {U : Sc} {p : Nat} {N σ : Nat → Nat} (hF : c_sok F) (hp : p ≤ F.1) (hσ : wy T U true σ) : (sq F T ex p N).length ≤ (sq F U ex p (fun i => σ (N i))).length := by
  refine nd_le (fun M => nrm F.1 (fun i => σ (M i))) (sq_nd p N) (fun M hM => ?_) (fun M M' hM hM' e => ?_)
  · obtain ⟨h1, h2, h3⟩ := (sq_mem hp).mp hM
    refine (sq_mem hp).mpr ⟨wy_c hF (fun i hi => (if_pos hi).symm) (wy_comp h1 hσ), fun i hi => ?_, fun i hi => if_neg (by omega)⟩
    show (if i < F.1 then σ (M i) else 0) = σ (N i)
    rw [if_pos (by omega), h2 i hi]
  · obtain ⟨h1, h2, h3⟩ := (sq_mem hp).mp hM
    obtain ⟨g1, g2, g3⟩ := (sq_mem hp).mp hM'
    funext i
    by_cases c : i < F.1
    · have := congrFun e i
      unfold nrm at this
      rw [if_pos c, if_pos c] at this
      exact hσ.1.2 _ _ (h1.1.1 i c) (g1.1.1 i c) this
    · rw [h3 i (by omega), g3 i (by omega)]
/-- as many as leave these names, as go on from others that a way makes of them -/
theorem sq_eq (hS : c_sok S) {p : Nat} {N : Nat → Nat} (hp : p ≤ S.1) {M : Nat → Nat} (hM : wy S S true M) (ha : agp p N M) : (sq S S true p N).length = (sq S S true p (fun i => i)).length := by
  obtain ⟨σ, s1, s2, s3⟩ := wy_inv hS hS ⟨rfl, rfl⟩ hM
  apply Nat.le_antisymm
  · have := sq_le (ex := true) (N := N) hS hp s1
    rw [sq_c (N := fun i => σ (N i)) (N' := fun i => i) (fun i hi => by rw [← ha i hi]; exact s2 i (by omega))] at this
    exact this
  · have := sq_le (ex := true) (N := fun i => i) hS hp hM
    rw [sq_c (N' := N) (fun i hi => ha i hi)] at this
    exact this
/-- by the next name -/
theorem sq_s {p : Nat} {N : Nat → Nat} (hp : p < F.1) : (sq F T ex p N).length = ((List.range T.1).map (fun v => if usd N p v then 0 else (sq F T ex (p + 1) (z_u N p v)).length)).sum := by
  unfold sq
  have e1 : F.1 - p = (F.1 - (p + 1)) + 1 := by omega
  rw [e1]
  show (((List.range T.1).flatMap (fun v => if usd (nrm p N) p v then [] else ijs T.1 (F.1 - (p + 1)) (p + 1) (z_u (nrm p N) p v))).filter (wb F T ex)).length = _
  rw [List.filter_flatMap, List.length_flatMap]
  congr 1
  apply List.map_congr_left
  intro v _
  have eu : usd (nrm p N) p v = usd N p v := usd_c (fun i hi => if_pos hi)
  rw [eu]
  cases usd N p v
  · rw [if_neg (by decide), if_neg (by decide)]
    congr 2
    have : z_u (nrm p N) p v = nrm (p + 1) (z_u N p v) := funext fun i => by
      unfold nrm
      by_cases c : i = p
      · rw [c, u_eq, if_pos (by omega), u_eq]
      · rw [u_ne _ _ c]
        by_cases d : i < p
        · rw [if_pos d, if_pos (by omega), u_ne _ _ c]
        · rw [if_neg d, if_neg (by omega)]
    rw [this]
  · rfl
theorem sum_c {f : Nat → Nat} {P : Nat → Bool} {c : Nat} : ∀ l : List Nat, (∀ v, v ∈ l → f v = if P v then c else 0) → (l.map f).sum = (l.countP P) * c
  | [], _ => by simp
  | a :: l, h => by
    rw [List.map_cons, List.sum_cons, sum_c l (fun v hv => h v (List.mem_cons_of_mem _ hv)), h a List.mem_cons_self, List.countP_cons]
    cases P a
    · simp
    · simp [Nat.add_mul, Nat.add_comm]
/-- where p can go while all below it stay -/
noncomputable def mvb (S : Sc) (p v : Nat) : Bool := @decide (∃ M, wy S S true M ∧ agp p (fun i => i) M ∧ M p = v) (Classical.propDecidable _)
theorem mvb_t {p v : Nat} : mvb S p v = true ↔ ∃ M, wy S S true M ∧ agp p (fun i => i) M ∧ M p = v := @decide_eq_true_iff _ (Classical.propDecidable _)
theorem sq_n (hS : c_sok S) : (sq S S true S.1 (fun i => i)).length = 1 := by
  have h : ∀ M, M ∈ sq S S true S.1 (fun i => i) ↔ M = nrm S.1 (fun i => i) := fun M => by
    rw [sq_mem (Nat.le_refl _)]
    constructor
    · rintro ⟨_, h2, h3⟩
      funext i
      unfold nrm
      by_cases c : i < S.1
      · rw [if_pos c]; exact h2 i c
      · rw [if_neg c]; exact h3 i (by omega)
    · rintro rfl
      exact ⟨wy_c hS (fun i hi => (if_pos hi).symm) (wy_id S), fun i hi => if_pos hi, fun i hi => if_neg (by omega)⟩
  have h1 : (sq S S true S.1 (fun i => i)).length ≤ [nrm S.1 (fun i => i)].length := (sq_nd _ _).length_le_of_subset (fun M hM => List.mem_singleton.mpr ((h M).mp hM))
  have h2 : [nrm S.1 (fun i => i)].length ≤ (sq S S true S.1 (fun i => i)).length := List.Nodup.length_le_of_subset (List.nodup_cons.mpr ⟨by simp, List.nodup_nil⟩) (fun M hM => (h M).mpr (List.mem_singleton.mp hM))
  simp only [List.length_singleton] at h1 h2
  omega
theorem sq_orb (hS : c_sok S) {p : Nat} (hp : p < S.1) : (sq S S true p (fun i => i)).length = (List.range S.1).countP (mvb S p) * (sq S S true (p + 1) (fun i => i)).length := by
  rw [sq_s hp]
  refine sum_c _ (fun v hv => ?_)
  have hv := List.mem_range.mp hv
  cases hm : mvb S p v
  · rw [if_neg (show ¬ (false = true) by decide)]
    cases hu : usd (fun i => i) p v
    · rw [if_neg (show ¬ (false = true) by decide)]
      apply List.length_eq_zero_iff.mpr
      apply List.eq_nil_iff_forall_not_mem.mpr
      intro M hM
      obtain ⟨h1, h2, _⟩ := (sq_mem (by omega)).mp hM
      have : mvb S p v = true := mvb_t.mpr ⟨M, h1, fun i hi => by rw [h2 i (by omega), u_ne _ _ (by omega)], by rw [h2 p (by omega), u_eq]⟩
      rw [hm] at this
      cases this
    · rw [if_pos rfl]
  · rw [if_pos (show true = true from rfl)]
    obtain ⟨M, h1, h2, h3⟩ := mvb_t.mp hm
    have hu : usd (fun i => i) p v = false := usd_f.mpr (fun q hq e => by
      have := h1.1.2 q p (by omega) hp (by rw [h2 q hq, h3]; exact e)
      omega)
    rw [hu, if_neg (by decide)]
    refine sq_eq hS (by omega) h1 (fun i hi => ?_)
    by_cases c : i = p
    · rw [c, u_eq]; exact h3
    · rw [u_ne _ _ c]; exact h2 i (by omega)
end B6
