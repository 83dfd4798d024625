/-! MATHEMATICS: the class's search for places, as a list -/
/-- all rows of places in their order -/
def fps (pl : Nat) : Nat → Nat → (Nat → Nat) → List (Nat → Nat)
  | 0, _, P => [P]
  | k + 1, p, P => (List.range pl).flatMap (fun v => fps pl k (p + 1) (z_u P p v))
theorem fps_mem (pl : Nat) : ∀ k p P M, M ∈ fps pl k p P ↔ (∀ i, (i < p ∨ p + k ≤ i) → M i = P i) ∧ ∀ i, p ≤ i → i < p + k → M i < pl := by
  intro k
  induction k with
  | zero =>
    intro p P M
    show M ∈ [P] ↔ _
    rw [List.mem_singleton]
    constructor
    · rintro rfl; exact ⟨fun _ _ => rfl, fun i h1 h2 => by omega⟩
    · rintro ⟨h1, -⟩; exact funext fun i => h1 i (by omega)
  | succ k ih =>
    intro p P M
    show M ∈ (List.range pl).flatMap _ ↔ _
    rw [List.mem_flatMap]
    constructor
    · rintro ⟨v, hv, hM⟩
      have hv := List.mem_range.mp hv
      obtain ⟨h1, h2⟩ := (ih (p + 1) (z_u P p v) M).mp hM
      refine ⟨fun i hi => by rw [h1 i (by omega), u_ne _ _ (by omega)], fun i h4 h5 => ?_⟩
      by_cases e : i = p
      · rw [e, h1 p (by omega), u_eq]; exact hv
      · exact h2 i (by omega) (by omega)
    · rintro ⟨h1, h2⟩
      refine ⟨M p, List.mem_range.mpr (h2 p (Nat.le_refl _) (by omega)), (ih (p + 1) _ M).mpr ⟨fun i hi => ?_, fun i h4 h5 => h2 i (by omega) (by omega)⟩⟩
      by_cases e : i = p
      · rw [e, u_eq]
      · rw [u_ne _ _ e]; exact h1 i (by omega)
theorem fps_pw (pl : Nat) : ∀ k p P, (fps pl k p P).Pairwise lx := by
  intro k
  induction k with
  | zero => intro p P; exact List.pairwise_singleton _ _
  | succ k ih =>
    intro p P
    show ((List.range pl).flatMap _).Pairwise lx
    rw [List.pairwise_flatMap]
    refine ⟨fun v _ => ih (p + 1) _, List.Pairwise.imp (R := (· < ·)) (fun {a b} hab x hx y hy => ?_) List.pairwise_lt_range⟩
    have h1 := ((fps_mem pl k (p + 1) _ x).mp hx).1
    have h2 := ((fps_mem pl k (p + 1) _ y).mp hy).1
    refine ⟨p, fun j hj => ?_, ?_⟩
    · rw [h1 j (by omega), h2 j (by omega), u_ne _ _ (by omega), u_ne _ _ (by omega)]
    · rw [h1 p (by omega), h2 p (by omega), u_eq, u_eq]; exact hab
theorem fps_nd (pl k p : Nat) (P : Nat → Nat) : (fps pl k p P).Nodup := List.Pairwise.imp (fun h e => by subst e; exact lx_as h h) (fps_pw pl k p P)
section B23
variable {TL LI T R0 : Nat → Nat} {tf n pl : Nat}
/-- who has room in time -/
def rok (TL LI T : Nat → Nat) (tf : Nat) (R0 : Nat → Nat) (p n : Nat) (M : Nat → Nat) : Bool := (List.range' p (n - p)).all (fun r => (d_rm TL LI T tf R0 M r r).testBit (M r))
def dls (TL LI T : Nat → Nat) (tf n pl : Nat) (R0 : Nat → Nat) (k p : Nat) (P : Nat → Nat) : List (Nat → Nat) := (fps pl k p P).filter (rok TL LI T tf R0 p n)
theorem an_sb (x y : Nat) : sbs (anot x y) x := fun i hi => by
  rw [an_b, Bool.and_eq_true] at hi
  exact hi.1
theorem nx_sb {P : Nat → Nat} {p v r x : Nat} : sbs (d_nx TL LI T P tf p v r x) x := by
  have l0 : sbs (d_l0 (d_lt T tf p) v r x) x := by
    unfold d_l0
    split
    · exact fun i hi => an_sb _ _ i (an_sb _ _ i hi)
    · exact an_sb _ _
  have lf : ∀ k y, sbs (it (d_lfF TL LI P p v r) y k) y := by
    intro k y
    induction k with
    | zero => exact fun i h => h
    | succ k ih =>
      rw [it_s]
      intro i hi
      unfold d_lfF at hi
      split at hi
      · rw [Nat.testBit_and, Bool.and_eq_true] at hi; exact ih i hi.1
      · exact ih i (an_sb _ _ i hi)
  exact fun i hi => l0 i (lf p _ i hi)
theorem rm_sb {P : Nat → Nat} {r : Nat} : ∀ d p, sbs (d_rm TL LI T tf R0 P (p + d) r) (d_rm TL LI T tf R0 P p r) := by
  intro d
  induction d with
  | zero => intro p i h; exact h
  | succ d ih =>
    intro p i hi
    have : d_rm TL LI T tf R0 P (p + (d + 1)) r = d_nx TL LI T P tf (p + d) (P (p + d)) r (d_rm TL LI T tf R0 P (p + d) r) := rfl
    rw [this] at hi
    exact ih p i (nx_sb i hi)
theorem dls_s {k p : Nat} {P : Nat → Nat} (hp : p + (k + 1) = n) : dls TL LI T tf n pl R0 (k + 1) p P = (List.range pl).flatMap (fun v => if (d_rm TL LI T tf R0 P p p).testBit v && d_ok TL LI T P tf n p v (d_rm TL LI T tf R0 P p) then dls TL LI T tf n pl R0 k (p + 1) (z_u P p v) else []) := by
  unfold dls
  show ((List.range pl).flatMap (fun v => fps pl k (p + 1) (z_u P p v))).filter _ = _
  rw [List.filter_flatMap]
  refine fm_cg _ (fun v _ => ?_)
  have key : ∀ M, M ∈ fps pl k (p + 1) (z_u P p v) → rok TL LI T tf R0 p n M = ((d_rm TL LI T tf R0 P p p).testBit v && rok TL LI T tf R0 (p + 1) n M) := fun M hM => by
    have h1 := ((fps_mem pl k (p + 1) _ M).mp hM).1
    unfold rok
    rw [show n - p = (n - (p + 1)) + 1 by omega, List.range'_succ, List.all_cons]
    congr 1
    rw [h1 p (by omega), u_eq, d_rm_c (P' := P) p p (fun q hq => by rw [h1 q (by omega), u_ne _ _ (by omega)])]
  rw [List.filter_congr key]
  cases hb : (d_rm TL LI T tf R0 P p p).testBit v
  · rw [Bool.false_and, if_neg (by decide)]
    apply List.filter_eq_nil_iff.mpr
    intro M _
    simp
  · rw [Bool.true_and]
    cases ho : d_ok TL LI T P tf n p v (d_rm TL LI T tf R0 P p)
    · rw [if_neg (by decide)]
      apply List.filter_eq_nil_iff.mpr
      intro M hM hr
      rw [Bool.true_and] at hr
      -- somebody has no room
      have h1 := ((fps_mem pl k (p + 1) _ M).mp hM).1
      unfold d_ok at ho
      rw [Bool.not_eq_false'] at ho
      have : ∃ i, i < n - (p + 1) ∧ d_nx TL LI T P tf p v (p + 1 + i) (d_rm TL LI T tf R0 P p (p + 1 + i)) = 0 := by
        apply Classical.byContradiction
        intro q
        rw [any_f (fun i hi => decide_eq_false (fun e => q ⟨i, hi, e⟩))] at ho
        cases ho
      obtain ⟨i, i1, i2⟩ := this
      unfold rok at hr
      have h3 := List.all_eq_true.mp hr (p + 1 + i) (by rw [List.mem_range'_1]; omega)
      have h4 := rm_sb (TL := TL) (LI := LI) (T := T) (tf := tf) (R0 := R0) (P := M) (r := p + 1 + i) i (p + 1) _ h3
      rw [d_rm_c (P' := z_u P p v) (p + 1) (p + 1 + i) (fun q hq => h1 q (by omega)), d_rm_u, i2, Nat.zero_testBit] at h4
      cases h4
    · rw [if_pos rfl]
      exact List.filter_congr (fun M _ => by rw [Bool.true_and])
theorem or_app {α : Type} (f : Option α) (L L' : List α) : (f.or L.head?).or L'.head? = f.or (L ++ L').head? := by
  cases f with
  | some a => rfl
  | none =>
    cases L with
    | nil => rfl
    | cons a L => rfl
theorem gs_list (al : Bool) : ∀ k p P f, p + k = n → d_gs TL LI T tf n pl al R0 k p P f = ((if al then (dls TL LI T tf n pl R0 k p P).length else min 1 (dls TL LI T tf n pl R0 k p P).length), f.or (dls TL LI T tf n pl R0 k p P).head?) := by
  intro k
  induction k with
  | zero =>
    intro p P f hp
    have : dls TL LI T tf n pl R0 0 p P = [P] := by
      unfold dls fps
      have : rok TL LI T tf R0 p n P = true := by unfold rok; rw [show n - p = 0 by omega]; rfl
      rw [List.filter_cons, this, if_pos rfl]
      rfl
    rw [this]
    unfold d_gs
    cases f with
    | none => cases al <;> rfl
    | some Q => cases al <;> rfl
  | succ k ih =>
    intro p P f hp
    rw [d_gs_s, dls_s hp]
    obtain ⟨g, eg⟩ : ∃ g : Nat → List (Nat → Nat), g = fun v => if (d_rm TL LI T tf R0 P p p).testBit v && d_ok TL LI T P tf n p v (d_rm TL LI T tf R0 P p) then dls TL LI T tf n pl R0 k (p + 1) (z_u P p v) else [] := ⟨_, rfl⟩
    rw [← eg]
    have key : ∀ j, it (d_gF TL LI T tf n pl al R0 k p P) (0, f) j = ((if al then ((List.range j).flatMap g).length else min 1 ((List.range j).flatMap g).length), f.or ((List.range j).flatMap g).head?) := by
      intro j
      induction j with
      | zero =>
        show (0, f) = _
        cases f <;> cases al <;> rfl
      | succ j ihj =>
        rw [it_s, ihj, fm_app]
        obtain ⟨G, eG⟩ : ∃ G, G = (List.range j).flatMap g := ⟨_, rfl⟩
        rw [← eG]
        have gj : g j = if (d_rm TL LI T tf R0 P p p).testBit j && d_ok TL LI T P tf n p j (d_rm TL LI T tf R0 P p) then dls TL LI T tf n pl R0 k (p + 1) (z_u P p j) else [] := by rw [eg]
        unfold d_gF
        dsimp only
        cases hc : ((d_rm TL LI T tf R0 P p p).testBit j && d_ok TL LI T P tf n p j (d_rm TL LI T tf R0 P p))
        · rw [hc, if_neg (by decide)] at gj
          rw [Bool.and_false, if_neg (by decide), gj, List.append_nil]
        · rw [hc, if_pos rfl] at gj
          rw [Bool.and_true, ih (p + 1) (z_u P p j) _ (by omega), ← gj]
          cases al
          · rw [Bool.false_or, if_neg (show ¬ (false = true) by decide)]
            by_cases d : G = []
            · rw [d, List.nil_append]
              rw [if_pos (show decide (min 1 ([] : List (Nat → Nat)).length = 0) = true from rfl)]
              refine Prod.ext ?_ ?_
              · show 0 + min 1 (g j).length = min 1 (g j).length
                omega
              · show (f.or ([] : List (Nat → Nat)).head?).or (g j).head? = f.or (g j).head?
                cases f <;> rfl
            · have hl : 0 < G.length := List.length_pos_iff.mpr d
              rw [decide_eq_false (by omega), if_neg (by decide)]
              refine Prod.ext ?_ ?_
              · show min 1 G.length = min 1 (G ++ g j).length
                rw [List.length_append]
                omega
              · show f.or G.head? = f.or (G ++ g j).head?
                cases G with
                | nil => exact absurd rfl d
                | cons a G => rfl
          · rw [Bool.true_or, if_pos rfl]
            refine Prod.ext ?_ (or_app f G (g j))
            show G.length + (g j).length = (G ++ g j).length
            rw [List.length_append]
    exact key pl
/-- what room means -/
theorem lf_b {P : Nat → Nat} {p v r w : Nat} : ∀ k y, (it (d_lfF TL LI P p v r) y k).testBit w = true ↔ (y.testBit w = true ∧ ∀ q, q < k → ((TL (p * 8 + q)).testBit r = true ↔ (LI (v * 16 + P q)).testBit w = true)) := by
  intro k y
  induction k with
  | zero => exact ⟨fun h => ⟨h, fun q hq => absurd hq (Nat.not_lt_zero _)⟩, fun h => h.1⟩
  | succ k ih =>
    rw [it_s]
    have st : ∀ z, (d_lfF TL LI P p v r k z).testBit w = true ↔ (z.testBit w = true ∧ ((TL (p * 8 + k)).testBit r = true ↔ (LI (v * 16 + P k)).testBit w = true)) := fun z => by
      unfold d_lfF
      cases ht : (TL (p * 8 + k)).testBit r
      · rw [if_neg (by decide), an_b, Bool.and_eq_true, Bool.not_eq_true']
        constructor
        · rintro ⟨h1, h2⟩; exact ⟨h1, ⟨fun h => (by cases h), fun h => by rw [h2] at h; cases h⟩⟩
        · rintro ⟨h1, h2⟩; exact ⟨h1, Bool.eq_false_iff.mpr (fun h => by have := h2.mpr h; cases this)⟩
      · rw [if_pos rfl, Nat.testBit_and, Bool.and_eq_true]
        constructor
        · rintro ⟨h1, h2⟩; exact ⟨h1, ⟨fun _ => h2, fun _ => rfl⟩⟩
        · rintro ⟨h1, h2⟩; exact ⟨h1, h2.mp rfl⟩
    rw [st, ih]
    constructor
    · rintro ⟨⟨h1, h2⟩, h3⟩
      refine ⟨h1, fun q hq => ?_⟩
      by_cases e : q = k
      · rw [e]; exact h3
      · exact h2 q (by omega)
    · rintro ⟨h1, h2⟩; exact ⟨⟨h1, fun q hq => h2 q (by omega)⟩, h2 k (by omega)⟩
theorem l0_b {lt v r x w : Nat} : (d_l0 lt v r x).testBit w = true ↔ (x.testBit w = true ∧ w ≠ v ∧ (lt.testBit r = true → v < w)) := by
  unfold d_l0
  cases ht : lt.testBit r
  · rw [if_neg (by decide), an_b, Bool.and_eq_true, Bool.not_eq_true', Nat.testBit_two_pow, decide_eq_false_iff_not]
    exact ⟨fun h => ⟨h.1, fun e => h.2 e.symm, fun q => (by cases q)⟩, fun h => ⟨h.1, fun e => h.2.1 e.symm⟩⟩
  · rw [if_pos rfl, an_b, an_b, Bool.and_eq_true, Bool.and_eq_true, Bool.not_eq_true', Bool.not_eq_true', Nat.testBit_two_pow, decide_eq_false_iff_not, Nat.testBit_two_pow_sub_one, decide_eq_false_iff_not]
    exact ⟨fun h => ⟨h.1.1, fun e => h.1.2 e.symm, fun _ => by omega⟩, fun h => ⟨⟨h.1, fun e => h.2.1 e.symm⟩, by have := h.2.2 rfl; omega⟩⟩
theorem rm_b {P : Nat → Nat} {r w : Nat} : ∀ p, (d_rm TL LI T tf R0 P p r).testBit w = true ↔ ((R0 r).testBit w = true ∧ ∀ q, q < p → (w ≠ P q ∧ ((d_lt T tf q).testBit r = true → P q < w) ∧ ∀ q', q' < q → ((TL (q * 8 + q')).testBit r = true ↔ (LI (P q * 16 + P q')).testBit w = true))) := by
  intro p
  induction p with
  | zero => exact ⟨fun h => ⟨h, fun q hq => absurd hq (Nat.not_lt_zero _)⟩, fun h => h.1⟩
  | succ p ih =>
    have e : d_rm TL LI T tf R0 P (p + 1) r = d_lf TL LI P p (P p) r (d_l0 (d_lt T tf p) (P p) r (d_rm TL LI T tf R0 P p r)) := rfl
    rw [e]
    unfold d_lf
    rw [lf_b, l0_b, ih]
    constructor
    · rintro ⟨⟨⟨h1, h2⟩, h3, h4⟩, h5⟩
      refine ⟨h1, fun q hq => ?_⟩
      by_cases eq : q = p
      · rw [eq]; exact ⟨h3, h4, h5⟩
      · exact h2 q (by omega)
    · rintro ⟨h1, h2⟩
      obtain ⟨a, b, c⟩ := h2 p (by omega)
      exact ⟨⟨⟨h1, fun q hq => h2 q (by omega)⟩, a, b⟩, c⟩
/-- the rows that are found -/
theorem dls_mem {P M : Nat → Nat} : M ∈ dls TL LI T tf n pl R0 n 0 P ↔ ((∀ i, n ≤ i → M i = P i) ∧ (∀ i, i < n → M i < pl) ∧ ∀ r, r < n → ((R0 r).testBit (M r) = true ∧ ∀ q, q < r → (M r ≠ M q ∧ ((d_lt T tf q).testBit r = true → M q < M r) ∧ ∀ q', q' < q → ((TL (q * 8 + q')).testBit r = true ↔ (LI (M q * 16 + M q')).testBit (M r) = true)))) := by
  unfold dls
  rw [List.mem_filter, fps_mem]
  have er : rok TL LI T tf R0 0 n M = true ↔ ∀ r, r < n → (d_rm TL LI T tf R0 M r r).testBit (M r) = true := by
    unfold rok
    rw [List.all_eq_true, Nat.sub_zero, ← List.range_eq_range']
    exact ⟨fun h r hr => h r (List.mem_range.mpr hr), fun h r hr => h r (List.mem_range.mp hr)⟩
  rw [er]
  constructor
  · rintro ⟨⟨h1, h2⟩, h3⟩
    exact ⟨fun i hi => h1 i (Or.inr (by omega)), fun i hi => h2 i (Nat.zero_le _) (by omega), fun r hr => rm_b r |>.mp (h3 r hr)⟩
  · rintro ⟨h1, h2, h3⟩
    exact ⟨⟨fun i hi => h1 i (by omega), fun i _ hi => h2 i (by omega)⟩, fun r hr => rm_b r |>.mpr (h3 r hr)⟩
end B23
