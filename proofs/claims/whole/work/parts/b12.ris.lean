/-! MATHEMATICS: of those that differ by twins alone, the one that rises -/
def cls (E : Nat → Nat → Bool) (p : Nat) : List Nat := (List.range p).filter (fun q => E q p)
def ris (E : Nat → Nat → Bool) (j : Nat) (M : Nat → Nat) : Bool := (List.range j).all (fun b => (List.range b).all (fun q => !E q b || decide (M q < M b)))
theorem ris_t {E : Nat → Nat → Bool} {j : Nat} {M : Nat → Nat} : ris E j M = true ↔ ∀ b q, b < j → q < b → E q b = true → M q < M b := by
  unfold ris
  rw [List.all_eq_true]
  constructor
  · intro h b q hb hq he
    have h1 := List.all_eq_true.mp (h b (List.mem_range.mpr hb)) q (List.mem_range.mpr hq)
    rw [he, Bool.not_true, Bool.false_or] at h1
    exact of_decide_eq_true h1
  · intro h b hb
    rw [List.all_eq_true]
    intro q hq
    cases he : E q b
    · rfl
    · rw [Bool.not_true, Bool.false_or]
      exact decide_eq_true (h b q (List.mem_range.mp hb) (List.mem_range.mp hq) he)
/-- a list by ranks -/
theorem rk_sum {α : Type} (rk : α → Nat) (e : Nat) : ∀ L : List α, (∀ x, x ∈ L → rk x ≤ e) → L.length = ((List.range (e + 1)).map (fun r => (L.filter (fun x => decide (rk x = r))).length)).sum
  | [], _ => by
    have : ∀ l : List Nat, (l.map (fun r => (([] : List α).filter (fun x => decide (rk x = r))).length)).sum = 0 := by
      intro l
      induction l with
      | nil => rfl
      | cons a l ih => rw [List.map_cons, List.sum_cons, ih]; rfl
    rw [this]
    rfl
  | a :: L, h => by
    have ih := rk_sum rk e L (fun x hx => h x (List.mem_cons_of_mem _ hx))
    have ha := h a List.mem_cons_self
    have key : ∀ l : List Nat, l.Nodup → (l.map (fun r => ((a :: L).filter (fun x => decide (rk x = r))).length)).sum = (l.map (fun r => (L.filter (fun x => decide (rk x = r))).length)).sum + (if rk a ∈ l then 1 else 0) := by
      intro l
      induction l with
      | nil => intro _; rfl
      | cons r l ih2 =>
        intro hn
        rw [List.nodup_cons] at hn
        rw [List.map_cons, List.sum_cons, List.map_cons, List.sum_cons, ih2 hn.2, List.filter_cons]
        by_cases c : rk a = r
        · rw [decide_eq_true c, if_pos rfl, List.length_cons, if_neg (by rw [c]; exact hn.1), if_pos (by rw [c]; exact List.mem_cons_self)]
          omega
        · rw [decide_eq_false c, if_neg (by decide)]
          by_cases d : rk a ∈ l
          · rw [if_pos d, if_pos (List.mem_cons_of_mem _ d)]; omega
          · rw [if_neg d, if_neg (fun q => by
              rcases List.mem_cons.mp q with q | q
              · exact c q
              · exact d q)]
            omega
    rw [key _ List.nodup_range, if_pos (List.mem_range.mpr (by omega)), List.length_cons, ← ih]
section B12
variable {E : Nat → Nat → Bool} {n : Nat} {L : List (Nat → Nat)}
/-- all may change places with their twins -/
def twc (E : Nat → Nat → Bool) (n : Nat) (L : List (Nat → Nat)) : Prop := (∀ a b, E a b = true → E b a = true) ∧ (∀ a b c, E a b = true → E b c = true → a ≠ c → E a c = true) ∧ L.Nodup ∧ (∀ M, M ∈ L → ∀ i j, i < n → j < n → M i = M j → i = j) ∧ ∀ M, M ∈ L → ∀ a b, a < n → b < n → E a b = true → (fun i => M (trs a b i)) ∈ L
theorem ris_step (h : twc E n L) {j : Nat} (hj : j < n) : (L.filter (ris E j)).length = (1 + (cls E j).length) * (L.filter (ris E (j + 1))).length := by
  obtain ⟨hs, ht, hn, hin, hc⟩ := h
  obtain ⟨C, eC⟩ : ∃ C, C = cls E j := ⟨_, rfl⟩
  rw [← eC]
  have C1 : ∀ i q, C[i]? = some q → q < j ∧ E q j = true := fun i q hq => by
    have := List.mem_of_getElem? hq
    rw [eC] at this
    unfold cls at this
    rw [List.mem_filter, List.mem_range] at this
    exact this
  have C2 : ∀ q, q < j → E q j = true → ∃ i, i < C.length ∧ C[i]? = some q := fun q h1 h2 => by
    have : q ∈ C := by rw [eC]; unfold cls; rw [List.mem_filter, List.mem_range]; exact ⟨h1, h2⟩
    obtain ⟨i, hi2, e⟩ := List.getElem_of_mem this
    exact ⟨i, hi2, by rw [List.getElem?_eq_getElem hi2, e]⟩
  have C3 : ∀ i i' q q', C[i]? = some q → C[i']? = some q' → i < i' → q < q' := fun i i' q q' h1 h2 hlt => by
    have pw : C.Pairwise (· < ·) := by rw [eC]; exact List.Pairwise.filter _ List.pairwise_lt_range
    have l2 : i' < C.length := by
      apply Classical.byContradiction
      intro c
      rw [List.getElem?_eq_none (by omega)] at h2
      cases h2
    have := List.pairwise_iff_getElem.mp pw i i' (by omega) l2 hlt
    rw [List.getElem?_eq_getElem (by omega)] at h1
    rw [List.getElem?_eq_getElem l2] at h2
    rw [← Option.some.inj h1, ← Option.some.inj h2]
    exact this
  have Cg : ∀ i, i < C.length → ∃ q, C[i]? = some q := fun i hl => ⟨C[i], List.getElem?_eq_getElem hl⟩
  -- the rank of j's name among its twins'
  obtain ⟨R, eR⟩ : ∃ R, R = L.filter (ris E j) := ⟨_, rfl⟩
  rw [← eR]
  have mR : ∀ M, M ∈ R ↔ M ∈ L ∧ ∀ b q, b < j → q < b → E q b = true → M q < M b := fun M => by rw [eR, List.mem_filter, ris_t]
  obtain ⟨rk, erk⟩ : ∃ rk : (Nat → Nat) → Nat, rk = fun M => C.countP (fun q => decide (M q < M j)) := ⟨_, rfl⟩
  have rkle : ∀ M, rk M ≤ C.length := fun M => by rw [erk]; exact List.countP_le_length
  -- names rise along the twins
  have up : ∀ M, M ∈ R → ∀ i i' q q', C[i]? = some q → C[i']? = some q' → i < i' → M q < M q' := fun M hM i i' q q' h1 h2 hlt => by
    have a1 := C1 i q h1
    have a2 := C1 i' q' h2
    have a3 := C3 i i' q q' h1 h2 hlt
    exact ((mR M).mp hM).2 q' q a2.1 a3 (ht q j q' a1.2 (hs _ _ a2.2) (by omega))
  have rkI : ∀ M, M ∈ R → ∀ r, rk M = r ↔ (r ≤ C.length ∧ (∀ i q, i < r → C[i]? = some q → M q < M j) ∧ ∀ i q, r ≤ i → C[i]? = some q → ¬ M q < M j) := by
    intro M hM r
    -- a list whose first ones have a property and the others not
    have gen : ∀ (D : List Nat) (P : Nat → Bool), (∀ (i i' q q' : Nat), D[i]? = some q → D[i']? = some q' → i < i' → P q' = true → P q = true) → ∀ (i q : Nat), D[i]? = some q → (P q = true ↔ i < D.countP P) := by
      intro D
      induction D with
      | nil => intro P _ i q h; simp at h
      | cons a D ih =>
        intro P hP i q h
        have ihD := ih P (fun i i' q q' h1 h2 hlt => hP (i + 1) (i' + 1) q q' (by rw [List.getElem?_cons_succ]; exact h1) (by rw [List.getElem?_cons_succ]; exact h2) (by omega))
        rw [List.countP_cons]
        cases i with
        | zero =>
          have e : a = q := by simpa using h
          subst e
          cases ha : P a
          · rw [if_neg (by decide)]
            have z : D.countP P = 0 := by
              rw [List.countP_eq_zero]
              intro x hx hpx
              obtain ⟨k, hk, ek⟩ := List.getElem_of_mem hx
              have := hP 0 (k + 1) a x rfl (by rw [List.getElem?_cons_succ, List.getElem?_eq_getElem hk, ek]) (by omega) hpx
              rw [ha] at this
              cases this
            rw [z]
            simp
          · rw [if_pos rfl]
            exact ⟨fun _ => by omega, fun _ => rfl⟩
        | succ i =>
          rw [List.getElem?_cons_succ] at h
          rw [ihD i q h]
          cases ha : P a
          · rw [if_neg (by decide)]
            have z : D.countP P = 0 := by
              rw [List.countP_eq_zero]
              intro x hx hpx
              obtain ⟨k, hk, ek⟩ := List.getElem_of_mem hx
              have := hP 0 (k + 1) a x rfl (by rw [List.getElem?_cons_succ, List.getElem?_eq_getElem hk, ek]) (by omega) hpx
              rw [ha] at this
              cases this
            rw [z]
            omega
          · rw [if_pos rfl]
            omega
    have g := gen C (fun q => decide (M q < M j)) (fun i i' q q' h1 h2 hlt hp => by
      have := up M hM i i' q q' h1 h2 hlt
      have := of_decide_eq_true hp
      exact decide_eq_true (by omega))
    have erM : rk M = C.countP (fun q => decide (M q < M j)) := by rw [erk]
    rw [← erM] at g
    constructor
    · intro e
      subst e
      exact ⟨rkle M, fun i q hi hq => of_decide_eq_true ((g i q hq).mpr hi), fun i q hi hq hm => by have := (g i q hq).mp (decide_eq_true hm); omega⟩
    · rintro ⟨h1, h2, h3⟩
      have hle := rkle M
      rcases Nat.lt_trichotomy (rk M) r with c | c | c
      · obtain ⟨q, hq⟩ := Cg (rk M) (by omega)
        have := (g _ q hq).mp (decide_eq_true (h2 _ q c hq))
        omega
      · exact c
      · obtain ⟨q, hq⟩ := Cg r (by omega)
        exact absurd (of_decide_eq_true ((g r q hq).mpr c)) (h3 r q (Nat.le_refl _) hq)
  obtain ⟨A, eA⟩ : ∃ A : Nat → List (Nat → Nat), A = fun r => R.filter (fun M => decide (rk M = r)) := ⟨_, rfl⟩
  have mA : ∀ r M, M ∈ A r ↔ M ∈ R ∧ rk M = r := fun r M => by rw [eA]; show M ∈ R.filter _ ↔ _; rw [List.mem_filter, decide_eq_true_iff]
  have ndR : R.Nodup := by rw [eR]; exact nd_fil _ hn
  have ndA : ∀ r, (A r).Nodup := fun r => by rw [eA]; exact nd_fil _ ndR
  -- one rank and the next
  have sw : ∀ r r' q, C[r]? = some q → (r' = r + 1 ∨ r' = r) → ∀ M, M ∈ A (if r' = r + 1 then r else r + 1) → (fun i => M (trs j q i)) ∈ A r' := by
    intro r r' q hq hr' M hM
    obtain ⟨h1, h2⟩ := (mA _ M).mp hM
    have hR := (mR M).mp h1
    have hqj := C1 r q hq
    have tj : trs j q j = q := by unfold trs; rw [if_pos rfl]
    have tq : trs j q q = j := by unfold trs; rw [if_neg (by omega), if_pos rfl]
    have to : ∀ i, i ≠ j → i ≠ q → trs j q i = i := fun i a b => by unfold trs; rw [if_neg a, if_neg b]
    obtain ⟨k1, k2, k3⟩ := (rkI M h1 _).mp h2
    have hlt : r < C.length := by
      apply Classical.byContradiction
      intro c
      rw [List.getElem?_eq_none (by omega)] at hq
      cases hq
    -- where j's name lies
    have lo : ∀ i x, i < r → C[i]? = some x → M x < M j := fun i x hi hx => k2 i x (by split <;> omega) hx
    have hi2 : ∀ i x, r < i → C[i]? = some x → M j < M x := fun i x hi hx => by
      have := k3 i x (by split <;> omega) hx
      have hne : M x ≠ M j := fun e => by have := hin M hR.1 x j (by have := (C1 i x hx).1; omega) hj e; have := (C1 i x hx).1; omega
      omega
    have inL : (fun i => M (trs j q i)) ∈ L := hc M hR.1 j q hj (by omega) (hs _ _ hqj.2)
    have inR : (fun i => M (trs j q i)) ∈ R := by
      refine (mR _).mpr ⟨inL, fun b x hb hx he => ?_⟩
      show M (trs j q x) < M (trs j q b)
      by_cases e1 : x = q
      · subst e1
        rw [tq, to b (by omega) (by omega)]
        have hbj : E b j = true := ht b x j (hs _ _ he) hqj.2 (by omega)
        obtain ⟨i, i1, i2⟩ := C2 b hb hbj
        have : r < i := by
          rcases Nat.lt_trichotomy r i with c | c | c
          · exact c
          · subst c; rw [hq] at i2; have := Option.some.inj i2; omega
          · have := C3 i r b x i2 hq c; omega
        exact hi2 i b this i2
      · by_cases e2 : b = q
        · subst e2
          rw [tq, to x (by omega) e1]
          have hxj : E x j = true := ht x b j he hqj.2 (by omega)
          obtain ⟨i, i1, i2⟩ := C2 x (by omega) hxj
          have : i < r := by
            rcases Nat.lt_trichotomy i r with c | c | c
            · exact c
            · subst c; rw [hq] at i2; have := Option.some.inj i2; omega
            · have := C3 r i b x hq i2 c; omega
          exact lo i x this i2
        · rw [to x (by omega) e1, to b (by omega) e2]
          exact hR.2 b x hb hx he
    refine (mA r' _).mpr ⟨inR, (rkI _ inR r').mpr ⟨by omega, fun i x hi hx => ?_, fun i x hi hx => ?_⟩⟩
    · show M (trs j q x) < M (trs j q j)
      rw [tj]
      rcases Nat.lt_trichotomy i r with c | c | c
      · have hxq := C3 i r x q hx hq c
        rw [to x (by have := (C1 i x hx).1; omega) (by omega)]
        exact up M h1 i r x q hx hq c
      · subst c
        rw [hq] at hx
        have := Option.some.inj hx
        subst this
        rw [tq]
        have e : r' = i + 1 := by omega
        rw [if_pos e] at k3
        have h5 := k3 i q (Nat.le_refl _) hq
        have hne : M q ≠ M j := fun e => by have := hin M hR.1 q j (by omega) hj e; omega
        omega
      · omega
    · show ¬ M (trs j q x) < M (trs j q j)
      rw [tj]
      rcases Nat.lt_trichotomy i r with c | c | c
      · omega
      · subst c
        rw [hq] at hx
        have := Option.some.inj hx
        subst this
        rw [tq]
        have e : ¬ r' = i + 1 := by omega
        rw [if_neg e] at k2
        have h5 := k2 i q (by omega) hq
        omega
      · have hxq := C3 r i q x hq hx c
        rw [to x (by have := (C1 i x hx).1; omega) (by omega)]
        have := up M h1 r i q x hq hx c
        omega
  have trI : ∀ q (M M' : Nat → Nat), (fun i => M (trs j q i)) = (fun i => M' (trs j q i)) → M = M' := fun q M M' e => funext fun i => by
    have := congrFun e (trs j q i)
    have h2 : M (trs j q (trs j q i)) = M' (trs j q (trs j q i)) := this
    rw [trs_tr] at h2
    exact h2
  have same : ∀ r, r < C.length → (A r).length = (A (r + 1)).length := fun r hr => by
    obtain ⟨q, hq⟩ := Cg r hr
    apply Nat.le_antisymm
    · exact nd_le (fun M => fun i => M (trs j q i)) (ndA r) (fun M hM => sw r (r + 1) q hq (Or.inl rfl) M (by rw [if_pos rfl]; exact hM)) (fun M M' _ _ e => trI q M M' e)
    · exact nd_le (fun M => fun i => M (trs j q i)) (ndA (r + 1)) (fun M hM => sw r r q hq (Or.inr rfl) M (by rw [if_neg (by omega)]; exact hM)) (fun M M' _ _ e => trI q M M' e)
  have all : ∀ k r, r + k = C.length → (A r).length = (A C.length).length := by
    intro k
    induction k with
    | zero => intro r hr; rw [show r = C.length by omega]
    | succ k ih => intro r hr; rw [same r (by omega)]; exact ih (r + 1) (by omega)
  have last : A C.length = L.filter (ris E (j + 1)) := by
    rw [eA]
    show R.filter _ = _
    rw [eR, List.filter_filter]
    refine List.filter_congr (fun M hM => ?_)
    apply Bool.eq_iff_iff.mpr
    rw [Bool.and_eq_true, decide_eq_true_iff]
    constructor
    · rintro ⟨h1, h2⟩
      have h2' := ris_t.mp h2
      have hMR : M ∈ R := by rw [eR, List.mem_filter]; exact ⟨hM, h2⟩
      obtain ⟨_, k2, _⟩ := (rkI M hMR _).mp h1
      refine ris_t.mpr ?_
      intro b q hb hq he
      by_cases e : b = j
      · subst e
        obtain ⟨i, i1, i2⟩ := C2 q hq he
        exact k2 i q i1 i2
      · exact h2' b q (by omega) hq he
    · intro h0
      have h := ris_t.mp h0
      have h2 : ris E j M = true := ris_t.mpr (fun b q hb hq he => h b q (by omega) hq he)
      have hMR : M ∈ R := by rw [eR, List.mem_filter]; exact ⟨hM, h2⟩
      refine ⟨(rkI M hMR _).mpr ⟨Nat.le_refl _, fun i q hi hq => h j q (by omega) (C1 i q hq).1 (C1 i q hq).2, fun i q hi hq => ?_⟩, h2⟩
      rw [List.getElem?_eq_none hi] at hq
      cases hq
  have sum := rk_sum rk C.length R (fun M _ => rkle M)
  have e2 : ∀ r, r ∈ List.range (C.length + 1) → (fun r => (R.filter (fun M => decide (rk M = r))).length) r = if (fun _ : Nat => true) r then (A C.length).length else 0 := fun r hr => by
    have hr := List.mem_range.mp hr
    show (R.filter (fun M => decide (rk M = r))).length = if true = true then _ else 0
    rw [if_pos rfl, ← all (C.length - r) r (by omega), eA]
  rw [sum, sum_c _ e2, last]
  congr 1
  rw [List.countP_true, List.length_range]
  omega
theorem ris_all (h : twc E n L) : L.length = it (fun p x => x * (1 + (cls E p).length)) 1 n * (L.filter (ris E n)).length := by
  have key : ∀ j, j ≤ n → L.length = it (fun p x => x * (1 + (cls E p).length)) 1 j * (L.filter (ris E j)).length := by
    intro j
    induction j with
    | zero =>
      intro _
      have : L.filter (ris E 0) = L := List.filter_eq_self.mpr (fun M _ => rfl)
      rw [this]
      show L.length = 1 * L.length
      omega
    | succ j ih =>
      intro hj
      rw [it_s, Nat.mul_assoc, ← ris_step h (by omega)]
      exact ih (by omega)
  exact key n (Nat.le_refl _)
end B12
