/-! MATHEMATICS: the lists of fewer points -/
def GG (m : Nat) : List (List Nat) := match m with
  | 0 => [[]]
  | 1 => [[7]]
  | 2 => [[7, 25], [7, 56]]
  | 3 => [[7, 25, 42]]
  | 4 => [[7, 25, 42, 52]]
  | _ => []
def wnN (n : Nat) : List Nat := match n with
  | 4 => [8451]
  | 5 => [66610, 270385, 131905]
  | 6 => [5517345, 5317680, 3490305, 5390640, 4268880]
  | _ => []
def pNn (n c x : Nat) : Nat := it (fun j y => y ||| (x.testBit (wQ c j)).toNat <<< j) 0 n
def btN (n c : Nat) (l : List Nat) : Bool := (List.range 128).any (fun x => ((bmp (l.map (pNn n c))).testBit x && !(bmp l).testBit x) && decide (bmp (l.map (pNn n c)) % 2 ^ x = bmp l % 2 ^ x))
def xcN (n : Nat) : Bool := (List.range 7).all (fun m => (GG m).all (fun r => !(r.all (fun x => decide (x < 2 ^ n))) || (List.range (2 ^ n)).all (fun t => !(decide (n_pc t = 3) && r.all (fun x => decide (n_pc (x &&& t) < 2) && decide (x < t))) || ((GG (m + 1)).contains (r ++ [t]) || (wnN n).any (fun c => btN n c (r ++ [t]))))))
theorem xcN_t : ((xcN 3 && xcN 4) && (xcN 5 && xcN 6)) = true := by decide +kernel
theorem xcN_n {n : Nat} (h1 : 3 ≤ n) (h2 : n ≤ 6) : xcN n = true := by
  have := xcN_t
  rw [Bool.and_eq_true, Bool.and_eq_true, Bool.and_eq_true] at this
  have e : n = 3 ∨ n = 4 ∨ n = 5 ∨ n = 6 := by omega
  rcases e with e | e | e | e <;> subst e
  · exact this.1.1
  · exact this.1.2
  · exact this.2.1
  · exact this.2.2
def wnC (n : Nat) : Bool := (wnN n).all (fun c => (List.range n).all (fun i => decide (wQ c i < n) && (List.range n).all (fun j => !decide (wQ c i = wQ c j) || decide (i = j))))
theorem wnC_t : (List.range 7).all wnC = true := by decide +kernel
theorem wQ_fN {n c : Nat} (hn : n ≤ 6) (h : c ∈ wnN n) : fn n (wQ c) := by
  have := List.all_eq_true.mp (List.all_eq_true.mp wnC_t n (List.mem_range.mpr (by omega))) c h
  refine ⟨fun j hj => ?_, fun i j hi hj e => ?_⟩
  · have h1 := List.all_eq_true.mp this j (List.mem_range.mpr hj)
    rw [Bool.and_eq_true] at h1
    exact of_decide_eq_true h1.1
  · have h1 := List.all_eq_true.mp this i (List.mem_range.mpr hi)
    rw [Bool.and_eq_true] at h1
    have h2 := List.all_eq_true.mp h1.2 j (List.mem_range.mpr hj)
    rw [decide_eq_true e, Bool.not_true, Bool.false_or] at h2
    exact of_decide_eq_true h2
theorem rw_sN {n m : Nat} {f : Nat → Nat} (h1 : 1 ≤ n) (h8 : n ≤ 8) (hm : m ≤ 7) (h : rwok n m f) : c_sok (n, m, f) := by
  obtain ⟨r1, r2, r3, r4⟩ := h
  refine ⟨⟨h1, h8⟩, Nat.le_trans hm (show 7 ≤ 12 by decide), fun l hl => ⟨(r1 l hl).2, ?_, ?_⟩, r4, fun i j hij hj => ?_⟩
  · show 2 ≤ n_pc (f l)
    rw [(r1 l hl).1]; decide
  · show n_pc (f l) ≤ 4
    rw [(r1 l hl).1]; decide
  · have := r3 i j hij hj
    show n_pc (f i &&& f j) ≤ 1
    omega
theorem btN_slt {n m c : Nat} {f : Nat → Nat} (hS : c_sok (n, m, f)) (h : btN n c ((List.range m).map f) = true) : slt (Rw (n, m, f) (wQ c)) (Rw (n, m, f) (fun j => j)) := by
  unfold btN at h
  rw [List.any_eq_true] at h
  obtain ⟨x, _, h⟩ := h
  rw [Bool.and_eq_true, Bool.and_eq_true, Bool.not_eq_true', decide_eq_true_iff] at h
  obtain ⟨⟨h1, h2⟩, h3⟩ := h
  have eA : ∀ y, (bmp (((List.range m).map f).map (pNn n c))).testBit y = true ↔ Rw (n, m, f) (wQ c) y := fun y => by
    rw [bmp_b, List.mem_map]
    constructor
    · rintro ⟨z, z1, z2⟩
      obtain ⟨i, i1, i2⟩ := List.mem_map.mp z1
      exact ⟨i, List.mem_range.mp i1, by rw [← z2, ← i2]; rfl⟩
    · rintro ⟨i, i1, i2⟩
      exact ⟨f i, List.mem_map.mpr ⟨i, List.mem_range.mpr i1, rfl⟩, i2⟩
  have eB : ∀ y, (bmp ((List.range m).map f)).testBit y = true ↔ Rw (n, m, f) (fun j => j) y := fun y => by
    rw [bmp_b, List.mem_map, ← Rw_id hS]
    constructor
    · rintro ⟨i, i1, i2⟩; exact ⟨i, List.mem_range.mp i1, i2⟩
    · rintro ⟨i, i1, i2⟩; exact ⟨i, List.mem_range.mpr i1, i2⟩
  refine ⟨x, (eA x).mp h1, fun q => ?_, fun y hy => ?_⟩
  · rw [(eB x).mpr q] at h2; cases h2
  · rw [← eA, ← eB]
    have := congrArg (fun z => Nat.testBit z y) h3
    simp only [Nat.testBit_mod_two_pow, decide_eq_true hy, Bool.true_and] at this
    rw [this]
theorem lst_GN {n : Nat} (n3 : 3 ≤ n) (n6 : n ≤ 6) : ∀ m, m ≤ 7 → ∀ f, f ∈ c_lst n m → (List.range m).map f ∈ GG m
  | 0, _, f, _ => by show ([] : List Nat) ∈ [[]]; simp
  | m + 1, hm, f, h => by
    have hr := lst_ok n (m + 1) f h
    have hS := rw_sN (by omega) (by omega) hm hr
    have h0 := h
    rw [lst_s, List.mem_flatMap] at h
    obtain ⟨g, hg, hf⟩ := h
    obtain ⟨t, t1, t2, t3, t4, t5⟩ := l1_mem.mp hf
    have ih := lst_GN n3 n6 m (by omega) g hg
    obtain ⟨o1, o2⟩ := okS_i.mp t3
    have eg : ∀ i, i < m → f i = g i := fun i hi => by rw [t5, u_ne _ _ (by omega)]
    have et : f m = t := by rw [t5, u_eq]
    have e : (List.range (m + 1)).map f = (List.range m).map g ++ [t] := by
      rw [List.range_succ, List.map_append, List.map_cons, List.map_nil, et]
      congr 1
      exact List.map_congr_left (fun i hi => eg i (List.mem_range.mp hi))
    have c1 := List.all_eq_true.mp (xcN_n n3 n6) m (List.mem_range.mpr (by omega))
    have c2 := List.all_eq_true.mp c1 _ ih
    have c0 : (((List.range m).map g).all (fun x => decide (x < 2 ^ n))) = true := by
      rw [List.all_eq_true]
      intro x hx
      obtain ⟨i, i1, i2⟩ := List.mem_map.mp hx
      have i1 := List.mem_range.mp i1
      rw [← i2, ← eg i i1]
      exact decide_eq_true (hr.1 i (by omega)).2
    rw [c0, Bool.not_true, Bool.false_or] at c2
    have c3 := List.all_eq_true.mp c2 t (List.mem_range.mpr t2)
    have cond : (decide (n_pc t = 3) && ((List.range m).map g).all (fun x => decide (n_pc (x &&& t) < 2) && decide (x < t))) = true := by
      rw [Bool.and_eq_true, List.all_eq_true]
      refine ⟨decide_eq_true o1, fun x hx => ?_⟩
      obtain ⟨i, i1, i2⟩ := List.mem_map.mp hx
      have i1 := List.mem_range.mp i1
      rw [Bool.and_eq_true, ← i2]
      have := hr.2.1 i m i1 (by omega)
      rw [eg i i1, et] at this
      exact ⟨decide_eq_true (o2 i i1), decide_eq_true this⟩
    rw [cond, Bool.not_true, Bool.false_or, Bool.or_eq_true] at c3
    rw [e]
    rcases c3 with q | q
    · exact List.contains_iff_mem.mp q
    · exfalso
      obtain ⟨c, hc, hb⟩ := List.any_eq_true.mp q
      rw [← e] at hb
      have hl := lst_i hS hr.2.1
      have t4' : c_isLst n f (m + 1) = true := by rw [t5]; exact t4
      have hq : ilq (n, m + 1, f) = true := by rw [← hl]; exact t4'
      exact ilq_slt hS hq (wQ_fN n6 hc) (btN_slt hS hb)
/-! a greedy row is least -/
def gck (B : Nat) (r : List Nat) : Bool := (List.range 128).all (fun x => !((decide (n_pc x = 3) && !r.contains x) && r.any (fun a => decide (x < a))) || r.any (fun a => decide (a < x) && decide (B < n_pc (a &&& x))))
def bB (r : List Nat) : Nat := if r = [7, 56] then 0 else 1
theorem gck_t : (List.range 8).all (fun m => (GG m).all (fun r => gck (bB r) r)) = true := by decide +kernel
theorem parB {n m : Nat} {f Q : Nat → Nat} {i : Nat} (j : Nat) : ∀ d, (par (n, m, f) Q d i).testBit j = (decide (j < d) && (f i).testBit (Q j)) := by
  intro d
  induction d with
  | zero => show (0 : Nat).testBit j = _; rw [Nat.zero_testBit]; simp
  | succ d ih =>
    show (par (n, m, f) Q d i ||| ((f i).testBit (Q d)).toNat <<< d).testBit j = _
    rw [Nat.testBit_or, ih, Nat.testBit_shiftLeft]
    by_cases e : j = d
    · subst e
      rw [decide_eq_false (Nat.lt_irrefl _), decide_eq_true (Nat.le_refl _), decide_eq_true (Nat.lt_succ_self _), Nat.sub_self]
      cases (f i).testBit (Q j) <;> rfl
    · by_cases e2 : j < d
      · rw [decide_eq_true e2, decide_eq_false (show ¬ d ≤ j by omega), decide_eq_true (show j < d + 1 by omega)]
        simp
      · rw [decide_eq_false e2, decide_eq_true (show d ≤ j by omega), decide_eq_false (show ¬ j < d + 1 by omega)]
        have : ((f i).testBit (Q d)).toNat.testBit (j - d) = false := by
          rw [show j - d = (j - d - 1) + 1 by omega]
          cases (f i).testBit (Q d)
          · exact Nat.zero_testBit _
          · show (1 : Nat).testBit _ = false
            rw [Nat.testBit_succ]
            exact Nat.zero_testBit _
        rw [this]
        simp
theorem grd {n m B : Nat} {f : Nat → Nat} (h1 : 1 ≤ n) (h8 : n ≤ 7) (hm : m ≤ 7) (hr : rwok n m f) (hB : ∀ i j, i < j → j < m → n_pc (f i &&& f j) ≤ B) (hck : gck B ((List.range m).map f) = true) : c_isLst n f m = true := by
  have hS := rw_sN h1 (by omega) hm hr
  have hl : c_isLst n f m = ilq (n, m, f) := lst_i hS hr.2.1
  rw [hl, ilq_i]
  intro Q hQ hx
  have hs := kap_slt hS hQ (id_fn _) hx
  obtain ⟨x, x1, x2, x3⟩ := hs
  have hid : ∀ y, Rw (n, m, f) (fun j => j) y ↔ ast f m y := fun y => (Rw_id hS y).symm
  obtain ⟨i0, i1, i2⟩ := x1
  have i1 : i0 < m := i1
  have hQ' : fn n Q := hQ
  have hb : ∀ i j, (par (n, m, f) Q n i).testBit j = (decide (j < n) && (f i).testBit (Q j)) := fun i j => parB j n
  have i2 : par (n, m, f) Q n i0 = x := i2
  -- the image of a line has three points
  obtain ⟨N, N1, N2, _, N4⟩ := iv_ex hQ'
  have p3 : ∀ i, i < m → n_pc (par (n, m, f) Q n i) = 3 := fun i hi => by
    rw [← (hr.1 i hi).1]
    refine Nat.le_antisymm (pc_inj Q (fun j hj hjb => ?_) (fun a b _ _ ha hb' e => ?_)) (pc_inj N (fun p hp hpb => ?_) (fun a b _ _ ha hb' e => ?_))
    · rw [hb, Bool.and_eq_true, decide_eq_true_iff] at hjb
      exact ⟨Nat.lt_of_lt_of_le (hQ'.1 j hjb.1) (by omega), hjb.2⟩
    · rw [hb, Bool.and_eq_true, decide_eq_true_iff] at ha hb'
      exact hQ'.2 a b ha.1 hb'.1 e
    · have pn : p < n := by
        apply Classical.byContradiction
        intro c
        rw [Nat.testBit_lt_two_pow (Nat.lt_of_lt_of_le (hr.1 i hi).2 (Nat.pow_le_pow_right (by decide) (by omega : n ≤ p)))] at hpb
        cases hpb
      refine ⟨Nat.lt_of_lt_of_le (N1 p pn).1 (by omega), ?_⟩
      rw [hb, (N1 p pn).2, hpb, decide_eq_true (N1 p pn).1]
      rfl
    · have pn : ∀ p, (f i).testBit p = true → p < n := fun p hpb => by
        apply Classical.byContradiction
        intro c
        rw [Nat.testBit_lt_two_pow (Nat.lt_of_lt_of_le (hr.1 i hi).2 (Nat.pow_le_pow_right (by decide) (by omega : n ≤ p)))] at hpb
        cases hpb
      exact N4.2 a b (pn a ha) (pn b hb') e
  have pm : ∀ i j, i < m → j < m → i ≠ j → n_pc (par (n, m, f) Q n i &&& par (n, m, f) Q n j) ≤ B := fun i j hi hj hne => by
    have le : n_pc (par (n, m, f) Q n i &&& par (n, m, f) Q n j) ≤ n_pc (f i &&& f j) := by
      refine pc_inj Q (fun k hk hkb => ?_) (fun a b _ _ ha hb' e => ?_)
      · rw [Nat.testBit_and, hb, hb, Bool.and_eq_true, Bool.and_eq_true, Bool.and_eq_true, decide_eq_true_iff] at hkb
        exact ⟨Nat.lt_of_lt_of_le (hQ'.1 k hkb.1.1) (by omega), by rw [Nat.testBit_and, hkb.1.2, hkb.2.2]; rfl⟩
      · rw [Nat.testBit_and, hb, hb, Bool.and_eq_true, Bool.and_eq_true, Bool.and_eq_true, decide_eq_true_iff] at ha hb'
        exact hQ'.2 a b ha.1.1 hb'.1.1 e
    refine Nat.le_trans le ?_
    by_cases c : i < j
    · exact hB i j c hj
    · rw [Nat.and_comm]
      exact hB j i (by omega) hi
  have xlt : x < 128 := by
    rw [← i2]
    refine Nat.lt_of_lt_of_le (Nat.lt_pow_two_of_testBit _ (fun j hj => ?_)) (Nat.pow_le_pow_right (by decide) h8 : 2 ^ n ≤ 2 ^ 7)
    rw [hb, decide_eq_false (by omega)]
    rfl
  have x2' : ¬ ast f m x := fun q => x2 ((hid x).mpr q)
  have xn : ((List.range m).map f).contains x = false := by
    apply Bool.eq_false_iff.mpr
    intro q
    obtain ⟨i, q1, q2⟩ := List.mem_map.mp (List.contains_iff_mem.mp q)
    exact x2' ⟨i, List.mem_range.mp q1, q2⟩
  have c1 := List.all_eq_true.mp hck x (List.mem_range.mpr xlt)
  by_cases hc : ∃ a, a < m ∧ x < f a
  · obtain ⟨a, a1, a2⟩ := hc
    have an : ((List.range m).map f).any (fun a => decide (x < a)) = true := List.any_eq_true.mpr ⟨f a, List.mem_map.mpr ⟨a, List.mem_range.mpr a1, rfl⟩, decide_eq_true a2⟩
    have x3' : n_pc x = 3 := by rw [← i2]; exact p3 i0 i1
    rw [xn, an, decide_eq_true x3'] at c1
    rw [Bool.not_false, Bool.and_true, Bool.and_true, Bool.not_true, Bool.false_or] at c1
    obtain ⟨y, y1, y2⟩ := List.any_eq_true.mp c1
    obtain ⟨i, q1, q2⟩ := List.mem_map.mp y1
    rw [Bool.and_eq_true, decide_eq_true_iff, decide_eq_true_iff] at y2
    obtain ⟨k, k1, k2⟩ := (x3 y y2.1).mpr ((hid y).mpr ⟨i, List.mem_range.mp q1, q2⟩)
    have k2 : par (n, m, f) Q n k = y := k2
    have hne : k ≠ i0 := fun e => by
      rw [e, i2] at k2
      omega
    have := pm k i0 k1 i1 hne
    rw [k2, i2] at this
    omega
  · have al : ∀ i, i < m → f i < x := fun i hi => by
      apply Classical.byContradiction
      intro c
      by_cases e : f i = x
      · exact x2' ⟨i, hi, e⟩
      · exact hc ⟨i, hi, by omega⟩
    have hσ : ∀ i, ∃ k, i < m → k < m ∧ par (n, m, f) Q n k = f i := fun i => by
      by_cases c : i < m
      · obtain ⟨k, k1, k2⟩ := (x3 (f i) (al i c)).mpr ((hid (f i)).mpr ⟨i, c, rfl⟩)
        exact ⟨k, fun _ => ⟨k1, k2⟩⟩
      · exact ⟨0, fun h => absurd h c⟩
    obtain ⟨σ, hσ⟩ := Classical.skolem.mp hσ
    obtain ⟨i, j1, j2⟩ := rg_onto (n := m) (f := σ) (fun i hi => (hσ i hi).1) (fun i j hi hj e => by
      have e1 := (hσ i hi).2
      have e2 := (hσ j hj).2
      rw [e] at e1
      have e3 : f i = f j := e1.symm.trans e2
      apply Classical.byContradiction
      intro c
      by_cases l : i < j
      · have := hr.2.1 i j l hj; omega
      · have := hr.2.1 j i (by omega) hi; omega) i0 i1
    have := (hσ i j1).2
    rw [j2, i2] at this
    exact x2' ⟨i, j1, this.symm⟩
