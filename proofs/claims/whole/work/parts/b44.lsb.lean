/-! MATHEMATICS: the lists of 7 points are short -/
def XX (m : Nat) : List (List Nat) := match m with
  | 0 => [[]]
  | 1 => [[7]]
  | 2 => [[7, 25], [7, 56]]
  | 3 => [[7, 25, 42], [7, 25, 97], [7, 25, 98]]
  | 4 => [[7, 25, 42, 52], [7, 25, 42, 76], [7, 25, 42, 84]]
  | 5 => [[7, 25, 42, 52, 76], [7, 25, 42, 76, 112]]
  | 6 => [[7, 25, 42, 52, 76, 82]]
  | 7 => [[7, 25, 42, 52, 76, 82, 97]]
  | _ => []
def wnn : List Nat := [90390816, 105198081, 106042416, 106180896, 106119681, 90391056, 106177296]
def wQ (c j : Nat) : Nat := (c >>> (4 * j)) % 16
def pN (c x : Nat) : Nat := it (fun j y => y ||| (x.testBit (wQ c j)).toNat <<< j) 0 7
def bmp (l : List Nat) : Nat := l.foldr (fun x a => a ||| 2 ^ x) 0
def btn (c : Nat) (l : List Nat) : Bool := (List.range 128).any (fun x => ((bmp (l.map (pN c))).testBit x && !(bmp l).testBit x) && decide (bmp (l.map (pN c)) % 2 ^ x = bmp l % 2 ^ x))
def xck : Bool := (List.range 7).all (fun m => (XX m).all (fun r => (List.range 128).all (fun t => !(decide (n_pc t = 3) && r.all (fun x => decide (n_pc (x &&& t) < 2) && decide (x < t))) || ((XX (m + 1)).contains (r ++ [t]) || wnn.any (fun c => btn c (r ++ [t]))))))
theorem xck_t : xck = true := by decide +kernel
theorem wnn_fn : wnn.all (fun c => (List.range 7).all (fun i => decide (wQ c i < 7) && (List.range 7).all (fun j => !decide (wQ c i = wQ c j) || decide (i = j)))) = true := by decide +kernel
theorem bmp_b (x : Nat) : ∀ l, (bmp l).testBit x = true ↔ x ∈ l
  | [] => by show (0 : Nat).testBit x = true ↔ _; rw [Nat.zero_testBit]; simp
  | a :: l => by
    show (bmp l ||| 2 ^ a).testBit x = true ↔ _
    rw [Nat.testBit_or, Bool.or_eq_true, bmp_b x l, Nat.testBit_two_pow, decide_eq_true_iff, List.mem_cons]
    exact ⟨fun h => h.elim Or.inr (fun e => Or.inl e.symm), fun h => h.elim (fun e => Or.inr e.symm) Or.inl⟩
theorem wQ_fn {c : Nat} (h : c ∈ wnn) : fn 7 (wQ c) := by
  have := List.all_eq_true.mp wnn_fn c h
  refine ⟨fun j hj => ?_, fun i j hi hj e => ?_⟩
  · have h1 := List.all_eq_true.mp this j (List.mem_range.mpr hj)
    rw [Bool.and_eq_true] at h1
    exact of_decide_eq_true h1.1
  · have h1 := List.all_eq_true.mp this i (List.mem_range.mpr hi)
    rw [Bool.and_eq_true] at h1
    have h2 := List.all_eq_true.mp h1.2 j (List.mem_range.mpr hj)
    rw [decide_eq_true e, Bool.not_true, Bool.false_or] at h2
    exact of_decide_eq_true h2
theorem rw_sc {m : Nat} {f : Nat → Nat} (hm : m ≤ 7) (h : rwok 7 m f) : c_sok (7, m, f) := by
  obtain ⟨r1, r2, r3, r4⟩ := h
  refine ⟨⟨(show 1 ≤ 7 by decide), (show 7 ≤ 8 by decide)⟩, Nat.le_trans hm (show 7 ≤ 12 by decide), fun l hl => ⟨(r1 l hl).2, ?_, ?_⟩, r4, fun i j hij hj => ?_⟩
  · show 2 ≤ n_pc (f l)
    rw [(r1 l hl).1]; decide
  · show n_pc (f l) ≤ 4
    rw [(r1 l hl).1]; decide
  · have := r3 i j hij hj
    show n_pc (f i &&& f j) ≤ 1
    omega
theorem ilq_slt {S : Sc} (hS : c_sok S) (h : ilq S = true) {Q : Nat → Nat} (hQ : fn S.1 Q) : ¬ slt (Rw S Q) (Rw S (fun j => j)) := fun l => by
  rcases lxn_tot (ilq_i.mp h Q hQ) with q | q
  · exact slt_eq l (kap_Rw hS hQ (id_fn _) q)
  · exact slt_as l (kap_slt hS (id_fn _) hQ q)
theorem btn_slt {m c : Nat} {f : Nat → Nat} (hS : c_sok (7, m, f)) (h : btn c ((List.range m).map f) = true) : slt (Rw (7, m, f) (wQ c)) (Rw (7, m, f) (fun j => j)) := by
  unfold btn at h
  rw [List.any_eq_true] at h
  obtain ⟨x, _, h⟩ := h
  rw [Bool.and_eq_true, Bool.and_eq_true, Bool.not_eq_true', decide_eq_true_iff] at h
  obtain ⟨⟨h1, h2⟩, h3⟩ := h
  have eA : ∀ y, (bmp (((List.range m).map f).map (pN c))).testBit y = true ↔ Rw (7, m, f) (wQ c) y := fun y => by
    rw [bmp_b, List.mem_map]
    constructor
    · rintro ⟨z, z1, z2⟩
      obtain ⟨i, i1, i2⟩ := List.mem_map.mp z1
      exact ⟨i, List.mem_range.mp i1, by rw [← z2, ← i2]; rfl⟩
    · rintro ⟨i, i1, i2⟩
      exact ⟨f i, List.mem_map.mpr ⟨i, List.mem_range.mpr i1, rfl⟩, i2⟩
  have eB : ∀ y, (bmp ((List.range m).map f)).testBit y = true ↔ Rw (7, m, f) (fun j => j) y := fun y => by
    rw [bmp_b, List.mem_map, ← Rw_id hS]
    constructor
    · rintro ⟨i, i1, i2⟩; exact ⟨i, List.mem_range.mp i1, i2⟩
    · rintro ⟨i, i1, i2⟩; exact ⟨i, List.mem_range.mpr i1, i2⟩
  refine ⟨x, (eA x).mp h1, fun q => ?_, fun y hy => ?_⟩
  · rw [(eB x).mpr q] at h2; cases h2
  · rw [← eA, ← eB]
    have := congrArg (fun z => Nat.testBit z y) h3
    simp only [Nat.testBit_mod_two_pow, decide_eq_true hy, Bool.true_and] at this
    rw [this]
theorem lst_X : ∀ m, m ≤ 7 → ∀ f, f ∈ c_lst 7 m → (List.range m).map f ∈ XX m
  | 0, _, f, _ => by show ([] : List Nat) ∈ [[]]; simp
  | m + 1, hm, f, h => by
    have hr := lst_ok 7 (m + 1) f h
    have hS := rw_sc hm hr
    have h0 := h
    rw [lst_s, List.mem_flatMap] at h
    obtain ⟨g, hg, hf⟩ := h
    obtain ⟨t, t1, t2, t3, t4, t5⟩ := l1_mem.mp hf
    have ih := lst_X m (by omega) g hg
    obtain ⟨o1, o2⟩ := okS_i.mp t3
    have eg : ∀ i, i < m → f i = g i := fun i hi => by rw [t5, u_ne _ _ (by omega)]
    have et : f m = t := by rw [t5, u_eq]
    have e : (List.range (m + 1)).map f = (List.range m).map g ++ [t] := by
      rw [List.range_succ, List.map_append, List.map_cons, List.map_nil, et]
      congr 1
      exact List.map_congr_left (fun i hi => eg i (List.mem_range.mp hi))
    have c1 := List.all_eq_true.mp xck_t m (List.mem_range.mpr (by omega))
    have c2 := List.all_eq_true.mp c1 _ ih
    have c3 := List.all_eq_true.mp c2 t (List.mem_range.mpr t2)
    have cond : (decide (n_pc t = 3) && ((List.range m).map g).all (fun x => decide (n_pc (x &&& t) < 2) && decide (x < t))) = true := by
      rw [Bool.and_eq_true, List.all_eq_true]
      refine ⟨decide_eq_true o1, fun x hx => ?_⟩
      obtain ⟨i, i1, i2⟩ := List.mem_map.mp hx
      have i1 := List.mem_range.mp i1
      rw [Bool.and_eq_true, ← i2]
      have := hr.2.1 i m i1 (by omega)
      rw [eg i i1, et] at this
      exact ⟨decide_eq_true (o2 i i1), decide_eq_true this⟩
    rw [cond, Bool.not_true, Bool.false_or, Bool.or_eq_true] at c3
    rw [e]
    rcases c3 with q | q
    · exact List.contains_iff_mem.mp q
    · exfalso
      obtain ⟨c, hc, hb⟩ := List.any_eq_true.mp q
      rw [← e] at hb
      have hl := lst_i hS hr.2.1
      have t4' : c_isLst 7 f (m + 1) = true := by rw [t5]; exact t4
      have hq : ilq (7, m + 1, f) = true := by rw [← hl]; exact t4'
      exact ilq_slt hS hq (wQ_fn hc) (btn_slt hS hb)
