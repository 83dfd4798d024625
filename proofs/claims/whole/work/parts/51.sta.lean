/-! STATES: a scheme with its places; shelves; what was before -/
abbrev Cd : Type := Sc × (Nat → Int32) × (Nat → Int32)
def rowC (c : Cd) (k : Nat) : Int32 := if k = 0 then nI c.1.1 else if k = 1 then nI c.1.2.1 else if k < 14 then nI (c.1.2.2 (k - 2)) else if k < 22 then c.2.1 (k - 14) else c.2.2 (k - 22)
def c_sok (S : Sc) : Prop := (1 ≤ S.1 ∧ S.1 ≤ 8) ∧ S.2.1 ≤ 12 ∧ (∀ l, l < S.2.1 → S.2.2 l < 2 ^ S.1 ∧ 2 ≤ n_pc (S.2.2 l) ∧ n_pc (S.2.2 l) ≤ 4) ∧ (∀ l, S.2.1 ≤ l → S.2.2 l = 0) ∧ ∀ i j, i < j → j < S.2.1 → n_pc (S.2.2 i &&& S.2.2 j) ≤ 1
def c_cok (c : Cd) : Prop := c_sok c.1 ∧ ∀ i, c.1.1 ≤ i → c.2.1 i = nI 0 ∧ c.2.2 i = nI 0
abbrev Sta : Type := Cd × (Nat → Option Cd)
def rhoS (R : Nat → Int32) (s : Nat) (o : Option Cd) : Prop := match o with
  | none => R (30 + 31 * s) = nI 0
  | some c => R (30 + 31 * s) = nI 1 ∧ c_cok c ∧ ∀ k, k < 30 → R (31 + 31 * s + k) = rowC c k
def rho (R : Nat → Int32) (st : Sta) : Prop := c_cok st.1 ∧ (∀ k, k < 30 → R k = rowC st.1 k) ∧ ∀ s, s < 4 → rhoS R s (st.2 s)
theorem sok_w {S : Sc} (h : c_sok S) : w_ok S := fun l => by
  by_cases hl : l < S.2.1
  · exact (h.2.2.1 l hl).1
  · rw [h.2.2.2.1 l (by omega)]; exact Nat.two_pow_pos _
theorem sok_256 {S : Sc} (h : c_sok S) (l : Nat) : S.2.2 l < 256 := Nat.lt_of_lt_of_le (sok_w h l) (n_p8 h.1.2)
theorem row_is {R : Nat → Int32} {c : Cd} (hc : c_cok c) (h : ∀ k, k < 30 → R k = rowC c k) : r_is R c.1 := by
  refine ⟨h 0 (by omega), h 1 (by omega), hc.1.1, hc.1.2.1, fun l hl => ⟨?_, sok_256 hc.1 l⟩⟩
  have hm := hc.1.2.1
  rw [h (2 + l) (by omega)]
  unfold rowC
  rw [if_neg (by omega), if_neg (by omega), if_pos (by omega), Nat.add_sub_cancel_left]
theorem rho_ok {R : Nat → Int32} {st : Sta} (h : rho R st) : r_ok R ∧ r_S R = st.1.1 :=
  ⟨r_isok (row_is h.1 h.2.1) h.1.1.2.2.2.1, r_isS (row_is h.1 h.2.1) h.1.1.2.2.2.1⟩
theorem rho_shf {R : Nat → Int32} {st : Sta} (h : rho R st) {s : Nat} (hs : s < 4) (h1 : R (30 + 31 * s) = nI 1) : ∃ c, st.2 s = some c ∧ c_cok c ∧ r_ok (c_shR R s) ∧ r_S (c_shR R s) = c.1 := by
  have h2 := h.2.2 s hs
  cases hq : st.2 s with
  | none =>
    rw [hq] at h2
    have h3 : R (30 + 31 * s) = nI 0 := h2
    rw [h1] at h3
    cases h3
  | some c =>
    rw [hq] at h2
    have hi : r_is (c_shR R s) c.1 := row_is h2.2.1 h2.2.2
    exact ⟨c, rfl, h2.2.1, r_isok hi h2.2.1.1.2.2.2.1, r_isS hi h2.2.1.1.2.2.2.1⟩
theorem rho_shs {R : Nat → Int32} {st : Sta} (h : rho R st) : r_shs R := fun s hs h1 => by
  obtain ⟨c, -, h2, h3, h4⟩ := rho_shf h hs h1
  rw [h4]
  exact ⟨h3, sok_w h2.1⟩
theorem rho_cg {R R' : Nat → Int32} {st : Sta} (h : rho R st) (e : ∀ k, k < 154 → R' k = R k) : rho R' st := by
  refine ⟨h.1, fun k hk => (e k (by omega)).trans (h.2.1 k hk), fun s hs => ?_⟩
  have h2 := h.2.2 s hs
  cases hq : st.2 s with
  | none =>
    rw [hq] at h2
    exact (e _ (by omega)).trans h2
  | some c =>
    rw [hq] at h2
    exact ⟨(e _ (by omega)).trans h2.1, h2.2.1, fun k hk => (e _ (by omega)).trans (h2.2.2 k hk)⟩
theorem rho_up {R R' : Nat → Int32} {st : Sta} {c : Cd} (h : rho R st) (hc : c_cok c) (e1 : ∀ k, k < 30 → R' k = rowC c k) (e2 : ∀ k, 30 ≤ k → R' k = R k) : rho R' (c, st.2) := by
  refine ⟨hc, e1, fun s hs => ?_⟩
  have h2 := h.2.2 s hs
  show rhoS R' s (st.2 s)
  cases hq : st.2 s with
  | none =>
    rw [hq] at h2
    exact (e2 _ (by omega)).trans h2
  | some c =>
    rw [hq] at h2
    exact ⟨(e2 _ (by omega)).trans h2.1, h2.2.1, fun k hk => (e2 _ (by omega)).trans (h2.2.2 k hk)⟩
/-- the acts before, the latest first -/
def phist (P : Nat → Int32) (hs : List Sta) : Prop := hs.length ≤ 40 ∧ ∀ i st, hs[i]? = some st → rho (fun k => P (154 * (hs.length - 1 - i) + k)) st
theorem phist_kp {P R : Nat → Int32} {hs : List Sta} {st : Sta} (h : phist P hs) (hr : rho R st) : phist (c_kp P R hs.length) ((st :: hs).take 40) ∧ ((st :: hs).take 40).length = c_ka hs.length := by
  have hl := h.1
  have elen : ((st :: hs).take 40).length = c_ka hs.length := by
    rw [List.length_take, List.length_cons]
    unfold c_ka
    split <;> omega
  refine ⟨⟨by rw [elen]; unfold c_ka; split <;> omega, fun i t hi => ?_⟩, elen⟩
  rw [elen]
  have hi40 : i < 40 := by
    by_cases q : i < 40
    · exact q
    · rw [List.getElem?_eq_none (by rw [elen]; unfold c_ka; split <;> omega)] at hi; cases hi
  rw [List.getElem?_take_of_lt hi40] at hi
  unfold c_ka c_kp
  cases i with
  | zero =>
    have e : t = st := by simpa using hi.symm
    subst e
    refine rho_cg hr (fun k hk => ?_)
    split
    · show c_ovl (c_shf P 6006) (154 * 39) 154 R (154 * (40 - 1 - 0) + k) = R k
      unfold c_ovl
      rw [if_pos (by omega)]; exact congrArg R (by omega)
    · show c_ovl P (154 * hs.length) 154 R (154 * (hs.length + 1 - 1 - 0) + k) = R k
      unfold c_ovl
      rw [if_pos (by omega)]; exact congrArg R (by omega)
  | succ i =>
    have hi2 : hs[i]? = some t := by simpa using hi
    have hil : i < hs.length := by
      by_cases q : i < hs.length
      · exact q
      · rw [List.getElem?_eq_none (by omega)] at hi2; cases hi2
    refine rho_cg (h.2 i t hi2) (fun k hk => ?_)
    split
    · rename_i h40
      show c_ovl (c_shf P 6006) (154 * 39) 154 R (154 * (40 - 1 - (i + 1)) + k) = P (154 * (hs.length - 1 - i) + k)
      unfold c_ovl
      rw [if_neg (by omega)]
      unfold c_shf
      rw [if_pos (by omega)]; exact congrArg P (by omega)
    · show c_ovl P (154 * hs.length) 154 R (154 * (hs.length + 1 - 1 - (i + 1)) + k) = P (154 * (hs.length - 1 - i) + k)
      unfold c_ovl
      rw [if_neg (by omega)]; exact congrArg P (by omega)
theorem phist_tl {P : Nat → Int32} {st : Sta} {hs : List Sta} (h : phist P (st :: hs)) : phist P hs ∧ rho (fun k => P (154 * hs.length + k)) st := by
  have h1 := h.1
  rw [List.length_cons] at h1
  refine ⟨⟨by omega, fun i t hi => ?_⟩, ?_⟩
  · have h2 := h.2 (i + 1) t (by simpa using hi)
    rw [List.length_cons] at h2
    rw [show hs.length - 1 - i = hs.length + 1 - 1 - (i + 1) by omega]
    exact h2
  · exact h.2 0 st rfl
abbrev Im : Type := Sta × List Sta × Nat × Nat
abbrev RSt : Type := ((Nat → Nat) × Nat × Int32) × Sta × List Sta × (Nat × Nat) × Option Im
def rImg (F : Nat → Int32) (A : Nat → Nat → Int32) (o : Option Im) : Prop := match o with
  | none => F 47 = nI 0
  | some im => F 47 = nI 1 ∧ rho (A 23) im.1 ∧ F 48 = nI im.2.1.length ∧ phist (A 24) im.2.1 ∧ A 25 0 = nI im.2.2.1 ∧ A 25 1 = nI im.2.2.2
/-- the reference stands so -/
def rI (F : Nat → Int32) (A : Nat → Nat → Int32) (σ : RSt) : Prop :=
  r_nm (A 5) ∧ (F 5 = nI σ.1.2.1 ∧ σ.1.2.1 ≤ 400 ∧ ∀ i, i < σ.1.2.1 → A 4 i = nI (σ.1.1 i) ∧ σ.1.1 i < 256) ∧ F 14 = σ.1.2.2 ∧ rho (A 1) σ.2.1 ∧ F 25 = nI σ.2.2.1.length ∧ phist (A 13) σ.2.2.1 ∧ (A 3 0 = nI σ.2.2.2.1.1 ∧ A 3 1 = nI σ.2.2.2.1.2) ∧ rImg F A σ.2.2.2.2
def sJ : List Nat := [2, 5, 6, 7, 8, 9, 10, 11, 12, 15, 16, 17, 18, 19, 20, 21, 22]
def sK : List Nat := [0, 6, 7, 8, 9, 10, 11, 12, 13, 15, 24, 37, 38, 39, 40, 41, 42, 43, 45]
theorem rI_agr {F F' : Nat → Int32} {A A' : Nat → Nat → Int32} {σ : RSt} (h : rI F A σ) (hA : agr sJ A A') (hF : agrF sK F F') : rI F' A' σ := by
  obtain ⟨h1, h2, h3, h4, h5, h6, h7, h8⟩ := h
  have f5 := hF 5 (by decide)
  have f14 := hF 14 (by decide)
  have f25 := hF 25 (by decide)
  have f47 := hF 47 (by decide)
  have f48 := hF 48 (by decide)
  have a1 := hA.1 1 (by decide)
  have a3 := hA.1 3 (by decide)
  have a4 := hA.1 4 (by decide)
  have a13 := hA.1 13 (by decide)
  have a23 := hA.1 23 (by decide)
  have a24 := hA.1 24 (by decide)
  have a25 := hA.1 25 (by decide)
  refine ⟨hA.2, by rw [f5, a4]; exact h2, by rw [f14]; exact h3, by rw [a1]; exact h4, by rw [f25]; exact h5, by rw [a13]; exact h6, by rw [a3]; exact h7, ?_⟩
  unfold rImg at h8 ⊢
  rw [f47, f48, a23, a24, a25]
  exact h8
/-- the cache of the list: its numbers stay -/
def rLk (F F' : Nat → Int32) (A A' : Nat → Nat → Int32) : Prop := F' 27 = F 27 ∧ F' 28 = F 28 ∧ F' 29 = F 29 ∧ A' 14 = A 14
theorem rLk_agr {F F' : Nat → Int32} {A A' : Nat → Nat → Int32} (hA : agr sJ A A') (hF : agrF sK F F') : rLk F F' A A' := ⟨hF 27 (by decide), hF 28 (by decide), hF 29 (by decide), hA.1 14 (by decide)⟩
/-! the acts in numbers -/
def op_add (c : Cd) (x : Nat) : Cd := ((c.1.1, c.1.2.1 + 1, z_u c.1.2.2 c.1.2.1 x), c.2)
def op_drop (c : Cd) (l : Nat) : Cd := ((c.1.1, c.1.2.1 - 1, fun i => if i < l then c.1.2.2 i else if i + 1 < c.1.2.1 then c.1.2.2 (i + 1) else 0), c.2)
def op_place (c : Cd) (p : Nat) (x y : Int32) : Cd := (c.1, z_u c.2.1 p x, z_u c.2.2 p y)
def trs (a b : Nat) : Nat → Nat := fun i => if i = a then b else if i = b then a else i
def op_swap (c : Cd) (a b : Nat) : Cd := ((c.1.1, c.1.2.1, fun l => c_nm (trs a b) (c.1.2.2 l)), swp c.2.1 a b, swp c.2.2 a b)
def op_more (c : Cd) : Cd := ((c.1.1 + 1, c.1.2.1, c.1.2.2), c.2)
def op_turn (c : Cd) (t : Nat × (Nat → Nat)) : Cd := ((c.1.2.1, t.1, fun l => if l < t.1 then t.2 l else 0), (fun _ => nI 0), fun _ => nI 0)
def op_lessF (c : Cd) : Nat → Cd := it (fun i c' => if (c'.1.2.2 (c.1.2.1 - 1 - i)).testBit (c.1.1 - 1) then op_drop c' (c.1.2.1 - 1 - i) else c') c
def op_less (c : Cd) : Cd := (((op_lessF c c.1.2.1).1.1 - 1, (op_lessF c c.1.2.1).1.2.1, (op_lessF c c.1.2.1).1.2.2), z_u c.2.1 (c.1.1 - 1) (nI 0), z_u c.2.2 (c.1.1 - 1) (nI 0))
/-! counting bits -/
theorem pc_or1 : ∀ y, y < 256 → ∀ j, j < 8 → y.testBit j = false → n_pc (2 ^ j ||| y) = n_pc y + 1 := by decide +kernel
theorem pc_low : ∀ s, s < 256 → s ≠ 0 → n_pc s = n_pc (s &&& (s - 1)) + 1 := by decide +kernel
theorem nm_zero (N : Nat → Nat) : c_nm N 0 = 0 := by
  apply Nat.eq_of_testBit_eq
  intro j
  rw [c_nm_bit]
  simp
theorem pc_nm {N : Nat → Nat} (hN : ∀ i, i < 8 → N i < 8) (hi : ∀ i j, i < 8 → j < 8 → N i = N j → i = j) : ∀ k s, s < k → s < 256 → n_pc (c_nm N s) = n_pc s := by
  intro k
  induction k with
  | zero => intro s hs; omega
  | succ k ih =>
    intro s hs h2
    by_cases h0 : s = 0
    · subst h0; rw [nm_zero]
    · obtain ⟨t1, t2, t3, t4⟩ := n_tzB s h2 h0
      rw [c_nm_step N h2 h0, pc_or1 _ (c_nm_lt hN _) _ (hN _ t1), ih _ (by omega) (by omega), ← pc_low s h2 h0]
      rw [c_nm_bit]
      apply Bool.eq_false_iff.mpr
      intro q
      simp only [List.any_eq_true, List.mem_range, Bool.and_eq_true, beq_iff_eq] at q
      obtain ⟨i, hi8, hb, he⟩ := q
      have hii := hi i _ hi8 t1 he
      rw [t4 i hi8, hii] at hb
      simp at hb
theorem pc_nmP {N : Nat → Nat} (hN : ∀ i, i < 8 → N i < 8) (hi : ∀ i j, i < 8 → j < 8 → N i = N j → i = j) {s : Nat} (hs : s < 256) : n_pc (c_nm N s) = n_pc s := pc_nm hN hi (s + 1) s (by omega) hs
theorem nm_and {N : Nat → Nat} (hi : ∀ i j, i < 8 → j < 8 → N i = N j → i = j) (a b : Nat) : c_nm N (a &&& b) = c_nm N a &&& c_nm N b := by
  apply Nat.eq_of_testBit_eq
  intro j
  rw [Nat.testBit_and, c_nm_bit, c_nm_bit, c_nm_bit]
  apply Bool.eq_iff_iff.mpr
  simp only [List.any_eq_true, List.mem_range, Bool.and_eq_true, beq_iff_eq, Nat.testBit_and]
  constructor
  · rintro ⟨i, h1, ⟨h2, h3⟩, h4⟩; exact ⟨⟨i, h1, h2, h4⟩, ⟨i, h1, h3, h4⟩⟩
  · rintro ⟨⟨i, h1, h2, h3⟩, ⟨i', h1', h2', h3'⟩⟩
    have e := hi i i' h1 h1' (h3.trans h3'.symm)
    subst e
    exact ⟨i, h1, ⟨h2, h2'⟩, h3⟩
theorem nm_ltn {N : Nat → Nat} {n a : Nat} (ha : a < 2 ^ n) (hn : n ≤ 8) (hN : ∀ i, i < n → N i < n) : c_nm N a < 2 ^ n := by
  apply Nat.lt_pow_two_of_testBit
  intro j hj
  rw [c_nm_bit]
  apply Bool.eq_false_iff.mpr
  intro q
  simp only [List.any_eq_true, List.mem_range, Bool.and_eq_true, beq_iff_eq] at q
  obtain ⟨i, h1, h2, h3⟩ := q
  by_cases hi : i < n
  · have := hN i hi; omega
  · rw [Nat.testBit_lt_two_pow (Nat.lt_of_lt_of_le ha (Nat.pow_le_pow_right (by decide) (by omega)))] at h2
    cases h2
theorem pc_two : ∀ a, a < 4096 → 2 ≤ n_pc a → ∃ i, i < 12 ∧ ∃ j, j < 12 ∧ i < j ∧ a.testBit i = true ∧ a.testBit j = true := n_64 (by decide +kernel)
theorem pc_one' : ∀ i, i < 8 → ∀ j, j < 8 → ∀ a, a < 256 → (decide (i < j) && a.testBit i && a.testBit j) = true → 2 ≤ n_pc a := by decide +kernel
theorem pc_one {a i j : Nat} (ha : a < 256) (h : n_pc a ≤ 1) (hi : i < 8) (hj : j < 8) (hij : i < j) (h1 : a.testBit i = true) (h2 : a.testBit j = true) : False := by
  have := pc_one' i hi j hj a ha (by rw [decide_eq_true hij, h1, h2]; rfl)
  omega
theorem two_iff {S : Sc} {x : Nat} (h : c_two S x = false) : ∀ l, l < S.2.1 → n_pc (S.2.2 l &&& x) ≤ 1 := by
  unfold c_two at h
  have key : ∀ k, it (fun l b => b || decide (1 < n_pc (S.2.2 l &&& x))) false k = false → ∀ l, l < k → n_pc (S.2.2 l &&& x) ≤ 1 := by
    intro k
    induction k with
    | zero => intro _ l hl; omega
    | succ k ih =>
      intro hk l hl
      have hk2 : (it (fun l b => b || decide (1 < n_pc (S.2.2 l &&& x))) false k || decide (1 < n_pc (S.2.2 k &&& x))) = false := hk
      have h3 := Bool.or_eq_false_iff.mp hk2
      by_cases e : l = k
      · subst e
        have := of_decide_eq_false h3.2
        omega
      · exact ih h3.1 l (by omega)
  exact key _ h
