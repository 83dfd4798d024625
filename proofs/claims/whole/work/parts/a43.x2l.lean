/-! THE DRAWER: the boards -/
def eqv (m : Nat) (A B : Nat → Nat → Int32) : Prop := ∀ k, k < m → A 1 k = B 1 k ∧ A 2 k = B 2 k ∧ A 3 k = B 3 k
theorem mkA_1 (A : Nat → Nat → Int32) (p : Nat) (X Y Z : Int32) : mkA A p X Y Z 1 = z_u (A 1) p X := by
  unfold mkA
  rw [u_ne _ _ (by decide), u_ne _ _ (by decide), u_eq]
theorem mkA_2 (A : Nat → Nat → Int32) (p : Nat) (X Y Z : Int32) : mkA A p X Y Z 2 = z_u (A 2) p Y := by
  unfold mkA
  rw [u_ne _ _ (by decide), u_eq]
theorem mkA_3 (A : Nat → Nat → Int32) (p : Nat) (X Y Z : Int32) : mkA A p X Y Z 3 = z_u (A 3) p Z := by
  unfold mkA
  rw [u_eq]
theorem eqv_mk {m : Nat} {A B : Nat → Nat → Int32} (h : eqv m A B) (X Y Z : Int32) : eqv (m + 1) (mkA A m X Y Z) (mkA B m X Y Z) := by
  intro k hk
  rw [mkA_1, mkA_1, mkA_2, mkA_2, mkA_3, mkA_3]
  by_cases e : k = m
  · rw [e, u_eq, u_eq, u_eq, u_eq, u_eq, u_eq]; exact ⟨rfl, rfl, rfl⟩
  · rw [u_ne _ _ e, u_ne _ _ e, u_ne _ _ e, u_ne _ _ e, u_ne _ _ e, u_ne _ _ e]
    exact h k (by omega)
theorem it_rel {α : Type} (Q : Nat → α → α → Prop) {f : Nat → α → α} {a b : α} (h0 : Q 0 a b) (hs : ∀ k x y, Q k x y → Q (k + 1) (f k x) (f k y)) : ∀ k, Q k (it f a k) (it f b k) := by
  intro k
  induction k with
  | zero => exact h0
  | succ k ih => rw [it_s, it_s]; exact hs k _ _ ih
theorem eqv_S (g : Nat) (A B : Nat → Nat → Int32) : eqv (g * g) (g_mkS g A) (g_mkS g B) := by
  unfold g_mkS
  refine it_rel (fun y A B => eqv (g * y) A B) (fun k hk => absurd hk (by omega)) (fun y A B h => ?_) g
  have := it_rel (fun x A B => eqv (g * y + x) A B) (f := fun x A => mkA A (g * y + x) (nI x) (nI y) (nI 1)) h (fun x A B h => eqv_mk h _ _ _) g
  rw [Nat.mul_succ]
  exact this
theorem plN_2 : plN 2 7 = 7 ∧ plN 3 26 = 13 := by decide +kernel
theorem eqv_P (q : Nat) (A B : Nat → Nat → Int32) : eqv (plN q (q * q * q - 1)) (g_mkP q A) (g_mkP q B) := by
  unfold g_mkP
  have := it_rel (fun k (s t : Nat × (Nat → Nat → Int32)) => s.1 = plN q k ∧ t.1 = plN q k ∧ eqv (plN q k) s.2 t.2) (f := plS q) (a := (0, A)) (b := (0, B)) ⟨rfl, rfl, fun k hk => absurd hk (Nat.not_lt_zero _)⟩ (fun k s t h => by
    obtain ⟨h1, h2, h3⟩ := h
    have e : plN q (k + 1) = if plL q k = 1 then plN q k + 1 else plN q k := rfl
    unfold plS
    rw [e]
    by_cases c : plL q k = 1
    · rw [if_pos c, if_pos c, if_pos c, h1, h2]
      exact ⟨rfl, rfl, eqv_mk h3 _ _ _⟩
    · rw [if_neg c, if_neg c, if_neg c]
      exact ⟨h1, h2, h3⟩) (q * q * q - 1)
  exact this.2.2
theorem span_c {m : Nat} {A B : Nat → Nat → Int32} (h : eqv m A B) {a b c : Nat} (ha : a < m) (hb : b < m) (hc : c < m) : g_span A a b c = g_span B a b c := by
  unfold g_span
  rw [(h a ha).1, (h a ha).2.1, (h a ha).2.2, (h b hb).1, (h b hb).2.1, (h b hb).2.2, (h c hc).1, (h c hc).2.1, (h c hc).2.2]
theorem inl_c {m md : Nat} {A B : Nat → Nat → Int32} (h : eqv m A B) {a b : Nat} (ha : a < m) (hb : b < m) : g_inl A md m a b = g_inl B md m a b := by
  unfold g_inl
  exact it_congr m (fun c x hc => by rw [span_c h ha hb hc])
theorem lop_c {m md : Nat} {A B : Nat → Nat → Int32} (h : eqv m A B) : g_lop A md m = g_lop B md m := by
  unfold g_lop
  exact it_congr m (fun a x ha => it_congr a (fun b y hb => by unfold lopS; rw [inl_c h ha (by omega)]))
theorem inl_lt {m md a b : Nat} {A : Nat → Nat → Int32} (hm : m ≤ 16) (ha : a < m) (hb : b < m) : g_inl A md m a b < 2 ^ 16 := by
  unfold g_inl
  have pw : ∀ c, c < m → 2 ^ c < 2 ^ 16 := fun c hc => Nat.pow_lt_pow_right (by decide) (by omega)
  refine it_bdm (P := fun v => v < 2 ^ 16) (Nat.or_lt_two_pow (pw a ha) (pw b hb)) (fun c v hc hv => ?_) m (Nat.le_refl _)
  split
  · exact Nat.or_lt_two_pow hv (pw c hc)
  · exact hv
theorem lop_lt {m md : Nat} {A : Nat → Nat → Int32} (hm : m ≤ 16) : ∀ i, g_lop A md m i < 2 ^ 16 := by
  unfold g_lop
  refine it_bdm (P := fun (R : Nat → Nat) => ∀ i, R i < 2 ^ 16) (fun _ => by decide) (fun a R ha hR => ?_) m (Nat.le_refl _)
  refine it_bdm (P := fun (R : Nat → Nat) => ∀ i, R i < 2 ^ 16) hR (fun b R hb hR i => ?_) a (Nat.le_refl _)
  unfold lopS
  have l := inl_lt (A := A) (md := md) hm ha (show b < m by omega)
  by_cases e1 : i = b * 16 + a
  · rw [e1, u_eq]; exact l
  · rw [u_ne _ _ e1]
    by_cases e2 : i = a * 16 + b
    · rw [e2, u_eq]; exact l
    · rw [u_ne _ _ e2]; exact hR i
/-- board i: squares of 2, 3, 4, planes of 2, 3 -/
def d_CA (i : Nat) : Nat → Nat → Int32 := if i < 3 then g_mkS (i + 2) (fun _ _ => 0) else g_mkP (i - 1) (fun _ _ => 0)
def d_pl (i : Nat) : Nat := if i < 3 then (i + 2) * (i + 2) else (i - 1) * (i - 1) + (i - 1) + 1
def d_md (i : Nat) : Nat := if i < 3 then 0 else i - 1
def d_LI (i k : Nat) : Nat := g_lop (d_CA i) (d_md i) (d_pl i) k
theorem d_pl16 : ∀ i, i < 5 → 1 ≤ d_pl i ∧ d_pl i ≤ 16 := by decide
theorem d_LI_lt {i : Nat} (hi : i < 5) (k : Nat) : d_LI i k < 2 ^ 16 := lop_lt (d_pl16 i hi).2 k
def dk (L : Nat) (h : z_H) : Prop := dsh (L + 33) h ∧ ∀ i, i < 5 → ∀ a, z_ar h (L + 33 + 1 + 0) i = some a → fr L h a ∧ z_kd h a = 1 ∧ z_ln h a = 256 ∧ ∀ k, k < 256 → z_ai h a k = nI (d_LI i k)
section HL1
variable {V : CV} {G : z_G} {d L q b c s : Nat} {h h' : z_H} {S : Sc} {X : Nat → Prop}
theorem dk_rows (hI : inv V L h) (hX : ∀ a, X a → hl L a) (e : ex X c s h h') (hk : dk L h) (har : z_ar h' (L + 33 + 1 + 0) = z_ar h (L + 33 + 1 + 0)) : ∀ i, i < 5 → ∀ a, z_ar h' (L + 33 + 1 + 0) i = some a → fr L h' a ∧ z_kd h' a = 1 ∧ z_ln h' a = 256 ∧ ∀ k, k < 256 → z_ai h' a k = nI (d_LI i k) := by
  intro i hi a ha
  rw [har] at ha
  obtain ⟨a1, a2, a3, a4⟩ := hk.2 i hi a ha
  have f := ex_fr hI hX e a1
  exact ⟨f.1, by rw [f.2.1]; exact a2, by rw [f.2.2.1]; exact a3, fun k hk => by rw [f.2.2.2.2.2.1]; exact a4 k hk⟩
theorem dk_ex (hI : inv V L h) (hL : L + 75 ≤ z_n h) (hX : ∀ a, X a → hl L a) (e : ex X c s h h') (hn : ∀ x, dX L x → ¬ X x) (hk : dk L h) : dk L h' := by
  have D := dsh_ex hI hL e hn hk.1
  exact ⟨D.1, dk_rows hI hX e hk D.2.2.2.2⟩
theorem dsh_nwi {f : Nat → Int32} {m : Nat} (hL : L + 75 ≤ z_n h) (hd : dsh (L + 33) h) : dsh (L + 33) (z_nwi h 1 m f) := by
  have kk : ∀ y, y < L + 75 → z_kd (z_nwi h 1 m f) y = z_kd h y ∧ z_ln (z_nwi h 1 m f) y = z_ln h y := fun y hy => ⟨u_ne _ _ (by omega), u_ne _ _ (by omega)⟩
  obtain ⟨s0, ⟨a0, a1, a2⟩, ⟨b0, b1, b2⟩, ⟨c0, c1, c2⟩, ⟨d0, d1, d2⟩, ⟨e0, e1, e2⟩, ⟨f0, f1, f2⟩, ⟨g0, g1, g2⟩⟩ := hd
  exact ⟨by rw [(kk _ (by omega)).1]; exact s0, ⟨a0, by rw [(kk _ (by omega)).1]; exact a1, by rw [(kk _ (by omega)).2]; exact a2⟩, ⟨b0, by rw [(kk _ (by omega)).1]; exact b1, by rw [(kk _ (by omega)).2]; exact b2⟩, ⟨c0, by rw [(kk _ (by omega)).1]; exact c1, by rw [(kk _ (by omega)).2]; exact c2⟩, ⟨d0, by rw [(kk _ (by omega)).1]; exact d1, by rw [(kk _ (by omega)).2]; exact d2⟩, ⟨e0, by rw [(kk _ (by omega)).1]; exact e1, by rw [(kk _ (by omega)).2]; exact e2⟩, ⟨f0, by rw [(kk _ (by omega)).1]; exact f1, by rw [(kk _ (by omega)).2]; exact f2⟩, ⟨g0, by rw [(kk _ (by omega)).1]; exact g1, by rw [(kk _ (by omega)).2]; exact g2⟩⟩
/-- a board's lines made and kept -/
theorem d_board (hI : inv V L h) (hL : L + 75 ≤ z_n h) (hk : dk L h) {i : Nat} (hi : i < 5) {F : Nat → Int32} {A : Nat → Nat → Int32} (ha : eqv (d_pl i) A (d_CA i)) {h5 : z_H} (e5 : h5 = z_hb h (L + 33) 7 F A) : ∃ h6, h6 = z_par (z_nwi h5 1 256 (fun k => nI (g_lop (fun j => z_ai h5 (L + 33 + 1 + j)) (d_md i) (d_pl i) k))) (L + 33 + 1 + 0) i (some (z_n h5)) ∧ inv V L h6 ∧ ex (dX L) 1 256 h h6 ∧ dk L h6 ∧ z_oi h6 (L + 33) = F ∧ z_ar h6 (L + 33 + 1 + 0) i = some (z_n h5) := by
  have hX : ∀ a, dX L a → hl L a := fun _ hx => dX_hl hx
  have t5 : xt (dX L) h h5 := by rw [e5]; exact xt_hb (fun a h1 h2 => ⟨h1, by omega⟩)
  have I5 : inv V L h5 := inv_xt hI hX t5
  have n5 : z_n h5 = z_n h := by rw [e5]; rfl
  have r5 : ∀ j, j < 7 → z_ai h5 (L + 33 + 1 + j) = A j := fun j hj => by rw [e5]; exact hb_ai h (L + 33) 7 F A hj
  have el : g_lop (fun j => z_ai h5 (L + 33 + 1 + j)) (d_md i) (d_pl i) = d_LI i := by
    have e1 : eqv (d_pl i) (fun j => z_ai h5 (L + 33 + 1 + j)) (d_CA i) := fun k hk => by
      show z_ai h5 (L + 33 + 1 + 1) k = _ ∧ z_ai h5 (L + 33 + 1 + 2) k = _ ∧ z_ai h5 (L + 33 + 1 + 3) k = _
      rw [r5 1 (by decide), r5 2 (by decide), r5 3 (by decide)]
      exact ha k hk
    rw [lop_c e1]
    rfl
  rw [el]
  obtain ⟨f, ef⟩ : ∃ f : Nat → Int32, f = fun k => nI (d_LI i k) := ⟨_, rfl⟩
  rw [← ef]
  obtain ⟨h6, e6⟩ : ∃ h6, h6 = z_par (z_nwi h5 1 256 f) (L + 33 + 1 + 0) i (some (z_n h5)) := ⟨_, rfl⟩
  have t6 : xt (dX L) h5 h6 := by rw [e6]; exact xt_trans (xt_nwi 1 256 f (by decide)) (xt_par _ _ ⟨by omega, by omega⟩)
  have t : xt (dX L) h h6 := xt_trans t5 t6
  have I6 : inv V L h6 := inv_xt hI hX t
  have x6 : ex (dX L) 1 256 h h6 := xt_ex t (by rw [e6, e5]; exact Nat.le_refl _) (by rw [e6, e5]; exact Nat.le_refl _)
  have fn : fr L h6 (z_n h5) := by rw [e6]; exact nw_fr I5 (by omega) 256 f
  have ar : ∀ j, z_ar h6 (L + 33 + 1 + 0) j = if j = i then some (z_n h5) else z_ar h (L + 33 + 1 + 0) j := fun j => by
    rw [e6, e5]
    show z_u (z_ar h) (L + 33 + 1 + 0) (z_u (z_ar h (L + 33 + 1 + 0)) i _) (L + 33 + 1 + 0) j = _
    rw [u_eq]
    rfl
  have d5 : dsh (L + 33) h5 := by rw [e5]; exact hk.1
  refine ⟨h6, e6, I6, x6, ⟨by rw [e6]; exact dsh_nwi (f := f) (m := 256) (by omega) d5, fun j hj a haj => ?_⟩, by rw [e6, e5]; exact u_eq _ _ _, by rw [ar, if_pos rfl]⟩
  rw [ar] at haj
  by_cases e : j = i
  · rw [if_pos e] at haj
    cases haj
    refine ⟨fn, by rw [e6]; exact nwi_kd h5 1 256 f, by rw [e6]; exact nwi_ln h5 1 256 f, fun k _ => ?_⟩
    rw [e6]
    show z_ai (z_nwi h5 1 256 f) (z_n h5) k = _
    rw [nwi_ai, ef, e]
  · rw [if_neg e] at haj
    obtain ⟨a1, a2, a3, a4⟩ := hk.2 j hj a haj
    have f := ex_fr hI hX x6 a1
    exact ⟨f.1, by rw [f.2.1]; exact a2, by rw [f.2.2.1]; exact a3, fun k hk => by rw [f.2.2.2.2.2.1]; exact a4 k hk⟩
end HL1
