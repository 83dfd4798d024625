/-! THE LEAST ROW: its world -/
def lsh (x : Nat) (h : z_H) : Prop := z_kd h x = 20 ∧ (z_or h x 2 = some (x + 1) ∧ z_kd h (x + 1) = 2 ∧ z_ln h (x + 1) = 8) ∧ (z_or h x 3 = some (x + 2) ∧ z_kd h (x + 2) = 2 ∧ z_ln h (x + 2) = 8) ∧ (z_or h x 6 = some (x + 3) ∧ z_kd h (x + 3) = 1 ∧ z_ln h (x + 3) = 108) ∧ (z_or h x 7 = some (x + 4) ∧ z_kd h (x + 4) = 1 ∧ z_ln h (x + 4) = 12) ∧ (z_or h x 8 = some (x + 5) ∧ z_kd h (x + 5) = 1 ∧ z_ln h (x + 5) = 12) ∧ (z_or h x 9 = some (x + 6) ∧ z_kd h (x + 6) = 6 ∧ z_ln h (x + 6) = 8) ∧ (z_or h x 10 = some (x + 7) ∧ z_kd h (x + 7) = 1 ∧ z_ln h (x + 7) = 8)
def lw (x q b tw : Nat) (h : z_H) (S : Sc) : Prop := lsh x h ∧ z_or h x 0 = some q ∧ sc_at q b h S ∧ (z_or h x 1 = some tw ∧ z_kd h tw = 1 ∧ z_ln h tw = 8 ∧ ∀ p, p < 8 → z_ai h tw p = nI (g_twT S p)) ∧ x ≠ q ∧ (x + 7 < b ∨ b + 8 ≤ x) ∧ (tw < x ∨ x + 8 ≤ tw)
/-- what a search holds: fields, names so far, the best row, lines that end, its keys, the best keys -/
def lH (h : z_H) (x : Nat) (A : Nat → Nat → Int32) (F : Nat → Int32) (P C E M B : Nat → Nat) : z_H := z_plx (z_plx (z_hb h x 7 F (z_u (z_u (z_u A 2 (fun i => nI (P i))) 3 (fun i => nI (C i))) 4 (fun i => nI (E i)))) (x + 1) (fun i => k64 (M i))) (x + 2) (fun i => k64 (B i))
section HO
variable (h : z_H) (x : Nat) (A : Nat → Nat → Int32) (F : Nat → Int32) (P C E M B : Nat → Nat)
theorem lH_kd : z_kd (lH h x A F P C E M B) = z_kd h := rfl
theorem lH_ln : z_ln (lH h x A F P C E M B) = z_ln h := rfl
theorem lH_or : z_or (lH h x A F P C E M B) = z_or h := rfl
theorem lH_oi : z_oi (lH h x A F P C E M B) x = F := u_eq _ _ _
theorem lH_P : z_ai (lH h x A F P C E M B) (x + 3) = fun i => nI (P i) := by
  have := hb_ai h x 7 F (z_u (z_u (z_u A 2 (fun i => nI (P i))) 3 (fun i => nI (C i))) 4 (fun i => nI (E i))) (j := 2) (by decide)
  rw [u_ne _ _ (by decide), u_ne _ _ (by decide), u_eq] at this
  exact this
theorem lH_C : z_ai (lH h x A F P C E M B) (x + 4) = fun i => nI (C i) := by
  have := hb_ai h x 7 F (z_u (z_u (z_u A 2 (fun i => nI (P i))) 3 (fun i => nI (C i))) 4 (fun i => nI (E i))) (j := 3) (by decide)
  rw [u_ne _ _ (by decide), u_eq] at this
  exact this
theorem lH_E : z_ai (lH h x A F P C E M B) (x + 5) = fun i => nI (E i) := by
  have := hb_ai h x 7 F (z_u (z_u (z_u A 2 (fun i => nI (P i))) 3 (fun i => nI (C i))) 4 (fun i => nI (E i))) (j := 4) (by decide)
  rw [u_eq] at this
  exact this
theorem lH_M : z_al (lH h x A F P C E M B) (x + 1) = fun i => k64 (M i) := by
  show z_u (z_u (z_al h) (x + 1) _) (x + 2) _ (x + 1) = _
  rw [u_ne _ _ (by omega), u_eq]
theorem lH_B : z_al (lH h x A F P C E M B) (x + 2) = fun i => k64 (B i) := u_eq _ _ _
theorem lH_out {a : Nat} (ha : a < x + 1 ∨ x + 8 ≤ a) : z_ai (lH h x A F P C E M B) a = z_ai h a := bk_out _ _ _ _ (by omega)
theorem pai_plx (h : z_H) (a : Nat) (f : Nat → Int64) (c k : Nat) (v : Int32) : z_pai (z_plx h a f) c k v = z_plx (z_pai h c k v) a f := rfl
theorem pax_plx (h : z_H) (a : Nat) (f : Nat → Int64) (c : Nat) (g : Nat → Int32) : z_pax (z_plx h a f) c g = z_plx (z_pax h c g) a f := rfl
theorem poi_plx (h : z_H) (a : Nat) (f : Nat → Int64) (c k : Nat) (v : Int32) : z_poi (z_plx h a f) c k v = z_plx (z_poi h c k v) a f := rfl
theorem plx_plx (h : z_H) (a : Nat) (f g : Nat → Int64) : z_plx (z_plx h a f) a g = z_plx h a g := by
  have e : z_u (z_u (z_al h) a f) a g = z_u (z_al h) a g := u_u _ _ _ _
  show (h.1, z_kd h, z_ln h, z_oi h, z_or h, z_ai h, z_u (z_u (z_al h) a f) a g, z_ar h) = (h.1, z_kd h, z_ln h, z_oi h, z_or h, z_ai h, z_u (z_al h) a g, z_ar h)
  rw [e]
theorem plx_comm (h : z_H) {a c : Nat} (f g : Nat → Int64) (hac : a ≠ c) : z_plx (z_plx h a f) c g = z_plx (z_plx h c g) a f := by
  have e : z_u (z_u (z_al h) a f) c g = z_u (z_u (z_al h) c g) a f := u_comm _ _ _ hac
  show (h.1, z_kd h, z_ln h, z_oi h, z_or h, z_ai h, z_u (z_u (z_al h) a f) c g, z_ar h) = (h.1, z_kd h, z_ln h, z_oi h, z_or h, z_ai h, z_u (z_u (z_al h) c g) a f, z_ar h)
  rw [e]
theorem lH_poi (k : Nat) (v : Int32) : z_poi (lH h x A F P C E M B) x k v = lH h x A (z_u F k v) P C E M B := by
  unfold lH
  rw [poi_plx, poi_plx, hb_poi]
theorem lH_xP (Q : Nat → Nat) : z_pax (lH h x A F P C E M B) (x + 3) (fun i => nI (Q i)) = lH h x A F Q C E M B := by
  have e : ∀ W g, z_pax (z_hb h x 7 F W) (x + 3) g = z_hb h x 7 F (z_u W 2 g) := fun W g => hb_pax h x 7 F W (j := 2) (by decide) g
  unfold lH
  rw [pax_plx, pax_plx, e, u_comm _ _ _ (show 4 ≠ 2 by decide), u_comm (z_u A 2 _) _ _ (show 3 ≠ 2 by decide), u_u]
theorem lH_xE (Q : Nat → Nat) : z_pax (lH h x A F P C E M B) (x + 5) (fun i => nI (Q i)) = lH h x A F P C Q M B := by
  have e : ∀ W g, z_pax (z_hb h x 7 F W) (x + 5) g = z_hb h x 7 F (z_u W 4 g) := fun W g => hb_pax h x 7 F W (j := 4) (by decide) g
  unfold lH
  rw [pax_plx, pax_plx, e, u_u]
theorem lH_xC (Q : Nat → Nat) : z_pax (lH h x A F P C E M B) (x + 4) (fun i => nI (Q i)) = lH h x A F P Q E M B := by
  have e : ∀ W g, z_pax (z_hb h x 7 F W) (x + 4) g = z_hb h x 7 F (z_u W 3 g) := fun W g => hb_pax h x 7 F W (j := 3) (by decide) g
  unfold lH
  rw [pax_plx, pax_plx, e, u_comm _ _ _ (show 4 ≠ 3 by decide), u_u]
theorem lH_pP (k v : Nat) : z_pai (lH h x A F P C E M B) (x + 3) k (nI v) = lH h x A F (z_u P k v) C E M B := by
  have e : z_pai (lH h x A F P C E M B) (x + 3) k (nI v) = z_pax (lH h x A F P C E M B) (x + 3) (z_u (z_ai (lH h x A F P C E M B) (x + 3)) k (nI v)) := rfl
  rw [e, lH_P, nu, lH_xP]
theorem lH_pE (k v : Nat) : z_pai (lH h x A F P C E M B) (x + 5) k (nI v) = lH h x A F P C (z_u E k v) M B := by
  have e : z_pai (lH h x A F P C E M B) (x + 5) k (nI v) = z_pax (lH h x A F P C E M B) (x + 5) (z_u (z_ai (lH h x A F P C E M B) (x + 5)) k (nI v)) := rfl
  rw [e, lH_E, nu, lH_xE]
theorem lH_xB (Q : Nat → Nat) : z_plx (lH h x A F P C E M B) (x + 2) (fun i => k64 (Q i)) = lH h x A F P C E M Q := by
  unfold lH
  rw [plx_plx]
theorem lH_xM (Q : Nat → Nat) : z_plx (lH h x A F P C E M B) (x + 1) (fun i => k64 (Q i)) = lH h x A F P C E Q B := by
  unfold lH
  rw [plx_comm _ _ _ (show x + 2 ≠ x + 1 by omega), plx_plx]
theorem k64_u (T : Nat → Nat) (k v : Nat) : z_u (fun i => k64 (T i)) k (k64 v) = fun i => k64 (z_u T k v i) := by
  funext i
  unfold z_u
  split <;> rfl
theorem lH_pM (k v : Nat) : z_pal (lH h x A F P C E M B) (x + 1) k (k64 v) = lH h x A F P C E (z_u M k v) B := by
  have e : z_pal (lH h x A F P C E M B) (x + 1) k (k64 v) = z_plx (lH h x A F P C E M B) (x + 1) (z_u (z_al (lH h x A F P C E M B) (x + 1)) k (k64 v)) := rfl
  rw [e, lH_M, k64_u, lH_xM]
theorem lH_pB (k v : Nat) : z_pal (lH h x A F P C E M B) (x + 2) k (k64 v) = lH h x A F P C E M (z_u B k v) := by
  have e : z_pal (lH h x A F P C E M B) (x + 2) k (k64 v) = z_plx (lH h x A F P C E M B) (x + 2) (z_u (z_al (lH h x A F P C E M B) (x + 2)) k (k64 v)) := rfl
  rw [e, lH_B, k64_u, lH_xB]
end HO
def g_ft (S : Sc) (us p : Nat) : Bool := !us.testBit p && decide (anot (g_twT S p &&& (2 ^ p - 1)) us = 0)
def renS (S : Sc) (p dp : Nat) (i : Nat) (P : Nat → Nat) : Nat → Nat := z_u P (12 * dp + 12 + i) (if dp = 0 then ((S.2.2 i).testBit p).toNat <<< dp else P (12 * dp + i) ||| ((S.2.2 i).testBit p).toNat <<< dp)
def g_ren (S : Sc) (p dp : Nat) (P : Nat → Nat) : Nat → Nat := it (renS S p dp) P S.2.1
def kyS (S : Sc) (P : Nat → Nat) (p us dp : Nat) (i : Nat) (a : Nat × (Nat → Nat)) : Nat × (Nat → Nat) := if anot (S.2.2 i) us = 2 ^ p then (a.1 + 1, z_u a.2 a.1 (P (12 * dp + i))) else a
def kyC (S : Sc) (P : Nat → Nat) (p us dp : Nat) (E : Nat → Nat) : Nat × (Nat → Nat) := it (kyS S P p us dp) (0, E) S.2.1
def kyV (E : Nat → Nat) (n : Nat) : Nat := it (fun i k => (k <<< 7) ||| (if i < n then 128 - E i else 0)) 0 7
def g_key (S : Sc) (P : Nat → Nat) (p us dp : Nat) (E : Nat → Nat) : Nat × (Nat → Nat) := if (kyC S P p us dp E).1 = 0 then (1, (kyC S P p us dp E).2) else (kyV (srt (kyC S P p us dp E).2 (kyC S P p us dp E).1) (kyC S P p us dp E).1 + 1, srt (kyC S P p us dp E).2 (kyC S P p us dp E).1)
theorem kyV_lt (E : Nat → Nat) (n : Nat) : ∀ k, it (fun i k => (k <<< 7) ||| (if i < n then 128 - E i else 0)) 0 k < 2 ^ (7 * k + 8) := by
  intro k
  induction k with
  | zero => show 0 < _; decide
  | succ k ih =>
    rw [it_s]
    refine Nat.or_lt_two_pow ?_ ?_
    · rw [Nat.shiftLeft_eq, show 7 * (k + 1) + 8 = (7 * k + 8) + 7 by omega, Nat.pow_add]
      exact Nat.mul_lt_mul_of_pos_right ih (by decide)
    · refine Nat.lt_of_le_of_lt (show _ ≤ 128 by split <;> omega) ?_
      exact Nat.lt_of_lt_of_le (show 128 < 2 ^ 8 by decide) (Nat.pow_le_pow_right (by decide) (by omega))
theorem key_lt (S : Sc) (P : Nat → Nat) (p us dp : Nat) (E : Nat → Nat) : (g_key S P p us dp E).1 < 2 ^ 62 := by
  unfold g_key
  split
  · show 1 < 2 ^ 62; decide
  · have := kyV_lt (srt (kyC S P p us dp E).2 (kyC S P p us dp E).1) (kyC S P p us dp E).1 7
    show kyV _ _ + 1 < _
    have h2 : kyV (srt (kyC S P p us dp E).2 (kyC S P p us dp E).1) (kyC S P p us dp E).1 < 2 ^ 57 := this
    omega
section HP
variable {G : z_G} {d x q b tw : Nat} {h : z_H} {S : Sc} {A : Nat → Nat → Int32} {F : Nat → Int32} {P C E M B : Nat → Nat}
theorem lw_sc (hw : lw x q b tw h S) : sc_at q b (lH h x A F P C E M B) S := sc_at_of hw.2.2.1 (fun _ _ => ⟨rfl, rfl⟩) (u_ne _ _ (fun e => hw.2.2.2.2.1 e.symm)) (fun _ _ => rfl) (fun j hj _ _ => lH_out h x A F P C E M B (by have := hw.2.2.2.2.2.1; omega))
theorem e4_isFirstTwin (hw : lw x q b tw h S) {p us : Nat} (hp : p < 8) (hu : us < 256) : z_Ev G (d + 4) k_X4_isFirstTwin [.ref x, .int (nI p), .int (nI us)] (lH h x A F P C E M B) (.inl (some (.int (nI (g_ft S us p).toNat))), lH h x A F P C E M B) := by
  have hn := y_n8 hw.2.2.1
  have tl := tw_lt (S := S) hn.2 p
  have p0 := Nat.two_pow_pos p
  have l1 := and_lt256 (b := 2 ^ p - 1) tl
  have l2 := anot_lt (b := us) l1
  refine en_X4_isFirstTwin (b_X4_isFirstTwin_0 (z_pu0V rfl) ?_)
  rw [show (nI us >>> (nI p &&& nI 31)) &&& nI 1 = nI (us.testBit p).toNat from n_bit (by omega) (by omega), lH_or, hw.2.2.2.1.1, z_rcs, nI_clamp (by omega), lH_out _ _ _ _ _ _ _ _ _ (by have := hw.2.2.2.2.2.2; omega), hw.2.2.2.1.2.2.2 p hp, show nI 1 <<< (nI p &&& nI 31) = nI (2 ^ p) from n_one (by omega), q_sub (show 1 ≤ 2 ^ p by omega), fa_and, q_anot]
  unfold g_ft
  cases c : us.testBit p
  · rw [if_pos (by rfl)]
    refine ⟨hw.1.1, hw.2.2.2.1.2.1, by rw [lH_ln, hw.2.2.2.1.2.2.1]; exact vp_in_nI hp (by decide), ?_⟩
    by_cases c2 : anot (g_twT S p &&& (2 ^ p - 1)) us = 0
    · rw [if_pos (by rw [c2]), decide_eq_true c2]; exact ⟨Or.inr rfl, rfl⟩
    · rw [if_neg (fun e => c2 ((nI_eq (by omega) (by decide)).mp e)), decide_eq_false c2]; exact ⟨Or.inl rfl, rfl⟩
  · rw [if_neg (by decide)]; exact ⟨Or.inl rfl, rfl⟩
theorem e4_rename (hw : lw x q b tw h S) {p dp : Nat} (hp : p < 8) (hd : dp < 8) : z_Ev G (d + 4) k_X4_rename [.ref x, .int (nI p), .int (nI dp)] (lH h x A F P C E M B) (.inl none, lH h x A F (g_ren S p dp P) C E M B) := by
  have hm := y_m12 hw.2.2.1
  have hw' := hw
  obtain ⟨ls, o0, _⟩ := hw'
  refine en_X4_rename (b_X4_rename_0 (z_pu0V rfl) ?_)
  rw [n_mul, Nat.mul_comm dp 12]
  refine z_forH (fun i (_ : Nat → Nat) => [some (.ref x), some (.int (nI p)), some (.int (nI dp)), some (.int (nI (12 * dp))), some (.int (nI i)), none]) (fun _ P => lH h x A F P C E M B) (renS S p dp) P S.2.1 ?_ ?_
  · intro i hi hJ
    obtain ⟨Q, eQ⟩ : ∃ Q, Q = it (renS S p dp) P i := ⟨_, rfl⟩
    rw [← eQ] at hJ ⊢
    have hA := lw_sc (A := A) (F := F) (P := Q) (C := C) (E := E) (M := M) (B := B) hw
    have l1 := y_256 hA i
    have bl : ((S.2.2 i).testBit p).toNat ≤ 1 := Bool.toNat_le _
    have vi : ∀ k, k < 108 → vp_in (nI k) (z_ln (lH h x A F Q C E M B) (x + 3)) := fun k hk => by rw [lH_ln, ls.2.2.2.1.2.2]; exact vp_in_nI hk (by decide)
    refine b_X4_rename_8 (z_pu0V rfl) ⟨ls.1, ?_⟩
    rw [lH_or, o0, z_rcs, z_rcs, y_m hA, if_pos (nI_lt hi (by omega)), show z_or h q 2 = some (b + 5) from (y_row hA).1, z_rcs, ls.2.2.2.1.1, z_rcs, z_rcs, nI_clamp (show i < 2 ^ 31 by omega), y_Ln hA hi, show (nI (S.2.2 i) >>> (nI p &&& nI 31)) &&& nI 1 = nI ((S.2.2 i).testBit p).toNat from n_bit (by omega) (by omega), show nI ((S.2.2 i).testBit p).toNat <<< (nI dp &&& nI 31) = nI (((S.2.2 i).testBit p).toNat <<< dp) from n_shl _ (by omega), nI_add, nI_add, nI_add, nI_add, nI_clamp (show 12 * dp + 12 + i < 2 ^ 31 by omega), nI_clamp (show 12 * dp + i < 2 ^ 31 by omega), lH_P]
    refine ⟨y_kd hA, ls.1, y_kd hA, (y_row hA).2.1, by rw [(y_row hA).2.2]; exact vp_in_nI hi (by omega), ls.1, ?_⟩
    unfold renS at hJ
    by_cases c : dp = 0
    · rw [if_pos c] at hJ
      rw [if_pos (by rw [c]), lH_pP]
      exact ⟨ls.2.2.2.1.2.1, vi _ (by omega), hJ⟩
    · rw [if_neg c] at hJ
      rw [if_neg (fun e => c ((nI_eq (by omega) (by decide)).mp e)), fa_or, lH_pP]
      exact ⟨ls.1, ls.2.2.2.1.2.1, vi _ (by omega), ls.2.2.2.1.2.1, vi _ (by omega), hJ⟩
  · have hA := lw_sc (A := A) (F := F) (P := it (renS S p dp) P S.2.1) (C := C) (E := E) (M := M) (B := B) hw
    refine b_X4_rename_8 (z_pu0V rfl) ⟨ls.1, ?_⟩
    rw [lH_or, o0, z_rcs, y_m hA, if_neg (nI_nlt (Nat.le_refl _) (by omega))]
    exact ⟨y_kd hA, rfl⟩
end HP
