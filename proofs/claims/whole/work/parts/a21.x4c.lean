/-! THE LEAST ROW: keys, the best kept -/
section HQ
variable {G : z_G} {d x q b tw : Nat} {h : z_H} {S : Sc} {A : Nat → Nat → Int32} {F : Nat → Int32} {P C E M B : Nat → Nat}
theorem kyC_fst (p us dp : Nat) (E0 : Nat → Nat) : ∀ k, (it (kyS S P p us dp) (0, E0) k).1 ≤ k := by
  intro k
  induction k with
  | zero => exact Nat.le_refl _
  | succ k ih =>
    rw [it_s]
    unfold kyS
    split
    · show _ + 1 ≤ k + 1; unfold kyS at ih; omega
    · unfold kyS at ih; omega
theorem kyC_lt {p us dp : Nat} {E0 : Nat → Nat} (hm : S.2.1 ≤ 12) (hP : ∀ i, i < S.2.1 → anot (S.2.2 i) us = 2 ^ p → P (12 * dp + i) < 128) (hE : ∀ i, i < 12 → E0 i < 128) : ∀ k, k ≤ S.2.1 → ∀ i, i < 12 → (it (kyS S P p us dp) (0, E0) k).2 i < 128 := by
  intro k
  induction k with
  | zero => intro _; exact hE
  | succ k ih =>
    intro hk i hi
    have ih' := ih (by omega)
    rw [it_s]
    obtain ⟨a, ea⟩ : ∃ a, a = it (kyS S P p us dp) (0, E0) k := ⟨_, rfl⟩
    rw [← ea] at ih' ⊢
    unfold kyS
    split
    · rename_i c
      show z_u a.2 a.1 (P (12 * dp + k)) i < 128
      by_cases e : i = a.1
      · rw [e, u_eq]; exact hP k (by omega) c
      · rw [u_ne _ _ e]; exact ih' i hi
    · exact ih' i hi
theorem key_E {p us dp : Nat} (hm : S.2.1 ≤ 12) (hP : ∀ i, i < S.2.1 → anot (S.2.2 i) us = 2 ^ p → P (12 * dp + i) < 128) (hE : ∀ i, i < 12 → E i < 128) : ∀ i, i < 12 → (g_key S P p us dp E).2 i < 128 := by
  have h1 : ∀ i, i < 12 → (kyC S P p us dp E).2 i < 128 := kyC_lt hm hP hE S.2.1 (Nat.le_refl _)
  have h2 : (kyC S P p us dp E).1 ≤ S.2.1 := kyC_fst p us dp E S.2.1
  unfold g_key
  split
  · exact h1
  · exact srt_lt (N := 12) (by omega) h1
theorem e4_keyOf (hw : lw x q b tw h S) {p us dp : Nat} (hp : p < 8) (hu : us < 256) (hd : dp < 8) (hP : ∀ i, i < S.2.1 → anot (S.2.2 i) us = 2 ^ p → P (12 * dp + i) < 128) (hE : ∀ i, i < 12 → E i < 128) : z_Ev G (d + 5) k_X4_keyOf [.ref x, .int (nI p), .int (nI us), .int (nI dp)] (lH h x A F P C E M B) (.inl (some (.long (k64 (g_key S P p us dp E).1))), lH h x A F P C (g_key S P p us dp E).2 M B) := by
  have hm := y_m12 hw.2.2.1
  have hw' := hw
  obtain ⟨ls, o0, _⟩ := hw'
  have pw := t_pow hp
  have h1 : ∀ i, i < 12 → (kyC S P p us dp E).2 i < 128 := kyC_lt hm hP hE S.2.1 (Nat.le_refl _)
  have h2 : (kyC S P p us dp E).1 ≤ S.2.1 := kyC_fst p us dp E S.2.1
  have vE : ∀ E' k, k < 12 → vp_in (nI k) (z_ln (lH h x A F P C E' M B) (x + 5)) := fun E' k hk => by rw [lH_ln, ls.2.2.2.2.2.1.2.2]; exact vp_in_nI hk (by decide)
  have vP : ∀ E' k, k < 108 → vp_in (nI k) (z_ln (lH h x A F P C E' M B) (x + 3)) := fun E' k hk => by rw [lH_ln, ls.2.2.2.1.2.2]; exact vp_in_nI hk (by decide)
  refine en_X4_keyOf (b_X4_keyOf_0 (z_pu0V rfl) ?_)
  obtain ⟨Rr, eR⟩ : ∃ R : z_Res, R = (.inl (some (.long (k64 (g_key S P p us dp E).1))), lH h x A F P C (g_key S P p us dp E).2 M B) := ⟨_, rfl⟩
  rw [← eR]
  refine z_forH (fun i (a : Nat × (Nat → Nat)) => [some (.ref x), some (.int (nI p)), some (.int (nI us)), some (.int (nI dp)), some (.int (nI a.1)), some (.int (nI i)), none, none]) (fun _ a => lH h x A F P C a.2 M B) (kyS S P p us dp) (0, E) S.2.1 ?_ ?_
  · intro i hi hJ
    have ha := kyC_fst (S := S) (P := P) p us dp E i
    obtain ⟨a, ea⟩ : ∃ a, a = it (kyS S P p us dp) (0, E) i := ⟨_, rfl⟩
    rw [← ea] at hJ ha ⊢
    have hA := lw_sc (A := A) (F := F) (P := P) (C := C) (E := a.2) (M := M) (B := B) hw
    have l1 := y_256 hA i
    have l2 := anot_lt (b := us) l1
    refine b_X4_keyOf_6 (z_pu0V rfl) ⟨ls.1, ?_⟩
    rw [lH_or, o0, z_rcs, z_rcs, y_m hA, if_pos (nI_lt hi (by omega)), show z_or h q 2 = some (b + 5) from (y_row hA).1, z_rcs, nI_clamp (show i < 2 ^ 31 by omega), y_Ln hA hi, q_anot, show nI 1 <<< (nI p &&& nI 31) = nI (2 ^ p) from n_one (by omega), ls.2.2.2.2.2.1.1, z_rcs, ls.2.2.2.1.1, z_rcs, n_mul, Nat.mul_comm dp 12, nI_add, nI_add, nI_add, nI_clamp (show 12 * dp + i < 2 ^ 31 by omega), nI_clamp (show a.1 < 2 ^ 31 by omega), lH_P, lH_pE]
    refine ⟨y_kd hA, ls.1, y_kd hA, (y_row hA).2.1, by rw [(y_row hA).2.2]; exact vp_in_nI hi (by omega), ?_⟩
    unfold kyS at hJ
    by_cases c : anot (S.2.2 i) us = 2 ^ p
    · rw [if_pos c] at hJ
      rw [if_pos (by rw [c])]
      exact ⟨ls.1, ls.1, ls.2.2.2.1.2.1, vP _ _ (by omega), ls.2.2.2.2.2.1.2.1, vE _ _ (by omega), hJ⟩
    · rw [if_neg c] at hJ
      rw [if_neg (fun e => c ((nI_eq (by omega) (by omega)).mp e))]
      exact hJ
  · have e0 : it (kyS S P p us dp) (0, E) S.2.1 = kyC S P p us dp E := rfl
    rw [e0]
    have hA := lw_sc (A := A) (F := F) (P := P) (C := C) (E := (kyC S P p us dp E).2) (M := M) (B := B) hw
    refine b_X4_keyOf_6 (z_pu0V rfl) ⟨ls.1, ?_⟩
    rw [lH_or, o0, z_rcs, y_m hA, if_neg (nI_nlt (Nat.le_refl _) (by omega))]
    refine ⟨y_kd hA, ?_⟩
    unfold g_key at eR
    by_cases c : (kyC S P p us dp E).1 = 0
    · rw [if_pos c] at eR
      rw [if_pos (by rw [c])]
      exact eR
    · rw [if_neg c] at eR
      rw [if_neg (fun e => c ((nI_eq (by omega) (by decide)).mp e)), ls.2.2.2.2.2.1.1, z_rcs]
      have hs := e4_sortUp (G := G) (d := d) (h := lH h x A F P C (kyC S P p us dp E).2 M B) (a := x + 5) (N := 12) ls.2.2.2.2.2.1.2.1 (by rw [lH_ln]; exact ls.2.2.2.2.2.1.2.2) (by decide) (R := (kyC S P p us dp E).2) (size := (kyC S P p us dp E).1) (by omega) (fun i hi => by have := h1 i hi; omega)
      rw [lH_xE, lH_xE] at hs
      refine ⟨ls.1, _, hs, ?_⟩
      obtain ⟨n, en⟩ : ∃ n, n = (kyC S P p us dp E).1 := ⟨_, rfl⟩
      obtain ⟨E2, eE2⟩ : ∃ E2, E2 = srt (kyC S P p us dp E).2 (kyC S P p us dp E).1 := ⟨_, rfl⟩
      have h3 : ∀ i, i < 12 → E2 i < 128 := by rw [eE2]; exact srt_lt (N := 12) (by omega) h1
      rw [← eE2, ← en] at eR ⊢
      rw [← en] at h2
      refine z_for (fun i k => [some (.ref x), none, none, none, some (.int (nI n)), some (.long (lN k)), none, some (.int (nI i))]) (fun i k => (k <<< 7) ||| (if i < n then 128 - E2 i else 0)) 0 7 ?_ ?_
      · intro i hi hJ
        obtain ⟨k, ek⟩ : ∃ k, k = it (fun i k => (k <<< 7) ||| (if i < n then 128 - E2 i else 0)) 0 i := ⟨_, rfl⟩
        rw [← ek] at hJ ⊢
        refine b_X4_keyOf_88 (z_pu0V rfl) ?_
        rw [if_pos (nI_lt hi (by decide)), l_shl, nI_add, nI_clamp (show i < 2 ^ 31 by omega), lH_or, ls.2.2.2.2.2.1.1, z_rcs, lH_E]
        by_cases c2 : i < n
        · rw [if_pos c2] at hJ
          rw [if_pos (nI_lt c2 (by omega)), q_sub (show E2 i ≤ 128 by have := h3 i (by omega); omega), l_wide (by omega), l_or]
          exact ⟨ls.1, ls.2.2.2.2.2.1.2.1, vE _ _ (by omega), hJ⟩
        · rw [if_neg c2] at hJ
          rw [if_neg (nI_nlt (by omega) (by omega)), l_wide (by decide), l_or]
          exact hJ
      · refine b_X4_keyOf_88 (z_pu0V rfl) ?_
        rw [if_neg (show ¬ nI 7 < nI 7 by decide)]
        exact eR
/-- the best row becomes this one -/
def g_kbC (S : Sc) (P C : Nat → Nat) : Nat → Nat := va_cpy P C (12 * S.1) 0 12
def g_kbB (M B : Nat → Nat) : Nat → Nat := va_cpy M B 0 0 8
theorem cpy_f {α β : Type} (f : α → β) (g k : Nat → α) (a c n : Nat) : va_cpy (fun i => f (g i)) (fun i => f (k i)) a c n = fun i => f (va_cpy g k a c n i) := by
  funext i
  unfold va_cpy
  split <;> rfl
theorem e4_keepBest (hw : lw x q b tw h S) : z_Ev G (d + 4) k_X4_keepBest [.ref x] (lH h x A F P C E M B) (.inl none, lH h x A F P (g_kbC S P C) E M (g_kbB M B)) := by
  have hn := y_n8 hw.2.2.1
  have hw' := hw
  obtain ⟨ls, o0, _⟩ := hw'
  refine en_X4_keepBest (b_X4_keepBest_0 (z_pu0V rfl) ⟨ls.1, ?_⟩)
  rw [lH_or, ls.2.1.1, z_rcs, ls.2.2.1.1, z_rcs, nI_clamp (show 0 < 2 ^ 31 by decide), nI_clamp (show 8 < 2 ^ 31 by decide), lH_M, lH_B, cpy_f, lH_xB]
  refine ⟨ls.1, ⟨by decide, by decide, by decide, ?_, ?_⟩, Or.inr ⟨ls.2.1.2.1, ls.2.2.1.2.1, b_X4_keepBest_15 (z_pu0V rfl) ⟨ls.1, ?_⟩⟩⟩
  · rw [lH_ln, ls.2.1.2.2]; decide
  · rw [lH_ln, ls.2.2.1.2.2]; decide
  · have hA := lw_sc (A := A) (F := F) (P := P) (C := C) (E := E) (M := M) (B := va_cpy M B 0 0 8) hw
    rw [lH_or, ls.2.2.2.1.1, z_rcs, o0, z_rcs, ls.2.2.2.2.1.1, z_rcs, y_n hA, n_mul, Nat.mul_comm S.1 12, nI_clamp (show 12 * S.1 < 2 ^ 31 by omega), nI_clamp (show 0 < 2 ^ 31 by decide), nI_clamp (show 12 < 2 ^ 31 by decide), lH_P, lH_C, cpy_f, lH_xC]
    refine ⟨ls.1, y_kd hA, ls.1, ⟨nI_nlt (Nat.zero_le _) (by omega), by decide, by decide, ?_, ?_⟩, Or.inl ⟨ls.2.2.2.1.2.1, ls.2.2.2.2.1.2.1, rfl⟩⟩
    · rw [lH_ln, ls.2.2.2.1.2.2]; omega
    · rw [lH_ln, ls.2.2.2.2.1.2.2]; decide
end HQ
