/-! THE DRAWER: without the lines of two points -/
def wpF (S : Sc) (i : Nat) (a : Nat × (Nat → Nat)) : Nat × (Nat → Nat) := if 2 < n_pc (S.2.2 i) then (a.1 + 1, z_u a.2 a.1 (S.2.2 i)) else a
def wpS (S : Sc) : Sc := (S.1, it (wpF S) (0, fun _ => 0) S.2.1)
def wpI (S : Sc) (k : Nat) (a : Nat × (Nat → Nat)) : Prop := a.1 ≤ k ∧ (∀ l, a.1 ≤ l → a.2 l = 0) ∧ (∀ l, l < a.1 → ∃ i, i < k ∧ a.2 l = S.2.2 i ∧ 2 < n_pc (S.2.2 i)) ∧ (∀ i j, i < j → j < a.1 → n_pc (a.2 i &&& a.2 j) ≤ 1) ∧ (∀ i, i < k → 2 < n_pc (S.2.2 i) → ∃ l, l < a.1 ∧ a.2 l = S.2.2 i) ∧ (a.1 = k → ∀ l, l < k → a.2 l = S.2.2 l)
theorem wp_I {S : Sc} (hS : c_sok S) : ∀ k, k ≤ S.2.1 → wpI S k (it (wpF S) (0, fun _ => 0) k) := by
  intro k
  induction k with
  | zero => intro _; exact ⟨Nat.le_refl _, fun _ _ => rfl, fun l hl => absurd hl (Nat.not_lt_zero _), fun i j _ hj => absurd hj (Nat.not_lt_zero _), fun i hi => absurd hi (Nat.not_lt_zero _), fun _ l hl => absurd hl (Nat.not_lt_zero _)⟩
  | succ k ih =>
    intro hk
    rw [it_s]
    obtain ⟨a, ea⟩ : ∃ a, a = it (wpF S) (0, fun _ => 0) k := ⟨_, rfl⟩
    have ih := ih (by omega)
    rw [← ea] at ih ⊢
    obtain ⟨i1, i2, i3, i4, i5, i6⟩ := ih
    unfold wpF
    by_cases c : 2 < n_pc (S.2.2 k)
    · rw [if_pos c]
      refine ⟨by show a.1 + 1 ≤ k + 1; omega, fun l hl => ?_, fun l hl => ?_, fun i j hij hj => ?_, fun i hi h2 => ?_, fun e l hl => ?_⟩
      · have hl : a.1 + 1 ≤ l := hl
        show z_u a.2 a.1 _ l = 0
        rw [u_ne _ _ (by omega)]
        exact i2 l (by omega)
      · have hl : l < a.1 + 1 := hl
        show ∃ i, i < k + 1 ∧ z_u a.2 a.1 _ l = S.2.2 i ∧ _
        by_cases e : l = a.1
        · rw [e, u_eq]; exact ⟨k, by omega, rfl, c⟩
        · rw [u_ne _ _ e]
          obtain ⟨i, h1, h2⟩ := i3 l (by omega)
          exact ⟨i, by omega, h2⟩
      · have hj : j < a.1 + 1 := hj
        show n_pc (z_u a.2 a.1 _ i &&& z_u a.2 a.1 _ j) ≤ 1
        rw [u_ne _ _ (show i ≠ a.1 by omega)]
        by_cases e : j = a.1
        · rw [e, u_eq]
          obtain ⟨i', h1, h2, -⟩ := i3 i (by omega)
          rw [h2]
          exact hS.2.2.2.2 i' k h1 (by omega)
        · rw [u_ne _ _ e]; exact i4 i j hij (by omega)
      · show ∃ l, l < a.1 + 1 ∧ z_u a.2 a.1 _ l = _
        by_cases e : i = k
        · exact ⟨a.1, by omega, by rw [u_eq, e]⟩
        · obtain ⟨l, h1, h3⟩ := i5 i (by omega) h2
          exact ⟨l, by omega, by rw [u_ne _ _ (by omega)]; exact h3⟩
      · have e : a.1 + 1 = k + 1 := e
        show z_u a.2 a.1 _ l = _
        by_cases e2 : l = a.1
        · rw [e2, u_eq, show a.1 = k by omega]
        · rw [u_ne _ _ e2]; exact i6 (by omega) l (by omega)
    · rw [if_neg c]
      refine ⟨by omega, i2, fun l hl => ?_, i4, fun i hi h2 => ?_, fun e => by omega⟩
      · obtain ⟨i, h1, h2⟩ := i3 l hl
        exact ⟨i, by omega, h2⟩
      · by_cases e : i = k
        · rw [e] at h2; exact absurd h2 c
        · exact i5 i (by omega) h2
theorem wp_sok {S : Sc} (hS : c_sok S) : c_sok (wpS S) := by
  obtain ⟨i1, i2, i3, i4, i5, i6⟩ := wp_I hS S.2.1 (Nat.le_refl _)
  refine ⟨hS.1, Nat.le_trans i1 hS.2.1, fun l hl => ?_, i2, i4⟩
  obtain ⟨i, h1, h2, h3⟩ := i3 l hl
  show (it (wpF S) (0, fun _ => 0) S.2.1).2 l < _ ∧ 2 ≤ n_pc ((it (wpF S) (0, fun _ => 0) S.2.1).2 l) ∧ n_pc ((it (wpF S) (0, fun _ => 0) S.2.1).2 l) ≤ 4
  rw [h2]
  exact hS.2.2.1 i h1
theorem wp_same {S : Sc} (hS : c_sok S) (e : (wpS S).2.1 = S.2.1) : wpS S = S := by
  obtain ⟨i1, i2, i3, i4, i5, i6⟩ := wp_I hS S.2.1 (Nat.le_refl _)
  refine Prod.ext rfl (Prod.ext e (funext fun l => ?_))
  show (it (wpF S) (0, fun _ => 0) S.2.1).2 l = S.2.2 l
  by_cases c : l < S.2.1
  · exact i6 e l c
  · rw [hS.2.2.2.1 l (by omega)]
    exact i2 l (by rw [show (it (wpF S) (0, fun _ => 0) S.2.1).1 = S.2.1 from e]; omega)
section HH1
variable {V : CV} {G : z_G} {d L q b : Nat} {h : z_H} {S : Sc}
theorem e2_withoutPairs (hI : inv V L h) (hL : L + 75 ≤ z_n h) (hA : sc_at q b h S) : ∃ h' q' b', z_Ev G (d + 6) k_X2_withoutPairs [.ref q] h (.inl (some (va_rf (some q'))), h') ∧ inv V L h' ∧ (∀ X, ex X 10 156 h h') ∧ sc_at q' b' h' (wpS S) := by
  have hS := hA.2.1
  have hm := y_m12 hA
  have hFl : ∀ a, (fun _ : Nat => False) a → hl L a := fun _ f => f.elim
  obtain ⟨M, eM⟩ : ∃ M, M = it (wpF S) (0, fun _ => 0) S.2.1 := ⟨_, rfl⟩
  have wI := wp_I hS
  have hW := wI S.2.1 (Nat.le_refl _)
  have hok := wp_sok hS
  rw [← eM] at hW
  have eW : wpS S = (S.1, M) := by unfold wpS; rw [← eM]
  obtain ⟨h2, eh2⟩ : ∃ h2, h2 = z_nwi h 1 12 (fun i => nI (M.2 i)) := ⟨_, rfl⟩
  have n1 := fun X => nw_k hI 12 (fun i => nI (M.2 i)) X
  have fr1 := nw_fr hI hL 12 (fun i => nI (M.2 i))
  have A1 := nw_sc hI 12 (fun i => nI (M.2 i)) hA
  rw [← eh2] at n1 fr1 A1
  have I1 := (n1 (fun _ => False)).1
  have L1 : L + 75 ≤ z_n h2 := Nat.le_trans hL (n1 (fun _ => False)).2.1.1
  have hAf : ∀ f, sc_at q b (z_nwi h 1 12 f) S := fun f => nw_sc hI 12 f hA
  have walk : ∀ r : z_Res, z_J G (d + 6) (m_X2_withoutPairs z_pu0) r 9 [some (.ref q), some (.ref (z_n h)), some (.int (nI M.1)), some (.int (nI S.2.1))] [] h2 → z_Ev G (d + 6) k_X2_withoutPairs [.ref q] h r := by
    intro r hlast
    refine en_X2_withoutPairs (b_X2_withoutPairs_0 (z_pu0V rfl) ⟨by decide, by decide, ?_⟩)
    rw [nI_clamp (show 12 < 2 ^ 31 by decide)]
    have key := z_forH (G := G) (d := d + 6) (μ := m_X2_withoutPairs z_pu0) (r := r) (pc := 9) (fun k (a : Nat × (Nat → Nat)) => [some (.ref q), some (.ref (z_n h)), some (.int (nI a.1)), some (.int (nI k))]) (fun _ a => z_nwi h 1 12 (fun i => nI (a.2 i))) (wpF S) (0, fun _ => 0) S.2.1 ?_ ?_
    · exact key
    · intro k hk hJ
      have hl := (wI k (by omega)).1
      obtain ⟨a, ea⟩ : ∃ a, a = it (wpF S) (0, fun _ => 0) k := ⟨_, rfl⟩
      rw [← ea] at hJ hl ⊢
      have l1 := y_256 hA k
      have l2 := n_pc12 (S.2.2 k) (by omega)
      have hB := hAf (fun i => nI (a.2 i))
      refine b_X2_withoutPairs_9 (z_pu0V rfl) ⟨y_kd hB, ?_⟩
      rw [y_m hB, if_pos (nI_lt hk (by omega)), (y_size hB).1, z_rcs, (y_row hB).1, z_rcs, nI_clamp (show k < 2 ^ 31 by omega), nI_clamp (show a.1 < 2 ^ 31 by omega), y_Sz hB hk, y_Ln hB hk, nI_add, nI_add, nwi_pai, nu, nwi_kd, nwi_ln]
      refine ⟨y_kd hB, (y_size hB).2.1, by rw [(y_size hB).2.2]; exact vp_in_nI hk (by omega), ?_⟩
      unfold wpF at hJ
      by_cases c : 2 < n_pc (S.2.2 k)
      · rw [if_pos c] at hJ
        rw [if_pos (nI_lt c (by omega))]
        exact ⟨y_kd hB, (y_row hB).2.1, by rw [(y_row hB).2.2]; exact vp_in_nI hk (by omega), rfl, vp_in_nI (by omega) (by decide), hJ⟩
      · rw [if_neg c] at hJ
        rw [if_neg (nI_nlt (by omega) (by omega))]
        exact hJ
    · rw [← eM, ← eh2]; exact hlast
  by_cases c : M.1 = S.2.1
  · refine ⟨h2, q, b, walk _ (b_X2_withoutPairs_9 (z_pu0V rfl) ⟨y_kd A1, ?_⟩), I1, fun X => ex_mono (n1 X).2 (by omega) (by omega), ?_⟩
    · rw [y_m A1, if_neg (nI_nlt (Nat.le_refl _) (by omega)), if_pos (by rw [c])]
      exact ⟨y_kd A1, rfl⟩
    · rw [wp_same hS (by rw [eW]; exact c)]; exact A1
  · obtain ⟨h3, ev3, I3, e3, A3, -⟩ := mk_sc (G := G) (d := d) (X := fun _ => False) (S := wpS S) I1 L1 hok (a := z_n h) (La := 12) fr1.1 (by rw [eh2]; exact nwi_kd _ _ _ _) (by rw [eh2]; exact nwi_ln _ _ _ _) (by decide) hok.2.1 (fun l _ => by rw [eh2, nwi_ai, eW])
    rw [eW] at ev3
    have hn := y_n8 hA
    refine ⟨h3, z_n h2, z_n h2 + 1, walk _ (b_X2_withoutPairs_9 (z_pu0V rfl) ⟨y_kd A1, ?_⟩), I3, fun X => ex_X (ex_trans hI I1 hFl (n1 (fun _ => False)).2 e3) (fun _ f => f.elim), A3⟩
    have sm := nwo_sm (h := h2) (ci := 8) (N := 15) (a := q) (by have := (inv_k I1 A1).2.1.2.1; have := (inv_k I1 A1).2.1.1; omega)
    have hM1 := hW.1
    rw [y_m A1, if_neg (nI_nlt (Nat.le_refl _) (by omega)), if_neg (fun e => c ((nI_eq (by omega) (by omega)).mp e)), sm.1, sm.2.2.1, y_n A1]
    exact ⟨y_kd A1, y_kd A1, _, ev3, rfl⟩
end HH1
