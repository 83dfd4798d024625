/-! the dual of a scheme -/
section FV
variable {V : CV} {L q b : Nat} {h : z_H} {S : Sc} {X : Nat → Prop} {G : z_G} {d : Nat}
theorem dS_sok (hS : c_sok S) {t : Nat × (Nat → Nat)} (ht : c_td S = some t) : c_sok (dS S t) := (cok_turn (c := (S, fun _ => nI 0, fun _ => nI 0)) ⟨hS, fun _ _ => ⟨rfl, rfl⟩⟩ ht).1
/-- a row of ints made, seen by the schemes -/
theorem nw_k (hI : inv V L h) (m : Nat) (f : Nat → Int32) (X : Nat → Prop) : inv V L (z_nwi h 1 m f) ∧ ex X 1 m h (z_nwi h 1 m f) := ⟨inv_xt (X := fun _ => False) hI (fun _ f => f.elim) (xt_nwi 1 m f (by decide)), xt_ex (xt_nwi 1 m f (by decide)) (Nat.le_refl _) (Nat.le_refl _)⟩
theorem nw_sc (hI : inv V L h) (m : Nat) (f : Nat → Int32) (hA : sc_at q b h S) : sc_at q b (z_nwi h 1 m f) S := ex_sc (X := fun _ => False) hI (fun _ f => f.elim) (nw_k hI m f _).2 hA
theorem nw_fr (hI : inv V L h) (hL : L + 75 ≤ z_n h) (m : Nat) (f : Nat → Int32) : fr L (z_nwi h 1 m f) (z_n h) := by
  refine ⟨Nat.lt_succ_self _, fun hh => by unfold hl at hh; omega, fun q' b' hb => ?_⟩
  rcases ex_bl (X := fun _ => False) hI (fun _ f => f.elim) (nw_k hI m f _).2 hb with c | c
  · obtain ⟨S', k'⟩ := inv_b hI c
    right; exact k'.2.1.2.1
  · have := inv_n hI c
    have hb1 := hb.1
    by_cases e : q' = z_n h
    · rw [e, nwi_kd] at hb1; omega
    · have : z_kd (z_nwi h 1 m f) q' = z_kd h q' := u_ne _ _ e
      omega
theorem td_leK : ∀ k a, its (c_tdF S) (0, fun _ => 0) k = .inl a → a.1 ≤ k := by
  intro k
  induction k with
  | zero => intro a ha; cases ha; exact Nat.le_refl _
  | succ k ih =>
    intro a ha
    unfold its at ha
    cases c : its (c_tdF S) (0, fun _ => 0) k with
    | inr r => rw [c] at ha; cases ha
    | inl a' =>
      rw [c] at ha
      have := ih a' c
      simp only [c_tdF] at ha
      split at ha
      · cases ha
      · split at ha
        · cases ha; omega
        · cases ha; show a'.1 + 1 ≤ _; omega
theorem e8_makeTurned (hX0 : ∀ a, X a → hl L a) (hI : inv V L h) (hL : L + 75 ≤ z_n h) (hA : sc_at q b h S) (h1 : 1 ≤ S.2.1) (h8 : S.2.1 ≤ 8) : ∃ h', inv V L h' ∧ ex X 10 152 h h' ∧ (c_td S = none → z_or h' q 14 = z_or h q 14 ∧ z_Ev G (d + 6) k_X8_makeTurned [.ref q] h (.inl (some (va_rf none)), h')) ∧ (∀ t, c_td S = some t → ∃ q' b', z_Ev G (d + 6) k_X8_makeTurned [.ref q] h (.inl (some (va_rf (some q'))), h') ∧ sc_at q' b' h' (dS S t)) := by
  have hm := y_m12 hA
  have hn := y_n8 hA
  have ho : ∀ p, c_on S p < 256 := fun p => Nat.lt_of_lt_of_le (c_on_lt S p) (show 2 ^ S.2.1 ≤ 2 ^ 8 from Nat.pow_le_pow_right (by decide) (by omega))
  have p12 : ∀ p, n_pc (c_on S p) ≤ 12 := fun p => n_pc12 (c_on S p) (by have := ho p; omega)
  have hA1 : ∀ f, sc_at q b (z_nwi h 1 8 f) S := fun f => nw_sc hI 8 f hA
  have etd : c_td S = match its (c_tdF S) (0, fun _ => 0) S.1 with
      | .inl a => some a
      | .inr _ => none := by
    unfold c_td; rw [if_neg (by omega)]; rfl
  have main : ∀ (r : z_Res) (B : (Nat × (Nat → Nat)) ⊕ (Nat × (Nat → Nat))), its (c_tdF S) (0, fun _ => 0) S.1 = B → (∀ a, B = .inr a → r = (.inl (some (va_rf none)), z_nwi h 1 8 (fun i => nI (a.2 i)))) → (∀ a, B = .inl a → z_J G (d + 6) (m_X8_makeTurned z_pu0) r 9 [some (.ref q), some (.ref (z_n h)), some (.int (nI a.1)), some (.int (nI S.1))] [] (z_nwi h 1 8 (fun i => nI (a.2 i)))) → z_Ev G (d + 6) k_X8_makeTurned [.ref q] h r := by
    intro r B hB hr hl
    refine en_X8_makeTurned (b_X8_makeTurned_0 (z_pu0V rfl) ⟨by decide, by decide, ?_⟩)
    rw [nI_clamp (by decide)]
    refine z_fors (fun p (a : Nat × (Nat → Nat)) => [some (.ref q), some (.ref (z_n h)), some (.int (nI a.1)), some (.int (nI p))]) (fun _ a => z_nwi h 1 8 (fun i => nI (a.2 i))) (fun p a => a.1 ≤ p) (c_tdF S) ((0, fun _ => 0) : Nat × (Nat → Nat)) S.1 (Nat.le_refl 0) ?_ ?_ ?_
    · intro p a w hp hI2 hf hw
      have e1 := p12 p
      have e2 : (f : Nat → Int32) → z_ai (z_nwi h 1 8 f) b p = nI (n_pc (c_on S p)) := fun f => y_Dg (hA1 f) (by omega)
      refine b_X8_makeTurned_9 (z_pu0V rfl) ⟨y_kd (hA1 _), ?_⟩
      unfold c_tdF at hf
      split at hf
      · rename_i hc
        cases hf
        rw [y_n (hA1 _), if_pos (nI_lt hp (by omega)), (y_deg (hA1 _)).1, z_rcs, nI_clamp (by omega), e2, if_pos (nI_lt hc (by omega))]
        exact ⟨y_kd (hA1 _), (y_deg (hA1 _)).2.1, by rw [(y_deg (hA1 _)).2.2]; exact vp_in_nI (by omega) (by decide), hr a (hB.symm.trans hw)⟩
      · split at hf <;> cases hf
    · intro p a b' hp hI2 hf
      have e1 := p12 p
      have e2 : (f : Nat → Int32) → z_ai (z_nwi h 1 8 f) b p = nI (n_pc (c_on S p)) := fun f => y_Dg (hA1 f) (by omega)
      have e3 : (f : Nat → Int32) → z_ai (z_nwi h 1 8 f) (b + 1) p = nI (c_on S p) := fun f => y_On (hA1 f) (by omega)
      unfold c_tdF at hf
      split at hf
      · cases hf
      · rename_i hc
        split at hf
        · rename_i hc2
          cases hf
          refine ⟨by omega, fun hJ => b_X8_makeTurned_9 (z_pu0V rfl) ⟨y_kd (hA1 _), ?_⟩⟩
          rw [y_n (hA1 _), if_pos (nI_lt hp (by omega)), (y_deg (hA1 _)).1, z_rcs, z_rcs, nI_clamp (show p < 2 ^ 31 by omega), e2, if_neg (nI_nlt (by omega) (by omega)), if_pos (nI_lt hc2 (by omega)), nI_add]
          exact ⟨y_kd (hA1 _), (y_deg (hA1 _)).2.1, by rw [(y_deg (hA1 _)).2.2]; exact vp_in_nI (by omega) (by decide), y_kd (hA1 _), (y_deg (hA1 _)).2.1, by rw [(y_deg (hA1 _)).2.2]; exact vp_in_nI (by omega) (by decide), hJ⟩
        · rename_i hc2
          cases hf
          refine ⟨by show a.1 + 1 ≤ p + 1; omega, fun hJ => b_X8_makeTurned_9 (z_pu0V rfl) ⟨y_kd (hA1 _), ?_⟩⟩
          rw [y_n (hA1 _), if_pos (nI_lt hp (by omega)), (y_deg (hA1 _)).1, z_rcs, z_rcs, (y_on (hA1 _)).1, z_rcs, nI_clamp (show p < 2 ^ 31 by omega), nI_clamp (show a.1 < 2 ^ 31 by omega), e2, if_neg (nI_nlt (by omega) (by omega)), if_neg (nI_nlt (by omega) (by omega)), nI_add, nI_add, e3, nwi_pai, nu, nwi_kd, nwi_ln]
          exact ⟨y_kd (hA1 _), (y_deg (hA1 _)).2.1, by rw [(y_deg (hA1 _)).2.2]; exact vp_in_nI (by omega) (by decide), y_kd (hA1 _), (y_deg (hA1 _)).2.1, by rw [(y_deg (hA1 _)).2.2]; exact vp_in_nI (by omega) (by decide), y_kd (hA1 _), (y_on (hA1 _)).2.1, by rw [(y_on (hA1 _)).2.2]; exact vp_in_nI (by omega) (by decide), rfl, vp_in_nI (by omega) (by decide), hJ⟩
    · intro a hI2 hw
      exact hl a (hB.symm.trans hw)
  cases c : its (c_tdF S) (0, fun _ => 0) S.1 with
  | inr a =>
    have e0 : c_td S = none := by rw [etd, c]
    refine ⟨z_nwi h 1 8 (fun i => nI (a.2 i)), (nw_k hI 8 _ X).1, ex_mono (nw_k hI 8 _ X).2 (by omega) (by omega), fun _ => ⟨rfl, main _ _ c (fun a' ha => by cases ha; rfl) (fun a' ha => by cases ha)⟩, fun t ht => by rw [e0] at ht; cases ht⟩
  | inl a =>
    have e0 : c_td S = some a := by rw [etd, c]
    have ha := td_leK _ _ c
    have hI1 := (nw_k hI 8 (fun i => nI (a.2 i)) X).1
    have hS := dS_sok hA.2.1 e0
    obtain ⟨h', ev, i', e', sA, sN⟩ := mk_sc (G := G) (d := d) (X := X) (S := dS S a) hI1 (by show L + 75 ≤ z_n h + 1; omega) hS (a := z_n h) (La := 8) (Nat.lt_succ_self _) (nwi_kd _ _ _ _) (nwi_ln _ _ _ _) (by decide) (show a.1 ≤ 8 by omega) (fun l hl => by
      rw [nwi_ai]
      show _ = nI (if l < a.1 then a.2 l else 0)
      rw [if_pos (show l < a.1 from hl)])
    refine ⟨h', i', ex_mono (ex_trans hI hI1 hX0 (nw_k hI 8 _ X).2 e') (by omega) (by omega), fun hh => (by rw [e0] at hh; cases hh), fun t ht => ?_⟩
    rw [e0] at ht
    cases ht
    refine ⟨_, _, main _ _ c (fun a' ha => by cases ha) (fun a' ha => ?_), sA⟩
    cases ha
    have f := nwo_sm (h := z_nwi h 1 8 (fun i => nI (a.2 i))) (ci := 8) (N := 15) (a := q) (by
      have := (inv_k hI hA).2.1.1
      have := (inv_k hI hA).2.1.2.1
      show q < z_n h + 1
      omega)
    refine b_X8_makeTurned_9 (z_pu0V rfl) ⟨y_kd (hA1 _), ?_⟩
    rw [y_n (hA1 _), if_neg (nI_nlt (Nat.le_refl _) (by omega)), f.1, f.2.2.1, y_m (hA1 _)]
    exact ⟨y_kd (hA1 _), _, ev, rfl⟩
theorem e8_turned (hX0 : ∀ a, X a → hl L a) (hI : inv V L h) (hL : L + 75 ≤ z_n h) (hA : sc_at q b h S) : ∃ h', inv V L h' ∧ ex X 10 152 h h' ∧ (c_td S = none → z_Ev G (d + 7) k_X8_turned [.ref q] h (.inl (some (va_rf none)), h')) ∧ (∀ t, c_td S = some t → ∃ q' b', z_Ev G (d + 7) k_X8_turned [.ref q] h (.inl (some (va_rf (some q'))), h') ∧ sc_at q' b' h' (dS S t)) := by
  have hm := y_m12 hA
  have hk := inv_k hI hA
  cases h14 : z_or h q 14 with
  | some q' =>
    obtain ⟨b', t, ht, hA'⟩ := hk.2.2.2.2.2.2 q' h14
    refine ⟨h, hI, ex_mono (ex_refl h) (by omega) (by omega), fun hh => (by rw [ht] at hh; cases hh), fun t' ht' => ?_⟩
    rw [ht] at ht'
    cases ht'
    refine ⟨q', b', en_X8_turned (b_X8_turned_0 (z_pu0V rfl) ?_), hA'⟩
    rw [h14, z_rcs, z_rcs]
    exact ⟨y_kd hA, y_kd hA, rfl⟩
  | none =>
    by_cases c : S.2.1 = 0 ∨ 8 < S.2.1
    · have e0 : c_td S = none := by unfold c_td; rw [if_pos c]
      refine ⟨h, hI, ex_mono (ex_refl h) (by omega) (by omega), fun _ => en_X8_turned (b_X8_turned_0 (z_pu0V rfl) ?_), fun t ht => by rw [e0] at ht; cases ht⟩
      rw [h14, z_rcn, y_m hA]
      refine ⟨y_kd hA, y_kd hA, ?_⟩
      by_cases c1 : S.2.1 = 0
      · rw [if_pos (nI_lt (by omega) (by omega)), z_rcn]
        exact ⟨y_kd hA, rfl⟩
      · rw [if_neg (nI_nlt (by omega) (by omega)), if_pos (nI_lt (by omega) (by omega)), z_rcn]
        exact ⟨y_kd hA, y_kd hA, rfl⟩
    · obtain ⟨h', i', e', m1, m2⟩ := e8_makeTurned (G := G) (d := d) hX0 hI hL hA (by omega) (by omega)
      have hA' := ex_sc hI hX0 e' hA
      cases ct : c_td S with
      | none =>
        obtain ⟨e14, ev⟩ := m1 ct
        rw [h14] at e14
        have es : z_por h' q 14 none = h' := by
          unfold z_por z_uu
          rw [← e14, u_self, u_self]
          rfl
        refine ⟨h', i', e', fun _ => en_X8_turned (b_X8_turned_0 (z_pu0V rfl) ?_), fun t ht => by cases ht⟩
        rw [h14, z_rcn, y_m hA, if_neg (nI_nlt (by omega) (by omega)), if_neg (nI_nlt (by omega) (by omega))]
        refine ⟨y_kd hA, y_kd hA, y_kd hA, y_kd hA, _, _, ev, ?_⟩
        rw [z_rcn, es, e14, z_rcn]
        exact ⟨y_kd hA', y_kd hA', rfl⟩
      | some t =>
        obtain ⟨q', b', ev, hB⟩ := m2 t ct
        have fin := inv_por14 (X := X) i' hA' ct hB
        refine ⟨_, fin.1, ex_mono (ex_trans hI i' hX0 e' fin.2) (by omega) (by omega), fun hh => (by cases hh), fun t' ht' => ?_⟩
        cases ht'
        refine ⟨q', b', en_X8_turned (b_X8_turned_0 (z_pu0V rfl) ?_), ex_sc i' hX0 fin.2 hB⟩
        rw [h14, z_rcn, y_m hA, if_neg (nI_nlt (by omega) (by omega)), if_neg (nI_nlt (by omega) (by omega))]
        refine ⟨y_kd hA, y_kd hA, y_kd hA, y_kd hA, _, _, ev, ?_⟩
        have eo : z_or (z_por h' q 14 (some q')) q 14 = some q' := by
          show z_u (z_or h') q (z_u (z_or h' q) 14 (some q')) q 14 = _
          rw [u_eq, u_eq]
        rw [z_rcs, eo, z_rcs]
        exact ⟨y_kd hA', (show z_kd h' q = 24 from y_kd hA'), rfl⟩
theorem e8_withPoints (hI : inv V L h) (hL : L + 75 ≤ z_n h) (hA : sc_at q b h S) {n : Nat} (hS : c_sok (n, S.2.1, S.2.2)) : ∃ h', z_Ev G (d + 6) k_X8_withPoints [.ref q, .int (nI n)] h (.inl (some (va_rf (some (z_n h)))), h') ∧ inv V L h' ∧ ex X 9 144 h h' ∧ sc_at (z_n h) (z_n h + 1) h' (n, S.2.1, S.2.2) := by
  have hm := y_m12 hA
  have l := (inv_k hI hA).2.1
  have l1 := l.1
  have l2 := l.2.1
  obtain ⟨h', ev, i', e', sA, sN⟩ := mk_sc (G := G) (d := d) (X := X) (S := (n, S.2.1, S.2.2)) hI hL hS (a := b + 5) (La := S.2.1) (by omega) (y_row hA).2.1 (y_row hA).2.2 (by omega) (Nat.le_refl _) (fun l hl => y_Ln hA hl)
  refine ⟨h', en_X8_withPoints (b_X8_withPoints_0 (z_pu0V rfl) ?_), i', e', sA⟩
  have f := nwo_sm (h := h) (ci := 8) (N := 15) (a := q) (by omega)
  rw [f.1, f.2.2.2.1, f.2.2.1, (y_row hA).1, z_rcs, y_m hA]
  exact ⟨y_kd hA, y_kd hA, _, ev, rfl⟩
end FV
