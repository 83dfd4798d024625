/-! THE READER: clauses, a whole text -/
section HJ
variable {G : z_G} {d x tp n : Nat} {h : z_H} {T : Nat → Nat}
theorem e7_readPoints (hs : rsh x tp h) (ht : rtx tp T n h) {F : Nat → Int32} {A : Nat → Nat → Int32} {i cl : Nat} {c : Cd} (hi : i ≤ n) (hc : rdC F A c) (tc : tokC T n i F) (h6 : F 6 = nI (if cl = 0 then 0 else 1)) (h0 : cl = 0 → c = c_c0) : rOut (Cd × Nat) G (d + 8) x h k_X7_readPoints [] F A (if 0 < cl then .inr (4, tk_b T n i) else p_pts T n (tk_e T n i) c) (fun v F' A' => rdC F' A' v.1 ∧ rS n v.2 F' ∧ agrF [2, 3, 4, 5, 7, 8] F F') := by
  by_cases c0 : cl = 0
  · rw [if_neg (show ¬ 0 < cl by omega)]
    rw [if_pos c0] at h6
    have ec := h0 c0
    have hr : rS n (tk_e T n i) F := ⟨tc.1, tc.2.1, (tk_en hi).2⟩
    have rn := e7_readNumber (G := G) (d := d) (A := A) hs ht hr
    unfold p_pts
    cases hp : p_num T n (tk_e T n i) 0 9 with
    | inr k =>
      rw [hp] at rn
      obtain ⟨F', A', ev, q12, q13⟩ := rn
      have hp1 : p_num T n (tk_e T n i) 1 8 = .inr k := by
        unfold p_num at hp ⊢
        split at hp
        · rename_i k2
          split at hp
          · cases hp
          · rename_i hn
            cases hp
            rw [if_pos k2, if_neg]
            rintro ⟨a, b, c⟩
            exact hn ⟨a, Nat.zero_le _, by omega⟩
        · rename_i k2
          cases hp
          rw [if_neg k2]
      rw [hp1]
      refine r_no rfl (F' := F') (A' := A') (en_X7_readPoints (b_X7_readPoints_0 (z_pu0V rfl) ⟨hs.1, ?_⟩)) q12 q13
      rw [hb_oi, h6, if_pos rfl]
      refine ⟨hs.1, _, _, ev, ?_⟩
      rw [if_pos rfl]
      exact ⟨Or.inl rfl, rfl⟩
    | inl v =>
      rw [hp] at rn
      obtain ⟨F1, A1, ev, tc1, f5, v9, hr1, ag, eA⟩ := rn
      subst eA
      have hv := p_num_9 hr.2.2 hp
      by_cases cv : 1 ≤ v.1 ∧ v.1 ≤ 8
      · have hp1 : p_num T n (tk_e T n i) 1 8 = .inl v := by
          unfold p_num at hp ⊢
          split at hp
          · rename_i k2
            split at hp
            · rename_i hh
              cases hp
              rw [if_pos k2, if_pos ⟨hh.1, cv.1, cv.2⟩]
            · cases hp
          · cases hp
        rw [hp1]
        dsimp only
        have hr2 : rS n v.2 (z_u F1 7 (nI v.1)) := ⟨by rw [u_ne _ _ (by decide)]; exact hr1.1, by rw [u_ne _ _ (by decide)]; exact hr1.2.1, hr1.2.2⟩
        have rc := e7_readClose (G := G) (d := d) (A := A1) hs ht hr2
        have blk : ∀ R, (∃ x_8 h_7, z_Ev G (d + 7) k_X7_readClose [.ref x] (z_hb h x 4 (z_u F1 7 (nI v.1)) A1) (.inl (some (.int x_8)), h_7) ∧ (z_bz x_8 ∧ R = (.inl (some (.int x_8)), h_7))) → z_Ev G (d + 8) k_X7_readPoints [.ref x] (z_hb h x 4 F A1) R := by
          intro R hh
          refine en_X7_readPoints (b_X7_readPoints_0 (z_pu0V rfl) ⟨hs.1, ?_⟩)
          rw [hb_oi, h6, if_pos rfl]
          refine ⟨hs.1, _, _, ev, ?_⟩
          rw [if_neg (by decide), hb_oi, f5, if_neg (nI_nlt (by omega) (by omega)), if_neg (nI_nlt (by omega) (by omega)), hb_poi]
          exact ⟨hs.1, hs.1, hs.1, hs.1, hs.1, hh⟩
        unfold p_tail
        by_cases cc : tk_k T n v.2 = 3 ∧ T (tk_b T n v.2) = 59
        · rw [if_pos cc] at rc ⊢
          obtain ⟨F2, A2, ev2, tc2, hr3, ag2, eA2⟩ := rc
          subst eA2
          refine r_yes rfl (blk _ ⟨_, _, ev2, Or.inr rfl, rfl⟩) ⟨⟨?_, ?_, ?_, ?_, ?_⟩, hr3, agrF_tr (agrF_mono ag (by decide)) (agrF_tr (agF_u (agr_0 _ _) (by decide)) (agrF_mono ag2 (by decide)))⟩
          · rw [ag2 7 (by decide), u_eq]
          · rw [ag2 8 (by decide), u_ne _ _ (by decide), ag 8 (by decide)]; exact hc.2.1
          · exact hc.2.2.1
          · exact hc.2.2.2.1
          · rw [ec]
            exact ⟨⟨cv, (show 0 ≤ 12 by decide), fun l hl => absurd hl (Nat.not_lt_zero _), fun _ _ => rfl, fun _ _ _ hl => absurd hl (Nat.not_lt_zero _)⟩, fun _ _ => ⟨rfl, rfl⟩⟩
        · rw [if_neg cc] at rc ⊢
          obtain ⟨F2, A2, ev2, q12, q13⟩ := rc
          exact r_no rfl (blk _ ⟨_, _, ev2, Or.inl rfl, rfl⟩) q12 q13
      · have hp1 : p_num T n (tk_e T n i) 1 8 = .inr 2 := by
          unfold p_num at hp ⊢
          split at hp
          · rename_i k2
            split at hp
            · rename_i hh
              cases hp
              rw [if_pos k2, if_neg (fun e => cv ⟨e.2.1, e.2.2⟩)]
            · cases hp
          · cases hp
        rw [hp1]
        refine r_no rfl (F' := z_u (z_u F1 12 (nI 2)) 13 (F1 4)) (A' := A1) (en_X7_readPoints (b_X7_readPoints_0 (z_pu0V rfl) ⟨hs.1, ?_⟩)) (by rw [u_ne _ _ (by decide), u_eq]) (by rw [u_eq, tc1.2.2.2.1])
        rw [hb_oi, h6, if_pos rfl]
        refine ⟨hs.1, _, _, ev, ?_⟩
        rw [if_neg (by decide), hb_oi, f5]
        refine ⟨hs.1, ?_⟩
        by_cases c1 : v.1 < 1
        · rw [if_pos (nI_lt c1 (by decide))]
          exact ⟨hs.1, _, _, e7_fail hs 2, Or.inl rfl, rfl⟩
        · rw [if_neg (nI_nlt (by omega) (by omega)), if_pos (nI_lt (by omega) (by omega))]
          exact ⟨hs.1, hs.1, _, _, e7_fail hs 2, Or.inl rfl, rfl⟩
  · rw [if_neg c0] at h6
    rw [if_pos (by omega)]
    refine r_no rfl (F' := z_u (z_u F 12 (nI 4)) 13 (F 4)) (A' := A) (en_X7_readPoints (b_X7_readPoints_0 (z_pu0V rfl) ⟨hs.1, ?_⟩)) (by rw [u_ne _ _ (by decide), u_eq]) (by rw [u_eq, tc.2.2.2.1])
    rw [hb_oi, h6, if_neg (by decide)]
    exact ⟨hs.1, _, _, e7_fail hs 4, Or.inl rfl, rfl⟩
theorem e7_readAt (hs : rsh x tp h) (ht : rtx tp T n h) {F : Nat → Int32} {A : Nat → Nat → Int32} {i : Nat} {c : Cd} (hc : rdC F A c) (hr : rS n i F) : rOut (Cd × Nat) G (d + 8) x h k_X7_readAt [] F A (p_at T n i c) (fun v F' A' => rdC F' A' v.1 ∧ rS n v.2 F' ∧ agrF [2, 3, 4, 5] F F') := by
  have hok := hc.2.2.2.2
  have hn8 := hok.1.1
  have rn := e7_readNumber (G := G) (d := d) (A := A) hs ht hr
  unfold p_at
  cases hp : p_num T n i 0 9 with
  | inr k =>
    rw [hp] at rn
    obtain ⟨F', A', ev, q12, q13⟩ := rn
    have ept : p_pt T n i c.1.1 = .inr k := by unfold p_pt; rw [hp]
    rw [ept]
    refine r_no rfl (F' := F') (A' := A') (en_X7_readAt (b_X7_readAt_0 (z_pu0V rfl) ⟨hs.1, _, _, ev, ?_⟩)) q12 q13
    rw [if_pos rfl]
    exact ⟨Or.inl rfl, rfl⟩
  | inl v =>
    rw [hp] at rn
    obtain ⟨F1, A1, ev, tc1, f5, v9, hr1, ag1, eA⟩ := rn
    subst eA
    have pt := e7_isPointThere (G := G) (d := d + 2) (F := F1) (A := A1) hs f5 v9 (by rw [ag1 7 (by decide)]; exact hc.1) hn8.2
    by_cases cv : v.1 < c.1.1
    · have ept : p_pt T n i c.1.1 = .inl v := by unfold p_pt; rw [hp]; dsimp only; rw [if_pos cv]
      rw [if_pos cv] at pt
      rw [ept]
      dsimp only
      have sg := e7_readSigned (G := G) (d := d) (A := A1) hs ht hr1
      cases hs1 : p_sg T n v.2 with
      | inr e =>
        rw [hs1] at sg
        obtain ⟨F', A', ev2, q12, q13⟩ := sg
        refine r_no rfl (F' := F') (A' := A') (en_X7_readAt (b_X7_readAt_0 (z_pu0V rfl) ⟨hs.1, _, _, ev, ?_⟩)) q12 q13
        rw [if_neg (by decide)]
        refine ⟨hs.1, _, _, pt, ?_⟩
        rw [if_neg (by decide)]
        refine ⟨hs.1, hs.1, _, _, ev2, ?_⟩
        rw [if_pos rfl]
        exact ⟨Or.inl rfl, rfl⟩
      | inl a =>
        rw [hs1] at sg
        obtain ⟨F2, A2, ev2, g5, hr2, ag2, eA2⟩ := sg
        subst eA2
        dsimp only
        have hp3 : z_pai (z_hb h x 4 F2 A2) (x + 3) v.1 a.1 = z_hb h x 4 F2 (z_u A2 2 (z_u (A2 2) v.1 a.1)) := hb_pai h x 4 F2 A2 (j := 2) (by decide) _ _
        have sg2 := e7_readSigned (G := G) (d := d) (F := F2) (A := z_u A2 2 (z_u (A2 2) v.1 a.1)) hs ht hr2
        cases hs2 : p_sg T n a.2 with
        | inr e =>
          rw [hs2] at sg2
          obtain ⟨F', A', ev3, q12, q13⟩ := sg2
          refine r_no rfl (F' := F') (A' := A') (en_X7_readAt (b_X7_readAt_0 (z_pu0V rfl) ⟨hs.1, _, _, ev, ?_⟩)) q12 q13
          rw [if_neg (by decide)]
          refine ⟨hs.1, _, _, pt, ?_⟩
          rw [if_neg (by decide)]
          refine ⟨hs.1, hs.1, _, _, ev2, ?_⟩
          rw [if_neg (by decide), hb_or, hs.2.2.2.2.2.1.1, z_rcs, hb_oi, hb_oi, f5, g5, nI_clamp (by omega), hp3]
          refine ⟨hs.1, hs.1, hs.2.2.2.2.2.1.2.1, by rw [hb_ln, hs.2.2.2.2.2.1.2.2]; exact vp_in_nI (by omega) (by decide), hs.1, _, _, ev3, ?_⟩
          rw [if_pos rfl]
          exact ⟨Or.inl rfl, rfl⟩
        | inl b =>
          rw [hs2] at sg2
          obtain ⟨F3, A3, ev3, k5, hr3, ag3, eA3⟩ := sg2
          subst eA3
          dsimp only
          have hp4 : z_pai (z_hb h x 4 F3 (z_u A2 2 (z_u (A2 2) v.1 a.1))) (x + 4) v.1 b.1 = z_hb h x 4 F3 (z_u (z_u A2 2 (z_u (A2 2) v.1 a.1)) 3 (z_u (z_u A2 2 (z_u (A2 2) v.1 a.1) 3) v.1 b.1)) := hb_pai h x 4 F3 _ (j := 3) (by decide) _ _
          have rc := e7_readClose (G := G) (d := d) (F := F3) (A := z_u (z_u A2 2 (z_u (A2 2) v.1 a.1)) 3 (z_u (z_u A2 2 (z_u (A2 2) v.1 a.1) 3) v.1 b.1)) hs ht hr3
          have blk : ∀ R, (∃ x_12 h_11, z_Ev G (d + 7) k_X7_readClose [.ref x] (z_hb h x 4 F3 (z_u (z_u A2 2 (z_u (A2 2) v.1 a.1)) 3 (z_u (z_u A2 2 (z_u (A2 2) v.1 a.1) 3) v.1 b.1))) (.inl (some (.int x_12)), h_11) ∧ (z_bz x_12 ∧ R = (.inl (some (.int x_12)), h_11))) → z_Ev G (d + 8) k_X7_readAt [.ref x] (z_hb h x 4 F A2) R := by
            intro R hh
            refine en_X7_readAt (b_X7_readAt_0 (z_pu0V rfl) ⟨hs.1, _, _, ev, ?_⟩)
            rw [if_neg (by decide)]
            refine ⟨hs.1, _, _, pt, ?_⟩
            rw [if_neg (by decide)]
            refine ⟨hs.1, hs.1, _, _, ev2, ?_⟩
            rw [if_neg (by decide), hb_or, hs.2.2.2.2.2.1.1, z_rcs, hb_oi, hb_oi, f5, g5, nI_clamp (by omega), hp3]
            refine ⟨hs.1, hs.1, hs.2.2.2.2.2.1.2.1, by rw [hb_ln, hs.2.2.2.2.2.1.2.2]; exact vp_in_nI (by omega) (by decide), hs.1, _, _, ev3, ?_⟩
            rw [if_neg (by decide), hb_or, hs.2.2.2.2.2.2.1.1, z_rcs, hb_oi, k5, hp4]
            exact ⟨hs.1, hs.1, hs.2.2.2.2.2.2.1.2.1, by rw [hb_ln, hs.2.2.2.2.2.2.1.2.2]; exact vp_in_nI (by omega) (by decide), hs.1, hh⟩
          unfold p_tail
          by_cases cc : tk_k T n b.2 = 3 ∧ T (tk_b T n b.2) = 59
          · rw [if_pos cc] at rc ⊢
            obtain ⟨F4, A4, ev4, tc4, hr4, ag4, eA4⟩ := rc
            subst eA4
            have agA := agrF_tr ag1 (agrF_tr ag2 (agrF_tr ag3 ag4))
            refine r_yes rfl (blk _ ⟨_, _, ev4, Or.inr rfl, rfl⟩) ⟨⟨by rw [agA 7 (by decide)]; exact hc.1, by rw [agA 8 (by decide)]; exact hc.2.1, fun l hl => ?_, fun p hp8 => ⟨?_, ?_⟩, cok_place hok cv _ _⟩, hr4, agA⟩
            · rw [u_ne _ _ (by decide), u_ne _ _ (by decide)]; exact hc.2.2.1 l hl
            · rw [u_ne _ _ (by decide), u_eq]
              show z_u (A2 2) v.1 a.1 p = z_u c.2.1 v.1 a.1 p
              by_cases e : p = v.1
              · rw [e, u_eq, u_eq]
              · rw [u_ne _ _ e, u_ne _ _ e]; exact (hc.2.2.2.1 p hp8).1
            · rw [u_eq, show z_u A2 2 (z_u (A2 2) v.1 a.1) 3 = A2 3 from u_ne _ _ (by decide)]
              show z_u (A2 3) v.1 b.1 p = z_u c.2.2 v.1 b.1 p
              by_cases e : p = v.1
              · rw [e, u_eq, u_eq]
              · rw [u_ne _ _ e, u_ne _ _ e]; exact (hc.2.2.2.1 p hp8).2
          · rw [if_neg cc] at rc ⊢
            obtain ⟨F4, A4, ev4, q12, q13⟩ := rc
            exact r_no rfl (blk _ ⟨_, _, ev4, Or.inl rfl, rfl⟩) q12 q13
    · have ept : p_pt T n i c.1.1 = .inr 3 := by unfold p_pt; rw [hp]; dsimp only; rw [if_neg cv]
      rw [if_neg cv] at pt
      rw [ept]
      refine r_no rfl (F' := z_u (z_u F1 12 (nI 3)) 13 (F1 4)) (A' := A1) (en_X7_readAt (b_X7_readAt_0 (z_pu0V rfl) ⟨hs.1, _, _, ev, ?_⟩)) (by rw [u_ne _ _ (by decide), u_eq]) (by rw [u_eq, tc1.2.2.2.1])
      rw [if_neg (by decide)]
      refine ⟨hs.1, _, _, pt, ?_⟩
      rw [if_pos rfl]
      exact ⟨Or.inl rfl, rfl⟩
theorem isw_k {i w : Nat} (e : c_isw T n i w = true) : tk_k T n i = 1 := by
  unfold c_isw at e
  rw [Bool.and_eq_true] at e
  exact (of_decide_eq_true e.1).1
theorem kd_w {i : Nat} : (c_isw T n i 3 = true → g_kd T n i = 1) ∧ (c_isw T n i 3 = false → c_isw T n i 4 = true → g_kd T n i = 2) ∧ (c_isw T n i 3 = false → c_isw T n i 4 = false → c_isw T n i 5 = true → g_kd T n i = 3) ∧ (c_isw T n i 3 = false → c_isw T n i 4 = false → c_isw T n i 5 = false → g_kd T n i ≠ 1 ∧ g_kd T n i ≠ 2 ∧ g_kd T n i ≠ 3) := by
  unfold g_kd
  refine ⟨fun h3 => ?_, fun h3 h4 => ?_, fun h3 h4 h5 => ?_, fun h3 h4 h5 => ?_⟩
  · rw [isw_k h3, if_neg (by decide), if_pos rfl, if_pos h3]
  · rw [isw_k h4, if_neg (by decide), if_pos rfl, h3, if_neg (by decide), if_pos h4]
  · rw [isw_k h5, if_neg (by decide), if_pos rfl, h3, if_neg (by decide), h4, if_neg (by decide), if_pos h5]
  · have e : (if c_isw T n i 3 = true then 1 else if c_isw T n i 4 = true then 2 else if c_isw T n i 5 = true then 3 else 7) = 7 := by rw [h3, h4, h5]; rfl
    rw [e]
    split
    · exact ⟨by decide, by decide, by decide⟩
    · split
      · exact ⟨by decide, by decide, by decide⟩
      · split
        · exact ⟨by decide, by decide, by decide⟩
        · split
          · split
            · exact ⟨by decide, by decide, by decide⟩
            · exact ⟨by decide, by decide, by decide⟩
          · exact ⟨by decide, by decide, by decide⟩
theorem r_wrap {α : Type} {κ κ' : z_Key} {F : Nat → Int32} {A : Nat → Nat → Int32} {o : α ⊕ pE} {P : α → (Nat → Int32) → (Nat → Nat → Int32) → Prop} {d' : Nat} (hr : rOut α G d x h κ [] F A o P) (hw : ∀ y h1, z_bz y → z_Ev G d κ [.ref x] (z_hb h x 4 F A) (.inl (some (.int y)), h1) → z_Ev G d' κ' [.ref x] (z_hb h x 4 F A) (.inl (some (.int y)), h1)) : rOut α G d' x h κ' [] F A o P := by
  cases o with
  | inl v =>
    obtain ⟨F', A', ev, hp⟩ := hr
    exact ⟨F', A', hw _ _ (Or.inr rfl) ev, hp⟩
  | inr e =>
    obtain ⟨F', A', ev, hp⟩ := hr
    exact ⟨F', A', hw _ _ (Or.inl rfl) ev, hp⟩
theorem r_post {α : Type} {κ : z_Key} {As : List Value} {F : Nat → Int32} {A : Nat → Nat → Int32} {o : α ⊕ pE} {P Q : α → (Nat → Int32) → (Nat → Nat → Int32) → Prop} (hr : rOut α G d x h κ As F A o P) (hw : ∀ v F' A', P v F' A' → Q v F' A') : rOut α G d x h κ As F A o Q := by
  cases o with
  | inl v =>
    obtain ⟨F', A', ev, hp⟩ := hr
    exact ⟨F', A', ev, hw _ _ _ hp⟩
  | inr e => exact hr
theorem e7_readClause (hs : rsh x tp h) (ht : rtx tp T n h) {F : Nat → Int32} {A : Nat → Nat → Int32} {i cl : Nat} {c : Cd} (hi : i ≤ n) (hc : rdC F A c) (tc : tokC T n i F) (h6 : F 6 = nI (if cl = 0 then 0 else 1)) (h0 : cl = 0 → c = c_c0) : rOut (Cd × Nat) G (d + 9) x h k_X7_readClause [] F A (p_cl T n i cl c) (fun v F' A' => rdC F' A' v.1 ∧ rS n v.2 F' ∧ agrF [2, 3, 4, 5, 7, 8] F F') := by
  obtain ⟨w3, w4, w5, w0⟩ := kd_w (T := T) (n := n) (i := i)
  have ne : ∀ {a b : Nat}, b < 8 → g_kd T n i = a → a ≠ b → ¬ nI (g_kd T n i) = nI b := fun hb ha hab e => hab (ha.symm.trans ((kdI hb).mp e))
  unfold p_cl
  cases c3 : c_isw T n i 3
  · rw [if_neg (by decide)]
    cases c4 : c_isw T n i 4
    · rw [if_neg (by decide)]
      cases c5 : c_isw T n i 5
      · rw [if_neg (by decide)]
        obtain ⟨n1, n2, n3⟩ := w0 c3 c4 c5
        refine r_no rfl (F' := z_u (z_u F 12 (nI 1)) 13 (F 4)) (A' := A) (en_X7_readClause (b_X7_readClause_0 (z_pu0V rfl) ⟨hs.1, ?_⟩)) (by rw [u_ne _ _ (by decide), u_eq]) (by rw [u_eq, tc.2.2.2.1])
        rw [hb_oi, tc.2.2.1, if_neg (ne (by decide) rfl n1), if_neg (ne (by decide) rfl n2), if_neg (ne (by decide) rfl n3)]
        exact ⟨hs.1, _, _, e7_fail hs 1, Or.inl rfl, rfl⟩
      · rw [if_pos rfl]
        have k := w5 c3 c4 c5
        refine r_wrap (r_post (e7_readAt (G := G) (d := d) (A := A) hs ht hc ⟨tc.1, tc.2.1, (tk_en hi).2⟩) (fun v F' A' hq => ⟨hq.1, hq.2.1, agrF_mono hq.2.2 (by decide)⟩)) (fun y h1 hy ev => en_X7_readClause (b_X7_readClause_0 (z_pu0V rfl) ⟨hs.1, ?_⟩))
        rw [hb_oi, tc.2.2.1, if_neg (ne (by decide) k (by decide)), if_neg (ne (by decide) k (by decide)), if_pos ((kdI (by decide)).mpr k)]
        exact ⟨hs.1, _, _, ev, hy, rfl⟩
    · rw [if_pos rfl]
      have k := w4 c3 c4
      refine r_wrap (r_post (e7_readLine (G := G) (d := d) (A := A) hs ht hi hc tc) (fun v F' A' hq => ⟨hq.1, hq.2.1, agrF_mono hq.2.2 (by decide)⟩)) (fun y h1 hy ev => en_X7_readClause (b_X7_readClause_0 (z_pu0V rfl) ⟨hs.1, ?_⟩))
      rw [hb_oi, tc.2.2.1, if_neg (ne (by decide) k (by decide)), if_pos ((kdI (by decide)).mpr k)]
      exact ⟨hs.1, _, _, ev, hy, rfl⟩
  · rw [if_pos rfl]
    have k := w3 c3
    refine r_wrap (e7_readPoints (G := G) (d := d) (A := A) hs ht hi hc tc h6 h0) (fun y h1 hy ev => en_X7_readClause (b_X7_readClause_0 (z_pu0V rfl) ⟨hs.1, ?_⟩))
    rw [hb_oi, tc.2.2.1, if_pos ((kdI (by decide)).mpr k)]
    exact ⟨hs.1, _, _, ev, hy, rfl⟩
end HJ
