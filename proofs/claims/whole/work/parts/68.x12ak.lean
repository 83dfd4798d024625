/-! feed -/
theorem and_8 (y : Int32) : y &&& nI 255 = nI (y.toBitVec.toNat % 256) := by
  apply b_ext
  intro i hi
  rw [b_and, n_bt, n_bt, show (256 : Nat) = 2 ^ 8 from rfl, Nat.testBit_mod_two_pow, show (255 : Nat) = 2 ^ 8 - 1 from rfl, Nat.testBit_two_pow_sub_one, decide_eq_true hi]
  show (y.toBitVec.getLsbD i && (true && decide (i < 8))) = (true && (decide (i < 8) && y.toBitVec.toNat.testBit i))
  rw [BitVec.getLsbD]
  cases decide (i < 8) <;> simp
def wB (x : Int32) (l : Nat) : Nat := (x >>> (nI (24 - 8 * (l % 4)) &&& nI 31)).toBitVec.toNat % 256
theorem wB_sh : ∀ l, l < 20 → (nI 24 - nI 8 * (nI l - nI l / nI 4 * nI 4)) &&& nI 31 = nI (24 - 8 * (l % 4)) &&& nI 31 := by decide +kernel
theorem wB_eq (x : Int32) {l : Nat} (hl : l < 20) : (x >>> ((nI 24 - nI 8 * (nI l - nI l / nI 4 * nI 4)) &&& nI 31)) &&& nI 255 = nI (wB x l) := by
  rw [wB_sh l hl, and_8]
  rfl
def wsel (x1 x2 x3 x4 x5 : Int32) (l : Nat) : Int32 := if l < 4 then x1 else if l < 8 then x2 else if l < 12 then x3 else if l < 16 then x4 else x5
def fdT (T : Nat → Nat) (m : Nat) (x1 x2 x3 x4 x5 : Int32) : Nat → Nat := fun i => if m ≤ i ∧ i < m + 20 then wB (wsel x1 x2 x3 x4 x5 (i - m)) (i - m) else T i
def s_feed (σ : RSt) (x1 x2 x3 x4 x5 : Int32) : Int32 × RSt := if 400 < σ.1.2.1 + 20 then (mI, σ) else (nI (σ.1.2.1 + 20), ((fdT σ.1.1 σ.1.2.1 x1 x2 x3 x4 x5, σ.1.2.1 + 20, σ.1.2.2), σ.2))
section DJ
variable {G : z_G} {d : Nat} {h : z_H} {M : Nat} {F : Nat → Int32} {A : Nat → Nat → Int32} {σ : RSt}
theorem e_feedP (hM : z_sh M h) (hI : rI F A σ) (x1 x2 x3 x4 x5 : Int32) : pubR G (d + 4) k_X12_feed M h [.int x1, .int x2, .int x3, .int x4, .int x5] F A (s_feed σ x1 x2 x3 x4 x5).1 (nI 0) (s_feed σ x1 x2 x3 x4 x5).2 := by
  obtain ⟨i1, i2, i3, i4, i5, i6, i7, i8⟩ := hI
  have hI : rI F A σ := ⟨i1, i2, i3, i4, i5, i6, i7, i8⟩
  have hfed := i2.2.1
  unfold s_feed
  by_cases q : 400 < σ.1.2.1 + 20
  · rw [if_pos q]
    refine ⟨z_u F 0 (nI 0), A, rI_agr hI (agr_rf i1) (agrF_u agrF_rf (by decide) _), rLk_u rLk_rf _ (by decide), u_eq _ _ _, en_X12_feed (b_X12_feed_0 z_puCV ⟨sh_kd hM, ?_⟩)⟩
    rw [rs_poi, rs_oi, u_ne _ _ (by decide), i2.1, nI_add, if_pos (nI_lt q (by omega))]
    exact ⟨sh_kd hM, rfl⟩
  · rw [if_neg q]
    have key : ∀ m i, it (fun l (a : Nat → Int32) => z_u a (σ.1.2.1 + l) (nI (wB (wsel x1 x2 x3 x4 x5 l) l))) (A 4) m i = if σ.1.2.1 ≤ i ∧ i < σ.1.2.1 + m then nI (wB (wsel x1 x2 x3 x4 x5 (i - σ.1.2.1)) (i - σ.1.2.1)) else A 4 i := by
      intro m
      induction m with
      | zero => intro i; rw [if_neg (by omega)]; rfl
      | succ m ih =>
        intro i
        rw [it_s]
        by_cases e : i = σ.1.2.1 + m
        · subst e; rw [u_eq, if_pos (by omega), Nat.add_sub_cancel_left]
        · rw [u_ne _ _ e, ih i]
          by_cases q2 : σ.1.2.1 ≤ i ∧ i < σ.1.2.1 + m
          · rw [if_pos q2, if_pos (by omega)]
          · rw [if_neg q2, if_neg (by omega)]
    obtain ⟨b, hb⟩ : ∃ b, b = it (fun l (a : Nat → Int32) => z_u a (σ.1.2.1 + l) (nI (wB (wsel x1 x2 x3 x4 x5 l) l))) (A 4) 20 := ⟨_, rfl⟩
    have hb2 := key 20
    rw [← hb] at hb2
    have kF : agrF [0, 5] F (z_u (z_u F 0 (nI 0)) 5 (nI (σ.1.2.1 + 20))) := agrF_u (agrF_u agrF_rf (by decide) _) (by decide) _
    refine ⟨z_u (z_u F 0 (nI 0)) 5 (nI (σ.1.2.1 + 20)), z_u A 4 b, ⟨?_, ⟨u_eq _ _ _, by show σ.1.2.1 + 20 ≤ 400; omega, ?_⟩, ?_, ?_, ?_, ?_, ?_, ?_⟩, ⟨kF 27 (by decide), kF 28 (by decide), kF 29 (by decide), u_ne _ _ (by decide)⟩, by rw [u_ne _ _ (by decide), u_eq], en_X12_feed (b_X12_feed_0 z_puCV ⟨sh_kd hM, ?_⟩)⟩
    · rw [u_ne _ _ (by decide)]; exact i1
    · intro i hi
      have hi2 : i < σ.1.2.1 + 20 := hi
      rw [u_eq, hb2 i]
      show _ = nI (fdT σ.1.1 σ.1.2.1 x1 x2 x3 x4 x5 i) ∧ fdT σ.1.1 σ.1.2.1 x1 x2 x3 x4 x5 i < 256
      unfold fdT
      by_cases q2 : σ.1.2.1 ≤ i
      · rw [if_pos ⟨q2, hi2⟩, if_pos ⟨q2, hi2⟩]
        exact ⟨rfl, Nat.mod_lt _ (by decide)⟩
      · rw [if_neg (fun e => q2 e.1), if_neg (fun e => q2 e.1)]
        exact i2.2.2 i (by omega)
    · rw [kF 14 (by decide)]; exact i3
    · rw [u_ne _ _ (by decide)]; exact i4
    · rw [kF 25 (by decide)]; exact i5
    · rw [u_ne _ _ (by decide)]; exact i6
    · rw [u_ne _ _ (by decide)]; exact i7
    · unfold rImg at i8 ⊢
      rw [kF 47 (by decide), kF 48 (by decide), u_ne _ _ (by decide), u_ne _ _ (by decide), u_ne _ _ (by decide)]
      exact i8
    · rw [rs_poi, rs_oi, u_ne _ _ (by decide), i2.1, nI_add, if_neg (fun e => q ((nI_ltI (by omega) (by omega)).mp e))]
      refine ⟨sh_kd hM, ?_⟩
      have l := z_forH (G := G) (d := d + 4) (μ := m_X12_feed z_puC) (r := (.inl (some (.int (nI (σ.1.2.1 + 20)))), z_rs h M (z_u (z_u F 0 (nI 0)) 5 (nI (σ.1.2.1 + 20))) (z_u A 4 b))) (pc := 23) (fun l _ => [some (.ref M), some (.int x1), some (.int x2), some (.int x3), some (.int x4), some (.int x5), some (.int (nI l)), none]) (fun l a => z_rs h M (z_u (z_u F 0 (nI 0)) 5 (nI (σ.1.2.1 + l))) (z_u A 4 a)) (fun l (a : Nat → Int32) => z_u a (σ.1.2.1 + l) (nI (wB (wsel x1 x2 x3 x4 x5 l) l))) (A 4) 20 ?_ ?_
      · have e5 : z_u (z_u F 0 (nI 0)) 5 (nI (σ.1.2.1 + 0)) = z_u F 0 (nI 0) := by
          have := u_self (z_u F 0 (nI 0)) 5
          rw [u_ne _ _ (by decide), i2.1] at this
          exact this
        rw [u_self, e5] at l
        exact l
      · intro l hl hJ
        obtain ⟨a, ha⟩ : ∃ a, a = it (fun l (a : Nat → Int32) => z_u a (σ.1.2.1 + l) (nI (wB (wsel x1 x2 x3 x4 x5 l) l))) (A 4) l := ⟨_, rfl⟩
        rw [← ha] at hJ ⊢
        have v1 : vp_in (nI (σ.1.2.1 + l)) (z_ln h (M + 4)) := by rw [(sh_tape hM).2.2]; exact vp_in_nI (by omega) (by omega)
        refine b_X12_feed_23 z_puCV ?_
        rw [if_pos (nI_lt hl (by decide)), show z_or (z_rs h M (z_u (z_u F 0 (nI 0)) 5 (nI (σ.1.2.1 + l))) (z_u A 4 a)) M 4 = some (M + 4) from (sh_tape hM).1]
        simp only [z_rcs]
        rw [rs_oi, u_eq, nI_clamp (show σ.1.2.1 + l < 2 ^ 31 by omega), wB_eq x1 hl, wB_eq x2 hl, wB_eq x3 hl, wB_eq x4 hl, wB_eq x5 hl]
        simp only [rs_pai h M (z_u (z_u F 0 (nI 0)) 5 (nI (σ.1.2.1 + l))) (z_u A 4 a) (show 0 < 4 by omega) (show 4 ≤ 25 by omega), rs_oi, rs_poi, u_eq, u_u, nI_add, Nat.add_assoc]
        unfold wsel at hJ
        by_cases q4 : l < 4
        · rw [if_pos (nI_lt q4 (by decide))]
          rw [if_pos q4] at hJ
          exact ⟨sh_kd hM, sh_kd hM, by decide, (sh_tape hM).2.1, v1, sh_kd hM, sh_kd hM, hJ⟩
        · rw [if_neg (fun e => q4 ((nI_ltI (by omega) (by omega)).mp e))]
          rw [if_neg q4] at hJ
          by_cases q8 : l < 8
          · rw [if_pos (nI_lt q8 (by decide))]
            rw [if_pos q8] at hJ
            exact ⟨sh_kd hM, sh_kd hM, by decide, (sh_tape hM).2.1, v1, sh_kd hM, sh_kd hM, hJ⟩
          · rw [if_neg (fun e => q8 ((nI_ltI (by omega) (by omega)).mp e))]
            rw [if_neg q8] at hJ
            by_cases q12 : l < 12
            · rw [if_pos (nI_lt q12 (by decide))]
              rw [if_pos q12] at hJ
              exact ⟨sh_kd hM, sh_kd hM, by decide, (sh_tape hM).2.1, v1, sh_kd hM, sh_kd hM, hJ⟩
            · rw [if_neg (fun e => q12 ((nI_ltI (by omega) (by omega)).mp e))]
              rw [if_neg q12] at hJ
              by_cases q16 : l < 16
              · rw [if_pos (nI_lt q16 (by decide))]
                rw [if_pos q16] at hJ
                exact ⟨sh_kd hM, sh_kd hM, by decide, (sh_tape hM).2.1, v1, sh_kd hM, sh_kd hM, hJ⟩
              · rw [if_neg (fun e => q16 ((nI_ltI (by omega) (by omega)).mp e))]
                rw [if_neg q16] at hJ
                exact ⟨sh_kd hM, sh_kd hM, by decide, (sh_tape hM).2.1, v1, sh_kd hM, sh_kd hM, hJ⟩
      · rw [← hb]
        refine b_X12_feed_23 z_puCV ?_
        rw [if_neg (nI_nlt (Nat.le_refl _) (by decide)), rs_oi, u_eq]
        exact ⟨sh_kd hM, rfl⟩
end DJ
