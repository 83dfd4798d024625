/-! turning and growing -/
theorem c_on_bit {S : Sc} (p l : Nat) : (c_on S p).testBit l = (decide (l < S.2.1) && (S.2.2 l).testBit p) := by
  unfold c_on
  have key : ∀ k, (it (fun l a => a ||| ((S.2.2 l).testBit p).toNat <<< l) 0 k).testBit l = (decide (l < k) && (S.2.2 l).testBit p) := by
    intro k
    induction k with
    | zero => simp [it]
    | succ k ih =>
      show ((it (fun l a => a ||| ((S.2.2 l).testBit p).toNat <<< l) 0 k) ||| ((S.2.2 k).testBit p).toNat <<< k).testBit l = _
      rw [Nat.testBit_or, ih, Nat.testBit_shiftLeft]
      by_cases h1 : l = k
      · subst h1
        simp
        cases (S.2.2 l).testBit p <;> simp
      · by_cases h2 : l < k
        · rw [decide_eq_true h2, decide_eq_true (show l < k + 1 by omega), decide_eq_false (show ¬ l ≥ k by omega)]; simp
        · rw [decide_eq_false h2, decide_eq_false (show ¬ l < k + 1 by omega), decide_eq_true (show l ≥ k by omega)]
          have this : l - k ≠ 0 := by omega
          have hz : ∀ b : Bool, (b.toNat).testBit (l - k) = false := by
            intro b
            cases b
            · exact Nat.zero_testBit _
            · cases hq : Nat.testBit (true.toNat) (l - k)
              · rfl
              · exact absurd (Nat.testBit_one_eq_true_iff_self_eq_zero.mp hq) this
          rw [hz]; rfl
  exact key _
theorem on_two {S : Sc} (hS : c_sok S) {p q : Nat} (hpq : p < q) (hq : q < S.1) : n_pc (c_on S p &&& c_on S q) ≤ 1 := by
  have hm := hS.2.1
  have hn := hS.1.2
  have h12 : c_on S p &&& c_on S q < 4096 := Nat.lt_of_le_of_lt Nat.and_le_left (Nat.lt_of_lt_of_le (c_on_lt S p) (show 2 ^ S.2.1 ≤ 2 ^ 12 from Nat.pow_le_pow_right (by decide) hm))
  by_cases h2 : n_pc (c_on S p &&& c_on S q) ≤ 1
  · exact h2
  · exfalso
    obtain ⟨i, hi, j, hj, hij, b1, b2⟩ := pc_two _ h12 (by omega)
    rw [Nat.testBit_and, c_on_bit, c_on_bit] at b1 b2
    simp only [Bool.and_eq_true, decide_eq_true_eq] at b1 b2
    refine pc_one (and_lt256 (sok_256 hS i)) (hS.2.2.2.2 i j hij b2.1.1) (show p < 8 by omega) (show q < 8 by omega) hpq ?_ ?_
    · rw [Nat.testBit_and, b1.1.2, b2.1.2]; rfl
    · rw [Nat.testBit_and, b1.2.2, b2.2.2]; rfl
/-- what the dual's lines are -/
theorem td_inv {S : Sc} : ∀ k, k ≤ S.1 → ∀ a, its (c_tdF S) (0, fun _ => 0) k = .inl a → ∃ g : Nat → Nat, (∀ i j, i < j → j < a.1 → g i < g j) ∧ ∀ i, i < a.1 → g i < k ∧ a.2 i = c_on S (g i) ∧ 2 ≤ n_pc (c_on S (g i)) ∧ n_pc (c_on S (g i)) ≤ 4 := by
  intro k
  induction k with
  | zero =>
    intro _ a ha
    cases ha
    exact ⟨fun _ => 0, fun i j _ hj => absurd hj (Nat.not_lt_zero j), fun i hi => absurd hi (Nat.not_lt_zero i)⟩
  | succ k ih =>
    intro hk a ha
    unfold its at ha
    cases hb : its (c_tdF S) (0, fun _ => 0) k with
    | inr v => rw [hb] at ha; cases ha
    | inl b =>
      rw [hb] at ha
      obtain ⟨g, g1, g2⟩ := ih (by omega) b hb
      have ha2 : c_tdF S k b = .inl a := ha
      unfold c_tdF at ha2
      split at ha2
      · cases ha2
      · split at ha2
        · cases ha2
          exact ⟨g, g1, fun i hi => ⟨by have := (g2 i hi).1; omega, (g2 i hi).2⟩⟩
        · cases ha2
          refine ⟨z_u g b.1 k, fun i j hij hj => ?_, fun i hi => ?_⟩
          · have hj2 : j < b.1 + 1 := hj
            rw [u_ne _ _ (show i ≠ b.1 by omega)]
            unfold z_u
            split
            · exact (g2 i (by omega)).1
            · exact g1 i j hij (by omega)
          · have hi2 : i < b.1 + 1 := hi
            show z_u g b.1 k i < k + 1 ∧ z_u b.2 b.1 (c_on S k) i = c_on S (z_u g b.1 k i) ∧ 2 ≤ n_pc (c_on S (z_u g b.1 k i)) ∧ n_pc (c_on S (z_u g b.1 k i)) ≤ 4
            unfold z_u
            by_cases e : i = b.1
            · rw [if_pos e, if_pos e]
              exact ⟨by omega, rfl, by omega, by omega⟩
            · rw [if_neg e, if_neg e]
              have := g2 i (by omega)
              exact ⟨by omega, this.2⟩
theorem td_some {S : Sc} {t : Nat × (Nat → Nat)} (h : c_td S = some t) : (1 ≤ S.2.1 ∧ S.2.1 ≤ 8) ∧ its (c_tdF S) (0, fun _ => 0) S.1 = .inl t := by
  unfold c_td at h
  split at h
  · cases h
  · rename_i hc
    refine ⟨by omega, ?_⟩
    cases hw : its (c_tdF S) (0, fun _ => 0) S.1 with
    | inl a => rw [hw] at h; cases h; rfl
    | inr a => rw [hw] at h; cases h
theorem td_le {S : Sc} (hn : S.1 ≤ 12) {t : Nat × (Nat → Nat)} (h : c_td S = some t) : t.1 ≤ S.1 := by
  obtain ⟨h1, h2⟩ := td_some h
  have inv : ∀ k, ∀ a, its (c_tdF S) (0, fun _ => 0) k = .inl a → a.1 ≤ k := by
    intro k
    induction k with
    | zero => intro a ha; cases ha; exact Nat.le_refl _
    | succ k ih =>
      intro a ha
      unfold its at ha
      cases hb : its (c_tdF S) (0, fun _ => 0) k with
      | inr v => rw [hb] at ha; cases ha
      | inl b =>
        rw [hb] at ha
        have h1 := ih b hb
        have ha2 : c_tdF S k b = .inl a := ha
        unfold c_tdF at ha2
        split at ha2
        · cases ha2
        · split at ha2
          · cases ha2; omega
          · cases ha2; show b.1 + 1 ≤ k + 1; omega
  exact inv _ _ h2
theorem cok_turn {c : Cd} (h : c_cok c) {t : Nat × (Nat → Nat)} (ht : c_td c.1 = some t) : c_cok (op_turn c t) := by
  have hs := td_some ht
  have hle := td_le (by have := h.1.1; omega) ht
  obtain ⟨g, g1, g2⟩ := td_inv c.1.1 (Nat.le_refl _) t hs.2
  have hn := h.1.1
  refine ⟨⟨hs.1, by show t.1 ≤ 12; omega, fun l hl => ?_, fun l hl => ?_, fun i j hij hj => ?_⟩, fun i _ => ⟨rfl, rfl⟩⟩
  · have hl2 : l < t.1 := hl
    show (if l < t.1 then t.2 l else 0) < 2 ^ c.1.2.1 ∧ 2 ≤ n_pc (if l < t.1 then t.2 l else 0) ∧ n_pc (if l < t.1 then t.2 l else 0) ≤ 4
    have q := g2 l hl2
    rw [if_pos hl2, q.2.1]
    exact ⟨c_on_lt _ _, q.2.2⟩
  · have hl2 : t.1 ≤ l := hl
    exact if_neg (by omega)
  · have hj2 : j < t.1 := hj
    show n_pc ((if i < t.1 then t.2 i else 0) &&& (if j < t.1 then t.2 j else 0)) ≤ 1
    have q1 := g2 i (by omega)
    have q2 := g2 j hj2
    rw [if_pos (by omega), if_pos hj2, q1.2.1, q2.2.1]
    exact on_two h.1 (g1 i j hij hj2) (by omega)
theorem cok_more {c : Cd} (h : c_cok c) (hn : c.1.1 < 8) : c_cok (op_more c) := by
  obtain ⟨⟨h4, h5, h6, h7, h8⟩, h9⟩ := h
  refine ⟨⟨⟨by show 1 ≤ c.1.1 + 1; omega, hn⟩, h5, fun l hl => ⟨?_, (h6 l hl).2⟩, h7, h8⟩, fun i hi => h9 i ?_⟩
  · exact Nat.lt_of_lt_of_le (h6 l hl).1 (Nat.pow_le_pow_right (by decide) (by show c.1.1 ≤ c.1.1 + 1; omega))
  · have hi2 : c.1.1 + 1 ≤ i := hi
    omega
/-- what is left while lines through the last point go -/
def lessI (c : Cd) (i : Nat) (c' : Cd) : Prop := c_cok c' ∧ c'.1.1 = c.1.1 ∧ c'.2 = c.2 ∧ c.1.2.1 - i ≤ c'.1.2.1 ∧ c'.1.2.1 ≤ c.1.2.1 ∧ ∀ l, c.1.2.1 - i ≤ l → (c'.1.2.2 l).testBit (c.1.1 - 1) = false
theorem less_step {c c' : Cd} {i : Nat} (hi : i < c.1.2.1) (h : lessI c i c') : lessI c (i + 1) (if (c'.1.2.2 (c.1.2.1 - 1 - i)).testBit (c.1.1 - 1) then op_drop c' (c.1.2.1 - 1 - i) else c') := by
  obtain ⟨h1, h2, h3, h4, h5, h6⟩ := h
  cases hb : (c'.1.2.2 (c.1.2.1 - 1 - i)).testBit (c.1.1 - 1)
  · rw [if_neg (by decide)]
    refine ⟨h1, h2, h3, by omega, h5, fun l hl => ?_⟩
    by_cases e : l = c.1.2.1 - 1 - i
    · rw [e]; exact hb
    · exact h6 l (by omega)
  · rw [if_pos rfl]
    refine ⟨cok_drop h1 (by omega), h2, h3, by show c.1.2.1 - (i + 1) ≤ c'.1.2.1 - 1; omega, by show c'.1.2.1 - 1 ≤ c.1.2.1; omega, fun l hl => ?_⟩
    show (if l < c.1.2.1 - 1 - i then c'.1.2.2 l else if l + 1 < c'.1.2.1 then c'.1.2.2 (l + 1) else 0).testBit (c.1.1 - 1) = false
    rw [if_neg (by omega)]
    split
    · exact h6 (l + 1) (by omega)
    · exact Nat.zero_testBit _
theorem less_all {c : Cd} (h : c_cok c) : ∀ i, i ≤ c.1.2.1 → lessI c i (op_lessF c i) := by
  intro i
  induction i with
  | zero => intro _; exact ⟨h, rfl, rfl, Nat.le_refl _, Nat.le_refl _, fun l hl => by rw [show (op_lessF c 0) = c from rfl, h.1.2.2.2.1 l hl]; exact Nat.zero_testBit _⟩
  | succ i ih => intro hi; exact less_step hi (ih (by omega))
theorem lt_half {x n : Nat} (h : x < 2 ^ n) (hb : x.testBit (n - 1) = false) : x < 2 ^ (n - 1) := by
  apply Nat.lt_pow_two_of_testBit
  intro j hj
  by_cases e : j = n - 1
  · rw [e]; exact hb
  · exact Nat.testBit_lt_two_pow (Nat.lt_of_lt_of_le h (Nat.pow_le_pow_right (by decide) (by omega)))
theorem cok_less {c : Cd} (h : c_cok c) (hn : 1 < c.1.1) : c_cok (op_less c) := by
  have hI := less_all h c.1.2.1 (Nat.le_refl _)
  obtain ⟨⟨⟨h4, h5, h6, h7, h8⟩, h9⟩, h2, h3, -, h10, h11⟩ := hI
  refine ⟨⟨⟨by show 1 ≤ (op_lessF c c.1.2.1).1.1 - 1; omega, by show (op_lessF c c.1.2.1).1.1 - 1 ≤ 8; omega⟩, h5, fun l hl => ⟨?_, (h6 l hl).2⟩, h7, h8⟩, fun i hi => ?_⟩
  · show (op_lessF c c.1.2.1).1.2.2 l < 2 ^ ((op_lessF c c.1.2.1).1.1 - 1)
    exact lt_half (h6 l hl).1 (by rw [h2]; exact h11 l (by omega))
  · have hi2 : (op_lessF c c.1.2.1).1.1 - 1 ≤ i := hi
    rw [h2] at hi2
    show z_u c.2.1 (c.1.1 - 1) (nI 0) i = nI 0 ∧ z_u c.2.2 (c.1.1 - 1) (nI 0) i = nI 0
    unfold z_u
    by_cases e : i = c.1.1 - 1
    · rw [if_pos e, if_pos e]; exact ⟨rfl, rfl⟩
    · rw [if_neg e, if_neg e]; exact h.2 i (by omega)
theorem row_grow {R : Nat → Int32} {c : Cd} (h : ∀ k, k < 30 → R k = rowC c k) {p n' : Nat} (hp : p < 8) : ∀ k, k < 30 → z_u (z_u (z_u R (14 + p) (nI 0)) (22 + p) (nI 0)) 0 (nI n') k = rowC ((n', c.1.2.1, c.1.2.2), z_u c.2.1 p (nI 0), z_u c.2.2 p (nI 0)) k := by
  intro k hk
  by_cases k0 : k = 0
  · rw [k0, u_eq]; rfl
  · rw [u_ne _ _ k0, row_place h hp (nI 0) (nI 0) k hk]
    unfold rowC op_place
    rw [if_neg k0, if_neg k0]
section CV
variable {G : z_G} {d : Nat} {h : z_H} {M : Nat} {F : Nat → Int32} {A : Nat → Nat → Int32} {σ : RSt}
theorem e_turnP (hM : z_sh M h) (hI : rI F A σ) : pubR G (d + 5) k_X12_turn M h [] F A (s_turn σ).1 (nI 0) (s_turn σ).2 := by
  have hr := hI.2.2.2.1
  have hok := rho_ok hr
  obtain ⟨A1, ha, h8, he⟩ := e_tellDual (G := G) (d := d) (F := z_u F 0 (nI 0)) hM hok.1 hok.2 hI.1
  have hI1 : rI F A1 σ := rI_agr hI (agr_mono ha (by decide)) agrF_rf
  have l14 : A1 14 = A 14 := ha.1 14 (by decide)
  unfold s_turn
  unfold c_tdI at he
  cases ht : c_td σ.2.1.1.1 with
  | none =>
    rw [ht] at he
    refine ⟨_, _, rI_ref hI1 (nI 0), rLk_a (rLk_u ⟨rfl, rfl, rfl, l14⟩ _ (by decide)) _ (by decide), u_eq _ _ _, en_X12_turn (b_X12_turn_0 z_puCV ⟨sh_kd hM, ?_⟩)⟩
    rw [rs_poi]
    refine ⟨sh_kd hM, _, _, he, ?_⟩
    rw [if_pos rfl]
    exact ⟨sh_kd hM, _, _, e_refuse hM, rfl⟩
  | some t =>
    rw [ht] at he
    dsimp only at he
    have h8t := h8 t ht
    have hr1 := hI1.2.2.2.1
    have hcok := cok_turn hr1.1 ht
    have hm := hr1.1.1.2.1
    have h11 : A1 1 1 = nI σ.2.1.1.1.2.1 := hr1.2.1 1 (by omega)
    -- rows while lines come
    have rows : ∀ l, l ≤ t.1 → ∃ Rl : Nat → Int32, (∀ k, k < 30 → Rl k = rowC ((σ.2.1.1.1.2.1, l, fun i => if i < l then t.2 i else 0), (fun _ => nI 0), fun _ => nI 0) k) ∧ (∀ k, 30 ≤ k → Rl k = A1 1 k) ∧ it (fun l R => z_u (z_u R (2 + l) (nI (t.2 l))) 1 (nI (l + 1))) (z_u (fun k => if k < 30 then nI 0 else A1 1 k) 0 (nI σ.2.1.1.1.2.1)) l = Rl := by
      intro l
      induction l with
      | zero =>
        intro _
        refine ⟨_, fun k hk => ?_, fun k hk => ?_, rfl⟩
        · show z_u (fun k => if k < 30 then nI 0 else A1 1 k) 0 (nI σ.2.1.1.1.2.1) k = _
          unfold z_u rowC
          by_cases k0 : k = 0
          · rw [if_pos k0, if_pos k0]
          · rw [if_neg k0, if_neg k0]
            dsimp only
            rw [if_pos hk]
            by_cases k1 : k = 1
            · rw [if_pos k1]
            · rw [if_neg k1]
              by_cases k2 : k < 14
              · rw [if_pos k2]; show nI 0 = nI (if k - 2 < 0 then t.2 (k - 2) else 0); rw [if_neg (by omega)]
              · rw [if_neg k2]; split <;> rfl
        · show z_u (fun k => if k < 30 then nI 0 else A1 1 k) 0 (nI σ.2.1.1.1.2.1) k = _
          rw [u_ne _ _ (by omega), if_neg (by omega)]
      | succ l ih =>
        intro hl
        obtain ⟨Rl, r1, r2, r3⟩ := ih (by omega)
        refine ⟨_, fun k hk => ?_, fun k hk => ?_, rfl⟩
        · show z_u (z_u (it (fun l R => z_u (z_u R (2 + l) (nI (t.2 l))) 1 (nI (l + 1))) (z_u (fun k => if k < 30 then nI 0 else A1 1 k) 0 (nI σ.2.1.1.1.2.1)) l) (2 + l) (nI (t.2 l))) 1 (nI (l + 1)) k = _
          rw [r3]
          have := row_add (c := ((σ.2.1.1.1.2.1, l, fun i => if i < l then t.2 i else 0), (fun _ => nI 0), fun _ => nI 0)) r1 (show l < 12 by omega) (t.2 l) k hk
          refine this.trans ?_
          have ef : z_u (fun i => if i < l then t.2 i else 0) l (t.2 l) = fun i => if i < l + 1 then t.2 i else 0 := by
            funext i
            unfold z_u; dsimp only
            by_cases e : i = l
            · rw [if_pos e, if_pos (by omega), e]
            · rw [if_neg e]
              by_cases e2 : i < l
              · rw [if_pos e2, if_pos (by omega)]
              · rw [if_neg e2, if_neg (by omega)]
          unfold op_add
          dsimp only
          rw [ef]
        · show z_u (z_u (it (fun l R => z_u (z_u R (2 + l) (nI (t.2 l))) 1 (nI (l + 1))) (z_u (fun k => if k < 30 then nI 0 else A1 1 k) 0 (nI σ.2.1.1.1.2.1)) l) (2 + l) (nI (t.2 l))) 1 (nI (l + 1)) k = _
          rw [r3, u_ne _ _ (by omega), u_ne _ _ (by omega)]; exact r2 k hk
    obtain ⟨Rt, q1, q2, q3⟩ := rows t.1 (Nat.le_refl _)
    have hrow : rho Rt (op_turn σ.2.1.1 t, σ.2.1.2) := rho_up hr1 hcok q1 q2
    refine ⟨_, _, rI_act hI1 (nI 0) hrow (agr_rf hI1.1) agrF_rf, rLk_a (rLk_a (rLk_u (rLk_u ⟨rfl, rfl, rfl, l14⟩ _ (by decide)) _ (by decide)) _ (by decide)) _ (by decide), by rw [u_ne _ _ (by decide), u_eq], en_X12_turn (b_X12_turn_0 z_puCV ⟨sh_kd hM, ?_⟩)⟩
    rw [rs_poi]
    refine ⟨sh_kd hM, _, _, he, ?_⟩
    rw [if_neg (show ¬ nI t.1 = mI from t_ne1 (by omega))]
    have ek := e_keep (G := G) (d := d) (F := z_u F 0 (nI 0)) (A := A1) hM hI1.2.2.2.2.2.1.1 (by rw [u_ne _ _ (by decide)]; exact hI1.2.2.2.2.1)
    refine ⟨sh_kd hM, _, ek, sh_kd hM, hM, ?_⟩
    have fl : f_X12_lines M (z_rs h M (z_u (z_u F 0 (nI 0)) 25 (nI (c_ka σ.2.2.1.length))) (z_u A1 13 (c_kp (A1 13) (A1 1) σ.2.2.1.length))) = nI σ.2.1.1.1.2.1 := by
      unfold f_X12_lines
      rw [rs_ai _ _ _ _ (by omega) (by omega), u_ne _ _ (by decide), h11]
    rw [fl]
    have key := z_forI (G := G) (d := d + 5) (μ := m_X12_turn z_puC) (r := (.inl (some (.int (nI t.1))), z_rs h M (z_u (z_u F 0 (nI 0)) 25 (nI (c_ka σ.2.2.1.length))) (z_u (z_u A1 13 (c_kp (A1 13) (A1 1) σ.2.2.1.length)) 1 Rt))) (pc := 31) (α := Unit) (fun k _ => [some (.ref M), some (.int (nI t.1)), some (.int (nI σ.2.1.1.1.2.1)), some (.int (nI k))]) (fun k _ => z_rs h M (z_u (z_u F 0 (nI 0)) 25 (nI (c_ka σ.2.2.1.length))) (z_u (z_u A1 13 (c_kp (A1 13) (A1 1) σ.2.2.1.length)) 1 (fun i => if i < k then nI 0 else A1 1 i))) (fun _ _ => True) (fun _ x => x) () 30 trivial ?_ ?_
    · have e0 : (fun i => if i < 0 then nI 0 else A1 1 i) = z_u A1 13 (c_kp (A1 13) (A1 1) σ.2.2.1.length) 1 := by
        rw [u_ne _ _ (by decide)]; funext i; exact if_neg (by omega)
      rw [e0, u_self] at key
      exact key
    · intro k _ hk _
      refine ⟨trivial, fun hJ => b_X12_turn_31 z_puCV ?_⟩
      have ef : z_u (fun i => if i < k then nI 0 else A1 1 i) k (nI 0) = fun i => if i < k + 1 then nI 0 else A1 1 i := by
        funext i
        unfold z_u; dsimp only
        by_cases c1 : i = k
        · rw [if_pos c1, if_pos (by omega)]
        · rw [if_neg c1]
          by_cases c2 : i < k
          · rw [if_pos c2, if_pos (by omega)]
          · rw [if_neg c2, if_neg (by omega)]
      simp (disch := omega) only [l0, l1, l2, l3, l4, l5, l6, l7, l8, l9, l10, l11, l12, l13, l14, l15, l16, l18, l20, l22, l24, l30, l31, l39, l40, l48, l60, l154, l255, l256, l400, l2000, l6160, l14000, lm1, q_lt, q_le, q_eq, q_mI, q_mI', q_ltmI, q_in, q_bz0, q_bz1, q_bzn0, q_bzn1, q_bzb, q_bn0, q_bn1, q_shr, q_shl, q_1s, b_one, b_two, fa_and, fa_or, nI_add, n_mul, nI_clamp, z_rcs, true_and, and_true, if_true, if_false, rs_ai, rs_oi, rs_pai, rs_poi, rs_pax, rs_kd, rs_ln, rs_or, u_eq, u_ne, sh_kd hM, (sh_now hM).1, (sh_now hM).2.1, (sh_now hM).2.2, hk, u_u]
      rw [ef]
      exact hJ
    · intro _
      refine b_X12_turn_31 z_puCV ?_
      simp (disch := omega) only [l0, l1, l2, l3, l4, l5, l6, l7, l8, l9, l10, l11, l12, l13, l14, l15, l16, l18, l20, l22, l24, l30, l31, l39, l40, l48, l60, l154, l255, l256, l400, l2000, l6160, l14000, lm1, q_lt, q_le, q_eq, q_mI, q_mI', q_ltmI, q_in, q_bz0, q_bz1, q_bzn0, q_bzn1, q_bzb, q_bn0, q_bn1, q_shr, q_shl, q_1s, b_one, b_two, fa_and, fa_or, nI_add, n_mul, nI_clamp, z_rcs, true_and, and_true, if_true, if_false, rs_ai, rs_oi, rs_pai, rs_poi, rs_pax, rs_kd, rs_ln, rs_or, u_eq, u_ne, sh_kd hM, (sh_now hM).1, (sh_now hM).2.1, (sh_now hM).2.2, Nat.lt_irrefl, u_u]
      refine z_forI (fun l (_ : Nat → Int32) => [some (.ref M), some (.int (nI t.1)), none, some (.int (nI l))]) (fun l R => z_rs h M (z_u (z_u F 0 (nI 0)) 25 (nI (c_ka σ.2.2.1.length))) (z_u (z_u A1 13 (c_kp (A1 13) (A1 1) σ.2.2.1.length)) 1 R)) (fun l R => R 1 = nI l) (fun l R => z_u (z_u R (2 + l) (nI (t.2 l))) 1 (nI (l + 1))) (z_u (fun k => if k < 30 then nI 0 else A1 1 k) 0 (nI σ.2.1.1.1.2.1)) t.1 ?_ ?_ ?_
      · rw [u_ne _ _ (by decide), if_pos (by decide)]
      · intro l R hl hR
        refine ⟨u_eq _ _ _, fun hJ => b_X12_turn_59 z_puCV ?_⟩
        have ea := e_addNow (G := G) (d := d) (F := z_u (z_u F 0 (nI 0)) 25 (nI (c_ka σ.2.2.1.length))) (A := z_u (z_u A1 13 (c_kp (A1 13) (A1 1) σ.2.2.1.length)) 1 R) (m := l) hM (by omega) (by rw [u_eq]; exact hR) (nI (t.2 l))
        rw [u_u, u_eq] at ea
        have e8 : A1 8 l = nI (t.2 l) := by rw [h8t.2.2, arrI_in hl]
        simp (disch := omega) only [l0, l1, l2, l3, l4, l5, l6, l7, l8, l9, l10, l11, l12, l13, l14, l15, l16, l18, l20, l22, l24, l30, l31, l39, l40, l48, l60, l154, l255, l256, l400, l2000, l6160, l14000, lm1, q_lt, q_le, q_eq, q_mI, q_mI', q_ltmI, q_in, q_bz0, q_bz1, q_bzn0, q_bzn1, q_bzb, q_bn0, q_bn1, q_shr, q_shl, q_1s, b_one, b_two, fa_and, fa_or, nI_add, n_mul, nI_clamp, z_rcs, true_and, and_true, if_true, if_false, rs_ai, rs_oi, rs_pai, rs_poi, rs_pax, rs_kd, rs_ln, rs_or, u_eq, u_ne, sh_kd hM, (sh_dualLines hM).1, (sh_dualLines hM).2.1, (sh_dualLines hM).2.2, hl, e8]
        exact ⟨_, ea, hJ⟩
      · intro hR
        refine b_X12_turn_59 z_puCV ?_
        simp (disch := omega) only [l0, l1, l2, l3, l4, l5, l6, l7, l8, l9, l10, l11, l12, l13, l14, l15, l16, l18, l20, l22, l24, l30, l31, l39, l40, l48, l60, l154, l255, l256, l400, l2000, l6160, l14000, lm1, q_lt, q_le, q_eq, q_mI, q_mI', q_ltmI, q_in, q_bz0, q_bz1, q_bzn0, q_bzn1, q_bzb, q_bn0, q_bn1, q_shr, q_shl, q_1s, b_one, b_two, fa_and, fa_or, nI_add, n_mul, nI_clamp, z_rcs, true_and, and_true, if_true, if_false, rs_ai, rs_oi, rs_pai, rs_poi, rs_pax, rs_kd, rs_ln, rs_or, u_eq, u_ne, Nat.lt_irrefl]
        rw [q3]
theorem e_growP (hM : z_sh M h) (hI : rI F A σ) (b : Bool) : pubR G (d + 5) k_X12_grow M h [.int (nI b.toNat)] F A (s_grow σ b).1 (nI 0) (s_grow σ b).2 := by
  have hr := hI.2.2.2.1
  have hok := rho_ok hr
  have hA := at_rs (F := z_u F 0 (nI 0)) hM hok.1 hok.2
  have hn := hr.1.1.1
  have hm := hr.1.1.2.1
  have ek := e_keep (G := G) (d := d) (F := z_u F 0 (nI 0)) (A := A) hM hI.2.2.2.2.2.1.1 (by rw [u_ne _ _ (by decide)]; exact hI.2.2.2.2.1)
  have hA1 := at_rs (F := z_u (z_u F 0 (nI 0)) 25 (nI (c_ka σ.2.2.1.length))) (A := z_u A 13 (c_kp (A 13) (A 1) σ.2.2.1.length)) (S := σ.2.1.1.1) hM (by rw [u_ne _ _ (by decide)]; exact hok.1) (by rw [u_ne _ _ (by decide)]; exact hok.2)
  have bad : σ.2.1.1.1.1 = (if b then 8 else 1) → pubR G (d + 5) k_X12_grow M h [.int (nI b.toNat)] F A mI (nI 0) (sRef σ) := by
    intro hb
    refine ⟨_, _, rI_ref hI (nI 0), rLk_a (rLk_u rLk_rf _ (by decide)) _ (by decide), u_eq _ _ _, en_X12_grow (b_X12_grow_0 z_puCV ⟨sh_kd hM, ?_⟩)⟩
    rw [rs_poi, t_n hA]
    refine ⟨sh_kd hM, hM, ?_⟩
    cases b
    · rw [if_pos (by decide), if_pos (by rw [hb]; rfl)]
      exact ⟨sh_kd hM, _, _, e_refuse hM, rfl⟩
    · rw [if_neg (by decide), if_pos (by rw [hb]; rfl)]
      exact ⟨sh_kd hM, _, _, e_refuse hM, rfl⟩
  -- the loop over lines, with any last point
  have loop : ∀ (p : Nat) (r : z_Res), p < 8 → ∀ (k : Nat) (c' : Cd) (R : Nat → Int32), k ≤ c'.1.2.1 → c_cok c' → (∀ q, q < 30 → R q = rowC c' q) → (∀ (c2 : Cd) (R2 : Nat → Int32), c2 = it (fun i c => if (c.1.2.2 (k - 1 - i)).testBit p then op_drop c (k - 1 - i) else c) c' k → c_cok c2 → (∀ q, q < 30 → R2 q = rowC c2 q) → (∀ q, 30 ≤ q → R2 q = R q) → z_J G (d + 5) (m_X12_grow z_puC) r 56 [some (.ref M), some (.int (nI b.toNat)), some (.int (nI p)), some (.int mI)] [] (z_rs h M (z_u (z_u F 0 (nI 0)) 25 (nI (c_ka σ.2.2.1.length))) (z_u (z_u A 13 (c_kp (A 13) (A 1) σ.2.2.1.length)) 1 R2))) → z_J G (d + 5) (m_X12_grow z_puC) r 56 [some (.ref M), some (.int (nI b.toNat)), some (.int (nI p)), some (.int (nI k - nI 1))] [] (z_rs h M (z_u (z_u F 0 (nI 0)) 25 (nI (c_ka σ.2.2.1.length))) (z_u (z_u A 13 (c_kp (A 13) (A 1) σ.2.2.1.length)) 1 R)) := by
    intro p r hp k
    induction k with
    | zero =>
      intro c' R hk hc hR K
      rw [show nI 0 - nI 1 = mI by decide]
      exact K c' R rfl hc hR (fun q _ => rfl)
    | succ k ih =>
      intro c' R hk hc hR K
      rw [show nI (k + 1) - nI 1 = nI k from nI_pred k]
      have hm' := hc.1.2.1
      have h256 := sok_256 hc.1 k
      refine b_X12_grow_56 z_puCV ?_
      have fL : f_X12_lineAt M (nI k) (z_rs h M (z_u (z_u F 0 (nI 0)) 25 (nI (c_ka σ.2.2.1.length))) (z_u (z_u A 13 (c_kp (A 13) (A 1) σ.2.2.1.length)) 1 R)) = nI (c'.1.2.2 k) := by
        unfold f_X12_lineAt
        rw [a_2, nI_clamp (by omega), rs_ai _ _ _ _ (by omega) (by omega), u_eq]
        exact ((row_is hc hR).2.2.2.2 k (by omega)).1
      have it_sh : ∀ (f : Nat → Cd → Cd) (n : Nat) (a : Cd), it f a (n + 1) = it (fun i => f (i + 1)) (f 0 a) n := by
        intro f n
        induction n with
        | zero => intro a; rfl
        | succ n ihn => intro a; show f (n + 1) (it f a (n + 1)) = f (n + 1) (it (fun i => f (i + 1)) (f 0 a) n); rw [ihn]
      have e2 : it (fun i c => if (c.1.2.2 (k + 1 - 1 - i)).testBit p then op_drop c (k + 1 - 1 - i) else c) c' (k + 1) = it (fun i c => if (c.1.2.2 (k - 1 - i)).testBit p then op_drop c (k - 1 - i) else c) (if (c'.1.2.2 k).testBit p then op_drop c' k else c') k := by
        rw [it_sh]
        exact it_congr k (fun i x hi => by
          rw [show k + 1 - 1 - (i + 1) = k - 1 - i by omega])
      rw [fL, if_neg (show ¬ nI k < nI 0 from nI_pos (by omega)), show nI k + mI = nI k - nI 1 from by rw [Int32.sub_eq_add_neg]; rfl]
      refine ⟨sh_kd hM, a_sL hM (by omega), ?_⟩
      simp (disch := omega) only [l0, l1, l2, l3, l4, l5, l6, l7, l8, l9, l10, l11, l12, l13, l14, l15, l16, l18, l20, l22, l24, l30, l31, l39, l40, l48, l60, l154, l255, l256, l400, l2000, l6160, l14000, lm1, q_lt, q_le, q_eq, q_mI, q_mI', q_ltmI, q_in, q_bz0, q_bz1, q_bzn0, q_bzn1, q_bzb, q_bn0, q_bn1, q_shr, q_shl, q_1s, b_one, b_two, fa_and, fa_or, nI_add, n_mul, nI_clamp, z_rcs, true_and, and_true, if_true, if_false]
      cases hb : (c'.1.2.2 k).testBit p
      · rw [if_neg (by decide)]
        refine ih c' R (by omega) hc hR (fun c2 R2 g1 g2 g3 g4 => K c2 R2 ?_ g2 g3 g4)
        rw [e2, hb, if_neg (by decide)]; exact g1
      · rw [if_pos rfl]
        have ed := e_dropNow (G := G) (d := d) (F := z_u (z_u F 0 (nI 0)) 25 (nI (c_ka σ.2.2.1.length))) (A := z_u (z_u A 13 (c_kp (A 13) (A 1) σ.2.2.1.length)) 1 R) (m := c'.1.2.1) (l := k) hM hm' (by omega) (by rw [u_eq]; exact hR 1 (by omega))
        rw [u_u, u_eq] at ed
        refine ⟨sh_kd hM, _, _, ed, ?_⟩
        refine ih (op_drop c' k) (c_drp R c'.1.2.1 k) (by show k ≤ c'.1.2.1 - 1; omega) (cok_drop hc (by omega)) (row_drop hR hc (by omega)) (fun c2 R2 g1 g2 g3 g4 => K c2 R2 ?_ g2 g3 (fun q hq => (g4 q hq).trans (drp_far hm' q hq)))
        rw [e2, hb, if_pos rfl]; exact g1
  have fin : ∀ (p : Nat) (r : z_Res) (R2 : Nat → Int32) (n' : Nat), p < 8 → R2 0 + (if b then nI 1 else mI) = nI n' → r = ((.inl (some (.int (nI n'))), z_rs h M (z_u (z_u F 0 (nI 0)) 25 (nI (c_ka σ.2.2.1.length))) (z_u (z_u A 13 (c_kp (A 13) (A 1) σ.2.2.1.length)) 1 (z_u (z_u (z_u R2 (14 + p) (nI 0)) (22 + p) (nI 0)) 0 (nI n')))) : z_Res) → z_J G (d + 5) (m_X12_grow z_puC) r 56 [some (.ref M), some (.int (nI b.toNat)), some (.int (nI p)), some (.int mI)] [] (z_rs h M (z_u (z_u F 0 (nI 0)) 25 (nI (c_ka σ.2.2.1.length))) (z_u (z_u A 13 (c_kp (A 13) (A 1) σ.2.2.1.length)) 1 R2)) := by
    intro p r R2 n' hp h0 hr
    refine b_X12_grow_56 z_puCV ?_
    have hmi : mI < nI 0 := by decide
    have sp : ∀ F0 A0, s_X12_points M (z_rs h M F0 A0) := fun _ _ => hM
    have fp : ∀ F0 A0, f_X12_points M (z_rs h M F0 A0) = A0 1 0 := fun F0 A0 => by unfold f_X12_points; rw [rs_ai _ _ _ _ (by omega) (by omega)]
    cases b
    · rw [if_neg (by decide)] at h0
      have e0 : nI false.toNat = nI 0 := rfl
      simp (disch := omega) only [l0, l1, l2, l3, l4, l5, l6, l7, l8, l9, l10, l11, l12, l13, l14, l15, l16, l18, l20, l22, l24, l30, l31, l39, l40, l48, l60, l154, l255, l256, l400, l2000, l6160, l14000, lm1, q_lt, q_le, q_eq, q_mI, q_mI', q_ltmI, q_in, q_bz0, q_bz1, q_bzn0, q_bzn1, q_bzb, q_bn0, q_bn1, q_shr, q_shl, q_1s, b_one, b_two, fa_and, fa_or, nI_add, n_mul, nI_clamp, z_rcs, true_and, and_true, if_true, if_false, rs_ai, rs_oi, rs_pai, rs_poi, rs_pax, rs_kd, rs_ln, rs_or, u_eq, u_ne, hmi, e0, sh_kd hM, (sh_now hM).1, (sh_now hM).2.1, (sh_now hM).2.2, u_u, sp, fp, h0]
      exact hr
    · rw [if_pos rfl] at h0
      have e0 : (nI true.toNat = nI 0) = False := by decide
      simp (disch := omega) only [l0, l1, l2, l3, l4, l5, l6, l7, l8, l9, l10, l11, l12, l13, l14, l15, l16, l18, l20, l22, l24, l30, l31, l39, l40, l48, l60, l154, l255, l256, l400, l2000, l6160, l14000, lm1, q_lt, q_le, q_eq, q_mI, q_mI', q_ltmI, q_in, q_bz0, q_bz1, q_bzn0, q_bzn1, q_bzb, q_bn0, q_bn1, q_shr, q_shl, q_1s, b_one, b_two, fa_and, fa_or, nI_add, n_mul, nI_clamp, z_rcs, true_and, and_true, if_true, if_false, rs_ai, rs_oi, rs_pai, rs_poi, rs_pax, rs_kd, rs_ln, rs_or, u_eq, u_ne, hmi, e0, sh_kd hM, (sh_now hM).1, (sh_now hM).2.1, (sh_now hM).2.2, u_u, sp, fp, h0]
      exact hr
  unfold s_grow
  by_cases hb : σ.2.1.1.1.1 = (if b then 8 else 1)
  · rw [if_pos hb]; exact bad hb
  · rw [if_neg hb]
    have eu : z_u A 13 (c_kp (A 13) (A 1) σ.2.2.1.length) = z_u (z_u A 13 (c_kp (A 13) (A 1) σ.2.2.1.length)) 1 (A 1) := by
      have e1 : A 1 = z_u A 13 (c_kp (A 13) (A 1) σ.2.2.1.length) 1 := by rw [u_ne _ _ (by decide)]
      funext q
      unfold z_u
      by_cases hq : q = 1
      · subst hq; rfl
      · rw [if_neg hq]
    cases b
    · have hn1 : 1 < σ.2.1.1.1.1 := by have : ¬ σ.2.1.1.1.1 = 1 := hb; omega
      rw [if_neg (by decide)]
      have hle := less_all hr.1 σ.2.1.1.1.2.1 (Nat.le_refl _)
      -- the rows behind the loop aren't told; take what the loop gives
      have ex : ∃ R2 : Nat → Int32, (∀ q, q < 30 → R2 q = rowC (op_lessF σ.2.1.1 σ.2.1.1.1.2.1) q) ∧ (∀ q, 30 ≤ q → R2 q = A 1 q) ∧ ∀ r, z_J G (d + 5) (m_X12_grow z_puC) r 56 [some (.ref M), some (.int (nI false.toNat)), some (.int (nI (σ.2.1.1.1.1 - 1))), some (.int mI)] [] (z_rs h M (z_u (z_u F 0 (nI 0)) 25 (nI (c_ka σ.2.2.1.length))) (z_u (z_u A 13 (c_kp (A 13) (A 1) σ.2.2.1.length)) 1 R2)) → z_J G (d + 5) (m_X12_grow z_puC) r 56 [some (.ref M), some (.int (nI false.toNat)), some (.int (nI (σ.2.1.1.1.1 - 1))), some (.int (nI σ.2.1.1.1.2.1 - nI 1))] [] (z_rs h M (z_u (z_u F 0 (nI 0)) 25 (nI (c_ka σ.2.2.1.length))) (z_u (z_u A 13 (c_kp (A 13) (A 1) σ.2.2.1.length)) 1 (A 1))) := by
        refine ⟨fun q => if q < 30 then rowC (op_lessF σ.2.1.1 σ.2.1.1.1.2.1) q else A 1 q, fun q hq => if_pos hq, fun q hq => if_neg (by omega), fun r K => loop (σ.2.1.1.1.1 - 1) r (by omega) _ σ.2.1.1 (A 1) (Nat.le_refl _) hr.1 hr.2.1 (fun c2 R2 g1 g2 g3 g4 => ?_)⟩
        have e1 : R2 = fun q => if q < 30 then rowC (op_lessF σ.2.1.1 σ.2.1.1.1.2.1) q else A 1 q := by
          funext q
          by_cases hq : q < 30
          · rw [if_pos hq, g3 q hq, g1]; rfl
          · rw [if_neg hq, g4 q (by omega)]
        rw [e1]; exact K
      obtain ⟨R2, x1, x2, x3⟩ := ex
      have hx0 : R2 0 = nI σ.2.1.1.1.1 := by
        rw [x1 0 (by omega)]
        show nI (op_lessF σ.2.1.1 σ.2.1.1.1.2.1).1.1 = _
        rw [hle.2.1]
      have hrow := rho_up (R' := z_u (z_u (z_u R2 (14 + (σ.2.1.1.1.1 - 1)) (nI 0)) (22 + (σ.2.1.1.1.1 - 1)) (nI 0)) 0 (nI (σ.2.1.1.1.1 - 1))) hr (cok_less hr.1 hn1) (fun k hk => by
        rw [row_grow x1 (show σ.2.1.1.1.1 - 1 < 8 by omega) k hk]
        unfold op_less
        rw [hle.2.1, hle.2.2.1]) (fun k hk => by rw [u_ne _ _ (by omega), u_ne _ _ (by omega), u_ne _ _ (by omega)]; exact x2 k hk)
      refine ⟨_, _, rI_act hI (nI 0) hrow (agr_rf hI.1) agrF_rf, rLk_a (rLk_a (rLk_u (rLk_u rLk_rf _ (by decide)) _ (by decide)) _ (by decide)) _ (by decide), by rw [u_ne _ _ (by decide), u_eq], en_X12_grow (b_X12_grow_0 z_puCV ⟨sh_kd hM, ?_⟩)⟩
      rw [rs_poi, t_n hA, if_pos (show nI false.toNat = nI 0 from rfl), if_neg (fun e => by have := (nI_eq (by omega) (by omega)).mp e; omega)]
      refine ⟨sh_kd hM, hM, sh_kd hM, _, ek, ?_⟩
      rw [if_pos (show nI false.toNat = nI 0 from rfl), t_n hA1, t_m hA1, q_sub (show 1 ≤ σ.2.1.1.1.1 by omega)]
      have x4 := x3 _ (fin _ _ R2 (σ.2.1.1.1.1 - 1) (by omega) (by
        rw [if_neg (by decide), hx0]
        show nI σ.2.1.1.1.1 + (-1) = nI (σ.2.1.1.1.1 - 1)
        rw [← Int32.sub_eq_add_neg]; exact q_sub (show 1 ≤ σ.2.1.1.1.1 by omega)) rfl)
      rw [← eu] at x4
      exact ⟨sh_kd hM, hM, sh_kd hM, hM, x4⟩
    · have hn8 : σ.2.1.1.1.1 < 8 := by have : ¬ σ.2.1.1.1.1 = 8 := hb; omega
      rw [if_pos rfl]
      have noline : ∀ k, k ≤ σ.2.1.1.1.2.1 → it (fun i c => if (c.1.2.2 (σ.2.1.1.1.2.1 - 1 - i)).testBit σ.2.1.1.1.1 then op_drop c (σ.2.1.1.1.2.1 - 1 - i) else c) σ.2.1.1 k = σ.2.1.1 := by
        intro k
        induction k with
        | zero => intro _; rfl
        | succ k ih =>
          intro hk
          show (if ((it (fun i c => if (c.1.2.2 (σ.2.1.1.1.2.1 - 1 - i)).testBit σ.2.1.1.1.1 then op_drop c (σ.2.1.1.1.2.1 - 1 - i) else c) σ.2.1.1 k).1.2.2 (σ.2.1.1.1.2.1 - 1 - k)).testBit σ.2.1.1.1.1 then _ else _) = _
          rw [ih (by omega), Nat.testBit_lt_two_pow (sok_w hr.1.1 _), if_neg (by decide)]
      have hrow := rho_up (R' := z_u (z_u (z_u (A 1) (14 + σ.2.1.1.1.1) (nI 0)) (22 + σ.2.1.1.1.1) (nI 0)) 0 (nI (σ.2.1.1.1.1 + 1))) hr (cok_more hr.1 hn8) (fun k hk => by
        rw [row_grow hr.2.1 hn8 k hk]
        have hz := hr.1.2 σ.2.1.1.1.1 (Nat.le_refl _)
        have e1 : z_u σ.2.1.1.2.1 σ.2.1.1.1.1 (nI 0) = σ.2.1.1.2.1 := by rw [← hz.1, u_self]
        have e2 : z_u σ.2.1.1.2.2 σ.2.1.1.1.1 (nI 0) = σ.2.1.1.2.2 := by rw [← hz.2, u_self]
        rw [e1, e2]; rfl) (fun k hk => by rw [u_ne _ _ (by omega), u_ne _ _ (by omega), u_ne _ _ (by omega)])
      refine ⟨_, _, rI_act hI (nI 0) hrow (agr_rf hI.1) agrF_rf, rLk_a (rLk_a (rLk_u (rLk_u rLk_rf _ (by decide)) _ (by decide)) _ (by decide)) _ (by decide), by rw [u_ne _ _ (by decide), u_eq], en_X12_grow (b_X12_grow_0 z_puCV ⟨sh_kd hM, ?_⟩)⟩
      rw [rs_poi, t_n hA, if_neg (show ¬ nI true.toNat = nI 0 by decide), if_neg (fun e => by have := (nI_eq (by omega) (by omega)).mp e; omega)]
      refine ⟨sh_kd hM, hM, sh_kd hM, _, ek, ?_⟩
      rw [if_neg (show ¬ nI true.toNat = nI 0 by decide), t_n hA1, t_m hA1]
      have x4 := loop σ.2.1.1.1.1 (.inl (some (.int (nI (σ.2.1.1.1.1 + 1)))), z_rs h M (z_u (z_u F 0 (nI 0)) 25 (nI (c_ka σ.2.2.1.length))) (z_u (z_u A 13 (c_kp (A 13) (A 1) σ.2.2.1.length)) 1 (z_u (z_u (z_u (A 1) (14 + σ.2.1.1.1.1) (nI 0)) (22 + σ.2.1.1.1.1) (nI 0)) 0 (nI (σ.2.1.1.1.1 + 1))))) hn8 _ σ.2.1.1 (A 1) (Nat.le_refl _) hr.1 hr.2.1 (fun c2 R2 g1 g2 g3 g4 => by
        rw [noline _ (Nat.le_refl _)] at g1
        have e1 : R2 = A 1 := by
          funext q
          by_cases hq : q < 30
          · rw [g3 q hq, g1, hr.2.1 q hq]
          · exact g4 q (by omega)
        rw [e1]
        refine fin _ _ (A 1) (σ.2.1.1.1.1 + 1) hn8 ?_ rfl
        rw [if_pos rfl, hr.2.1 0 (by omega)]
        exact nI_add _ _)
      rw [← eu] at x4
      exact ⟨sh_kd hM, hM, sh_kd hM, hM, x4⟩
end CV
