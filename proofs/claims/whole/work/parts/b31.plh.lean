/-! MATHEMATICS: the plane: number and first -/
section B31
variable {S : Sc}
theorem plR_iff {i r v : Nat} (hv : v < d_pl i) : (d_plR i r).testBit v = true ↔ ((r = 0 → v = 0) ∧ (r = 1 → v = 1)) := by
  unfold d_plR
  by_cases h0 : r = 0
  · rw [if_pos h0, show (1 : Nat) = 2 ^ 0 by decide, Nat.testBit_two_pow]
    simp only [decide_eq_true_iff]
    constructor
    · intro h; exact ⟨fun _ => by omega, fun h => absurd h (by omega)⟩
    · intro h; have := h.1 h0; omega
  · rw [if_neg h0]
    by_cases h1 : r = 1
    · rw [if_pos h1, show (2 : Nat) = 2 ^ 1 by decide, Nat.testBit_two_pow]
      simp only [decide_eq_true_iff]
      constructor
      · intro h; exact ⟨fun h => absurd h (by omega), fun _ => by omega⟩
      · intro h; have := h.2 h1; omega
    · rw [if_neg h1, Nat.testBit_two_pow_sub_one]
      simp only [decide_eq_true_iff]
      exact ⟨fun _ => ⟨fun h => absurd h h0, fun h => absurd h h1⟩, fun _ => hv⟩
theorem pn_Dr (hS : c_sok S) {i : Nat} (h5 : i < 5) {M : Nat → Nat} : M ∈ dls (d_TL (wpS S)) (d_LI i) (g_twT (wpS S)) 2 S.1 (d_pl i) (d_plR i) S.1 0 (fun _ => 0) ↔ (Dr S (bil i) (d_pl i) M ∧ (M 0 = 0 ∧ (1 < S.1 → M 1 = 1)) ∧ ∀ q r, q < r → r < S.1 → 2 ≤ q → tE (wpS S) r q = true → M q < M r) := by
  rw [dls_Dr hS h5 (bil_Y h5) (LI_t h5)]
  have hs := hS.1.1
  constructor
  · rintro ⟨h1, h2, h3⟩
    refine ⟨h1, ⟨?_, fun c => ?_⟩, h3⟩
    · exact ((plR_iff (h1.2.1 0 (by omega))).mp (h2 0 (by omega))).1 rfl
    · exact ((plR_iff (h1.2.1 1 c)).mp (h2 1 c)).2 rfl
  · rintro ⟨h1, h2, h3⟩
    refine ⟨h1, fun r hr => (plR_iff (h1.2.1 r hr)).mpr ⟨fun e => by rw [e]; exact h2.1, fun e => ?_⟩, h3⟩
    rw [e]
    exact h2.2 (by omega)
theorem pn_head (hS : c_sok S) {i : Nat} (h5 : i < 5) (h3 : 3 ≤ i) (N : Nat → Nat) : (dls (d_TL (wpS S)) (d_LI i) (g_twT (wpS S)) 2 S.1 (d_pl i) (d_plR i) S.1 0 (fun _ => 0)).head? = (rlq S (bil i) (d_pl i) 0 N).head? := by
  have hs := hS.1.1
  refine hd_eq (rlq_pw 0 N) (List.Pairwise.filter _ (fps_pw _ _ _ _)) (fun M hM => ?_) (fun M hM hm => ?_)
  · exact (rlq_Dr hS (bil_Y h5)).mpr ((pn_Dr hS h5).mp hM).1
  · have hD := (rlq_Dr hS (bil_Y h5)).mp hM
    have hm' : ∀ M', Dr S (bil i) (d_pl i) M' → M' = M ∨ lx M M' := fun M' h => hm M' ((rlq_Dr hS (bil_Y h5)).mpr h)
    refine (pn_Dr hS h5).mpr ⟨hD, ?_, fun q r hq hr _ he => tw_small hS hD hm' hq hr he⟩
    have d0 := hD.2.1 0 (by omega)
    have p7 : 7 ≤ d_pl i := by
      obtain ⟨j, rfl⟩ : ∃ j, i = j + 3 := ⟨i - 3, by omega⟩
      have : ∀ j, j < 2 → 7 ≤ d_pl (j + 3) := by decide
      exact this j (by omega)
    obtain ⟨w, hw, hvw, hw1⟩ : ∃ w, w < d_pl i ∧ M 0 ≠ w ∧ (1 < S.1 → w = M 1) := by
      by_cases c : 1 < S.1
      · exact ⟨M 1, hD.2.1 1 c, hD.2.2.1 0 1 (by omega) c (by decide), fun _ => rfl⟩
      · exact ⟨if M 0 = 0 then 1 else 0, by split <;> omega, by split <;> omega, fun h => absurd h c⟩
    obtain ⟨b1, b2⟩ := pb_t i h5 h3 (M 0) d0 w hw hvw
    have hc := Col_w h5 h3 8 (pbc i (M 0) w)
    have hD' := Dr_brd hD hc.1 hc.2.1 hc.2.2
    obtain ⟨Q, eQ⟩ : ∃ Q, Q = nrm S.1 (fun r => pwa i 8 (pbc i (M 0) w) (M r)) := ⟨_, rfl⟩
    rw [← eQ] at hD'
    have q0 : Q 0 = 0 := by
      rw [eQ]
      unfold nrm
      rw [if_pos (by omega)]
      exact b1
    have q1 : 1 < S.1 → Q 1 = 1 := fun c => by
      rw [eQ]
      unfold nrm
      rw [if_pos c]
      show pwa i 8 (pbc i (M 0) w) (M 1) = 1
      rw [← hw1 c]
      exact b2
    have no : lx Q M → False := fun l => by
      rcases hm' Q hD' with e | e
      · rw [e] at l; exact lx_as l l
      · exact lx_as l e
    have z0 : M 0 = 0 := by
      rcases Nat.eq_zero_or_pos (M 0) with z | z
      · exact z
      · exact absurd ⟨0, fun j hj => absurd hj (by omega), by rw [q0]; exact z⟩ no
    refine ⟨z0, fun c => ?_⟩
    have ne := hD.2.2.1 0 1 (by omega) c (by decide)
    apply Classical.byContradiction
    intro h
    refine no ⟨1, fun j hj => ?_, ?_⟩
    · rw [show j = 0 by omega, q0, z0]
    · rw [q1 c]
      omega
def tE2 (F : Sc) (a b : Nat) : Bool := (decide (2 ≤ a) && decide (2 ≤ b)) && tE F a b
theorem tE2_i {F : Sc} {a b : Nat} : tE2 F a b = true ↔ (2 ≤ a ∧ 2 ≤ b ∧ tE F a b = true) := by
  unfold tE2
  rw [Bool.and_eq_true, Bool.and_eq_true, decide_eq_true_iff, decide_eq_true_iff]
  exact ⟨fun h => ⟨h.1.1, h.1.2, h.2⟩, fun h => ⟨⟨h.1, h.2.1⟩, h.2.2⟩⟩
theorem kz_i (hS : c_sok S) {i : Nat} {M : Nat → Nat} (hD : Dr S (bil i) (d_pl i) M) : kp S (d_pl i) M = kz S ↔ (M 0 = 0 ∧ (1 < S.1 → M 1 = 1)) := by
  have hs := hS.1.1
  unfold kp kz
  by_cases c : S.1 = 1
  · rw [if_pos c, if_pos c]
    exact ⟨fun h => ⟨h, fun q => absurd c (by omega)⟩, fun h => h.1⟩
  · rw [if_neg c, if_neg c]
    have d0 := hD.2.1 0 (by omega)
    have d1 := hD.2.1 1 (by omega)
    have ne := hD.2.2.1 0 1 (by omega) (by omega) (by decide)
    constructor
    · intro h
      have z : M 0 = 0 := by
        rcases Nat.eq_zero_or_pos (M 0) with z | z
        · exact z
        · have := Nat.le_mul_of_pos_left (d_pl i) z
          omega
      exact ⟨z, fun _ => by rw [z] at h; omega⟩
    · rintro ⟨h1, h2⟩
      rw [h1, h2 (by omega)]
      omega
theorem pn_twc (hS : c_sok S) {i : Nat} (h5 : i < 5) (N : Nat → Nat) : twc (tE2 (wpS S)) S.1 ((rlq S (bil i) (d_pl i) 0 N).filter (fun M => decide (kp S (d_pl i) M = kz S))) := by
  have hW := wp_sok hS
  refine ⟨fun a b h => ?_, fun a b c h h' hn => ?_, ?_, fun M hM r s hr hs e => ?_, fun M hM a b ha hb he => ?_⟩
  · obtain ⟨h1, h2, h3⟩ := tE2_i.mp h
    exact tE2_i.mpr ⟨h2, h1, tE_s hW a b h3⟩
  · obtain ⟨h1, h2, h3⟩ := tE2_i.mp h
    obtain ⟨g1, g2, g3⟩ := tE2_i.mp h'
    exact tE2_i.mpr ⟨h1, g2, tE_t hW a b c h3 g3 hn⟩
  · exact nd_fil _ (List.Pairwise.imp (fun h e => by subst e; exact lx_as h h) (rlq_pw 0 N))
  · rw [List.mem_filter] at hM
    have hD := (rlq_Dr hS (bil_Y h5)).mp hM.1
    apply Classical.byContradiction
    intro c
    exact hD.2.2.1 r s hr hs c e
  · rw [List.mem_filter] at hM ⊢
    obtain ⟨h1, h2, h3⟩ := tE2_i.mp he
    have hD := (rlq_Dr hS (bil_Y h5)).mp hM.1
    have hD' := Dr_tw hS hD h3
    have hk := (kz_i hS hD).mp (of_decide_eq_true hM.2)
    refine ⟨(rlq_Dr hS (bil_Y h5)).mpr hD', decide_eq_true ((kz_i hS hD').mpr ⟨?_, fun q => ?_⟩)⟩
    · show M (trs a b 0) = 0
      unfold trs
      rw [if_neg (by omega), if_neg (by omega)]
      exact hk.1
    · show M (trs a b 1) = 1
      unfold trs
      rw [if_neg (by omega), if_neg (by omega)]
      exact hk.2 q
theorem pn_list (hS : c_sok S) {i : Nat} (h5 : i < 5) (N : Nat → Nat) : dls (d_TL (wpS S)) (d_LI i) (g_twT (wpS S)) 2 S.1 (d_pl i) (d_plR i) S.1 0 (fun _ => 0) = ((rlq S (bil i) (d_pl i) 0 N).filter (fun M => decide (kp S (d_pl i) M = kz S))).filter (ris (tE2 (wpS S)) S.1) := by
  have hW := wp_sok hS
  refine sr_eq (R := lx) (fun _ _ h1 h2 => lx_as h1 h2) (List.Pairwise.filter _ (fps_pw _ _ _ _)) (List.Pairwise.filter _ (List.Pairwise.filter _ (rlq_pw 0 N))) (fun M => ?_)
  rw [pn_Dr hS h5, List.mem_filter, List.mem_filter, rlq_Dr hS (bil_Y h5), ris_t]
  constructor
  · rintro ⟨h1, h2, h3⟩
    refine ⟨⟨h1, decide_eq_true ((kz_i hS h1).mpr h2)⟩, fun b q hb hq he => ?_⟩
    obtain ⟨e1, e2, e3⟩ := tE2_i.mp he
    exact h3 q b hq hb e1 (tE_s hW _ _ e3)
  · rintro ⟨⟨h1, h2⟩, h3⟩
    exact ⟨h1, (kz_i hS h1).mp (of_decide_eq_true h2), fun q r hq hr h2q he => h3 r q hr hq (tE2_i.mpr ⟨h2q, by omega, tE_s hW _ _ he⟩)⟩
theorem m4_t : ∀ p, p < 9 → 2 ≤ p → ∀ q, q < p → (2 ^ p - 2 ^ 2).testBit q = decide (2 ≤ q) := by decide +kernel
theorem pc_cls2 {x p : Nat} (hp : p < 9) (h2 : 2 ≤ p) : n_pc (x &&& (2 ^ p - 2 ^ 2)) = ((List.range p).filter (fun q => decide (2 ≤ q) && x.testBit q)).length := by
  have e : x &&& (2 ^ p - 2 ^ 2) = (x &&& (2 ^ p - 2 ^ 2)) &&& (2 ^ p - 1) := by
    apply Nat.eq_of_testBit_eq
    intro q
    rw [Nat.testBit_and, Nat.testBit_and, Nat.testBit_and, Nat.testBit_two_pow_sub_one]
    by_cases c : q < p
    · rw [decide_eq_true c, Bool.and_true]
    · have p1 : 2 ^ p ≤ 2 ^ q := Nat.pow_le_pow_right (by decide) (by omega)
      have p2 : 0 < 2 ^ p := Nat.two_pow_pos p
      have : (2 ^ p - 2 ^ 2).testBit q = false := Nat.testBit_lt_two_pow (by omega)
      rw [this]
      simp
  rw [e, pc_cls (by omega)]
  congr 1
  refine List.filter_congr (fun q hq => ?_)
  rw [Nat.testBit_and, m4_t p hp h2 q (List.mem_range.mp hq), Bool.and_comm]
theorem it_mul (c : Nat → Nat) (a : Nat) : ∀ k, it (fun i s => s * c i) a k = a * it (fun i s => s * c i) 1 k
  | 0 => (Nat.mul_one a).symm
  | k + 1 => by
    rw [it_s, it_s, it_mul c a k, Nat.mul_assoc]
theorem it_2 (c : Nat → Nat) (h0 : c 0 = 1) (h1 : c 1 = 1) : ∀ k, it (fun i s => s * c i) 1 (2 + k) = it (fun i s => s * c (2 + i)) 1 k
  | 0 => by
    show 1 * c 0 * c 1 = 1
    rw [h0, h1]
  | k + 1 => by
    rw [show 2 + (k + 1) = (2 + k) + 1 by omega, it_s, it_s, it_2 c h0 h1 k]
theorem same_e (hS : c_sok S) (pl : Nat) : g_same (g_twT (wpS S)) pl S.1 = (if 1 < S.1 then pl * (pl - 1) else pl) * it (fun p x => x * (1 + (cls (tE2 (wpS S)) p).length)) 1 S.1 := by
  have hs := hS.1
  unfold g_same
  have c0 : ∀ p, p < 2 → (1 + (cls (tE2 (wpS S)) p).length) = 1 := fun p hp => by
    have : cls (tE2 (wpS S)) p = [] := by
      unfold cls
      rw [List.filter_eq_nil_iff]
      intro q hq h
      have := (tE2_i.mp h).2.1
      omega
    rw [this]
    rfl
  rw [it_mul (fun i => 1 + n_pc (g_twT (wpS S) (2 + i) &&& (2 ^ (2 + i) - 2 ^ 2)))]
  congr 1
  by_cases c : 1 < S.1
  · rw [show S.1 = 2 + (S.1 - 2) by omega, it_2 (fun p => 1 + (cls (tE2 (wpS S)) p).length) (c0 0 (by decide)) (c0 1 (by decide)), show 2 + (S.1 - 2) - 2 = S.1 - 2 by omega]
    refine it_congr _ (fun p x hp => ?_)
    show x * _ = x * _
    congr 2
    rw [pc_cls2 (by omega) (by omega)]
    unfold cls
    congr 1
    refine List.filter_congr (fun q hq => ?_)
    apply Bool.eq_iff_iff.mpr
    rw [tE2_i, Bool.and_eq_true, decide_eq_true_iff]
    unfold tE
    exact ⟨fun h => ⟨h.1, by omega, h.2⟩, fun h => ⟨h.1, h.2.2⟩⟩
  · rw [show S.1 - 2 = 0 by omega, show S.1 = 1 by omega]
    show 1 = 1 * _
    rw [c0 0 (by decide)]
theorem pn_len (hS : c_sok S) {i : Nat} (h5 : i < 5) (h3 : 3 ≤ i) (N : Nat → Nat) : (dls (d_TL (wpS S)) (d_LI i) (g_twT (wpS S)) 2 S.1 (d_pl i) (d_plR i) S.1 0 (fun _ => 0)).length * g_same (g_twT (wpS S)) (d_pl i) S.1 = (rlq S (bil i) (d_pl i) 0 N).length := by
  rw [kp_len hS h5 h3 N, ris_all (pn_twc hS h5 N), ← pn_list hS h5 N, same_e hS]
  rw [Nat.mul_comm, Nat.mul_assoc]
end B31
