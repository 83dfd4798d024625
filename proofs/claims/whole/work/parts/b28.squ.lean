/-! MATHEMATICS: the square: the first place in the corner is enough -/
section B28
variable {S : Sc}
theorem tbi_y : ∀ i, i < 5 → ∀ a, a < d_pl i → ∀ b, b < d_pl i → ∀ c, c < d_pl i → tbi i a b c = tbi i b a c ∧ tbi i a b c = tbi i a c b := by decide +kernel
theorem bil_Y {i : Nat} (hi : i < 5) : ilY (bil i) (d_pl i) := fun a b c ha hb hc => by
  rw [bil_t i hi a ha b hb c hc, bil_t i hi b hb a ha c hc, bil_t i hi a ha c hc b hb]
  exact tbi_y i hi a ha b hb c hc
theorem span_t {i : Nat} (hi : i < 5) {a b c : Nat} (ha : a < d_pl i) (hb : b < d_pl i) (hc : c < d_pl i) : g_span (d_CA i) a b c = spI i a b c := by
  obtain ⟨a1, a2, a3⟩ := CA_t i hi a ha
  obtain ⟨b1, b2, b3⟩ := CA_t i hi b hb
  obtain ⟨c1, c2, c3⟩ := CA_t i hi c hc
  unfold g_span spI
  rw [a1, a2, a3, b1, b2, b3, c1, c2, c3]
theorem LI_t {i : Nat} (hi : i < 5) (v w u : Nat) (hv : v < d_pl i) (hw : w < d_pl i) (hu : u < d_pl i) (hvw : v ≠ w) (hvu : v ≠ u) (hwu : w ≠ u) : ((d_LI i (v * 16 + w)).testBit u = true ↔ bil i v w u = true) := by
  unfold d_LI
  rw [lop_e (pl16 i hi) hv hw hvw, inl_b, bil_t i hi v hv w hw u hu]
  by_cases h : v ≤ w
  · rw [Nat.max_eq_right h, Nat.min_eq_left h, span_t hi hw hv hu, spI_t i hi w hw v hv u hu, (tbi_y i hi w hw v hv u hu).1]
    constructor
    · rintro (e | e | ⟨_, e⟩)
      · exact absurd e.symm hwu
      · exact absurd e.symm hvu
      · exact e
    · exact fun e => Or.inr (Or.inr ⟨hu, e⟩)
  · rw [Nat.max_eq_left (by omega), Nat.min_eq_right (by omega), span_t hi hv hw hu, spI_t i hi v hv w hw u hu]
    constructor
    · rintro (e | e | ⟨_, e⟩)
      · exact absurd e.symm hvu
      · exact absurd e.symm hwu
      · exact e
    · exact fun e => Or.inr (Or.inr ⟨hu, e⟩)
/-- the three maps of a square -/
def sqm (i k v : Nat) : Nat := if k = 0 then v / (i + 2) * (i + 2) + (i + 1 - v % (i + 2)) else if k = 1 then (i + 1 - v / (i + 2)) * (i + 2) + v % (i + 2) else v % (i + 2) * (i + 2) + v / (i + 2)
theorem sqm_lt : ∀ i, i < 3 → ∀ k, k < 3 → ∀ v, v < d_pl i → sqm i k v < d_pl i := by decide +kernel
theorem sqm_in : ∀ i, i < 3 → ∀ k, k < 3 → ∀ v, v < d_pl i → ∀ w, w < d_pl i → sqm i k v = sqm i k w → v = w := by decide +kernel
theorem sqm_t : ∀ i, i < 3 → ∀ k, k < 3 → ∀ a, a < d_pl i → ∀ b, b < d_pl i → ∀ c, c < d_pl i → tbi i (sqm i k a) (sqm i k b) (sqm i k c) = tbi i a b c := by decide +kernel
theorem sqm_c : ∀ i, i < 3 → ∀ v, v < d_pl i → (g_cor (i + 2)).testBit v = true ∨ ∃ k, k < 3 ∧ sqm i k v < v := by decide +kernel
theorem tw_small {il : Nat → Nat → Nat → Bool} {pl : Nat} (hS : c_sok S) {M : Nat → Nat} (hD : Dr S il pl M) (hm : ∀ M', Dr S il pl M' → M' = M ∨ lx M M') {q r : Nat} (hq : q < r) (hr : r < S.1) (he : tE (wpS S) r q = true) : M q < M r := by
  have hne := hD.2.2.1 q r (by omega) hr (by omega)
  rcases Nat.lt_trichotomy (M q) (M r) with h | h | h
  · exact h
  · exact absurd h hne
  · exfalso
    have hD' := Dr_tw hS hD he
    have e0 : trs r q q = r := by unfold trs; rw [if_neg (by omega), if_pos rfl]
    have l1 : lx (fun i => M (trs r q i)) M := by
      refine ⟨q, fun j hj => ?_, ?_⟩
      · show M (trs r q j) = M j
        unfold trs
        rw [if_neg (by omega), if_neg (by omega)]
      · show M (trs r q q) < M q
        rw [e0]; exact h
    rcases hm _ hD' with e | e
    · rw [e] at l1
      exact lx_as l1 l1
    · exact lx_as l1 e
theorem sq_head (hS : c_sok S) {i : Nat} (hi : i < 3) (N : Nat → Nat) : (dls (d_TL (wpS S)) (d_LI i) (g_twT (wpS S)) 0 S.1 (d_pl i) (d_sqR i) S.1 0 (fun _ => 0)).head? = (rlq S (bil i) (d_pl i) 0 N).head? := by
  have hi5 : i < 5 := by omega
  refine hd_eq (rlq_pw 0 N) (List.Pairwise.filter _ (fps_pw _ _ _ _)) (fun M hM => ?_) (fun M hM hm => ?_)
  · exact (rlq_Dr hS (bil_Y hi5)).mpr ((dls_Dr hS hi5 (bil_Y hi5) (LI_t hi5)).mp hM).1
  · have hD := (rlq_Dr hS (bil_Y hi5)).mp hM
    have hm' : ∀ M', Dr S (bil i) (d_pl i) M' → M' = M ∨ lx M M' := fun M' h => hm M' ((rlq_Dr hS (bil_Y hi5)).mpr h)
    refine (dls_Dr hS hi5 (bil_Y hi5) (LI_t hi5)).mpr ⟨hD, fun r hr => ?_, fun q r hq hr _ he => tw_small hS hD hm' hq hr he⟩
    unfold d_sqR
    by_cases h0 : r = 0
    · rw [if_pos h0, h0]
      rw [h0] at hr
      rcases sqm_c i hi (M 0) (hD.2.1 0 hr) with h | ⟨k, hk, h⟩
      · exact h
      · exfalso
        have hD' := Dr_brd (σ := sqm i k) hD (sqm_lt i hi k hk) (fun v w hv hw => sqm_in i hi k hk v hv w hw) (fun u v w hu hv hw => by
          rw [bil_t i hi5 u hu v hv w hw, bil_t i hi5 _ (sqm_lt i hi k hk u hu) _ (sqm_lt i hi k hk v hv) _ (sqm_lt i hi k hk w hw)]
          exact sqm_t i hi k hk u hu v hv w hw)
        have e0 : nrm S.1 (fun i_1 => sqm i k (M i_1)) 0 = sqm i k (M 0) := if_pos hr
        have l1 : lx (nrm S.1 (fun i_1 => sqm i k (M i_1))) M := ⟨0, fun j hj => absurd hj (by omega), by rw [e0]; exact h⟩
        rcases hm' _ hD' with e | e
        · rw [e] at l1
          exact lx_as l1 l1
        · exact lx_as l1 e
    · rw [if_neg h0, Nat.testBit_two_pow_sub_one]
      exact decide_eq_true (hD.2.1 r hr)
end B28
