/-! MATHEMATICS: the plane: the first two places are as good as any two -/
theorem cnt_fib {α : Type} (f : α → Nat) (c : Nat) : ∀ (K : List Nat) (L : List α), K.Nodup → (∀ a, a ∈ L → f a ∈ K) → (∀ k, k ∈ K → (L.filter (fun a => decide (f a = k))).length = c) → L.length = K.length * c
  | [], L, _, h, _ => by
    cases L with
    | nil => simp
    | cons a L => exact absurd (h a List.mem_cons_self) (by simp)
  | k :: K, L, hn, h, hc => by
    rw [List.nodup_cons] at hn
    have ih := cnt_fib f c K (L.filter (fun a => !decide (f a = k))) hn.2 (fun a ha => by
      rw [List.mem_filter] at ha
      rcases List.mem_cons.mp (h a ha.1) with e | e
      · rw [decide_eq_true e] at ha
        exact absurd ha.2 (by decide)
      · exact e) (fun k' hk' => by
      rw [List.filter_filter, ← hc k' (List.mem_cons_of_mem _ hk')]
      congr 1
      refine List.filter_congr (fun a _ => ?_)
      by_cases e : f a = k'
      · have : f a ≠ k := fun q => hn.1 (by rw [← q, e]; exact hk')
        rw [decide_eq_true e, decide_eq_false this]
        rfl
      · rw [decide_eq_false e]
        rfl)
    have h1 := hc k List.mem_cons_self
    have h2 : L.length = (L.filter (fun a => decide (f a = k))).length + (L.filter (fun a => !decide (f a = k))).length := by
      rw [← List.countP_eq_length_filter, ← List.countP_eq_length_filter]
      have := List.length_eq_countP_add_countP (fun a => decide (f a = k)) (l := L)
      rw [this]
      congr 1
      refine List.countP_congr (fun a _ => ?_)
      by_cases e : f a = k
      · simp [e]
      · simp [e]
    rw [h2, h1, ih, List.length_cons, Nat.succ_mul]
    omega
section B30
variable {S : Sc}
def prs (pl : Nat) : List Nat := (List.range (pl * pl)).filter (fun k => decide (k / pl ≠ k % pl))
theorem prs_n : ∀ j, j < 2 → (prs (d_pl (j + 3))).length = d_pl (j + 3) * (d_pl (j + 3) - 1) := by decide +kernel
/-- a map takes drawings that begin so to drawings that begin so -/
theorem Dr_map {i : Nat} {L : List (Nat → Nat)} (hL : ∀ M, M ∈ L ↔ Dr S (bil i) (d_pl i) M) (hn : L.Nodup) {σ : Nat → Nat} (hσ : Col i σ) {P Q : (Nat → Nat) → Bool} (h : ∀ M, Dr S (bil i) (d_pl i) M → P M = true → Q (nrm S.1 (fun r => σ (M r))) = true) : (L.filter P).length ≤ (L.filter Q).length := by
  obtain ⟨c1, c2, c3⟩ := hσ
  refine nd_le (fun M => nrm S.1 (fun r => σ (M r))) (nd_fil _ hn) (fun M hM => ?_) (fun M M' hM hM' e => ?_)
  · rw [List.mem_filter] at hM ⊢
    have hD := (hL M).mp hM.1
    exact ⟨(hL _).mpr (Dr_brd hD c1 c2 c3), h M hD hM.2⟩
  · rw [List.mem_filter] at hM hM'
    have hD := (hL M).mp hM.1
    have hD' := (hL M').mp hM'.1
    funext r
    by_cases hr : r < S.1
    · have := congrFun e r
      unfold nrm at this
      rw [if_pos hr, if_pos hr] at this
      exact c2 _ _ (hD.2.1 r hr) (hD'.2.1 r hr) this
    · rw [hD.1 r (by omega), hD'.1 r (by omega)]
def kp (S : Sc) (pl : Nat) (M : Nat → Nat) : Nat := if S.1 = 1 then M 0 else M 0 * pl + M 1
def kz (S : Sc) : Nat := if S.1 = 1 then 0 else 1
theorem kp_len (hS : c_sok S) {i : Nat} (h5 : i < 5) (h3 : 3 ≤ i) (N : Nat → Nat) : (rlq S (bil i) (d_pl i) 0 N).length = (if 1 < S.1 then d_pl i * (d_pl i - 1) else d_pl i) * ((rlq S (bil i) (d_pl i) 0 N).filter (fun M => decide (kp S (d_pl i) M = kz S))).length := by
  obtain ⟨L, eL⟩ : ∃ L, L = rlq S (bil i) (d_pl i) 0 N := ⟨_, rfl⟩
  rw [← eL]
  have hL : ∀ M, M ∈ L ↔ Dr S (bil i) (d_pl i) M := fun M => by rw [eL]; exact rlq_Dr hS (bil_Y h5)
  have hnd : L.Nodup := by rw [eL]; exact List.Pairwise.imp (fun h e => by subst e; exact lx_as h h) (rlq_pw 0 N)
  have hs := hS.1.1
  have p7 : 7 ≤ d_pl i := by
    obtain ⟨j, rfl⟩ : ∃ j, i = j + 3 := ⟨i - 3, by omega⟩
    have : ∀ j, j < 2 → 7 ≤ d_pl (j + 3) := by decide
    exact this j (by omega)
  have n0 : ∀ σ M : Nat → Nat, nrm S.1 (fun r => σ (M r)) 0 = σ (M 0) := fun σ M => if_pos (by omega)
  have both : ∀ v w k, v < d_pl i → w < d_pl i → v ≠ w → (∀ M, Dr S (bil i) (d_pl i) M → (kp S (d_pl i) M = k ↔ (M 0 = v ∧ (1 < S.1 → M 1 = w)))) → (L.filter (fun M => decide (kp S (d_pl i) M = k))).length = (L.filter (fun M => decide (kp S (d_pl i) M = kz S))).length := by
    intro v w k hv hw hvw hk
    have kz0 : ∀ M, Dr S (bil i) (d_pl i) M → (kp S (d_pl i) M = kz S ↔ (M 0 = 0 ∧ (1 < S.1 → M 1 = 1))) := fun M hD => by
      unfold kp kz
      by_cases c : S.1 = 1
      · rw [if_pos c, if_pos c]
        exact ⟨fun h => ⟨h, fun q => absurd c (by omega)⟩, fun h => h.1⟩
      · rw [if_neg c, if_neg c]
        have := hD.2.1 1 (by omega)
        constructor
        · intro h
          have z : M 0 = 0 := by
            rcases Nat.eq_zero_or_pos (M 0) with z | z
            · exact z
            · have := Nat.le_mul_of_pos_left (d_pl i) z
              omega
          exact ⟨z, fun _ => by rw [z] at h; omega⟩
        · rintro ⟨h1, h2⟩
          rw [h1, h2 (by omega)]
          omega
    have n1 : ∀ σ M : Nat → Nat, 1 < S.1 → nrm S.1 (fun r => σ (M r)) 1 = σ (M 1) := fun σ M h => if_pos h
    apply Nat.le_antisymm
    · refine Dr_map hL hnd (Col_w h5 h3 8 (pbc i v w)) (fun M hD h => ?_)
      have h := (hk M hD).mp (of_decide_eq_true h)
      have hc := Col_w h5 h3 8 (pbc i v w)
      refine decide_eq_true ((kz0 _ (Dr_brd hD hc.1 hc.2.1 hc.2.2)).mpr ⟨?_, fun q => ?_⟩)
      · rw [n0, h.1]
        exact (pb_t i h5 h3 v hv w hw hvw).1
      · rw [n1 _ _ q, h.2 q]
        exact (pb_t i h5 h3 v hv w hw hvw).2
    · refine Dr_map hL hnd (Col_w h5 h3 8 (pfc i v w)) (fun M hD h => ?_)
      have h := (kz0 M hD).mp (of_decide_eq_true h)
      have hc := Col_w h5 h3 8 (pfc i v w)
      refine decide_eq_true ((hk _ (Dr_brd hD hc.1 hc.2.1 hc.2.2)).mpr ⟨?_, fun q => ?_⟩)
      · rw [n0, h.1]
        exact (pf_t i h5 h3 v hv w hw hvw).1
      · rw [n1 _ _ q, h.2 q]
        exact (pf_t i h5 h3 v hv w hw hvw).2
  by_cases c : 1 < S.1
  · rw [if_pos c]
    have e : (prs (d_pl i)).length = d_pl i * (d_pl i - 1) := by
      obtain ⟨j, rfl⟩ : ∃ j, i = j + 3 := ⟨i - 3, by omega⟩
      exact prs_n j (by omega)
    rw [← e]
    have hdm : ∀ x y, y < d_pl i → (x * d_pl i + y) / d_pl i = x ∧ (x * d_pl i + y) % d_pl i = y := fun x y hy => by
      constructor
      · rw [Nat.mul_comm, Nat.mul_add_div (by omega), Nat.div_eq_of_lt hy, Nat.add_zero]
      · rw [Nat.mul_comm, Nat.mul_add_mod, Nat.mod_eq_of_lt hy]
    refine cnt_fib (kp S (d_pl i)) _ (prs (d_pl i)) L (nd_fil _ List.nodup_range) (fun M hM => ?_) (fun k hk => ?_)
    · have hD := (hL M).mp hM
      have d0 := hD.2.1 0 (by omega)
      have d1 := hD.2.1 1 c
      unfold prs kp
      rw [if_neg (by omega), List.mem_filter, List.mem_range, (hdm _ _ d1).1, (hdm _ _ d1).2]
      refine ⟨?_, decide_eq_true (hD.2.2.1 0 1 (by omega) c (by decide))⟩
      have : (M 0 + 1) * d_pl i ≤ d_pl i * d_pl i := Nat.mul_le_mul_right _ d0
      rw [Nat.succ_mul] at this
      omega
    · unfold prs at hk
      rw [List.mem_filter, List.mem_range] at hk
      have hv : k / d_pl i < d_pl i := Nat.div_lt_of_lt_mul hk.1
      have hw : k % d_pl i < d_pl i := Nat.mod_lt _ (by omega)
      refine both (k / d_pl i) (k % d_pl i) k hv hw (of_decide_eq_true hk.2) (fun M hD => ?_)
      have d1 := hD.2.1 1 c
      unfold kp
      rw [if_neg (by omega)]
      constructor
      · intro h
        rw [← h, (hdm _ _ d1).1, (hdm _ _ d1).2]
        exact ⟨rfl, fun _ => rfl⟩
      · rintro ⟨h1, h2⟩
        rw [h1, h2 c, Nat.mul_comm]
        exact Nat.div_add_mod k (d_pl i)
  · rw [if_neg c]
    have e : (List.range (d_pl i)).length = d_pl i := List.length_range
    have e1 : S.1 = 1 := by omega
    suffices h : L.length = (List.range (d_pl i)).length * (L.filter (fun M => decide (kp S (d_pl i) M = kz S))).length by rw [e] at h; exact h
    refine cnt_fib (kp S (d_pl i)) _ (List.range (d_pl i)) L List.nodup_range (fun M hM => ?_) (fun k hk => ?_)
    · have hD := (hL M).mp hM
      unfold kp
      rw [if_pos e1, List.mem_range]
      exact hD.2.1 0 (by omega)
    · rw [List.mem_range] at hk
      refine both k (if k = 0 then 1 else 0) k hk (by split <;> omega) (by split <;> omega) (fun M hD => ?_)
      unfold kp
      rw [if_pos e1]
      exact ⟨fun h => ⟨h, fun q => absurd q c⟩, fun h => h.1⟩
end B30
