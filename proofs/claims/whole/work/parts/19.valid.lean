theorem z_rng {P : Nat → Prop} (N : Nat) (f : Nat → Bool) (hf : (List.range N).all f = true) (h : ∀ k, f k = true → P k) (hb : ∀ k, N ≤ k → P k) : ∀ k, P k := by
  intro k
  by_cases hk : k < N
  · exact h k (List.all_eq_true.mp hf k (List.mem_range.mpr hk))
  · exact hb k (by omega)
theorem z_bltF {k n : Nat} (h : n ≤ k) : Nat.blt k n = false := by
  cases hb : Nat.blt k n with
  | false => rfl
  | true => exact absurd (Nat.blt_eq.mp hb) (by omega)
/-- a range in pieces of forty -/
theorem z_chunk {f : Nat → Bool} (M : Nat) (h : ∀ c, c < M → (List.range 40).all (fun j => f (40 * c + j)) = true) : (List.range (40 * M)).all f = true := by
  rw [List.all_eq_true]
  intro k hk
  have hk := List.mem_range.mp hk
  have h1 := List.all_eq_true.mp (h (k / 40) (by omega)) (k % 40) (List.mem_range.mpr (by omega))
  have h2 : 40 * (k / 40) + k % 40 = k := by omega
  rw [h2] at h1
  exact h1
/-- instructions -/
def z_pck (cc : ByteArray) (p : Nat → Option (Instr × Nat)) (k : Nat) : Bool := match p k with
  | none => true
  | some q => decide (decode cc k = .ok q)
theorem z_PVof {μ : z_M} (N : Nat) (hf : (List.range N).all (z_pck μ.1.2.1 μ.2.2.2) = true) (hb : ∀ k, N ≤ k → μ.2.2.2 k = none) : z_PV μ := by
  refine z_rng (P := fun pc => ∀ q, μ.2.2.2 pc = some q → decode μ.1.2.1 pc = .ok q) N _ hf (fun k hk q hq => ?_) (fun k hk q hq => ?_)
  · unfold z_pck at hk
    rw [hq] at hk
    exact of_decide_eq_true hk
  · rw [hb k hk] at hq; cases hq
def z_mem (w : Cond) : Bool := decide (w ∈ lw_tbl) && goodWord w
theorem z_memT {w : Cond} (h : z_mem w = true) : w ∈ z_gt := by
  simp only [z_mem, Bool.and_eq_true, decide_eq_true_eq] at h
  exact z_gt_of h.1 h.2
/-- by its place -/
def z_sub (j : Nat) : List Cond := match j with
  | 0 => k2_sels lw_privs
  | 1 => tables_1_1
  | 2 => tables_1_2
  | 3 => tables_1_3
  | 4 => tables_1_4
  | 5 => tables_1_5
  | 6 => tables_1_6
  | 7 => tables_1_7
  | 8 => tables_1_8
  | _ => tables_1_9
theorem z_subT {j : Nat} {w : Cond} (h : w ∈ z_sub j) : w ∈ lw_tbl := by
  unfold z_sub at h
  unfold lw_tbl tables_1
  simp only [List.mem_append]
  split at h
  · exact Or.inl h
  · exact Or.inr (Or.inl h)
  · exact Or.inr (Or.inr (Or.inl h))
  · exact Or.inr (Or.inr (Or.inr (Or.inl h)))
  · exact Or.inr (Or.inr (Or.inr (Or.inr (Or.inl h))))
  · exact Or.inr (Or.inr (Or.inr (Or.inr (Or.inr (Or.inl h)))))
  · exact Or.inr (Or.inr (Or.inr (Or.inr (Or.inr (Or.inr (Or.inl h))))))
  · exact Or.inr (Or.inr (Or.inr (Or.inr (Or.inr (Or.inr (Or.inr (Or.inl h)))))))
  · exact Or.inr (Or.inr (Or.inr (Or.inr (Or.inr (Or.inr (Or.inr (Or.inr (Or.inl h))))))))
  · exact Or.inr (Or.inr (Or.inr (Or.inr (Or.inr (Or.inr (Or.inr (Or.inr (Or.inr h))))))))
/-- i: a thousand times the list's number, and the place -/
def z_m1 (i : Nat) (w : Cond) : Bool := match (z_sub (i / 1000))[i % 1000]? with
  | some v => decide (v = w) && goodWord w
  | none => false
theorem z_m1T {i : Nat} {w : Cond} (h : z_m1 i w = true) : w ∈ z_gt := by
  unfold z_m1 at h
  split at h
  · rename_i v hv
    simp only [Bool.and_eq_true, decide_eq_true_eq] at h
    rw [h.1] at hv
    exact z_gt_of (z_subT (List.mem_of_getElem? hv)) h.2
  · cases h
def z_mz : List Nat → List Cond → Bool
  | i :: is, w :: ws => z_m1 i w && z_mz is ws
  | [], [] => true
  | _, _ => false
theorem z_mzT : ∀ {is : List Nat} {ws : List Cond}, z_mz is ws = true → ∀ w ∈ ws, w ∈ z_gt
  | [], [], _, w, hw => by cases hw
  | i :: is, v :: ws, h, w, hw => by
    simp only [z_mz, Bool.and_eq_true] at h
    rcases List.mem_cons.mp hw with rfl | hw
    · exact z_m1T h.1
    · exact z_mzT h.2 w hw
  | [], _ :: _, h, _, _ => by cases h
  | _ :: _, [], h, _, _ => by cases h
/-- fields -/
def z_fck (ix : Nat → Nat) (C : z_CT) (k : Nat) : Bool := match z_cF C k with
  | none => true
  | some q => match vwCl[q.1]? with
    | none => false
    | some r => Nat.blt q.2 r.2.2 && z_m1 (ix k) (.fieldLink (z_cNm C) k r.1 (r.2.1 q.2).2.1 (r.2.1 q.2).2.2.1) && (!(Nat.beq q.1 (z_cN C)) || decide (r.1 = z_cNm C))
theorem z_FVof {C : z_CT} (ix : Nat → Nat) (N : Nat) (hf : (List.range N).all (z_fck ix C) = true) (hb : ∀ k, N ≤ k → z_cF C k = none) : z_FV C := by
  refine z_rng (P := fun k => ∀ ci s, z_cF C k = some (ci, s) → ∃ r, vwCl[ci]? = some r ∧ s < r.2.2 ∧ Cond.fieldLink (z_cNm C) k r.1 (r.2.1 s).2.1 (r.2.1 s).2.2.1 ∈ z_gt ∧ (ci = z_cN C → r.1 = z_cNm C)) N _ hf (fun k hk ci s hq => ?_) (fun k hk ci s hq => ?_)
  · unfold z_fck at hk
    rw [hq] at hk
    (try dsimp only at hk)
    split at hk
    · cases hk
    · rename_i r hr
      simp only [Bool.and_eq_true, Bool.or_eq_true, Bool.not_eq_true', decide_eq_true_eq] at hk
      refine ⟨r, hr, Nat.blt_eq.mp hk.1.1, z_m1T hk.1.2, fun e => ?_⟩
      rcases hk.2 with h | h
      · rw [e, Nat.beq_refl] at h; cases h
      · exact h
  · rw [hb k hk] at hq; cases hq
/-- classes -/
def z_kck (ix : Nat → Nat) (C : z_CT) (k : Nat) : Bool := match z_cK C k with
  | none => true
  | some q => match q.1 with
    | 0 => (match vwCl[q.2.1]? with
      | none => false
      | some r => z_m1 (ix k) (.classLink (z_cNm C) k r.1))
    | 1 => (decide (q.2.2 = z_IAE) || decide (q.2.2 = z_NSE)) && z_mem (.classLink (z_cNm C) k q.2.2) && z_mem (.initialized q.2.2) && ((vx_at0 (z_cNm C) q.2.1 q.2.2 ["java/lang/RuntimeException", "java/lang/Exception"]).filter goodWord).all z_mem &&
      decide ((vx_at0 (z_cNm C) q.2.1 q.2.2 ["java/lang/RuntimeException", "java/lang/Exception"]).filter (fun w => !goodWord w) = [.declares ⟨"java/lang/RuntimeException", "<init>", "()V"⟩, .declares ⟨"java/lang/Exception", "<init>", "()V"⟩, .declares ⟨"java/lang/Throwable", "<init>", "()V"⟩, .castable q.2.2 q.2.2]) &&
      (vx_at0 (z_cNm C) q.2.1 q.2.2 ["java/lang/RuntimeException", "java/lang/Exception"]).all vx_ot
    | 2 => (Nat.beq q.2.1 5 && z_m1 (ix k) (.classLink (z_cNm C) k RX1)) || (Nat.beq q.2.1 6 && z_m1 (ix k) (.classLink (z_cNm C) k "[I"))
    | 3 => z_m1 (ix k) (.classLink (z_cNm C) k "[I")
    | _ => true
theorem z_KVof {C : z_CT} (ix : Nat → Nat) (N : Nat) (hf : (List.range N).all (z_kck ix C) = true) (hb : ∀ k, N ≤ k → z_cK C k = none) : z_KV C ∧ z_TV C := by
  constructor
  · refine z_rng (P := fun k => ∀ q, z_cK C k = some q → (q.1 = 0 → ∃ r, vwCl[q.2.1]? = some r ∧ Cond.classLink (z_cNm C) k r.1 ∈ z_gt) ∧ (q.1 = 2 → (q.2.1 = 5 ∧ Cond.classLink (z_cNm C) k RX1 ∈ z_gt) ∨ (q.2.1 = 6 ∧ Cond.classLink (z_cNm C) k "[I" ∈ z_gt)) ∧ (q.1 = 3 → Cond.classLink (z_cNm C) k "[I" ∈ z_gt)) N _ hf (fun k hk q hq => ?_) (fun k hk q hq => ?_)
    · unfold z_kck at hk
      rw [hq] at hk
      (try dsimp only at hk)
      refine ⟨fun e => ?_, fun e => ?_, fun e => ?_⟩
      · rw [e] at hk
        have hk2 : (match vwCl[q.2.1]? with
          | none => false
          | some r => z_m1 (ix k) (.classLink (z_cNm C) k r.1)) = true := hk
        cases hr : vwCl[q.2.1]? with
        | none => rw [hr] at hk2; cases hk2
        | some r => rw [hr] at hk2; exact ⟨r, rfl, z_m1T hk2⟩
      · rw [e] at hk
        simp only [Bool.or_eq_true, Bool.and_eq_true] at hk
        rcases hk with h | h
        · exact Or.inl ⟨Nat.eq_of_beq_eq_true h.1, z_m1T h.2⟩
        · exact Or.inr ⟨Nat.eq_of_beq_eq_true h.1, z_m1T h.2⟩
      · rw [e] at hk
        exact z_m1T hk
    · rw [hb k hk] at hq; cases hq
  · refine z_rng (P := fun k => ∀ ic E, z_cK C k = some (1, ic, E) → (E = z_IAE ∨ E = z_NSE) ∧ Cond.classLink (z_cNm C) k E ∈ z_gt ∧ Cond.initialized E ∈ z_gt ∧ (∀ w ∈ (vx_at0 (z_cNm C) ic E ["java/lang/RuntimeException", "java/lang/Exception"]).filter goodWord, w ∈ z_gt) ∧
      (vx_at0 (z_cNm C) ic E ["java/lang/RuntimeException", "java/lang/Exception"]).filter (fun w => !goodWord w) = [.declares ⟨"java/lang/RuntimeException", "<init>", "()V"⟩, .declares ⟨"java/lang/Exception", "<init>", "()V"⟩, .declares ⟨"java/lang/Throwable", "<init>", "()V"⟩, .castable E E] ∧ (∀ w ∈ vx_at0 (z_cNm C) ic E ["java/lang/RuntimeException", "java/lang/Exception"], vx_ot w = true)) N _ hf (fun k hk ic E hq => ?_) (fun k hk ic E hq => ?_)
    · unfold z_kck at hk
      rw [hq] at hk
      simp only [Bool.and_eq_true, Bool.or_eq_true, decide_eq_true_eq] at hk
      obtain ⟨⟨⟨⟨⟨h1, h2⟩, h3⟩, h4⟩, h5⟩, h6⟩ := hk
      refine ⟨h1, z_memT h2, z_memT h3, fun w hw => ?_, h5, fun w hw => List.all_eq_true.mp h6 w hw⟩
      exact z_memT (List.all_eq_true.mp h4 w hw)
    · rw [hb k hk] at hq; cases hq
/-- constants -/
def z_qck (ix : Nat → Nat) (C : z_CT) (k : Nat) : Bool := match z_cQ C k with
  | some (.inl v) => z_m1 (ix k) (.constant (z_cNm C) k v)
  | some (.inr (.inl v)) => z_m1 (ix k) (.constantLong (z_cNm C) k v)
  | _ => true
theorem z_QVof {C : z_CT} (ix : Nat → Nat) (N : Nat) (hf : (List.range N).all (z_qck ix C) = true) (hb : ∀ k, N ≤ k → z_cQ C k = none) : (∀ k v, z_cQ C k = some (.inl v) → Cond.constant (z_cNm C) k v ∈ z_gt) ∧ (∀ k v, z_cQ C k = some (.inr (.inl v)) → Cond.constantLong (z_cNm C) k v ∈ z_gt) := by
  constructor
  · refine z_rng (P := fun k => ∀ v, z_cQ C k = some (.inl v) → Cond.constant (z_cNm C) k v ∈ z_gt) N _ hf (fun k hk q hq => ?_) (fun k hk q hq => ?_)
    · unfold z_qck at hk
      rw [hq] at hk
      exact z_m1T hk
    · rw [hb k hk] at hq; cases hq
  · refine z_rng (P := fun k => ∀ v, z_cQ C k = some (.inr (.inl v)) → Cond.constantLong (z_cNm C) k v ∈ z_gt) N _ hf (fun k hk q hq => ?_) (fun k hk q hq => ?_)
    · unfold z_qck at hk
      rw [hq] at hk
      exact z_m1T hk
    · rw [hb k hk] at hq; cases hq
/-- methods -/
def z_mck1 (is : List Nat) (own : String) (k : Nat) (e : z_ME) : Bool := match e.1 with
  | 0 | 10 => (match vwCl[e.2.2.2]? with
    | none => false
    | some rr => decide (e.2.1.1.cls = rr.1) && z_mz is [.methodLink own k e.2.1.1, .instanceMethod e.2.1.1, .selects rr.1 e.2.1.1 e.2.1.1, .initialized rr.1, .code e.2.1.1 e.2.1.2.1 e.2.1.2.2.1 e.2.1.2.2.2.1]) && decide (e.2.1.2.2.2.2 = []) && decide (e.2.1.1.cls ≠ "java/lang/invoke/MethodHandle" ∧ e.2.1.1.cls ≠ "java/lang/invoke/VarHandle") && decide ((parseMethodDescriptor e.2.1.1.desc).map (fun d => d.parameters.length) = some e.2.2.1) && Nat.ble e.2.1.2.2.1 41
  | 1 | 11 => z_mz is [.methodLink own k e.2.1.1, .static e.2.1.1, .initialized e.2.1.1.cls, .code e.2.1.1 e.2.1.2.1 e.2.1.2.2.1 e.2.1.2.2.2.1] && decide (e.2.1.2.2.2.2 = []) && decide (e.2.1.1.cls ≠ "java/lang/invoke/MethodHandle" ∧ e.2.1.1.cls ≠ "java/lang/invoke/VarHandle") && decide ((parseMethodDescriptor e.2.1.1.desc).map (fun d => d.parameters.length) = some e.2.2.1) && Nat.ble e.2.1.2.2.1 41
  | 7 => z_mz is [.methodLink own k e.2.1.1, .instanceMethod e.2.1.1, .selects "java/lang/String" e.2.1.1 e.2.1.1, .initialized "java/lang/String", .code e.2.1.1 e.2.1.2.1 e.2.1.2.2.1 e.2.1.2.2.2.1] && decide (e.2.1.1.cls = "java/lang/String") && decide (e.2.1.2.2.2.2 = []) && decide (e.2.1.1.cls ≠ "java/lang/invoke/MethodHandle" ∧ e.2.1.1.cls ≠ "java/lang/invoke/VarHandle") && decide ((parseMethodDescriptor e.2.1.1.desc).map (fun d => d.parameters.length) = some e.2.2.1) && Nat.ble e.2.1.2.2.1 41
  | 12 => z_mz is [.methodLink own k e.2.1.1, .static e.2.1.1, .initialized e.2.1.1.cls, .codeWith e.2.1.1 e.2.1.2.1 e.2.1.2.2.1 e.2.1.2.2.2.1 e.2.1.2.2.2.2] && decide (e.2.1.2.2.2.2 ≠ []) && decide (e.2.1.1.cls ≠ "java/lang/invoke/MethodHandle" ∧ e.2.1.1.cls ≠ "java/lang/invoke/VarHandle") && decide ((parseMethodDescriptor e.2.1.1.desc).map (fun d => d.parameters.length) = some e.2.2.1) && Nat.ble e.2.1.2.2.1 41
  | 2 => z_mz is [.methodLink own k e.2.1.1, .instanceMethod e.2.1.1, .initialized e.2.1.1.cls, .code e.2.1.1 e.2.1.2.1 e.2.1.2.2.1 none] && decide (e.2.1.2.2.2.2 = []) && decide (e.2.1.2.2.2.1 = none) && decide (e.2.1.1.name = "<init>") && decide (e.2.1.1.cls ≠ "java/lang/invoke/MethodHandle" ∧ e.2.1.1.cls ≠ "java/lang/invoke/VarHandle") && decide ((parseMethodDescriptor e.2.1.1.desc).map (fun d => d.parameters.length) = some e.2.2.1) && Nat.ble e.2.1.2.2.1 41
  | 3 => z_mz is [.instanceMethod e.2.1.1, .initialized e.2.1.1.cls, .code e.2.1.1 e.2.1.2.1 e.2.1.2.2.1 none] && decide (Cond.methodLinkNest own k e.2.1.1 RX11 ∈ z_xN) && decide (e.2.1.2.2.2.2 = []) && decide (e.2.1.2.2.2.1 = none) && decide (e.2.1.1.name = "<init>") && decide (e.2.1.1.cls ≠ "java/lang/invoke/MethodHandle" ∧ e.2.1.1.cls ≠ "java/lang/invoke/VarHandle") && decide ((parseMethodDescriptor e.2.1.1.desc).map (fun d => d.parameters.length) = some e.2.2.1) && Nat.ble e.2.1.2.2.1 41
  | 4 => z_mz is [.methodLink own k objectInit, .instanceMethod objectInit, .code objectInit ⟨#[0xb1]⟩ 1 none]
  | 5 => z_mz is [.methodLink own k arraycopyName, .native arraycopyName, .static arraycopyName, .initialized "java/lang/System"]
  | 6 => z_mz is [.methodLink own k ⟨"[I", "clone", "()Ljava/lang/Object;"⟩, .sameMethod "[I" "java/lang/Object" "clone" "()Ljava/lang/Object;", .native ⟨"java/lang/Object", "clone", "()Ljava/lang/Object;"⟩, .instanceMethod ⟨"java/lang/Object", "clone", "()Ljava/lang/Object;"⟩, .selects "[I" ⟨"[I", "clone", "()Ljava/lang/Object;"⟩ ⟨"java/lang/Object", "clone", "()Ljava/lang/Object;"⟩]
  | _ => true
def z_mck (ix : Nat → List Nat) (C : z_CT) (k : Nat) : Bool := match z_cM C k with
  | none => true
  | some e => z_mck1 (ix k) (z_cNm C) k e
theorem z_allm {ws : List Cond} (h : ws.all z_mem = true) : ∀ w ∈ ws, w ∈ z_gt := fun w hw => z_memT (List.all_eq_true.mp h w hw)
theorem z_MV1of {is : List Nat} {own : String} {k : Nat} {e : z_ME} (h : z_mck1 is own k e = true) : z_MV1 own k e := by
  obtain ⟨kd, κ, n, ci⟩ := e
  unfold z_mck1 at h
  unfold z_MV1
  dsimp only at h ⊢
  split at h
  · simp only [Bool.and_eq_true, decide_eq_true_eq] at h
    obtain ⟨⟨⟨⟨h1, h2⟩, h3⟩, h4⟩, h5⟩ := h
    split at h1
    · cases h1
    · rename_i rr hr
      simp only [Bool.and_eq_true, decide_eq_true_eq] at h1
      exact ⟨⟨rr, hr, h1.1, z_mzT h1.2⟩, h2, h3, h4, Nat.le_of_ble_eq_true h5⟩
  · simp only [Bool.and_eq_true, decide_eq_true_eq] at h
    obtain ⟨⟨⟨⟨h1, h2⟩, h3⟩, h4⟩, h5⟩ := h
    split at h1
    · cases h1
    · rename_i rr hr
      simp only [Bool.and_eq_true, decide_eq_true_eq] at h1
      exact ⟨⟨rr, hr, h1.1, z_mzT h1.2⟩, h2, h3, h4, Nat.le_of_ble_eq_true h5⟩
  · simp only [Bool.and_eq_true, decide_eq_true_eq] at h
    obtain ⟨⟨⟨⟨h1, h2⟩, h3⟩, h4⟩, h5⟩ := h
    exact ⟨z_mzT h1, h2, h3, h4, Nat.le_of_ble_eq_true h5⟩
  · simp only [Bool.and_eq_true, decide_eq_true_eq] at h
    obtain ⟨⟨⟨⟨h1, h2⟩, h3⟩, h4⟩, h5⟩ := h
    exact ⟨z_mzT h1, h2, h3, h4, Nat.le_of_ble_eq_true h5⟩
  · simp only [Bool.and_eq_true, decide_eq_true_eq] at h
    obtain ⟨⟨⟨⟨⟨h1, h2⟩, h3⟩, h4⟩, h5⟩, h6⟩ := h
    exact ⟨z_mzT h1, h2, h3, h4, h5, Nat.le_of_ble_eq_true h6⟩
  · simp only [Bool.and_eq_true, decide_eq_true_eq] at h
    obtain ⟨⟨⟨⟨h1, h2⟩, h3⟩, h4⟩, h5⟩ := h
    exact ⟨z_mzT h1, h2, h3, h4, Nat.le_of_ble_eq_true h5⟩
  · simp only [Bool.and_eq_true, decide_eq_true_eq] at h
    obtain ⟨⟨⟨⟨⟨⟨h1, h2⟩, h3⟩, h4⟩, h5⟩, h6⟩, h7⟩ := h
    exact ⟨z_mzT h1, h2, h3, h4, h5, h6, Nat.le_of_ble_eq_true h7⟩
  · simp only [Bool.and_eq_true, decide_eq_true_eq] at h
    obtain ⟨⟨⟨⟨⟨⟨⟨h1, h2⟩, h3⟩, h4⟩, h5⟩, h6⟩, h7⟩, h8⟩ := h
    exact ⟨z_mzT h1, h2, h3, h4, h5, h6, h7, Nat.le_of_ble_eq_true h8⟩
  · exact z_mzT h
  · exact z_mzT h
  · exact z_mzT h
  · split
    all_goals first | trivial | contradiction
theorem z_MVof {C : z_CT} (ix : Nat → List Nat) (N : Nat) (hf : (List.range N).all (z_mck ix C) = true) (hb : ∀ k, N ≤ k → z_cM C k = none) : z_MV C := by
  refine z_rng (P := fun k => ∀ e, z_cM C k = some e → z_MV1 (z_cNm C) k e) N _ hf (fun k hk q hq => ?_) (fun k hk q hq => ?_)
  · unfold z_mck at hk
    rw [hq] at hk
    exact z_MV1of hk
  · rw [hb k hk] at hq; cases hq
def z_sck (C : z_CT) (k : Nat) : Bool := match z_cQ C k with
  | some (.inr (.inr s)) => z_strs.any (fun q => decide (q.1 = z_cNm C) && Nat.beq q.2.1 k && Nat.beq q.2.2.1 s)
  | _ => true
theorem z_SVof {C : z_CT} (N : Nat) (hf : (List.range N).all (z_sck C) = true) (hb : ∀ k, N ≤ k → z_cQ C k = none) : z_SV C := by
  refine z_rng (P := fun k => ∀ s, z_cQ C k = some (.inr (.inr s)) → ∃ tx, (z_cNm C, k, s, tx) ∈ z_strs) N _ hf (fun k hk s hq => ?_) (fun k hk s hq => ?_)
  · unfold z_sck at hk
    rw [hq] at hk
    simp only [List.any_eq_true, Bool.and_eq_true, decide_eq_true_eq] at hk
    obtain ⟨⟨a, b, c, tx⟩, hm, ⟨h1, h2⟩, h3⟩ := hk
    have h2 := Nat.eq_of_beq_eq_true h2
    have h3 := Nat.eq_of_beq_eq_true h3
    dsimp only at h1 h2 h3
    subst h2; subst h3
    rw [← h1]
    exact ⟨tx, hm⟩
  · rw [hb k hk] at hq; cases hq
