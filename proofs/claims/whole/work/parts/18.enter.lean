section ENTER
variable {G : z_G} {d : Nat} {μ : z_M} {r ρ : z_Res} {h : z_H}
theorem z_lg_rep (n i : Nat) (v : Value) : z_lg (List.replicate n none) i ≠ some v := by
  induction n generalizing i with
  | zero => intro q; cases q
  | succ n ih =>
    intro q
    cases i with
    | zero => cases q
    | succ i => exact ih i q
theorem z_en_mem : ∀ (As : List Value) (n k i : Nat) (v : Value), z_lg (z_en n As) i = some v → (k + i, v) ∈ lv_args k As := by
  intro As
  induction As with
  | nil => intro n k i v q; exact absurd q (z_lg_rep n i v)
  | cons w t ih =>
    intro n k i v q
    have one : ∀ (n' : Nat), w.category = 1 → z_lg (some w :: z_en n' t) i = some v → (k + i, v) ∈ lv_args k (w :: t) := by
      intro n' hw q
      cases i with
      | zero =>
        cases q
        simp [lv_args]
      | succ i =>
        have := ih n' (k + 1) i v q
        simp only [lv_args, hw]
        refine List.mem_cons_of_mem _ ?_
        rw [show k + (i + 1) = k + 1 + i by omega]
        simpa using this
    have two : ∀ (n' : Nat), w.category = 2 → z_lg (some w :: none :: z_en n' t) i = some v → (k + i, v) ∈ lv_args k (w :: t) := by
      intro n' hw q
      cases i with
      | zero =>
        cases q
        simp [lv_args]
      | succ i =>
        cases i with
        | zero => cases q
        | succ i =>
          have := ih n' (k + 2) i v q
          simp only [lv_args, hw]
          refine List.mem_cons_of_mem _ ?_
          rw [show k + (i + 1 + 1) = k + 2 + i by omega]
          simpa using this
    cases w with
    | long x => exact two _ rfl q
    | double x => exact two _ rfl q
    | int x => exact one _ rfl q
    | float x => exact one _ rfl q
    | null => exact one _ rfl q
    | ref x => exact one _ rfl q
    | retAddr x => exact one _ rfl q
theorem z_en_len : ∀ (As : List Value) (n : Nat), (lg_sl As).length ≤ n → (z_en n As).length = n := by
  intro As
  induction As with
  | nil => intro n _; simp [z_en]
  | cons w t ih =>
    intro n hn
    have e : lg_sl (w :: t) = (if w.category = 2 then [.val w, .second] else [.val w]) ++ lg_sl t := by simp [lg_sl]
    rw [e] at hn
    cases w <;> simp [Value.category] at hn <;> simp only [z_en, List.length_cons] <;> rw [ih _ (by omega)] <;> omega
theorem z_en_lr (As : List Value) (n : Nat) (hn : (lg_sl As).length ≤ n) : z_lr (z_en n As) ((lg_sl As ++ List.replicate (n - (lg_sl As).length) Slot.unset).toArray) := by
  obtain ⟨h1, h2, h3⟩ := lv_entry As hn
  refine ⟨by rw [h1, z_en_len As n hn], h2, fun i v q => ?_⟩
  have := z_en_mem As n 0 i v q
  rw [Nat.zero_add] at this
  exact h3 (i, v) this
/-- A METHOD'S CONTRACT out of the walk from its entry -/
theorem z_enter {κ : z_Key} {As : List Value} (hμ : μ.1 = κ) (hpl : plainName κ.1.cls = true) (hh : κ.2.2.2.2 = []) (hcn : z_cNm μ.2.2.1 = κ.1.cls) (hini : μ.2.1 = true → κ.1.name = "<init>") (hlen : (lg_sl As).length ≤ κ.2.2.1)
    (hJ : z_J G d μ r 0 (z_en κ.2.2.1 As) [] h) : z_Ev G d κ As h r := by
  subst hμ
  have hwz : z_w μ.1 = .code μ.1.1 μ.1.2.1 μ.1.2.2.1 μ.1.2.2.2.1 := by unfold z_w; rw [if_pos hh]
  refine ⟨hJ.1, ?_⟩
  rw [hwz]
  refine vx_ofW (cc := μ.1.2.1) (maxL := μ.1.2.2.1) (ret := μ.1.2.2.2.1) hpl rfl ?_
  intro p e s m args below meth c s₁ B hml hex hv
  obtain ⟨rfl, hR, hK, hX, hB⟩ := hv
  have hts0 := atoms_spec (ws := Cond.code μ.1.1 μ.1.2.1 μ.1.2.2.1 μ.1.2.2.2.1 :: z_gt) B.pre
  have hr1 : z_c r.2 ≤ z_rcC r := by unfold z_rcC; split <;> omega
  have hr2 : z_s r.2 ≤ z_rcS r := by unfold z_rcS; split <;> omega
  have hj1 := hJ.1
  rw [lg_entry_eq]
  refine hJ.2 p e _ s m _ below meth c ?_ s.heap [] 0 0 _ _ _ (z_en_lr As _ hlen) (z_en_len As _ hlen) hR va_S.rf (by omega) (by omega) (Nat.le_refl _) (Nat.le_refl _)
  exact ⟨B.exec, B.bytes, hml, B.returns, by rw [hcn]; exact findClass_of_methodNamed B.named, B.notSynchronized, fun q => (name_of_methodNamed B.named B.method).1.trans (hini q), fun w hw => hts0 w (List.mem_cons_of_mem _ hw), hK, hX, hB, fun x hx => hex x hx, Nat.le_refl _, Nat.le_refl _⟩
/-- deeper room is room -/
theorem z_J_mono {d' : Nat} (hd : d ≤ d') {pc : Nat} {lc : List (Option Value)} {st : List Value} (hJ : z_J G d μ r pc lc st h) : z_J G d' μ r pc lc st h := by
  refine ⟨hJ.1, fun p e R s m args below meth c X => hJ.2 p e R s m args below meth c ?_⟩
  obtain ⟨x1, x2, x3, x4, x5, x6, x7, x8, x9, x10, x11, x12, x13, x14⟩ := X
  exact ⟨x1, x2, x3, x4, x5, x6, x7, x8, x9, x10, x11, x12, by omega, by omega⟩
end ENTER
