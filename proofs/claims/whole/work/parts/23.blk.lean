section BLK
variable {G : z_G} {d : Nat} {μ : z_M} {r : z_Res} {pc : Nat} {lc lc' : List (Option Value)} {st : List Value} {h : z_H}
/-- what is no longer needed of the locals is forgotten -/
def z_msk : List Bool → List (Option Value) → List (Option Value)
  | b :: bs, x :: xs => cond b x none :: z_msk bs xs
  | _, xs => xs
theorem z_msk_len : ∀ (bs : List Bool) (xs : List (Option Value)), (z_msk bs xs).length = xs.length
  | [], xs => by cases xs <;> rfl
  | _ :: _, [] => rfl
  | b :: bs, x :: xs => by simp [z_msk, z_msk_len bs xs]
theorem z_msk_get : ∀ (bs : List Bool) (xs : List (Option Value)) (i : Nat) (v : Value), z_lg (z_msk bs xs) i = some v → z_lg xs i = some v
  | [], xs, i, v, h => by cases xs <;> exact h
  | _ :: _, [], i, v, h => h
  | b :: bs, x :: xs, 0, v, h => by
    cases b with
    | true => exact h
    | false => cases h
  | b :: bs, x :: xs, i + 1, v, h => z_msk_get bs xs i v h
theorem z_J_forget (hl : lc'.length = lc.length) (hg : ∀ i v, z_lg lc' i = some v → z_lg lc i = some v) (k : z_J G d μ r pc lc' st h) : z_J G d μ r pc lc st h :=
  ⟨k.1, fun p e R s m args below meth c X H locs cells slots mc ms ls hr hn => k.2 p e R s m args below meth c X H locs cells slots mc ms ls ⟨hr.1.trans hl.symm, hr.2.1, fun i v q => hr.2.2 i v (hg i v q)⟩ (hl.trans hn)⟩
/-- up to the next head, whose mask says what is kept -/
def z_wq (G : z_G) (μ : z_M) (E : z_E) (r : z_Res) (hd : Nat → Option (List Bool)) (J : z_K) : Nat → z_K
  | 0 => fun _ _ _ _ => False
  | k + 1 => fun pc lc st h => match hd pc with
    | some bm => J pc (z_msk bm lc) st h
    | none => z_ex G μ E r (z_wq G μ E r hd J k) pc lc st h
theorem z_wqS (hV : z_V G d μ) {hd : Nat → Option (List Bool)} : ∀ (k pc : Nat) (lc : List (Option Value)) (st : List Value) (h : z_H), z_wq G μ (z_Ev G d) r hd (z_J G (d + 1) μ r) k pc lc st h → z_J G (d + 1) μ r pc lc st h := by
  intro k
  induction k with
  | zero => intro pc lc st h hx; exact hx.elim
  | succ k ih =>
    intro pc lc st h hx
    unfold z_wq at hx
    split at hx
    · exact z_J_forget (z_msk_len _ _) (z_msk_get _ _) hx
    · exact z_step hV ih hx
theorem z_bq (hV : z_V G d μ) (hd : Nat → Option (List Bool)) (k : Nat) (hx : z_ex G μ (z_Ev G d) r (z_wq G μ (z_Ev G d) r hd (z_J G (d + 1) μ r) k) pc lc st h) : z_J G (d + 1) μ r pc lc st h :=
  z_step hV (z_wqS hV k) hx
end BLK
/-! a class whose name stands in the table of natives -/
theorem z_ofWF {l : Launch} {y : MethodName} {ws ws' : List Cond} {rm : Room} {Pc : Array Value → State → Prop} {Qc : Array Value → State → Outcome → State → Prop} {XC : String → State → State → Prop} {mc ms : Nat} {free : Addr → Prop} {cc : ByteArray} {maxL : Nat} {ret : Option FieldType}
    (hy : plainFor y = true) (hw : ws = Cond.code y cc maxL ret :: ws')
    (body : ∀ p e s m args below meth c s₁, BodyLoose p l y (headSpec ws rm) cc maxL ret e s m args below meth c s₁ → c.maxLocals = maxL → (∀ x ∈ c.exceptionTable.toList, False) → Pc args s →
      W p l e (headSpec ws rm).room s m args below meth c s.heap [] 0 0 (vx_MQ below Qc XC args s mc ms free) (entryFrame m args maxL)) : vx_Met l y ws rm Pc Qc XC mc ms free := by
  refine MetFree.of_bodySF (code := cc) (maxLocals := maxL) (ret := ret) hy ?_ ?_
  · intro args s m h hn
    obtain ⟨meth, c, h1, h2, h3, h4, h5, h6, -, -⟩ := Cond.code_spec hn (atoms_spec (ws := ws) h _ (by rw [hw]; exact List.mem_cons_self))
    exact ⟨meth, c, h1, h2, h3, h4, h5, h6⟩
  · intro p e s m args below meth c s₁ B hml hP _
    have hh0 : s₁.heap = s.heap := by rw [B.state]; rfl
    have ht : ∀ x ∈ c.exceptionTable.toList, False := by
      obtain ⟨meth9, c9, h1, h2, -, -, -, -, h7, -⟩ := Cond.code_spec B.named (atoms_spec (ws := ws) B.pre _ (by rw [hw]; exact List.mem_cons_self))
      cases Option.some.inj (h1.symm.trans B.method)
      cases Option.some.inj (h2.symm.trans (Stand.of_body B).code)
      intro x hx
      rw [Array.isEmpty_iff.mp h7] at hx
      cases hx
    obtain ⟨t, a1, o, b1, b2, b3⟩ := body p e s m args below meth c s₁ B hml ht hP s₁ hh0 (Stand.of_body B)
    exact ⟨t, o, a1, b1, b2, b3⟩
/-- (by the natives' table) A METHOD'S CONTRACT out of the walk from its entry -/
theorem z_enterF {G : z_G} {d : Nat} {μ : z_M} {r : z_Res} {h : z_H} {κ : z_Key} {As : List Value} (hμ : μ.1 = κ) (hpl : plainFor κ.1 = true) (hh : κ.2.2.2.2 = []) (hcn : z_cNm μ.2.2.1 = κ.1.cls) (hini : μ.2.1 = true → κ.1.name = "<init>") (hlen : (lg_sl As).length ≤ κ.2.2.1)
    (hJ : z_J G d μ r 0 (z_en κ.2.2.1 As) [] h) : z_Ev G d κ As h r := by
  subst hμ
  have hwz : z_w μ.1 = .code μ.1.1 μ.1.2.1 μ.1.2.2.1 μ.1.2.2.2.1 := by unfold z_w; rw [if_pos hh]
  refine ⟨hJ.1, ?_⟩
  rw [hwz]
  refine z_ofWF (cc := μ.1.2.1) (maxL := μ.1.2.2.1) (ret := μ.1.2.2.2.1) hpl rfl ?_
  intro p e s m args below meth c s₁ B hml hex hv
  obtain ⟨rfl, hR, hK, hX, hB⟩ := hv
  have hts0 := atoms_spec (ws := Cond.code μ.1.1 μ.1.2.1 μ.1.2.2.1 μ.1.2.2.2.1 :: z_gt) B.pre
  have hr1 : z_c r.2 ≤ z_rcC r := by unfold z_rcC; split <;> omega
  have hr2 : z_s r.2 ≤ z_rcS r := by unfold z_rcS; split <;> omega
  have hj1 := hJ.1
  rw [lg_entry_eq]
  refine hJ.2 p e _ s m _ below meth c ?_ s.heap [] 0 0 _ _ _ (z_en_lr As _ hlen) (z_en_len As _ hlen) hR va_S.rf (by omega) (by omega) (Nat.le_refl _) (Nat.le_refl _)
  exact ⟨B.exec, B.bytes, hml, B.returns, by rw [hcn]; exact findClass_of_methodNamed B.named, B.notSynchronized, fun q => (name_of_methodNamed B.named B.method).1.trans (hini q), fun w hw => hts0 w (List.mem_cons_of_mem _ hw), hK, hX, hB, fun x hx => hex x hx, Nat.le_refl _, Nat.le_refl _⟩
