section CALLS2
variable {G : z_G} {d : Nat} {μ : z_M} {r ρ : z_Res} {pc pc' len : Nat} {lc : List (Option Value)} {st st' rest : List Value} {h h' : z_H} {c : z_K} {i : Instr}
/-- the end of a method -/
theorem z_ret {v : Option Value} (hr : r = (.inl v, h))
    (hw : ∀ (p : Program) (e : Env) (R : Room) (s : State) (m : MethodId) (args : Array Value) (below : List Frame) (meth : Method) (c : Code) (H : Heap) (locs : List Loc) (cells slots : Nat) (ls : Array Slot), z_Cx G d μ p R s m args meth c → (∀ t : State, t.heap = H → s.WarmedH t.vm → z_Qc G r args s (.returned v) t) → (∀ q ∈ locs, z_A G q.base) →
      W p (z_l G) e R s m args below meth c H locs cells slots (MQ below (z_Qc G r) args s cells slots (z_A G)) (F0 m pc ls st)) : z_J G d μ r pc lc st h := by
  subst hr
  refine ⟨⟨Nat.le_refl _, Nat.le_refl _⟩, fun p e R s m args below meth c X H locs cells slots mc ms ls hl hn hR hS h1 h2 h3 h4 => ?_⟩
  have h1 : cells + z_c h ≤ mc + z_c h := h1
  have h2 : slots + z_s h ≤ ms + z_s h := h2
  refine vx_ret (W.widen (k := mc) (n := ms) (by omega) (by omega) ?_)
  exact hw p e R s m args below meth c H locs mc ms ls X (fun t ht hW => ⟨v, rfl, rfl, by rw [ht]; exact hR, hS.F ht⟩) (fun q hq => hS.2.2 q hq)
theorem z_argsT : ∀ {n : Nat} {st acc : List Value} {K : List Value → List Value → Prop}, z_args n st acc K → ∃ As t, As.length = n ∧ st = As.reverse ++ t ∧ K (As ++ acc) t
  | 0, st, acc, K, h => ⟨[], st, rfl, rfl, h⟩
  | n + 1, [], acc, K, h => h.elim
  | n + 1, v :: t, acc, K, h => by
    obtain ⟨As, t', h1, h2, h3⟩ := z_argsT (n := n) (st := t) (acc := v :: acc) h
    refine ⟨As ++ [v], t', by simp [h1], by simp [h2], ?_⟩
    simpa using h3
theorem z_backT {ret : Option FieldType} {Er : (Option Value ⊕ String) → z_H → Prop} {c : List Value → z_H → Prop} (hb : z_back ret Er c) : ∃ v h1, Er (.inl v) h1 ∧ c v.toList h1 := by
  unfold z_back at hb
  split at hb
  · obtain ⟨h1, a, b⟩ := hb
    exact ⟨none, h1, a, b⟩
  · obtain ⟨x, h1, a, b⟩ := hb
    exact ⟨_, h1, a, b⟩
  · obtain ⟨o, h1, a, b⟩ := hb
    refine ⟨_, h1, a, ?_⟩
    cases o with
    | none => exact b
    | some x => exact b
  · obtain ⟨o, h1, a, b⟩ := hb
    refine ⟨_, h1, a, ?_⟩
    cases o with
    | none => exact b
    | some x => exact b
  · exact hb.elim
  · exact hb.elim
  · obtain ⟨x, h1, a, b⟩ := hb
    exact ⟨_, h1, a, b⟩
theorem z_callT {thr : Bool} {ret : Option FieldType} {Er : (Option Value ⊕ String) → z_H → Prop} {c : List Value → z_H → Prop} (hb : z_call thr r ret Er c) : (∃ v h1, Er (.inl v) h1 ∧ c v.toList h1) ∨ ∃ e h1, Er (.inr e) h1 ∧ r = (.inr e, h1) := by
  unfold z_call at hb
  cases thr with
  | false => exact Or.inl (z_backT hb)
  | true =>
    rcases hb with hb | hb
    · exact Or.inl (z_backT hb)
    · exact Or.inr hb
/-- a class's methods: the words that a call needs -/
def z_MV1 (own : String) (k : Nat) (e : z_ME) : Prop := match e.1 with
  | 0 | 10 => (∃ rr, vwCl[e.2.2.2]? = some rr ∧ e.2.1.1.cls = rr.1 ∧ ∀ w ∈ ([.methodLink own k e.2.1.1, .instanceMethod e.2.1.1, .selects rr.1 e.2.1.1 e.2.1.1, .initialized rr.1, .code e.2.1.1 e.2.1.2.1 e.2.1.2.2.1 e.2.1.2.2.2.1] : List Cond), w ∈ z_gt) ∧ e.2.1.2.2.2.2 = [] ∧ z_mh e.2.1.1 ∧ (parseMethodDescriptor e.2.1.1.desc).map (fun d => d.parameters.length) = some e.2.2.1 ∧ e.2.1.2.2.1 ≤ 41
  | 1 | 11 => (∀ w ∈ ([.methodLink own k e.2.1.1, .static e.2.1.1, .initialized e.2.1.1.cls, .code e.2.1.1 e.2.1.2.1 e.2.1.2.2.1 e.2.1.2.2.2.1] : List Cond), w ∈ z_gt) ∧ e.2.1.2.2.2.2 = [] ∧ z_mh e.2.1.1 ∧ (parseMethodDescriptor e.2.1.1.desc).map (fun d => d.parameters.length) = some e.2.2.1 ∧ e.2.1.2.2.1 ≤ 41
  | 7 => (∀ w ∈ ([.methodLink own k e.2.1.1, .instanceMethod e.2.1.1, .selects "java/lang/String" e.2.1.1 e.2.1.1, .initialized "java/lang/String", .code e.2.1.1 e.2.1.2.1 e.2.1.2.2.1 e.2.1.2.2.2.1] : List Cond), w ∈ z_gt) ∧ e.2.1.1.cls = "java/lang/String" ∧ e.2.1.2.2.2.2 = [] ∧ z_mh e.2.1.1 ∧ (parseMethodDescriptor e.2.1.1.desc).map (fun d => d.parameters.length) = some e.2.2.1 ∧ e.2.1.2.2.1 ≤ 41
  | 12 => (∀ w ∈ ([.methodLink own k e.2.1.1, .static e.2.1.1, .initialized e.2.1.1.cls, .codeWith e.2.1.1 e.2.1.2.1 e.2.1.2.2.1 e.2.1.2.2.2.1 e.2.1.2.2.2.2] : List Cond), w ∈ z_gt) ∧ e.2.1.2.2.2.2 ≠ [] ∧ z_mh e.2.1.1 ∧ (parseMethodDescriptor e.2.1.1.desc).map (fun d => d.parameters.length) = some e.2.2.1 ∧ e.2.1.2.2.1 ≤ 41
  | 2 => (∀ w ∈ ([.methodLink own k e.2.1.1, .instanceMethod e.2.1.1, .initialized e.2.1.1.cls, .code e.2.1.1 e.2.1.2.1 e.2.1.2.2.1 none] : List Cond), w ∈ z_gt) ∧ e.2.1.2.2.2.2 = [] ∧ e.2.1.2.2.2.1 = none ∧ e.2.1.1.name = "<init>" ∧ z_mh e.2.1.1 ∧ (parseMethodDescriptor e.2.1.1.desc).map (fun d => d.parameters.length) = some e.2.2.1 ∧ e.2.1.2.2.1 ≤ 41
  | 3 => (∀ w ∈ ([.instanceMethod e.2.1.1, .initialized e.2.1.1.cls, .code e.2.1.1 e.2.1.2.1 e.2.1.2.2.1 none] : List Cond), w ∈ z_gt) ∧ Cond.methodLinkNest own k e.2.1.1 RX11 ∈ z_xN ∧ e.2.1.2.2.2.2 = [] ∧ e.2.1.2.2.2.1 = none ∧ e.2.1.1.name = "<init>" ∧ z_mh e.2.1.1 ∧ (parseMethodDescriptor e.2.1.1.desc).map (fun d => d.parameters.length) = some e.2.2.1 ∧ e.2.1.2.2.1 ≤ 41
  | 4 => ∀ w ∈ ([.methodLink own k objectInit, .instanceMethod objectInit, .code objectInit ⟨#[0xb1]⟩ 1 none] : List Cond), w ∈ z_gt
  | 5 => ∀ w ∈ ([.methodLink own k arraycopyName, .native arraycopyName, .static arraycopyName, .initialized "java/lang/System"] : List Cond), w ∈ z_gt
  | 6 => ∀ w ∈ ([.methodLink own k ⟨"[I", "clone", "()Ljava/lang/Object;"⟩, .sameMethod "[I" "java/lang/Object" "clone" "()Ljava/lang/Object;", .native ⟨"java/lang/Object", "clone", "()Ljava/lang/Object;"⟩, .instanceMethod ⟨"java/lang/Object", "clone", "()Ljava/lang/Object;"⟩, .selects "[I" ⟨"[I", "clone", "()Ljava/lang/Object;"⟩ ⟨"java/lang/Object", "clone", "()Ljava/lang/Object;"⟩] : List Cond), w ∈ z_gt
  | _ => True
def z_MV (C : z_CT) : Prop := ∀ k e, z_cM C k = some e → z_MV1 (z_cNm C) k e
/-- what the table of pure callees says -/
def z_PuV (G : z_G) (d : Nat) (C : z_CT) : Prop := ∀ k S f e, z_cP C k = some (S, f) → z_cM C k = some e → ∀ As h, S As h → z_Ev G d e.2.1 As h (.inl (some (.int (f As h))), h)
/-- texts in a class's constants -/
def z_strs : List (String × Nat × Nat × String) := [(RX7, 129, 0, "points"), (RX7, 134, 1, "line"), (RX7, 136, 2, "at"), (RX12, 174, 3, "points"), (RX12, 183, 4, "line"), (RX12, 188, 5, "at")]
def z_SV (C : z_CT) : Prop := ∀ k s, z_cQ C k = some (.inr (.inr s)) → ∃ tx, (z_cNm C, k, s, tx) ∈ z_strs
theorem z_ldcS {k s : Nat} {tx : String} (hm : (z_cNm μ.2.2.1, k, s, tx) ∈ z_strs) (hd : decode μ.1.2.1 pc = .ok (.ldc k, 2)) (kk : z_J G d μ r (pc + 2) lc (.ref (z_sad G s) :: st) h) : z_J G d μ r pc lc st h := by
  refine z_rd (fun p e R s0 m args below meth c H locs cells slots ls Q X hR hS kk => ?_) kk
  have hX := (z_Xs X).2.1
  have hown := X.2.2.2.2.1
  simp only [z_strs, List.mem_cons, List.not_mem_nil, or_false, Prod.mk.injEq] at hm
  rcases hm with ⟨e1, rfl, rfl, rfl⟩ | ⟨e1, rfl, rfl, rfl⟩ | ⟨e1, rfl, rfl, rfl⟩ | ⟨e1, rfl, rfl, rfl⟩ | ⟨e1, rfl, rfl, rfl⟩ | ⟨e1, rfl, rfl, rfl⟩ <;> rw [e1] at hown
  · exact va_ldcS X.1 X.2.1 hown hX.1 hd kk
  · exact va_ldcS X.1 X.2.1 hown hX.2.1 hd kk
  · exact va_ldcS X.1 X.2.1 hown hX.2.2.1 hd kk
  · exact va_ldcS X.1 X.2.1 hown hX.2.2.2.1 hd kk
  · exact va_ldcS X.1 X.2.1 hown hX.2.2.2.2.1 hd kk
  · exact va_ldcS X.1 X.2.1 hown hX.2.2.2.2.2 hd kk
/-- a cell of ints is copied from another one, and the copy of a row -/
theorem z_pax_R {H H' : Heap} {a : Nat} {f : Nat → Int32} (hR : z_R G h H) (hk : z_kd h a = 1) (e : H'[a]? = some (vp_cell (z_cid G 1) (z_ln h a, .inl f))) (hz : H'.size = H.size) (ho : ∀ q : Nat, q ≠ a → H'[q]? = H[q]?) : z_R G (z_pax h a f) H' := by
  refine z_R_upd hR rfl rfl (fun q hq => ⟨rfl, rfl, rfl, rfl, z_u_ne _ _ hq, rfl, rfl⟩) hz ho (z_ok_i (Or.inl rfl) hk ?_)
  rw [e]
  show _ = some (vp_cell _ (z_ln h a, .inl (z_u (z_ai h) a f a)))
  rw [z_u_eq]
theorem z_plx_R {H H' : Heap} {a : Nat} {f : Nat → Int64} (hR : z_R G h H) (hk : z_kd h a = 2) (e : H'[a]? = some (vp_cell (z_cid G 2) (z_ln h a, .inr (.inl f)))) (hz : H'.size = H.size) (ho : ∀ q : Nat, q ≠ a → H'[q]? = H[q]?) : z_R G (z_plx h a f) H' := by
  refine z_R_upd hR rfl rfl (fun q hq => ⟨rfl, rfl, rfl, rfl, rfl, z_u_ne _ _ hq, rfl⟩) hz ho (z_ok_l hk ?_)
  rw [e]
  show _ = some (vp_cell _ (z_ln h a, .inr (.inl (z_u (z_al h) a f a))))
  rw [z_u_eq]
theorem z_nn {z : Int32} (hz : ¬ z < 0) : z.toInt = (z.toNatClampNeg : Int) := by
  have hz0 : (0 : Int) ≤ z.toInt := by
    have := Int32.not_lt.mp hz
    simpa using Int32.le_iff_toInt_le.mp this
  show z.toInt = ((z.toInt.toNat : Nat) : Int)
  omega
set_option maxHeartbeats 4000000 in
theorem z_copyI {ix a b : Nat} {sp dp n : Int32} (hw : ∀ w ∈ ([.methodLink (z_cNm μ.2.2.1) ix arraycopyName, .native arraycopyName, .static arraycopyName, .initialized "java/lang/System"] : List Cond), w ∈ z_gt) (hd : decode μ.1.2.1 pc = .ok (.invokestatic ix, 3)) (hst : Nat.ble rest.length 4 = true) (ha : z_kd h a = 1) (hb : z_kd h b = 1) (h1 : ¬ sp < 0) (h2 : ¬ dp < 0) (h3 : ¬ n < 0) (h4 : sp.toNatClampNeg + n.toNatClampNeg ≤ z_ln h a) (h5 : dp.toNatClampNeg + n.toNatClampNeg ≤ z_ln h b)
    (k : z_J G d μ r (pc + 3) lc rest (z_pax h b (va_cpy (z_ai h a) (z_ai h b) sp.toNatClampNeg dp.toNatClampNeg n.toNatClampNeg))) : z_J G d μ r pc lc (.int n :: .int dp :: .ref b :: .int sp :: .ref a :: rest) h := by
  refine ⟨k.1, fun p e R s m args below meth c X H locs cells slots mc ms ls hl hn hR hS q1 q2 q3 q4 => ?_⟩
  have kk := fun H' locs' hR' hS' => k.2 p e R s m args below meth c X H' locs' cells slots mc ms ls hl hn hR' hS' q1 q2 q3 q4
  have hls := hl.1.trans hn
  obtain ⟨hx, hbb, hml, hret, hown, hlocks, hnm, hts, hK, hX, hB, hex, hf, hlo⟩ := X
  have hc0 : H[a]? = some (vp_cell (z_cid G 1) (z_ln h a, .inl (z_ai h a))) := (hR.2 a (by omega)).2.2.1 ha
  have hc1 : H[b]? = some (vp_cell (z_cid G 1) (z_ln h b, .inl (z_ai h b))) := (hR.2 b (by omega)).2.2.1 hb
  have hA : z_A G b := (hR.2 b (by omega)).1
  have hcat := z_cat8 hst
  intro T hT Y
  obtain ⟨-, k0, hk0, cm0, hkk0⟩ := z_clT (k := 0) hK rfl (z_ln h a) (fun j => .int (z_ai h a j))
  obtain ⟨-, k1, hk1, cm1, hkk1⟩ := z_clT (k := 0) hK rfl (z_ln h b) (fun j => .int (z_ai h b j))
  obtain ⟨vm', Y', step⟩ := Y.arraycopy (index := ix) hx hown (hts _ (hw _ (by simp))) (hts _ (hw _ (by simp))) (hts _ (hw _ (by simp))) (hts _ (hw _ (by simp))) (src := a) (dst := b) (cs := vp_cell (z_cid G 1) (z_ln h a, .inl (z_ai h a))) (cd := vp_cell (z_cid G 1) (z_ln h b, .inl (z_ai h b))) (srcPos := sp) (destPos := dp) (n := n) (by rw [hT]; exact hc0) (by rw [hT]; exact hc1)
    (fun _ h => by cases h) (fun _ h => by cases h) (fun h => by cases h) (fun h => by cases h) hk0 hk1 hkk0 hkk1 (by simp [refKind]) h1 h2 h3
    (by rw [z_nn h1, z_nn h3]; show ¬ _ > ((arrV _ _ _).slots.size : Int); rw [arrV_size]; omega)
    (by rw [z_nn h2, z_nn h3]; show ¬ _ > ((arrV _ _ _).slots.size : Int); rw [arrV_size]; omega)
    (fun vm₁ _ i hi => by
      have e : (vp_cell (z_cid G 1) (z_ln h a, .inl (z_ai h a))).slots.getD (sp.toNatClampNeg + i) .null = .int (z_ai h a (sp.toNatClampNeg + i)) := by
        show (arrV _ _ _).slots.getD _ _ = _
        rw [Array.getD_eq_getD_getElem?, arrV_read _ _ (by omega)]
        rfl
      refine ⟨?_, ?_⟩
      · rw [e]; rfl
      · rw [e]; exact trivial)
    (g := F0 m pc ls (.int n :: .int dp :: .ref b :: .int sp :: .ref a :: rest)) rfl (by rw [hls, hml]) (rest := rest) rfl (by rw [hbb]; exact hd) (by omega) (by
      have : nativeFrameWords "java/lang/System" "arraycopy" 5 ≤ 300 := by decide
      show 2 * 0 + _ + _ ≤ _; omega)
  have e1 : copied (vp_cell (z_cid G 1) (z_ln h a, .inl (z_ai h a))) (vp_cell (z_cid G 1) (z_ln h b, .inl (z_ai h b))) sp dp n = vp_cell (z_cid G 1) (z_ln h b, .inl (va_cpy (z_ai h a) (z_ai h b) sp.toNatClampNeg dp.toNatClampNeg n.toNatClampNeg)) := va_copied (fun z => .int z) _ _ _ _ h4
  rw [e1] at Y' step
  have hl1 : b < H.size := (Array.getElem?_eq_some_iff.mp hc1).1
  have oq : ∀ q : Nat, q ≠ b → (H.setIfInBounds b (vp_cell (z_cid G 1) (z_ln h b, .inl (va_cpy (z_ai h a) (z_ai h b) sp.toNatClampNeg dp.toNatClampNeg n.toNatClampNeg))))[q]? = H[q]? := fun q hq => by simp [Array.getElem?_setIfInBounds, Ne.symm hq]
  obtain ⟨t, a1, b1⟩ := kk _ _ (z_pax_R hR hb (show (H.setIfInBounds b _)[b]? = some _ by simp [Array.getElem?_setIfInBounds, hl1]) (by simp) oq) ⟨by simp; exact hS.1, fun q g1 g2 => by
      rw [oq q (fun e => g2 (by rw [e]; exact hA))]
      exact hS.2.1 q g1 g2, fun q hq => by
      rcases List.mem_append.mp hq with h | h
      · exact hS.2.2 q h
      · obtain ⟨z, -, hz⟩ := List.mem_map.mp h
        rw [← hz]
        exact hA⟩ _ (by rw [← hT]; rfl) Y'
  exact ⟨t, step t a1, b1⟩
set_option maxHeartbeats 4000000 in
theorem z_copyL {ix a b : Nat} {sp dp n : Int32} (hw : ∀ w ∈ ([.methodLink (z_cNm μ.2.2.1) ix arraycopyName, .native arraycopyName, .static arraycopyName, .initialized "java/lang/System"] : List Cond), w ∈ z_gt) (hd : decode μ.1.2.1 pc = .ok (.invokestatic ix, 3)) (hst : Nat.ble rest.length 4 = true) (ha : z_kd h a = 2) (hb : z_kd h b = 2) (h1 : ¬ sp < 0) (h2 : ¬ dp < 0) (h3 : ¬ n < 0) (h4 : sp.toNatClampNeg + n.toNatClampNeg ≤ z_ln h a) (h5 : dp.toNatClampNeg + n.toNatClampNeg ≤ z_ln h b)
    (k : z_J G d μ r (pc + 3) lc rest (z_plx h b (va_cpy (z_al h a) (z_al h b) sp.toNatClampNeg dp.toNatClampNeg n.toNatClampNeg))) : z_J G d μ r pc lc (.int n :: .int dp :: .ref b :: .int sp :: .ref a :: rest) h := by
  refine ⟨k.1, fun p e R s m args below meth c X H locs cells slots mc ms ls hl hn hR hS q1 q2 q3 q4 => ?_⟩
  have kk := fun H' locs' hR' hS' => k.2 p e R s m args below meth c X H' locs' cells slots mc ms ls hl hn hR' hS' q1 q2 q3 q4
  have hls := hl.1.trans hn
  obtain ⟨hx, hbb, hml, hret, hown, hlocks, hnm, hts, hK, hX, hB, hex, hf, hlo⟩ := X
  have hc0 : H[a]? = some (vp_cell (z_cid G 2) (z_ln h a, .inr (.inl (z_al h a)))) := (hR.2 a (by omega)).2.2.2.1 ha
  have hc1 : H[b]? = some (vp_cell (z_cid G 2) (z_ln h b, .inr (.inl (z_al h b)))) := (hR.2 b (by omega)).2.2.2.1 hb
  have hA : z_A G b := (hR.2 b (by omega)).1
  have hcat := z_cat8 hst
  intro T hT Y
  obtain ⟨-, k0, hk0, cm0, hkk0⟩ := z_clT (k := 1) hK rfl (z_ln h a) (fun j => .long (z_al h a j))
  obtain ⟨-, k1, hk1, cm1, hkk1⟩ := z_clT (k := 1) hK rfl (z_ln h b) (fun j => .long (z_al h b j))
  obtain ⟨vm', Y', step⟩ := Y.arraycopy (index := ix) hx hown (hts _ (hw _ (by simp))) (hts _ (hw _ (by simp))) (hts _ (hw _ (by simp))) (hts _ (hw _ (by simp))) (src := a) (dst := b) (cs := vp_cell (z_cid G 2) (z_ln h a, .inr (.inl (z_al h a)))) (cd := vp_cell (z_cid G 2) (z_ln h b, .inr (.inl (z_al h b)))) (srcPos := sp) (destPos := dp) (n := n) (by rw [hT]; exact hc0) (by rw [hT]; exact hc1)
    (fun _ h => by cases h) (fun _ h => by cases h) (fun h => by cases h) (fun h => by cases h) hk0 hk1 hkk0 hkk1 (by simp [refKind]) h1 h2 h3
    (by rw [z_nn h1, z_nn h3]; show ¬ _ > ((arrV _ _ _).slots.size : Int); rw [arrV_size]; omega)
    (by rw [z_nn h2, z_nn h3]; show ¬ _ > ((arrV _ _ _).slots.size : Int); rw [arrV_size]; omega)
    (fun vm₁ _ i hi => by
      have e : (vp_cell (z_cid G 2) (z_ln h a, .inr (.inl (z_al h a)))).slots.getD (sp.toNatClampNeg + i) .null = .long (z_al h a (sp.toNatClampNeg + i)) := by
        show (arrV _ _ _).slots.getD _ _ = _
        rw [Array.getD_eq_getD_getElem?, arrV_read _ _ (by omega)]
        rfl
      refine ⟨?_, ?_⟩
      · rw [e]; rfl
      · rw [e]; exact trivial)
    (g := F0 m pc ls (.int n :: .int dp :: .ref b :: .int sp :: .ref a :: rest)) rfl (by rw [hls, hml]) (rest := rest) rfl (by rw [hbb]; exact hd) (by omega) (by
      have : nativeFrameWords "java/lang/System" "arraycopy" 5 ≤ 300 := by decide
      show 2 * 0 + _ + _ ≤ _; omega)
  have e1 : copied (vp_cell (z_cid G 2) (z_ln h a, .inr (.inl (z_al h a)))) (vp_cell (z_cid G 2) (z_ln h b, .inr (.inl (z_al h b)))) sp dp n = vp_cell (z_cid G 2) (z_ln h b, .inr (.inl (va_cpy (z_al h a) (z_al h b) sp.toNatClampNeg dp.toNatClampNeg n.toNatClampNeg))) := va_copied (fun z => .long z) _ _ _ _ h4
  rw [e1] at Y' step
  have hl1 : b < H.size := (Array.getElem?_eq_some_iff.mp hc1).1
  have oq : ∀ q : Nat, q ≠ b → (H.setIfInBounds b (vp_cell (z_cid G 2) (z_ln h b, .inr (.inl (va_cpy (z_al h a) (z_al h b) sp.toNatClampNeg dp.toNatClampNeg n.toNatClampNeg)))))[q]? = H[q]? := fun q hq => by simp [Array.getElem?_setIfInBounds, Ne.symm hq]
  obtain ⟨t, a1, b1⟩ := kk _ _ (z_plx_R hR hb (show (H.setIfInBounds b _)[b]? = some _ by simp [Array.getElem?_setIfInBounds, hl1]) (by simp) oq) ⟨by simp; exact hS.1, fun q g1 g2 => by
      rw [oq q (fun e => g2 (by rw [e]; exact hA))]
      exact hS.2.1 q g1 g2, fun q hq => by
      rcases List.mem_append.mp hq with h | h
      · exact hS.2.2 q h
      · obtain ⟨z, -, hz⟩ := List.mem_map.mp h
        rw [← hz]
        exact hA⟩ _ (by rw [← hT]; rfl) Y'
  exact ⟨t, step t a1, b1⟩
end CALLS2
