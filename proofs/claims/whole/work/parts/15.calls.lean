section CALLS
variable {G : z_G} {d : Nat} {μ : z_M} {r ρ : z_Res} {pc pc' len : Nat} {lc : List (Option Value)} {st st' rest : List Value} {h h' : z_H} {c : z_K} {i : Instr}
theorem z_sets {H H1 : Heap} {st0 t : State} {H0 : Heap} {locs L : List Loc} (h0 : st0.heap = H) (e1 : t.heap = H1) (hS : va_S (z_A G) H0 H locs) (hL : ∀ q ∈ L, z_A G q.base) (hF : va_F (z_A G) st0 t) : va_S (z_A G) H0 H1 (locs ++ L) := by
  obtain ⟨f1, f2⟩ := hF
  rw [h0] at f1 f2
  refine ⟨Nat.le_trans hS.1 (by rw [← e1]; exact f1), fun q q1 q2 => ?_, fun q hq => ?_⟩
  · rw [← e1, f2 q (Nat.lt_of_lt_of_le q1 hS.1) q2]
    exact hS.2.1 q q1 q2
  · rcases List.mem_append.mp hq with h | h
    · exact hS.2.2 q h
    · exact hL q h
/-- behind a call -/
theorem z_after {p : Program} {l : Launch} {e : Env} {R : Room} {s : State} {m : MethodId} {args a : Array Value} {below : List Frame} {meth : Method} {c : Code} {H : Heap} {locs : List Loc} {cells slots mc ms : Nat} {ls : Array Slot} {st0 : List Value} {Q : State → Prop}
    (hr : vx_Run p l e R s m args below meth c H locs cells slots mc ms (F0 m pc ls st0) rest (z_Qc G ρ a) (z_XC G ρ) (z_A G)) (hS : va_S (z_A G) s.heap H locs)
    (kr : ∀ v H1 locs1, ρ.1 = .inl v → z_R G ρ.2 H1 → va_S (z_A G) s.heap H1 locs1 → W p l e R s m args below meth c H1 locs1 (cells + mc) (slots + ms) Q (F0 m (pc + 3) ls (v.toList ++ rest)))
    (kx : ∀ E q ce H1 locs1 n, ρ.1 = .inr E → n = z_n ρ.2 + 1 → z_R G (z_thr ρ.2 n) H1 → va_S (z_A G) s.heap H1 locs1 → H1[q]? = some ce → ce.vm = .none → s.vm.findClass E = some ce.cls → vx_W p l e R s m args below meth c H1 locs1 (cells + mc) (slots + ms) Q (F0 m pc ls rest) q) : W p l e R s m args below meth c H locs cells slots Q (F0 m pc ls st0) := by
  intro T hT X
  rcases hr T hT X with ⟨v, st₀, t, T', L, h0, X', hL, e1, e2, ⟨v', hv1, hv2, hR1, hF⟩, st⟩ | ⟨q, st₀, t, T', L, E, ce, h0, X', hL, e1, e2, ⟨hE, ⟨n, hn, hR1⟩, hF⟩, hce, hcv, hcl, st⟩
  · cases hv2
    obtain ⟨t2, a1, b1⟩ := kr v T'.heap (locs ++ L) hv1 (by rw [e1]; exact hR1) (z_sets h0 e1.symm hS hL hF) T' rfl X'
    exact ⟨t2, st t2 a1, b1⟩
  · obtain ⟨t2, a1, b1⟩ := kx E q ce T'.heap (locs ++ L) n hE hn (by rw [e1]; exact hR1) (z_sets h0 e1.symm hS hL hF) (by rw [e1]; exact hce) hcv hcl T' rfl X'
    exact ⟨t2, st.trans a1, b1⟩
/-- a call: what the machine says of it, and how it goes on -/
theorem z_inv {a : Array Value} (hev : z_c h ≤ z_c ρ.2 ∧ z_s h ≤ z_s ρ.2)
    (hrun : ∀ (p : Program) (e : Env) (R : Room) (s : State) (m : MethodId) (args : Array Value) (below : List Frame) (meth : Method) (c : Code) (H : Heap) (locs : List Loc) (cells slots : Nat) (ls : Array Slot), z_Cx G (d + 1) μ p R s m args meth c → ls.size = μ.1.2.2.1 → z_R G h H → va_S (z_A G) s.heap H locs → cells + (z_rcC ρ - z_c h) ≤ R.cells → slots + (z_rcS ρ - z_s h) ≤ R.slots →
      vx_Run p (z_l G) e R s m args below meth c H locs cells slots (z_rcC ρ - z_c h) (z_rcS ρ - z_s h) (F0 m pc ls st) rest (z_Qc G ρ a) (z_XC G ρ) (z_A G))
    (k : (∃ v, ρ.1 = .inl v ∧ z_J G (d + 1) μ r (pc + 3) lc (v.toList ++ rest) ρ.2) ∨ ∃ E, ρ.1 = .inr E ∧ r = (.inr E, ρ.2)) : z_J G (d + 1) μ r pc lc st h := by
  rcases k with ⟨v, hv, k⟩ | ⟨E, hE, rfl⟩
  · have k1 := k.1
    have hr1 : z_c r.2 ≤ z_rcC r := by unfold z_rcC; split <;> omega
    have hr2 : z_s r.2 ≤ z_rcS r := by unfold z_rcS; split <;> omega
    have e1 : z_rcC ρ = z_c ρ.2 := by unfold z_rcC; rw [hv]
    have e2 : z_rcS ρ = z_s ρ.2 := by unfold z_rcS; rw [hv]
    refine ⟨⟨by omega, by omega⟩, fun p e R s m args below meth c X H locs cells slots mc ms ls hl hn hR hS h1 h2 h3 h4 => ?_⟩
    refine z_after (hrun p e R s m args below meth c H locs cells slots ls X (hl.1.trans hn) hR hS (by omega) (by omega)) hS (fun v' H1 locs1 hv' hR1 hS1 => ?_) (fun E q ce H1 locs1 n hE => by rw [hv] at hE; cases hE)
    cases hv.symm.trans hv'
    exact k.2 p e R s m args below meth c X H1 locs1 _ _ mc ms ls hl hn hR1 hS1 (by omega) (by omega) h3 h4
  · have e1 : z_rcC ρ = z_c ρ.2 + 1 := by unfold z_rcC; rw [hE]
    have e2 : z_rcS ρ = z_s ρ.2 + 6 := by unfold z_rcS; rw [hE]
    refine ⟨hev, fun p e R s m args below meth c X H locs cells slots mc ms ls hl hn hR hS h1 h2 h3 h4 => ?_⟩
    have h1 : cells + (z_c ρ.2 + 1) ≤ mc + z_c h := h1
    have h2 : slots + (z_s ρ.2 + 6) ≤ ms + z_s h := h2
    refine z_after (hrun p e R s m args below meth c H locs cells slots ls X (hl.1.trans hn) hR hS (by omega) (by omega)) hS (fun v' H1 locs1 hv' => by rw [hE] at hv'; cases hv') (fun E' q ce H1 locs1 n hE' hn' hR1 hS1 hce hcv hcl => ?_)
    cases hE.symm.trans hE'
    exact vx_out (fun x hx => (X.2.2.2.2.2.2.2.2.2.2.2.1 x hx).elim) X.2.2.2.2.2.1 hce hcv hcl (fun t ht hal => ⟨rfl, ⟨n, hn', by rw [ht]; exact hR1⟩, hS1.F ht⟩) (fun z hz => hS1.2.2 z hz) (by omega) (by omega)
theorem z_blind {As : List Value} : FrameBlind (z_Pc G As h) := by
  intro a U g mk q
  obtain ⟨q0, qR, qK, qX, qB⟩ := q
  exact ⟨q0, qR, va_K.moved (u := U) (U := U.calling g mk a) (Vm.Alike.refl U.vm) qK, z_X_moved (s := U) (U := U.calling g mk a) (H := U.heap) (State.WarmedH.refl U) (fun _ _ _ => rfl) qB qX, qB⟩
theorem z_pre {p : Program} {R : Room} {s : State} {m : MethodId} {args : Array Value} {meth : Method} {cc : Code} {H : Heap} {locs : List Loc} {As : List Value} {D : Nat} (X : z_Cx G D μ p R s m args meth cc) (hR : z_R G h H) (hS : va_S (z_A G) s.heap H locs) : ∀ U : State, U.heap = H → s.WarmedH U.vm → z_Pc G As h As.toArray U := by
  intro U hU hW
  have hB := X.2.2.2.2.2.2.2.2.2.2.1
  exact ⟨rfl, by rw [hU]; exact hR, va_K.moved hW.alike X.2.2.2.2.2.2.2.2.1, by rw [hU]; exact z_X_moved hW (fun q q1 q2 => hS.2.1 q q1 q2) hB X.2.2.2.2.2.2.2.2.2.1, by rw [hU]; exact Nat.le_trans hB hS.1⟩
def z_mh (y : MethodName) : Prop := y.cls ≠ "java/lang/invoke/MethodHandle" ∧ y.cls ≠ "java/lang/invoke/VarHandle"
theorem z_gtg {ws : List Cond} (hw : ∀ w ∈ ws, w ∈ z_gt) : GoodIn z_gt ws := fun w hh => ⟨hw w hh, good_of_word (List.mem_filter.mp (hw w hh)).2⟩
/-- a virtual call -/
theorem z_runV {κ : z_Key} {ci k n a : Nat} {rr : vw_C} {As : List Value} (hd : decode μ.1.2.1 pc = .ok (.invokevirtual k, 3)) (hcl : vwCl[ci]? = some rr) (hcls : κ.1.cls = rr.1) (hh : κ.2.2.2.2 = [])
    (hw : ∀ w ∈ ([.methodLink (z_cNm μ.2.2.1) k κ.1, .instanceMethod κ.1, .selects rr.1 κ.1 κ.1, .initialized rr.1, .code κ.1 κ.2.1 κ.2.2.1 κ.2.2.2.1] : List Cond), w ∈ z_gt) (hm : z_mh κ.1) (hds : (parseMethodDescriptor κ.1.desc).map (fun d => d.parameters.length) = some n) (hmx : κ.2.2.1 ≤ 41)
    (hAs : As.length = n) (hkd : z_kd h a = 16 + ci) (hst : Nat.ble rest.length 4 = true) (hE : z_Ev G d κ (.ref a :: As) h ρ)
    (p : Program) (e : Env) (R : Room) (s : State) (m : MethodId) (args : Array Value) (below : List Frame) (meth : Method) (c : Code) (H : Heap) (locs : List Loc) (cells slots : Nat) (ls : Array Slot) (X : z_Cx G (d + 1) μ p R s m args meth c) (hls : ls.size = μ.1.2.2.1) (hR : z_R G h H) (hS : va_S (z_A G) s.heap H locs) (h1 : cells + (z_rcC ρ - z_c h) ≤ R.cells) (h2 : slots + (z_rcS ρ - z_s h) ≤ R.slots) :
      vx_Run p (z_l G) e R s m args below meth c H locs cells slots (z_rcC ρ - z_c h) (z_rcS ρ - z_s h) (F0 m pc ls (As.reverse ++ .ref a :: rest)) rest (z_Qc G ρ (Value.ref a :: As).toArray) (z_XC G ρ) (z_A G) := by
  obtain ⟨-, hM⟩ := hE
  have hwz : z_w κ = .code κ.1 κ.2.1 κ.2.2.1 κ.2.2.2.1 := by unfold z_w; rw [if_pos hh]
  rw [hwz] at hM
  have hts := X.2.2.2.2.2.2.2.1
  have hrecv : ∃ cellB : Cell, H[a]? = some cellB ∧ cellB.vm.isStatics = false ∧ s.vm.findClass rr.1 = some cellB.cls := by
    obtain ⟨-, -, -, -, -, -, -, -, k7⟩ := hR.2 a (by omega)
    obtain ⟨r', q1, cell, g1, g2, g3, -⟩ := k7 ci hkd
    cases hcl.symm.trans q1
    exact ⟨cell, g1, by rw [g3]; rfl, by rw [g2]; exact (X.2.2.2.2.2.2.2.2.1.1 ci _ hcl).2.1⟩
  have hf := X.2.2.2.2.2.2.2.2.2.2.2.2
  refine vx_runV (Ts := z_gt) (own := z_cNm μ.2.2.1) (C := rr.1) (nL := μ.1.2.2.1) ⟨X.1, X.2.1, X.2.2.1, X.2.2.2.2.1, hts⟩ hM (cwV n hts ?_ rfl rfl rfl ⟨hcls, hm.1, hm.2, hds⟩ ⟨by show d + 8 + 1 ≤ R.frames; omega, by show 8 + (κ.2.2.1 + 11) + (60 * d + 400) ≤ R.locals; omega⟩) ⟨z_blind, hrecv, z_pre X hR hS⟩ rfl hAs hls rfl (lv_room (z_cat8 hst)) hd ⟨h1, h2⟩
  refine z_gtg fun w hh => ?_
  simp only [wsV, List.cons_append, List.nil_append, List.mem_cons] at hh
  rcases hh with rfl | rfl | rfl | rfl | rfl | hh
  · exact hw _ (by simp)
  · exact hw _ (by simp)
  · exact hw _ (by simp)
  · exact hw _ (by simp)
  · exact hw _ (by simp)
  · exact hh
/-- a static call -/
theorem z_runS {κ : z_Key} {k n : Nat} {As : List Value} (hd : decode μ.1.2.1 pc = .ok (.invokestatic k, 3)) (hh : κ.2.2.2.2 = [])
    (hw : ∀ w ∈ ([.methodLink (z_cNm μ.2.2.1) k κ.1, .static κ.1, .initialized κ.1.cls, .code κ.1 κ.2.1 κ.2.2.1 κ.2.2.2.1] : List Cond), w ∈ z_gt) (hm : z_mh κ.1) (hds : (parseMethodDescriptor κ.1.desc).map (fun d => d.parameters.length) = some n) (hmx : κ.2.2.1 ≤ 41)
    (hAs : As.length = n) (hst : Nat.ble rest.length 4 = true) (hE : z_Ev G d κ As h ρ)
    (p : Program) (e : Env) (R : Room) (s : State) (m : MethodId) (args : Array Value) (below : List Frame) (meth : Method) (c : Code) (H : Heap) (locs : List Loc) (cells slots : Nat) (ls : Array Slot) (X : z_Cx G (d + 1) μ p R s m args meth c) (hls : ls.size = μ.1.2.2.1) (hR : z_R G h H) (hS : va_S (z_A G) s.heap H locs) (h1 : cells + (z_rcC ρ - z_c h) ≤ R.cells) (h2 : slots + (z_rcS ρ - z_s h) ≤ R.slots) :
      vx_Run p (z_l G) e R s m args below meth c H locs cells slots (z_rcC ρ - z_c h) (z_rcS ρ - z_s h) (F0 m pc ls (As.reverse ++ rest)) rest (z_Qc G ρ As.toArray) (z_XC G ρ) (z_A G) := by
  obtain ⟨-, hM⟩ := hE
  have hwz : z_w κ = .code κ.1 κ.2.1 κ.2.2.1 κ.2.2.2.1 := by unfold z_w; rw [if_pos hh]
  rw [hwz] at hM
  have hts := X.2.2.2.2.2.2.2.1
  have hf := X.2.2.2.2.2.2.2.2.2.2.2.2
  refine vx_runS (Ts := z_gt) (own := z_cNm μ.2.2.1) (nL := μ.1.2.2.1) ⟨X.1, X.2.1, X.2.2.1, X.2.2.2.2.1, hts⟩ hM (va_cwS n hts ?_ rfl rfl rfl ⟨hm.1, hm.2, hds⟩ ⟨by show d + 8 + 1 ≤ R.frames; omega, by show 8 + (κ.2.2.1 + 11) + (60 * d + 400) ≤ R.locals; omega⟩) ⟨z_blind, z_pre X hR hS⟩ rfl hAs hls rfl (lv_room (z_cat8 hst)) hd ⟨h1, h2⟩
  refine z_gtg fun w hh => ?_
  simp only [va_wsS, List.cons_append, List.nil_append, List.mem_cons] at hh
  rcases hh with rfl | rfl | rfl | rfl | hh
  · exact hw _ (by simp)
  · exact hw _ (by simp)
  · exact hw _ (by simp)
  · exact hw _ (by simp)
  · exact hh
/-- a callee that doesn't throw -/
theorem z_toMet {l : Launch} {y : MethodName} {ws : List Cond} {rm : Room} {Pc : Array Value → State → Prop} {mc ms : Nat} {v : Option Value} (hv : ρ.1 = .inl v) (hM : vx_Met l y ws rm Pc (z_Qc G ρ) (z_XC G ρ) mc ms (z_A G)) : Met l y ws rm Pc (z_Qc G ρ) mc ms (z_A G) := by
  intro p e ha hb hc s m args below hf hS hP hK
  obtain ⟨n, o, h1, h2, h3, hQ⟩ := hM p e ha hb hc s m args below hf hS hP hK
  refine ⟨n, o, h1, h2, h3, ?_⟩
  rcases hQ with hQ | ⟨q, -, E, ce, L, ⟨hE, -⟩, -⟩
  · exact hQ
  · rw [hv] at hE; cases hE
theorem z_ofRun {p : Program} {l : Launch} {e : Env} {R : Room} {s : State} {m : MethodId} {args a : Array Value} {below : List Frame} {meth : Method} {c : Code} {H : Heap} {locs : List Loc} {cells slots mc ms : Nat} {g : JFrame}
    (hr : va_Run p l e R s m args below meth c H locs cells slots mc ms g rest (z_Qc G ρ a) (z_A G)) : vx_Run p l e R s m args below meth c H locs cells slots mc ms g rest (z_Qc G ρ a) (z_XC G ρ) (z_A G) := fun T hT X => Or.inl (hr T hT X)
/-- a static call of a method with handlers -/
theorem z_runSW {κ : z_Key} {k n : Nat} {As : List Value} (hd : decode μ.1.2.1 pc = .ok (.invokestatic k, 3)) (hh : κ.2.2.2.2 ≠ [])
    (hw : ∀ w ∈ ([.methodLink (z_cNm μ.2.2.1) k κ.1, .static κ.1, .initialized κ.1.cls, .codeWith κ.1 κ.2.1 κ.2.2.1 κ.2.2.2.1 κ.2.2.2.2] : List Cond), w ∈ z_gt) (hm : z_mh κ.1) (hds : (parseMethodDescriptor κ.1.desc).map (fun d => d.parameters.length) = some n) (hmx : κ.2.2.1 ≤ 41)
    (hAs : As.length = n) (hst : Nat.ble rest.length 4 = true) {v : Option Value} (hv : ρ.1 = .inl v) (hE : z_Ev G d κ As h ρ)
    (p : Program) (e : Env) (R : Room) (s : State) (m : MethodId) (args : Array Value) (below : List Frame) (meth : Method) (c : Code) (H : Heap) (locs : List Loc) (cells slots : Nat) (ls : Array Slot) (X : z_Cx G (d + 1) μ p R s m args meth c) (hls : ls.size = μ.1.2.2.1) (hR : z_R G h H) (hS : va_S (z_A G) s.heap H locs) (h1 : cells + (z_rcC ρ - z_c h) ≤ R.cells) (h2 : slots + (z_rcS ρ - z_s h) ≤ R.slots) :
      vx_Run p (z_l G) e R s m args below meth c H locs cells slots (z_rcC ρ - z_c h) (z_rcS ρ - z_s h) (F0 m pc ls (As.reverse ++ rest)) rest (z_Qc G ρ As.toArray) (z_XC G ρ) (z_A G) := by
  obtain ⟨-, hM⟩ := hE
  have hwz : z_w κ = .codeWith κ.1 κ.2.1 κ.2.2.1 κ.2.2.2.1 κ.2.2.2.2 := by unfold z_w; rw [if_neg hh]
  rw [hwz] at hM
  have hts := X.2.2.2.2.2.2.2.1
  have hf := X.2.2.2.2.2.2.2.2.2.2.2.2
  refine z_ofRun (vx_runSW (Ts := z_gt) (own := z_cNm μ.2.2.1) (nL := μ.1.2.2.1) ⟨X.1, X.2.1, X.2.2.1, X.2.2.2.2.1, hts⟩ (z_toMet hv hM) (vx_cwSW n hts ?_ rfl rfl rfl ⟨hm.1, hm.2, hds⟩ ⟨by show d + 8 + 1 ≤ R.frames; omega, by show 8 + (κ.2.2.1 + 11) + (60 * d + 400) ≤ R.locals; omega⟩) ⟨z_blind, z_pre X hR hS⟩ rfl hAs hls rfl (lv_room (z_cat8 hst)) hd ⟨h1, h2⟩)
  refine z_gtg fun w hh => ?_
  simp only [va_wsS, List.cons_append, List.nil_append, List.mem_cons] at hh
  rcases hh with rfl | rfl | rfl | rfl | hh
  · exact hw _ (by simp)
  · exact hw _ (by simp)
  · exact hw _ (by simp)
  · exact hw _ (by simp)
  · exact hh
/-- a constructor -/
theorem z_runI {κ : z_Key} {k n a : Nat} {As : List Value} (hd : decode μ.1.2.1 pc = .ok (.invokespecial k, 3)) (hh : κ.2.2.2.2 = []) (hret : κ.2.2.2.1 = none) (hnm : κ.1.name = "<init>")
    (hw : ∀ w ∈ ([.methodLink (z_cNm μ.2.2.1) k κ.1, .instanceMethod κ.1, .initialized κ.1.cls, .code κ.1 κ.2.1 κ.2.2.1 none] : List Cond), w ∈ z_gt) (hm : z_mh κ.1) (hds : (parseMethodDescriptor κ.1.desc).map (fun d => d.parameters.length) = some n) (hmx : κ.2.2.1 ≤ 41)
    (hAs : As.length = n) (hst : Nat.ble rest.length 4 = true) {v : Option Value} (hv : ρ.1 = .inl v) (hE : z_Ev G d κ (.ref a :: As) h ρ)
    (p : Program) (e : Env) (R : Room) (s : State) (m : MethodId) (args : Array Value) (below : List Frame) (meth : Method) (c : Code) (H : Heap) (locs : List Loc) (cells slots : Nat) (ls : Array Slot) (X : z_Cx G (d + 1) μ p R s m args meth c) (hls : ls.size = μ.1.2.2.1) (hR : z_R G h H) (hS : va_S (z_A G) s.heap H locs) (h1 : cells + (z_rcC ρ - z_c h) ≤ R.cells) (h2 : slots + (z_rcS ρ - z_s h) ≤ R.slots) :
      vx_Run p (z_l G) e R s m args below meth c H locs cells slots (z_rcC ρ - z_c h) (z_rcS ρ - z_s h) (F0 m pc ls (As.reverse ++ .ref a :: rest)) rest (z_Qc G ρ (Value.ref a :: As).toArray) (z_XC G ρ) (z_A G) := by
  obtain ⟨-, hM⟩ := hE
  have hwz : z_w κ = .code κ.1 κ.2.1 κ.2.2.1 none := by unfold z_w; rw [if_pos hh, hret]
  rw [hwz] at hM
  have hts := X.2.2.2.2.2.2.2.1
  have hf := X.2.2.2.2.2.2.2.2.2.2.2.2
  refine z_ofRun (va_runI (Ts := z_gt) (own := z_cNm μ.2.2.1) (nL := μ.1.2.2.1) ⟨X.1, X.2.1, X.2.2.1, X.2.2.2.2.1, hts⟩ (z_toMet hv hM) (cwI n hts (z_gtg fun w hh => ?_) rfl rfl rfl (hts _ (hw _ (by simp))) (hts _ (hw _ (by simp))) (hts _ (hw _ (by simp))) hnm ⟨hm.1, hm.2, hds⟩ ⟨by show d + 8 + 1 ≤ R.frames; omega, by show 8 + (κ.2.2.1 + 11) + (60 * d + 400) ≤ R.locals; omega⟩) ⟨z_blind, z_pre X hR hS⟩ rfl hAs hls rfl (lv_room (z_cat8 hst)) hd ⟨h1, h2⟩)
  rcases List.mem_cons.mp hh with rfl | hh
  · exact hw _ (by simp)
  · exact hh
/-- a nest mate's constructor -/
theorem z_runIN {κ : z_Key} {k n a : Nat} {host : String} {As : List Value} (hd : decode μ.1.2.1 pc = .ok (.invokespecial k, 3)) (hh : κ.2.2.2.2 = []) (hret : κ.2.2.2.1 = none) (hnm : κ.1.name = "<init>") (hnest : Cond.methodLinkNest (z_cNm μ.2.2.1) k κ.1 host ∈ z_xN)
    (hw : ∀ w ∈ ([.instanceMethod κ.1, .initialized κ.1.cls, .code κ.1 κ.2.1 κ.2.2.1 none] : List Cond), w ∈ z_gt) (hm : z_mh κ.1) (hds : (parseMethodDescriptor κ.1.desc).map (fun d => d.parameters.length) = some n) (hmx : κ.2.2.1 ≤ 41)
    (hAs : As.length = n) (hst : Nat.ble rest.length 4 = true) {v : Option Value} (hv : ρ.1 = .inl v) (hE : z_Ev G d κ (.ref a :: As) h ρ)
    (p : Program) (e : Env) (R : Room) (s : State) (m : MethodId) (args : Array Value) (below : List Frame) (meth : Method) (c : Code) (H : Heap) (locs : List Loc) (cells slots : Nat) (ls : Array Slot) (X : z_Cx G (d + 1) μ p R s m args meth c) (hls : ls.size = μ.1.2.2.1) (hR : z_R G h H) (hS : va_S (z_A G) s.heap H locs) (h1 : cells + (z_rcC ρ - z_c h) ≤ R.cells) (h2 : slots + (z_rcS ρ - z_s h) ≤ R.slots) :
      vx_Run p (z_l G) e R s m args below meth c H locs cells slots (z_rcC ρ - z_c h) (z_rcS ρ - z_s h) (F0 m pc ls (As.reverse ++ .ref a :: rest)) rest (z_Qc G ρ (Value.ref a :: As).toArray) (z_XC G ρ) (z_A G) := by
  obtain ⟨-, hM⟩ := hE
  have hwz : z_w κ = .code κ.1 κ.2.1 κ.2.2.1 none := by unfold z_w; rw [if_pos hh, hret]
  rw [hwz] at hM
  have hts := X.2.2.2.2.2.2.2.1
  have hf := X.2.2.2.2.2.2.2.2.2.2.2.2
  have hX := X.2.2.2.2.2.2.2.2.2.1
  refine z_ofRun (va_runIN (Ts := z_gt) (own := z_cNm μ.2.2.1) (host := host) (nL := μ.1.2.2.1) ⟨X.1, X.2.1, X.2.2.1, X.2.2.2.2.1, hts⟩ (z_toMet hv hM) ⟨va_cnB n hts (z_gtg fun w hh => ?_) rfl rfl rfl (hX.1 _ (by simp [hnest])) (hts _ (hw _ (by simp))) ⟨hm.1, hm.2, hds⟩ ⟨by show d + 8 + 1 ≤ R.frames; omega, by show 8 + (κ.2.2.1 + 11) + (60 * d + 400) ≤ R.locals; omega⟩, hnm, hts _ (hw _ (by simp))⟩ ⟨z_blind, z_pre X hR hS⟩ rfl hAs hls rfl (lv_room (z_cat8 hst)) hd ⟨h1, h2⟩)
  rcases List.mem_cons.mp hh with rfl | hh
  · exact hw _ (by simp)
  · exact hh
theorem z_Xs {p : Program} {R : Room} {s : State} {m : MethodId} {args : Array Value} {meth : Method} {cc : Code} (X : z_Cx G d μ p R s m args meth cc) : z_XS G s s.heap := X.2.2.2.2.2.2.2.2.2.1.2.2.2.2.2.2
theorem z_S1 {p : Program} {R : Room} {s : State} {m : MethodId} {args : Array Value} {meth : Method} {cc : Code} (X : z_Cx G d μ p R s m args meth cc) {i : Nat} (hi : i < 6) : va_O "java/lang/String" (z_sad G i) (z_A G) s s.heap ∧ va_OF "java/lang/String" "coder" "B" (.int 0) (z_sad G i) (z_A G) s s.heap ∧ va_OF "java/lang/String" "value" "[B" (.ref (z_sav G i)) (z_sad G i) (z_A G) s s.heap ∧ va_T .byte (z_sav G i) (z_slen.getD i 0) (fun j => .int ((z_sbyt.getD i []).getD j 0)) (z_A G) s s.heap := ((z_Xs X).1 i hi).1 0 (by decide)
/-- a virtual call on a text -/
theorem s_runV {κ : z_Key} {k n i : Nat} (hi : i < 6) {As : List Value} (hd : decode μ.1.2.1 pc = .ok (.invokevirtual k, 3)) (hcls : κ.1.cls = "java/lang/String") (hh : κ.2.2.2.2 = [])
    (hw : ∀ w ∈ ([.methodLink (z_cNm μ.2.2.1) k κ.1, .instanceMethod κ.1, .selects "java/lang/String" κ.1 κ.1, .initialized "java/lang/String", .code κ.1 κ.2.1 κ.2.2.1 κ.2.2.2.1] : List Cond), w ∈ z_gt) (hm : z_mh κ.1) (hds : (parseMethodDescriptor κ.1.desc).map (fun d => d.parameters.length) = some n) (hmx : κ.2.2.1 ≤ 41)
    (hAs : As.length = n) (hst : Nat.ble rest.length 4 = true) (hE : z_Ev G d κ (.ref (z_sad G i) :: As) h ρ)
    (p : Program) (e : Env) (R : Room) (s : State) (m : MethodId) (args : Array Value) (below : List Frame) (meth : Method) (c : Code) (H : Heap) (locs : List Loc) (cells slots : Nat) (ls : Array Slot) (X : z_Cx G (d + 1) μ p R s m args meth c) (hls : ls.size = μ.1.2.2.1) (hR : z_R G h H) (hS : va_S (z_A G) s.heap H locs) (h1 : cells + (z_rcC ρ - z_c h) ≤ R.cells) (h2 : slots + (z_rcS ρ - z_s h) ≤ R.slots) :
      vx_Run p (z_l G) e R s m args below meth c H locs cells slots (z_rcC ρ - z_c h) (z_rcS ρ - z_s h) (F0 m pc ls (As.reverse ++ .ref (z_sad G i) :: rest)) rest (z_Qc G ρ (Value.ref (z_sad G i) :: As).toArray) (z_XC G ρ) (z_A G) := by
  obtain ⟨-, hM⟩ := hE
  have hwz : z_w κ = .code κ.1 κ.2.1 κ.2.2.1 κ.2.2.2.1 := by unfold z_w; rw [if_pos hh]
  rw [hwz] at hM
  have hts := X.2.2.2.2.2.2.2.1
  have hf := X.2.2.2.2.2.2.2.2.2.2.2.2
  refine vx_runV (Ts := z_gt) (own := z_cNm μ.2.2.1) (C := "java/lang/String") (nL := μ.1.2.2.1) ⟨X.1, X.2.1, X.2.2.1, X.2.2.2.2.1, hts⟩ hM (cwV n hts ?_ rfl rfl rfl ⟨hcls, hm.1, hm.2, hds⟩ ⟨by show d + 8 + 1 ≤ R.frames; omega, by show 8 + (κ.2.2.1 + 11) + (60 * d + 400) ≤ R.locals; omega⟩) ⟨z_blind, vk_recv (i := 0) ((z_Xs X).1 i hi) (by decide) hS, z_pre X hR hS⟩ rfl hAs hls rfl (lv_room (z_cat8 hst)) hd ⟨h1, h2⟩
  refine z_gtg fun w hh => ?_
  simp only [wsV, List.cons_append, List.nil_append, List.mem_cons] at hh
  rcases hh with rfl | rfl | rfl | rfl | rfl | hh
  · exact hw _ (by simp)
  · exact hw _ (by simp)
  · exact hw _ (by simp)
  · exact hw _ (by simp)
  · exact hw _ (by simp)
  · exact hh
end CALLS
