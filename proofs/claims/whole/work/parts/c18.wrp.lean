/-! THE LAW'S CALLS THAT CATCH -/
def z_CxH (G : z_G) (d : Nat) (μ : z_M) (p : Program) (R : Room) (s : State) (m : MethodId) (args : Array Value) (meth : Method) (c : Code) : Prop :=
  p.tables.exec = Jvm.exec ∧ c.code = μ.1.2.1 ∧ c.maxLocals = μ.1.2.2.1 ∧ meth.sig.returnType = μ.1.2.2.2.1 ∧ s.vm.findClass (z_cNm μ.2.2.1) = some m.cls ∧ meth.locks = false ∧ (∀ w ∈ z_gt, w.before args s = true) ∧ va_K (z_D G) vwCl (z_tys G) s ∧ z_X G s s.heap ∧ z_B G ≤ s.heap.size ∧ c.exceptionTable.toList = tableOf μ.1.2.2.2.2 ∧ d + 8 ≤ R.frames ∧ 60 * d + 400 ≤ R.locals
section C17
variable {G : z_G} {d : Nat} {μ : z_M} {r ρ : z_Res} {pc : Nat} {rest : List Value} {h h1 : z_H}
set_option maxRecDepth 16384 in
theorem w_runV {κ : z_Key} {ci k n a : Nat} {rr : vw_C} {As : List Value} (hd : decode μ.1.2.1 pc = .ok (.invokevirtual k, 3)) (hcl : vwCl[ci]? = some rr) (hcls : κ.1.cls = rr.1) (hh : κ.2.2.2.2 = [])
    (hw : ∀ w ∈ ([.methodLink (z_cNm μ.2.2.1) k κ.1, .instanceMethod κ.1, .selects rr.1 κ.1 κ.1, .initialized rr.1, .code κ.1 κ.2.1 κ.2.2.1 κ.2.2.2.1] : List Cond), w ∈ z_gt) (hm : z_mh κ.1) (hds : (parseMethodDescriptor κ.1.desc).map (fun d => d.parameters.length) = some n) (hmx : κ.2.2.1 ≤ 41)
    (hAs : As.length = n) (hkd : z_kd h a = 16 + ci) (hst : Nat.ble rest.length 4 = true) (hE : z_Ev G d κ (.ref a :: As) h ρ)
    (p : Program) (e : Env) (R : Room) (s : State) (m : MethodId) (args : Array Value) (below : List Frame) (meth : Method) (c : Code) (H : Heap) (locs : List Loc) (cells slots : Nat) (ls : Array Slot) (X : z_CxH G (d + 1) μ p R s m args meth c) (hls : ls.size = μ.1.2.2.1) (hR : z_R G h H) (hS : va_S (z_A G) s.heap H locs) (h1 : cells + (z_rcC ρ - z_c h) ≤ R.cells) (h2 : slots + (z_rcS ρ - z_s h) ≤ R.slots) :
      vx_Run p (z_l G) e R s m args below meth c H locs cells slots (z_rcC ρ - z_c h) (z_rcS ρ - z_s h) (F0 m pc ls (As.reverse ++ .ref a :: rest)) rest (z_Qc G ρ (Value.ref a :: As).toArray) (z_XC G ρ) (z_A G) := by
  obtain ⟨-, hM⟩ := hE
  have hwz : z_w κ = .code κ.1 κ.2.1 κ.2.2.1 κ.2.2.2.1 := by unfold z_w; rw [if_pos hh]
  rw [hwz] at hM
  obtain ⟨x1, x2, x3, x4, x5, x6, hts, hK, hX, hB, htb, hf, hlo⟩ := X
  have hrecv : ∃ cellB : Cell, H[a]? = some cellB ∧ cellB.vm.isStatics = false ∧ s.vm.findClass rr.1 = some cellB.cls := by
    obtain ⟨-, -, -, -, -, -, -, -, k7⟩ := hR.2 a (by omega)
    obtain ⟨r', q1, cell, g1, g2, g3, -⟩ := k7 ci hkd
    cases hcl.symm.trans q1
    exact ⟨cell, g1, by rw [g3]; rfl, by rw [g2]; exact (hK.1 ci _ hcl).2.1⟩
  have hpre : ∀ U : State, U.heap = H → s.WarmedH U.vm → z_Pc G (Value.ref a :: As) h (Value.ref a :: As).toArray U := fun U hU hW => ⟨rfl, by rw [hU]; exact hR, va_K.moved hW.alike hK, by rw [hU]; exact z_X_moved hW (fun q q1 q2 => hS.2.1 q q1 q2) hB hX, by rw [hU]; exact Nat.le_trans hB hS.1⟩
  refine vx_runV (Ts := z_gt) (own := z_cNm μ.2.2.1) (C := rr.1) (nL := μ.1.2.2.1) ⟨x1, x2, x3, x5, hts⟩ hM (cwV n hts ?_ rfl rfl rfl ⟨hcls, hm.1, hm.2, hds⟩ ⟨by show d + 8 + 1 ≤ R.frames; omega, by show 8 + (κ.2.2.1 + 11) + (60 * d + 400) ≤ R.locals; omega⟩) ⟨z_blind, hrecv, hpre⟩ rfl hAs hls rfl (lv_room (z_cat8 hst)) hd ⟨h1, h2⟩
  refine z_gtg fun w hh => ?_
  simp only [wsV, List.cons_append, List.nil_append, List.mem_cons] at hh
  rcases hh with rfl | rfl | rfl | rfl | rfl | hh
  · exact hw _ (by simp)
  · exact hw _ (by simp)
  · exact hw _ (by simp)
  · exact hw _ (by simp)
  · exact hw _ (by simp)
  · exact hh
/-- what a walk of a body with handlers says -/
def w_J (G : z_G) (d : Nat) (μ : z_M) (r : z_Res) (pc : Nat) (lc : List (Option Value)) (st : List Value) (h : z_H) : Prop := (z_c h ≤ z_c r.2 ∧ z_s h ≤ z_s r.2) ∧ ∀ (p : Program) (e : Env) (R : Room) (s : State) (m : MethodId) (args : Array Value) (below : List Frame) (meth : Method) (c : Code), z_CxH G d μ p R s m args meth c →
  ∀ (H : Heap) (locs : List Loc) (cells slots mc ms : Nat) (ls : Array Slot), z_lr lc ls → lc.length = μ.1.2.2.1 → z_R G h H → va_S (z_A G) s.heap H locs → cells + z_rcC r ≤ mc + z_c h → slots + z_rcS r ≤ ms + z_s h → mc ≤ R.cells → ms ≤ R.slots →
  W p (z_l G) e R s m args below meth c H locs cells slots (vx_MQ below (z_Qc G r) (z_XC G r) args s mc ms (z_A G)) (F0 m pc ls st)
theorem w_enter {κ : z_Key} {As : List Value} (hμ : μ.1 = κ) (hpl : plainName κ.1.cls = true) (hh : κ.2.2.2.2 ≠ []) (hcn : z_cNm μ.2.2.1 = κ.1.cls) (hlen : (lg_sl As).length ≤ κ.2.2.1)
    (hJ : w_J G d μ r 0 (z_en κ.2.2.1 As) [] h) : z_Ev G d κ As h r := by
  subst hμ
  have hwz : z_w μ.1 = .codeWith μ.1.1 μ.1.2.1 μ.1.2.2.1 μ.1.2.2.2.1 μ.1.2.2.2.2 := by unfold z_w; rw [if_neg hh]
  refine ⟨hJ.1, ?_⟩
  rw [hwz]
  refine vx_ofWH (cc := μ.1.2.1) (maxL := μ.1.2.2.1) (ret := μ.1.2.2.2.1) hpl rfl ?_
  intro p e s m args below meth c s₁ B hml hv
  obtain ⟨rfl, hR, hK, hX, hB⟩ := hv
  have hts0 := atoms_spec (ws := Cond.codeWith μ.1.1 μ.1.2.1 μ.1.2.2.1 μ.1.2.2.2.1 μ.1.2.2.2.2 :: z_gt) B.pre
  have hr1 : z_c r.2 ≤ z_rcC r := by unfold z_rcC; split <;> omega
  have hr2 : z_s r.2 ≤ z_rcS r := by unfold z_rcS; split <;> omega
  have hj1 := hJ.1
  rw [lg_entry_eq]
  refine hJ.2 p e _ s m _ below meth c ?_ s.heap [] 0 0 _ _ _ (z_en_lr As _ hlen) (z_en_len As _ hlen) hR va_S.rf (by omega) (by omega) (Nat.le_refl _) (Nat.le_refl _)
  exact ⟨B.exec, B.bytes, hml, B.returns, by rw [hcn]; exact findClass_of_methodNamed B.named, B.notSynchronized, fun w hw => hts0 w (List.mem_cons_of_mem _ hw), hK, hX, hB, vx_table (x := μ.1.1) B (hts0 _ List.mem_cons_self), Nat.le_refl _, Nat.le_refl _⟩
theorem w_sim {lc : List (Option Value)} {st st' : List Value} {pc' : Nat}
    (hw : ∀ (p : Program) (e : Env) (R : Room) (s : State) (m : MethodId) (args : Array Value) (below : List Frame) (meth : Method) (c : Code) (H : Heap) (locs : List Loc) (cells slots : Nat) (ls : Array Slot) (Q : State → Prop), z_CxH G d μ p R s m args meth c → z_lr lc ls → W p (z_l G) e R s m args below meth c H locs cells slots Q (F0 m pc' ls st') → W p (z_l G) e R s m args below meth c H locs cells slots Q (F0 m pc ls st))
    (k : w_J G d μ r pc' lc st' h) : w_J G d μ r pc lc st h :=
  ⟨k.1, fun p e R s m args below meth c X H locs cells slots mc ms ls hl hn hR hS h1 h2 h3 h4 => hw p e R s m args below meth c H locs cells slots ls _ X hl (k.2 p e R s m args below meth c X H locs cells slots mc ms ls hl hn hR hS h1 h2 h3 h4)⟩
theorem w_aload_n {lc : List (Option Value)} {st : List Value} (hV : z_PV μ) {i : Fin 4} {a : Nat} (hp : μ.2.2.2 pc = some (.aload_n i, 1)) (hl : z_lg lc i.val = some (.ref a)) (k : w_J G d μ r (pc + 1) lc (.ref a :: st) h) : w_J G d μ r pc lc st h := w_sim (fun p e R s m args below meth c H locs cells slots ls Q X L k => z_aload_nq (o := some a) X.1 X.2.1 (hV _ _ hp) (L.2.2 _ _ hl) k) k
theorem w_aload {lc : List (Option Value)} {st : List Value} (hV : z_PV μ) {i : Nat} {a : Nat} (hp : μ.2.2.2 pc = some (.aload i, 2)) (hl : z_lg lc i = some (.ref a)) (k : w_J G d μ r (pc + 2) lc (.ref a :: st) h) : w_J G d μ r pc lc st h := w_sim (fun p e R s m args below meth c H locs cells slots ls Q X L k => z_aloadq (o := some a) X.1 X.2.1 (hV _ _ hp) (L.2.2 _ _ hl) k) k
theorem w_iload_n {lc : List (Option Value)} {st : List Value} (hV : z_PV μ) {i : Fin 4} {v : Int32} (hp : μ.2.2.2 pc = some (.iload_n i, 1)) (hl : z_lg lc i.val = some (.int v)) (k : w_J G d μ r (pc + 1) lc (.int v :: st) h) : w_J G d μ r pc lc st h := w_sim (fun p e R s m args below meth c H locs cells slots ls Q X L k => lv_iload_n X.1 X.2.1 (hV _ _ hp) rfl (L.2.2 _ _ hl) k) k
theorem w_iload {lc : List (Option Value)} {st : List Value} (hV : z_PV μ) {i : Nat} {v : Int32} (hp : μ.2.2.2 pc = some (.iload i, 2)) (hl : z_lg lc i = some (.int v)) (k : w_J G d μ r (pc + 2) lc (.int v :: st) h) : w_J G d μ r pc lc st h := w_sim (fun p e R s m args below meth c H locs cells slots ls Q X L k => lv_iload X.1 X.2.1 (hV _ _ hp) (L.2.2 _ _ hl) k) k
theorem w_iconst {lc : List (Option Value)} {st : List Value} (hV : z_PV μ) {n : Int} (hp : μ.2.2.2 pc = some (.iconst n, 1)) (k : w_J G d μ r (pc + 1) lc (.int (Int32.ofInt n) :: st) h) : w_J G d μ r pc lc st h := w_sim (fun p e R s m args below meth c H locs cells slots ls Q X L k => lv_iconst X.1 X.2.1 (hV _ _ hp) rfl k) k
/-- a body's end -/
theorem w_ret {lc : List (Option Value)} {v : Int32} (hV : z_PV μ) (hret : μ.1.2.2.2.1 = some .int) (hp : μ.2.2.2 pc = some (.ireturn, 1)) (hr : r = (.inl (some (.int v)), h)) : w_J G d μ r pc lc [.int v] h := by
  subst hr
  refine ⟨⟨Nat.le_refl _, Nat.le_refl _⟩, fun p e R s m args below meth c X H locs cells slots mc ms ls hl hn hR hS h1 h2 h3 h4 => ?_⟩
  have h1 : cells + z_c h ≤ mc + z_c h := h1
  have h2 : slots + z_s h ≤ ms + z_s h := h2
  refine vx_ret (W.widen (k := mc) (n := ms) (by omega) (by omega) ?_)
  exact W.iret X.1 X.2.1 (X.2.2.2.1.trans hret) (fun t ht hW => ⟨_, rfl, rfl, by rw [ht]; exact hR, hS.F ht⟩) (fun q hq => hS.2.2 q hq) (hV _ _ hp) X.2.2.2.2.2.1
/-- it answers: kept in the row at o -/
theorem w_okc {κ : z_Key} {k n a o tg : Nat} {off : Int} {As : List Value} {lc : List (Option Value)} {v : Int32} (hV : z_PV μ) (hM : z_MV1 (z_cNm μ.2.2.1) k (10, κ, n, 11)) (hret : μ.1.2.2.2.1 = some .int) (p0 : μ.2.2.2 pc = some (.invokevirtual k, 3)) (p1 : μ.2.2.2 (pc + 3) = some (.i2l, 1)) (p2 : μ.2.2.2 (pc + 3 + 1) = some (.lastore, 1)) (p3 : μ.2.2.2 (pc + 3 + 1 + 1) = some (.goto off, 3)) (htg : ((pc + 3 + 1 + 1 : Nat) : Int) + off = (tg : Int)) (p4 : μ.2.2.2 tg = some (.iconst 0, 1)) (p5 : μ.2.2.2 (tg + 1) = some (.ireturn, 1))
    (hAs : As.length = n) (hkd : z_kd h a = 27) (hE : z_Ev G d κ (.ref a :: As) h (.inl (some (.int v)), h1)) (ho : z_kd h1 o = 2) (hl : z_ln h1 o = 1) (hr : r = (.inl (some (.int (nI 0))), z_pal h1 o 0 v.toInt64)) : w_J G (d + 1) μ r pc lc (As.reverse ++ .ref a :: [.int (nI 0), .ref o]) h := by
  subst hr
  obtain ⟨⟨rr, m1, m2, m4⟩, m3, m5, m6, m7⟩ := hM
  have hE1 : z_c h ≤ z_c h1 ∧ z_s h ≤ z_s h1 := hE.1
  refine ⟨hE1, fun p e R s m args below meth c X H locs cells slots mc ms ls hl' hn hR hS q1 q2 q3 q4 => ?_⟩
  have q1 : cells + z_c h1 ≤ mc + z_c h := q1
  have q2 : slots + z_s h1 ≤ ms + z_s h := q2
  have eC : z_rcC ((.inl (some (.int v)), h1) : z_Res) = z_c h1 := rfl
  have eS : z_rcS ((.inl (some (.int v)), h1) : z_Res) = z_s h1 := rfl
  refine z_after (w_runV (hV _ _ p0) m1 m2 m3 m4 m5 m6 m7 hAs hkd rfl hE p e R s m args below meth c H locs cells slots ls X (hl'.1.trans hn) hR hS (by rw [eC]; omega) (by rw [eS]; omega)) hS (fun v' H1 locs1 hv' hR1 hS1 => ?_) (fun E q ce H1 locs1 n' hE' => by cases hE')
  cases hv'
  obtain ⟨x1, x2, x3, x4, x5, x6, hts, hK, hX, hB, htb, hf, hlo⟩ := X
  refine lv_i2l x1 x2 (hV _ _ p1) rfl ?_
  have hA := (hR1.2 o (by rw [ho]; decide)).1
  refine W.last x1 x2 ((hR1.2 o (by rw [ho]; decide)).2.2.2.1 ho) (z_clT (k := 1) hK rfl _ _) (fun q => by cases q) (by show ¬ (nI 0 < 0 ∨ (arrV _ _ _).slots.size ≤ _); rw [arrV_size]; show ¬ (nI 0 < 0 ∨ z_ln h1 o ≤ (nI 0).toNatClampNeg); rw [hl]; decide) rfl rfl (hV _ _ p2) (fun H2 ee z oq => ?_)
  have hR2 : z_R G (z_pal h1 o 0 v.toInt64) H2 := z_pal_R hR1 ho ee z oq
  have fin : ∀ locs2, va_S (z_A G) s.heap H2 locs2 → W p (z_l G) e R s m args below meth c H2 locs2 (cells + (z_rcC ((.inl (some (.int v)), h1) : z_Res) - z_c h)) (slots + (z_rcS ((.inl (some (.int v)), h1) : z_Res) - z_s h)) (vx_MQ below (z_Qc G (.inl (some (.int (nI 0))), z_pal h1 o 0 v.toInt64)) (z_XC G (.inl (some (.int (nI 0))), z_pal h1 o 0 v.toInt64)) args s mc ms (z_A G)) (F0 m (pc + 3 + 1 + 1) ls []) := fun locs2 hS2 => by
    refine lv_goto x1 x2 (hV _ _ p3) htg ?_
    refine lv_iconst x1 x2 (hV _ _ p4) rfl ?_
    refine vx_ret (W.widen (k := mc) (n := ms) (by rw [eC]; omega) (by rw [eS]; omega) ?_)
    exact W.iret x1 x2 (x4.trans hret) (fun t ht hW => ⟨_, rfl, rfl, by rw [ht]; exact hR2, hS2.F ht⟩) (fun q hq => hS2.2.2 q hq) (hV _ _ p5) x6
  exact fin _ (hS1.put z oq hA)
/-- it throws, and the row x of the table takes it -/
theorem w_thr {κ : z_Key} {k n a o la : Nat} {cd : Int} {As : List Value} {lc : List (Option Value)} {E : String} (hV : z_PV μ) (hM : z_MV1 (z_cNm μ.2.2.1) k (10, κ, n, 11)) (hret : μ.1.2.2.2.1 = some .int) (p0 : μ.2.2.2 pc = some (.invokevirtual k, 3))
    (hAs : As.length = n) (hkd : z_kd h a = 27) (hE : z_Ev G d κ (.ref a :: As) h (.inr E, h1)) (hEE : E = z_IAE ∨ E = z_NSE)
    (pre : List ExceptionTableEntry) (x : ExceptionTableEntry) (suf : List ExceptionTableEntry) (hsplit : tableOf μ.1.2.2.2.2 = pre ++ x :: suf)
    (hpass : ∀ z ∈ pre, z.catchType ≠ 0 ∧ ∃ E', (E' = z_IAE ∨ E' = z_NSE) ∧ E' ≠ E ∧ Cond.classLink (z_cNm μ.2.2.1) z.catchType E' ∈ z_gt) (hcov : covers x pc = true) (h0 : x.catchType ≠ 0) (hlink : Cond.classLink (z_cNm μ.2.2.1) x.catchType E ∈ z_gt)
    (pa : (∃ j : Fin 4, μ.2.2.2 x.handlerPc = some (.astore_n j, 1) ∧ la = 1 ∧ j.val < μ.1.2.2.1) ∨ ∃ j : Nat, μ.2.2.2 x.handlerPc = some (.astore j, 2) ∧ la = 2 ∧ j < μ.1.2.2.1) (p4 : μ.2.2.2 (x.handlerPc + la) = some (.iconst cd, 1)) (p5 : μ.2.2.2 (x.handlerPc + la + 1) = some (.ireturn, 1)) (hr : r = (.inl (some (.int (Int32.ofInt cd))), z_thr h1 (z_n h1 + 1))) : w_J G (d + 1) μ r pc lc (As.reverse ++ .ref a :: [.int (nI 0), .ref o]) h := by
  subst hr
  obtain ⟨⟨rr, m1, m2, m4⟩, m3, m5, m6, m7⟩ := hM
  have hE1 : z_c h ≤ z_c h1 ∧ z_s h ≤ z_s h1 := hE.1
  have f1 : z_c (z_thr h1 (z_n h1 + 1)) = z_c h1 + 1 := rfl
  have f2 : z_s (z_thr h1 (z_n h1 + 1)) = z_s h1 + 6 := rfl
  refine ⟨⟨by show z_c h ≤ z_c h1 + 1; omega, by show z_s h ≤ z_s h1 + 6; omega⟩, fun p e R s m args below meth c X H locs cells slots mc ms ls hl' hn hR hS q1 q2 q3 q4 => ?_⟩
  have q1 : cells + (z_c h1 + 1) ≤ mc + z_c h := q1
  have q2 : slots + (z_s h1 + 6) ≤ ms + z_s h := q2
  have eC : z_rcC ((.inr E, h1) : z_Res) = z_c h1 + 1 := rfl
  have eS : z_rcS ((.inr E, h1) : z_Res) = z_s h1 + 6 := rfl
  refine z_after (w_runV (hV _ _ p0) m1 m2 m3 m4 m5 m6 m7 hAs hkd rfl hE p e R s m args below meth c H locs cells slots ls X (hl'.1.trans hn) hR hS (by rw [eC]; omega) (by rw [eS]; omega)) hS (fun v' H1 locs1 hv' => by cases hv') (fun E' q ce H1 locs1 n' hE' hn' hR1 hS1 hce hcv hcl => ?_)
  cases hE'
  subst hn'
  obtain ⟨x1, x2, x3, x4, x5, x6, hts, hK, hX, hB, htb, hf, hlo⟩ := X
  have hcast : (Cond.castable E E).before args s = true := by
    refine va_Nw.use rfl (hX.1 _ ?_)
    rcases hEE with rfl | rfl <;> simp [z_xC]
  have hnc : ∀ E', (E' = z_IAE ∨ E' = z_NSE) → E' ≠ E → va_Nc E E' s := fun E' hE' hne => by
    rcases hEE with rfl | rfl
    · rcases hE' with rfl | rfl
      · exact absurd rfl hne
      · exact hX.2.1.1
    · rcases hE' with rfl | rfl
      · exact hX.2.1.2
      · exact absurd rfl hne
  refine vx_catch (own := z_cNm μ.2.2.1) (name := E) (E := E) x5 pre x suf (htb.trans hsplit) (fun z hz => by
    obtain ⟨z1, E', z2, z3, z4⟩ := hpass z hz
    exact Or.inr ⟨z1, E', hts _ z4, hnc E' z2 z3⟩) hcov h0 (hts _ hlink) hcast hce hcv hcl ?_
  have fin : ∀ ls' : Array Slot, W p (z_l G) e R s m args below meth c H1 locs1 (cells + (z_rcC ((.inr E, h1) : z_Res) - z_c h)) (slots + (z_rcS ((.inr E, h1) : z_Res) - z_s h)) (vx_MQ below (z_Qc G (.inl (some (.int (Int32.ofInt cd))), z_thr h1 (z_n h1 + 1))) (z_XC G (.inl (some (.int (Int32.ofInt cd))), z_thr h1 (z_n h1 + 1))) args s mc ms (z_A G)) (F0 m (x.handlerPc + la) ls' []) := fun ls' => by
    refine lv_iconst x1 x2 (hV _ _ p4) rfl ?_
    refine vx_ret (W.widen (k := mc) (n := ms) (by rw [eC]; omega) (by rw [eS]; omega) ?_)
    exact W.iret x1 x2 (x4.trans hret) (fun t ht hW => ⟨_, rfl, rfl, by rw [ht]; exact hR1, hS1.F ht⟩) (fun q hq => hS1.2.2 q hq) (hV _ _ p5) x6
  rcases pa with ⟨j, pj, e1, e2⟩ | ⟨j, pj, e1, e2⟩
  · subst e1
    exact lv_astore_n x1 x2 (hV _ _ pj) rfl (z_lr_has hl') (by rw [hn]; exact e2) rfl (fun ls hl => fin ls)
  · subst e1
    exact lv_astore x1 x2 (hV _ _ pj) (z_lr_has hl') (by rw [hn]; exact e2) rfl (fun ls hl => fin ls)
end C17
theorem eL_scheme_k {G : z_G} {d a o : Nat} {x1 : Int32} {h h1 : z_H} {v : Int32} (hkd : z_kd h a = 27) (hE : z_Ev G d k_X11_scheme (.ref a :: [.int x1]) h (.inl (some (.int v)), h1)) (ho : z_kd h1 o = 2) (hl : z_ln h1 o = 1) : z_Ev G (d + 1) k_L_scheme [.ref a, .int x1, .ref o] h (.inl (some (.int (nI 0))), z_pal h1 o 0 v.toInt64) := by
  have hV : z_PV (m_L_scheme z_pu0) := vP_L_scheme z_pu0
  refine w_enter (μ := m_L_scheme z_pu0) rfl (by decide) (fun q => by cases q) rfl (Nat.le_of_ble_eq_true rfl) ?_
  refine w_aload_n hV (pc := 0) rfl rfl ?_
  refine w_iconst hV (pc := 1) rfl ?_
  refine w_aload_n hV (pc := 2) rfl rfl ?_
  refine w_iload_n hV (pc := 3) rfl rfl ?_
  exact w_okc (pc := 4) (As := [.int x1]) (tg := 15) hV (vM_L z_pu0 7 _ rfl) rfl rfl rfl rfl rfl (by decide) rfl rfl rfl hkd hE ho hl rfl
theorem eL_scheme_t1 {G : z_G} {d a o : Nat} {x1 : Int32} {h h1 : z_H} (hkd : z_kd h a = 27) (hE : z_Ev G d k_X11_scheme (.ref a :: [.int x1]) h (.inr z_IAE, h1)) : z_Ev G (d + 1) k_L_scheme [.ref a, .int x1, .ref o] h (.inl (some (.int (nI 1))), z_thr h1 (z_n h1 + 1)) := by
  have hV : z_PV (m_L_scheme z_pu0) := vP_L_scheme z_pu0
  refine w_enter (μ := m_L_scheme z_pu0) rfl (by decide) (fun q => by cases q) rfl (Nat.le_of_ble_eq_true rfl) ?_
  refine w_aload_n hV (pc := 0) rfl rfl ?_
  refine w_iconst hV (pc := 1) rfl ?_
  refine w_aload_n hV (pc := 2) rfl rfl ?_
  refine w_iload_n hV (pc := 3) rfl rfl ?_
  exact w_thr (pc := 4) (As := [.int x1]) (la := 1) (cd := 1) hV (vM_L z_pu0 7 _ rfl) rfl rfl rfl hkd hE (Or.inl rfl) [] ⟨0, 9, 12, 13⟩ [] rfl (fun z hz => by cases hz) (by decide) (by decide) (z_m1T (i := 3173) (by decide +kernel)) (Or.inl ⟨3, rfl, rfl, by decide⟩) rfl rfl rfl
theorem eL_count_k {G : z_G} {d a o : Nat} {x1 : Int32} {h h1 : z_H} {v : Int32} (hkd : z_kd h a = 27) (hE : z_Ev G d k_X11_count (.ref a :: [.int x1]) h (.inl (some (.int v)), h1)) (ho : z_kd h1 o = 2) (hl : z_ln h1 o = 1) : z_Ev G (d + 1) k_L_count [.ref a, .int x1, .ref o] h (.inl (some (.int (nI 0))), z_pal h1 o 0 v.toInt64) := by
  have hV : z_PV (m_L_count z_pu0) := vP_L_count z_pu0
  refine w_enter (μ := m_L_count z_pu0) rfl (by decide) (fun q => by cases q) rfl (Nat.le_of_ble_eq_true rfl) ?_
  refine w_aload_n hV (pc := 0) rfl rfl ?_
  refine w_iconst hV (pc := 1) rfl ?_
  refine w_aload_n hV (pc := 2) rfl rfl ?_
  refine w_iload_n hV (pc := 3) rfl rfl ?_
  exact w_okc (pc := 4) (As := [.int x1]) (tg := 15) hV (vM_L z_pu0 15 _ rfl) rfl rfl rfl rfl rfl (by decide) rfl rfl rfl hkd hE ho hl rfl
theorem eL_count_t1 {G : z_G} {d a o : Nat} {x1 : Int32} {h h1 : z_H} (hkd : z_kd h a = 27) (hE : z_Ev G d k_X11_count (.ref a :: [.int x1]) h (.inr z_NSE, h1)) : z_Ev G (d + 1) k_L_count [.ref a, .int x1, .ref o] h (.inl (some (.int (nI 1))), z_thr h1 (z_n h1 + 1)) := by
  have hV : z_PV (m_L_count z_pu0) := vP_L_count z_pu0
  refine w_enter (μ := m_L_count z_pu0) rfl (by decide) (fun q => by cases q) rfl (Nat.le_of_ble_eq_true rfl) ?_
  refine w_aload_n hV (pc := 0) rfl rfl ?_
  refine w_iconst hV (pc := 1) rfl ?_
  refine w_aload_n hV (pc := 2) rfl rfl ?_
  refine w_iload_n hV (pc := 3) rfl rfl ?_
  exact w_thr (pc := 4) (As := [.int x1]) (la := 1) (cd := 1) hV (vM_L z_pu0 15 _ rfl) rfl rfl rfl hkd hE (Or.inr rfl) [] ⟨0, 9, 12, 18⟩ [] rfl (fun z hz => by cases hz) (by decide) (by decide) (z_m1T (i := 4140) (by decide +kernel)) (Or.inl ⟨3, rfl, rfl, by decide⟩) rfl rfl rfl
theorem eL_line_k {G : z_G} {d a o : Nat} {x1 : Int32} {h h1 : z_H} {v : Int32} (hkd : z_kd h a = 27) (hE : z_Ev G d k_X11_line (.ref a :: [.int x1]) h (.inl (some (.int v)), h1)) (ho : z_kd h1 o = 2) (hl : z_ln h1 o = 1) : z_Ev G (d + 1) k_L_line [.ref a, .int x1, .ref o] h (.inl (some (.int (nI 0))), z_pal h1 o 0 v.toInt64) := by
  have hV : z_PV (m_L_line z_pu0) := vP_L_line z_pu0
  refine w_enter (μ := m_L_line z_pu0) rfl (by decide) (fun q => by cases q) rfl (Nat.le_of_ble_eq_true rfl) ?_
  refine w_aload_n hV (pc := 0) rfl rfl ?_
  refine w_iconst hV (pc := 1) rfl ?_
  refine w_aload_n hV (pc := 2) rfl rfl ?_
  refine w_iload_n hV (pc := 3) rfl rfl ?_
  exact w_okc (pc := 4) (As := [.int x1]) (tg := 15) hV (vM_L z_pu0 20 _ rfl) rfl rfl rfl rfl rfl (by decide) rfl rfl rfl hkd hE ho hl rfl
theorem eL_line_t1 {G : z_G} {d a o : Nat} {x1 : Int32} {h h1 : z_H} (hkd : z_kd h a = 27) (hE : z_Ev G d k_X11_line (.ref a :: [.int x1]) h (.inr z_NSE, h1)) : z_Ev G (d + 1) k_L_line [.ref a, .int x1, .ref o] h (.inl (some (.int (nI 1))), z_thr h1 (z_n h1 + 1)) := by
  have hV : z_PV (m_L_line z_pu0) := vP_L_line z_pu0
  refine w_enter (μ := m_L_line z_pu0) rfl (by decide) (fun q => by cases q) rfl (Nat.le_of_ble_eq_true rfl) ?_
  refine w_aload_n hV (pc := 0) rfl rfl ?_
  refine w_iconst hV (pc := 1) rfl ?_
  refine w_aload_n hV (pc := 2) rfl rfl ?_
  refine w_iload_n hV (pc := 3) rfl rfl ?_
  exact w_thr (pc := 4) (As := [.int x1]) (la := 1) (cd := 1) hV (vM_L z_pu0 20 _ rfl) rfl rfl rfl hkd hE (Or.inr rfl) [] ⟨0, 9, 12, 18⟩ [] rfl (fun z hz => by cases hz) (by decide) (by decide) (z_m1T (i := 4140) (by decide +kernel)) (Or.inl ⟨3, rfl, rfl, by decide⟩) rfl rfl rfl
theorem eL_point_k {G : z_G} {d a o : Nat} {x1 x2 : Int32} {h h1 : z_H} {v : Int32} (hkd : z_kd h a = 27) (hE : z_Ev G d k_X11_point (.ref a :: [.int x1, .int x2]) h (.inl (some (.int v)), h1)) (ho : z_kd h1 o = 2) (hl : z_ln h1 o = 1) : z_Ev G (d + 1) k_L_point [.ref a, .int x1, .int x2, .ref o] h (.inl (some (.int (nI 0))), z_pal h1 o 0 v.toInt64) := by
  have hV : z_PV (m_L_point z_pu0) := vP_L_point z_pu0
  refine w_enter (μ := m_L_point z_pu0) rfl (by decide) (fun q => by cases q) rfl (Nat.le_of_ble_eq_true rfl) ?_
  refine w_aload_n hV (pc := 0) rfl rfl ?_
  refine w_iconst hV (pc := 1) rfl ?_
  refine w_aload_n hV (pc := 2) rfl rfl ?_
  refine w_iload_n hV (pc := 3) rfl rfl ?_
  refine w_iload_n hV (pc := 4) rfl rfl ?_
  exact w_okc (pc := 5) (As := [.int x1, .int x2]) (tg := 17) hV (vM_L z_pu0 23 _ rfl) rfl rfl rfl rfl rfl (by decide) rfl rfl rfl hkd hE ho hl rfl
theorem eL_point_t1 {G : z_G} {d a o : Nat} {x1 x2 : Int32} {h h1 : z_H} (hkd : z_kd h a = 27) (hE : z_Ev G d k_X11_point (.ref a :: [.int x1, .int x2]) h (.inr z_NSE, h1)) : z_Ev G (d + 1) k_L_point [.ref a, .int x1, .int x2, .ref o] h (.inl (some (.int (nI 1))), z_thr h1 (z_n h1 + 1)) := by
  have hV : z_PV (m_L_point z_pu0) := vP_L_point z_pu0
  refine w_enter (μ := m_L_point z_pu0) rfl (by decide) (fun q => by cases q) rfl (Nat.le_of_ble_eq_true rfl) ?_
  refine w_aload_n hV (pc := 0) rfl rfl ?_
  refine w_iconst hV (pc := 1) rfl ?_
  refine w_aload_n hV (pc := 2) rfl rfl ?_
  refine w_iload_n hV (pc := 3) rfl rfl ?_
  refine w_iload_n hV (pc := 4) rfl rfl ?_
  exact w_thr (pc := 5) (As := [.int x1, .int x2]) (la := 2) (cd := 1) hV (vM_L z_pu0 23 _ rfl) rfl rfl rfl hkd hE (Or.inr rfl) [] ⟨0, 10, 13, 18⟩ [] rfl (fun z hz => by cases hz) (by decide) (by decide) (z_m1T (i := 4140) (by decide +kernel)) (Or.inr ⟨4, rfl, rfl, by decide⟩) rfl rfl rfl
theorem eL_joined_k {G : z_G} {d a o : Nat} {x1 x2 : Int32} {h h1 : z_H} {v : Int32} (hkd : z_kd h a = 27) (hE : z_Ev G d k_X11_joined (.ref a :: [.int x1, .int x2]) h (.inl (some (.int v)), h1)) (ho : z_kd h1 o = 2) (hl : z_ln h1 o = 1) : z_Ev G (d + 1) k_L_joined [.ref a, .int x1, .int x2, .ref o] h (.inl (some (.int (nI 0))), z_pal h1 o 0 v.toInt64) := by
  have hV : z_PV (m_L_joined z_pu0) := vP_L_joined z_pu0
  refine w_enter (μ := m_L_joined z_pu0) rfl (by decide) (fun q => by cases q) rfl (Nat.le_of_ble_eq_true rfl) ?_
  refine w_aload_n hV (pc := 0) rfl rfl ?_
  refine w_iconst hV (pc := 1) rfl ?_
  refine w_aload_n hV (pc := 2) rfl rfl ?_
  refine w_iload_n hV (pc := 3) rfl rfl ?_
  refine w_iload_n hV (pc := 4) rfl rfl ?_
  exact w_okc (pc := 5) (As := [.int x1, .int x2]) (tg := 21) hV (vM_L z_pu0 27 _ rfl) rfl rfl rfl rfl rfl (by decide) rfl rfl rfl hkd hE ho hl rfl
theorem eL_joined_t1 {G : z_G} {d a o : Nat} {x1 x2 : Int32} {h h1 : z_H} (hkd : z_kd h a = 27) (hE : z_Ev G d k_X11_joined (.ref a :: [.int x1, .int x2]) h (.inr z_NSE, h1)) : z_Ev G (d + 1) k_L_joined [.ref a, .int x1, .int x2, .ref o] h (.inl (some (.int (nI 1))), z_thr h1 (z_n h1 + 1)) := by
  have hV : z_PV (m_L_joined z_pu0) := vP_L_joined z_pu0
  refine w_enter (μ := m_L_joined z_pu0) rfl (by decide) (fun q => by cases q) rfl (Nat.le_of_ble_eq_true rfl) ?_
  refine w_aload_n hV (pc := 0) rfl rfl ?_
  refine w_iconst hV (pc := 1) rfl ?_
  refine w_aload_n hV (pc := 2) rfl rfl ?_
  refine w_iload_n hV (pc := 3) rfl rfl ?_
  refine w_iload_n hV (pc := 4) rfl rfl ?_
  exact w_thr (pc := 5) (As := [.int x1, .int x2]) (la := 2) (cd := 1) hV (vM_L z_pu0 27 _ rfl) rfl rfl rfl hkd hE (Or.inr rfl) [] ⟨0, 10, 13, 18⟩ [⟨0, 10, 17, 13⟩] rfl (fun z hz => by cases hz) (by decide) (by decide) (z_m1T (i := 4140) (by decide +kernel)) (Or.inr ⟨4, rfl, rfl, by decide⟩) rfl rfl rfl
theorem eL_joined_t2 {G : z_G} {d a o : Nat} {x1 x2 : Int32} {h h1 : z_H} (hkd : z_kd h a = 27) (hE : z_Ev G d k_X11_joined (.ref a :: [.int x1, .int x2]) h (.inr z_IAE, h1)) : z_Ev G (d + 1) k_L_joined [.ref a, .int x1, .int x2, .ref o] h (.inl (some (.int (nI 2))), z_thr h1 (z_n h1 + 1)) := by
  have hV : z_PV (m_L_joined z_pu0) := vP_L_joined z_pu0
  refine w_enter (μ := m_L_joined z_pu0) rfl (by decide) (fun q => by cases q) rfl (Nat.le_of_ble_eq_true rfl) ?_
  refine w_aload_n hV (pc := 0) rfl rfl ?_
  refine w_iconst hV (pc := 1) rfl ?_
  refine w_aload_n hV (pc := 2) rfl rfl ?_
  refine w_iload_n hV (pc := 3) rfl rfl ?_
  refine w_iload_n hV (pc := 4) rfl rfl ?_
  exact w_thr (pc := 5) (As := [.int x1, .int x2]) (la := 2) (cd := 2) hV (vM_L z_pu0 27 _ rfl) rfl rfl rfl hkd hE (Or.inl rfl) [⟨0, 10, 13, 18⟩] ⟨0, 10, 17, 13⟩ [] rfl (fun z hz => by
    cases List.mem_singleton.mp hz
    exact ⟨(by decide), z_NSE, Or.inr rfl, by decide +kernel, z_m1T (i := 4140) (by decide +kernel)⟩) (by decide) (by decide) (z_m1T (i := 3173) (by decide +kernel)) (Or.inr ⟨4, rfl, rfl, by decide⟩) rfl rfl rfl
theorem eL_meet_k {G : z_G} {d a o : Nat} {x1 x2 : Int32} {h h1 : z_H} {v : Int32} (hkd : z_kd h a = 27) (hE : z_Ev G d k_X11_meet (.ref a :: [.int x1, .int x2]) h (.inl (some (.int v)), h1)) (ho : z_kd h1 o = 2) (hl : z_ln h1 o = 1) : z_Ev G (d + 1) k_L_meet [.ref a, .int x1, .int x2, .ref o] h (.inl (some (.int (nI 0))), z_pal h1 o 0 v.toInt64) := by
  have hV : z_PV (m_L_meet z_pu0) := vP_L_meet z_pu0
  refine w_enter (μ := m_L_meet z_pu0) rfl (by decide) (fun q => by cases q) rfl (Nat.le_of_ble_eq_true rfl) ?_
  refine w_aload_n hV (pc := 0) rfl rfl ?_
  refine w_iconst hV (pc := 1) rfl ?_
  refine w_aload_n hV (pc := 2) rfl rfl ?_
  refine w_iload_n hV (pc := 3) rfl rfl ?_
  refine w_iload_n hV (pc := 4) rfl rfl ?_
  exact w_okc (pc := 5) (As := [.int x1, .int x2]) (tg := 21) hV (vM_L z_pu0 30 _ rfl) rfl rfl rfl rfl rfl (by decide) rfl rfl rfl hkd hE ho hl rfl
theorem eL_meet_t1 {G : z_G} {d a o : Nat} {x1 x2 : Int32} {h h1 : z_H} (hkd : z_kd h a = 27) (hE : z_Ev G d k_X11_meet (.ref a :: [.int x1, .int x2]) h (.inr z_NSE, h1)) : z_Ev G (d + 1) k_L_meet [.ref a, .int x1, .int x2, .ref o] h (.inl (some (.int (nI 1))), z_thr h1 (z_n h1 + 1)) := by
  have hV : z_PV (m_L_meet z_pu0) := vP_L_meet z_pu0
  refine w_enter (μ := m_L_meet z_pu0) rfl (by decide) (fun q => by cases q) rfl (Nat.le_of_ble_eq_true rfl) ?_
  refine w_aload_n hV (pc := 0) rfl rfl ?_
  refine w_iconst hV (pc := 1) rfl ?_
  refine w_aload_n hV (pc := 2) rfl rfl ?_
  refine w_iload_n hV (pc := 3) rfl rfl ?_
  refine w_iload_n hV (pc := 4) rfl rfl ?_
  exact w_thr (pc := 5) (As := [.int x1, .int x2]) (la := 2) (cd := 1) hV (vM_L z_pu0 30 _ rfl) rfl rfl rfl hkd hE (Or.inr rfl) [] ⟨0, 10, 13, 18⟩ [⟨0, 10, 17, 13⟩] rfl (fun z hz => by cases hz) (by decide) (by decide) (z_m1T (i := 4140) (by decide +kernel)) (Or.inr ⟨4, rfl, rfl, by decide⟩) rfl rfl rfl
theorem eL_meet_t2 {G : z_G} {d a o : Nat} {x1 x2 : Int32} {h h1 : z_H} (hkd : z_kd h a = 27) (hE : z_Ev G d k_X11_meet (.ref a :: [.int x1, .int x2]) h (.inr z_IAE, h1)) : z_Ev G (d + 1) k_L_meet [.ref a, .int x1, .int x2, .ref o] h (.inl (some (.int (nI 2))), z_thr h1 (z_n h1 + 1)) := by
  have hV : z_PV (m_L_meet z_pu0) := vP_L_meet z_pu0
  refine w_enter (μ := m_L_meet z_pu0) rfl (by decide) (fun q => by cases q) rfl (Nat.le_of_ble_eq_true rfl) ?_
  refine w_aload_n hV (pc := 0) rfl rfl ?_
  refine w_iconst hV (pc := 1) rfl ?_
  refine w_aload_n hV (pc := 2) rfl rfl ?_
  refine w_iload_n hV (pc := 3) rfl rfl ?_
  refine w_iload_n hV (pc := 4) rfl rfl ?_
  exact w_thr (pc := 5) (As := [.int x1, .int x2]) (la := 2) (cd := 2) hV (vM_L z_pu0 30 _ rfl) rfl rfl rfl hkd hE (Or.inl rfl) [⟨0, 10, 13, 18⟩] ⟨0, 10, 17, 13⟩ [] rfl (fun z hz => by
    cases List.mem_singleton.mp hz
    exact ⟨(by decide), z_NSE, Or.inr rfl, by decide +kernel, z_m1T (i := 4140) (by decide +kernel)⟩) (by decide) (by decide) (z_m1T (i := 3173) (by decide +kernel)) (Or.inr ⟨4, rfl, rfl, by decide⟩) rfl rfl rfl
theorem eL_symmetry_k {G : z_G} {d a o : Nat} {x1 x2 : Int32} {h h1 : z_H} {v : Int32} (hkd : z_kd h a = 27) (hE : z_Ev G d k_X11_symmetry (.ref a :: [.int x1, .int x2]) h (.inl (some (.int v)), h1)) (ho : z_kd h1 o = 2) (hl : z_ln h1 o = 1) : z_Ev G (d + 1) k_L_symmetry [.ref a, .int x1, .int x2, .ref o] h (.inl (some (.int (nI 0))), z_pal h1 o 0 v.toInt64) := by
  have hV : z_PV (m_L_symmetry z_pu0) := vP_L_symmetry z_pu0
  refine w_enter (μ := m_L_symmetry z_pu0) rfl (by decide) (fun q => by cases q) rfl (Nat.le_of_ble_eq_true rfl) ?_
  refine w_aload_n hV (pc := 0) rfl rfl ?_
  refine w_iconst hV (pc := 1) rfl ?_
  refine w_aload_n hV (pc := 2) rfl rfl ?_
  refine w_iload_n hV (pc := 3) rfl rfl ?_
  refine w_iload_n hV (pc := 4) rfl rfl ?_
  exact w_okc (pc := 5) (As := [.int x1, .int x2]) (tg := 17) hV (vM_L z_pu0 33 _ rfl) rfl rfl rfl rfl rfl (by decide) rfl rfl rfl hkd hE ho hl rfl
theorem eL_symmetry_t1 {G : z_G} {d a o : Nat} {x1 x2 : Int32} {h h1 : z_H} (hkd : z_kd h a = 27) (hE : z_Ev G d k_X11_symmetry (.ref a :: [.int x1, .int x2]) h (.inr z_NSE, h1)) : z_Ev G (d + 1) k_L_symmetry [.ref a, .int x1, .int x2, .ref o] h (.inl (some (.int (nI 1))), z_thr h1 (z_n h1 + 1)) := by
  have hV : z_PV (m_L_symmetry z_pu0) := vP_L_symmetry z_pu0
  refine w_enter (μ := m_L_symmetry z_pu0) rfl (by decide) (fun q => by cases q) rfl (Nat.le_of_ble_eq_true rfl) ?_
  refine w_aload_n hV (pc := 0) rfl rfl ?_
  refine w_iconst hV (pc := 1) rfl ?_
  refine w_aload_n hV (pc := 2) rfl rfl ?_
  refine w_iload_n hV (pc := 3) rfl rfl ?_
  refine w_iload_n hV (pc := 4) rfl rfl ?_
  exact w_thr (pc := 5) (As := [.int x1, .int x2]) (la := 2) (cd := 1) hV (vM_L z_pu0 33 _ rfl) rfl rfl rfl hkd hE (Or.inr rfl) [] ⟨0, 10, 13, 18⟩ [] rfl (fun z hz => by cases hz) (by decide) (by decide) (z_m1T (i := 4140) (by decide +kernel)) (Or.inr ⟨4, rfl, rfl, by decide⟩) rfl rfl rfl
theorem eL_normal_k {G : z_G} {d a o : Nat} {x1 : Int32} {h h1 : z_H} {v : Int32} (hkd : z_kd h a = 27) (hE : z_Ev G d k_X11_normal (.ref a :: [.int x1]) h (.inl (some (.int v)), h1)) (ho : z_kd h1 o = 2) (hl : z_ln h1 o = 1) : z_Ev G (d + 1) k_L_normal [.ref a, .int x1, .ref o] h (.inl (some (.int (nI 0))), z_pal h1 o 0 v.toInt64) := by
  have hV : z_PV (m_L_normal z_pu0) := vP_L_normal z_pu0
  refine w_enter (μ := m_L_normal z_pu0) rfl (by decide) (fun q => by cases q) rfl (Nat.le_of_ble_eq_true rfl) ?_
  refine w_aload_n hV (pc := 0) rfl rfl ?_
  refine w_iconst hV (pc := 1) rfl ?_
  refine w_aload_n hV (pc := 2) rfl rfl ?_
  refine w_iload_n hV (pc := 3) rfl rfl ?_
  exact w_okc (pc := 4) (As := [.int x1]) (tg := 15) hV (vM_L z_pu0 36 _ rfl) rfl rfl rfl rfl rfl (by decide) rfl rfl rfl hkd hE ho hl rfl
theorem eL_normal_t1 {G : z_G} {d a o : Nat} {x1 : Int32} {h h1 : z_H} (hkd : z_kd h a = 27) (hE : z_Ev G d k_X11_normal (.ref a :: [.int x1]) h (.inr z_NSE, h1)) : z_Ev G (d + 1) k_L_normal [.ref a, .int x1, .ref o] h (.inl (some (.int (nI 1))), z_thr h1 (z_n h1 + 1)) := by
  have hV : z_PV (m_L_normal z_pu0) := vP_L_normal z_pu0
  refine w_enter (μ := m_L_normal z_pu0) rfl (by decide) (fun q => by cases q) rfl (Nat.le_of_ble_eq_true rfl) ?_
  refine w_aload_n hV (pc := 0) rfl rfl ?_
  refine w_iconst hV (pc := 1) rfl ?_
  refine w_aload_n hV (pc := 2) rfl rfl ?_
  refine w_iload_n hV (pc := 3) rfl rfl ?_
  exact w_thr (pc := 4) (As := [.int x1]) (la := 1) (cd := 1) hV (vM_L z_pu0 36 _ rfl) rfl rfl rfl hkd hE (Or.inr rfl) [] ⟨0, 9, 12, 18⟩ [] rfl (fun z hz => by cases hz) (by decide) (by decide) (z_m1T (i := 4140) (by decide +kernel)) (Or.inl ⟨3, rfl, rfl, by decide⟩) rfl rfl rfl
theorem eL_dual_k {G : z_G} {d a o : Nat} {x1 : Int32} {h h1 : z_H} {v : Int32} (hkd : z_kd h a = 27) (hE : z_Ev G d k_X11_dual (.ref a :: [.int x1]) h (.inl (some (.int v)), h1)) (ho : z_kd h1 o = 2) (hl : z_ln h1 o = 1) : z_Ev G (d + 1) k_L_dual [.ref a, .int x1, .ref o] h (.inl (some (.int (nI 0))), z_pal h1 o 0 v.toInt64) := by
  have hV : z_PV (m_L_dual z_pu0) := vP_L_dual z_pu0
  refine w_enter (μ := m_L_dual z_pu0) rfl (by decide) (fun q => by cases q) rfl (Nat.le_of_ble_eq_true rfl) ?_
  refine w_aload_n hV (pc := 0) rfl rfl ?_
  refine w_iconst hV (pc := 1) rfl ?_
  refine w_aload_n hV (pc := 2) rfl rfl ?_
  refine w_iload_n hV (pc := 3) rfl rfl ?_
  exact w_okc (pc := 4) (As := [.int x1]) (tg := 15) hV (vM_L z_pu0 39 _ rfl) rfl rfl rfl rfl rfl (by decide) rfl rfl rfl hkd hE ho hl rfl
theorem eL_dual_t1 {G : z_G} {d a o : Nat} {x1 : Int32} {h h1 : z_H} (hkd : z_kd h a = 27) (hE : z_Ev G d k_X11_dual (.ref a :: [.int x1]) h (.inr z_NSE, h1)) : z_Ev G (d + 1) k_L_dual [.ref a, .int x1, .ref o] h (.inl (some (.int (nI 1))), z_thr h1 (z_n h1 + 1)) := by
  have hV : z_PV (m_L_dual z_pu0) := vP_L_dual z_pu0
  refine w_enter (μ := m_L_dual z_pu0) rfl (by decide) (fun q => by cases q) rfl (Nat.le_of_ble_eq_true rfl) ?_
  refine w_aload_n hV (pc := 0) rfl rfl ?_
  refine w_iconst hV (pc := 1) rfl ?_
  refine w_aload_n hV (pc := 2) rfl rfl ?_
  refine w_iload_n hV (pc := 3) rfl rfl ?_
  exact w_thr (pc := 4) (As := [.int x1]) (la := 1) (cd := 1) hV (vM_L z_pu0 39 _ rfl) rfl rfl rfl hkd hE (Or.inr rfl) [] ⟨0, 9, 12, 18⟩ [] rfl (fun z hz => by cases hz) (by decide) (by decide) (z_m1T (i := 4140) (by decide +kernel)) (Or.inl ⟨3, rfl, rfl, by decide⟩) rfl rfl rfl
theorem eL_shelf_k {G : z_G} {d a o : Nat} {x1 x2 : Int32} {h h1 : z_H} {v : Int32} (hkd : z_kd h a = 27) (hE : z_Ev G d k_X11_shelf (.ref a :: [.int x1, .int x2]) h (.inl (some (.int v)), h1)) (ho : z_kd h1 o = 2) (hl : z_ln h1 o = 1) : z_Ev G (d + 1) k_L_shelf [.ref a, .int x1, .int x2, .ref o] h (.inl (some (.int (nI 0))), z_pal h1 o 0 v.toInt64) := by
  have hV : z_PV (m_L_shelf z_pu0) := vP_L_shelf z_pu0
  refine w_enter (μ := m_L_shelf z_pu0) rfl (by decide) (fun q => by cases q) rfl (Nat.le_of_ble_eq_true rfl) ?_
  refine w_aload_n hV (pc := 0) rfl rfl ?_
  refine w_iconst hV (pc := 1) rfl ?_
  refine w_aload_n hV (pc := 2) rfl rfl ?_
  refine w_iload_n hV (pc := 3) rfl rfl ?_
  refine w_iload_n hV (pc := 4) rfl rfl ?_
  exact w_okc (pc := 5) (As := [.int x1, .int x2]) (tg := 17) hV (vM_L z_pu0 42 _ rfl) rfl rfl rfl rfl rfl (by decide) rfl rfl rfl hkd hE ho hl rfl
theorem eL_shelf_t1 {G : z_G} {d a o : Nat} {x1 x2 : Int32} {h h1 : z_H} (hkd : z_kd h a = 27) (hE : z_Ev G d k_X11_shelf (.ref a :: [.int x1, .int x2]) h (.inr z_NSE, h1)) : z_Ev G (d + 1) k_L_shelf [.ref a, .int x1, .int x2, .ref o] h (.inl (some (.int (nI 1))), z_thr h1 (z_n h1 + 1)) := by
  have hV : z_PV (m_L_shelf z_pu0) := vP_L_shelf z_pu0
  refine w_enter (μ := m_L_shelf z_pu0) rfl (by decide) (fun q => by cases q) rfl (Nat.le_of_ble_eq_true rfl) ?_
  refine w_aload_n hV (pc := 0) rfl rfl ?_
  refine w_iconst hV (pc := 1) rfl ?_
  refine w_aload_n hV (pc := 2) rfl rfl ?_
  refine w_iload_n hV (pc := 3) rfl rfl ?_
  refine w_iload_n hV (pc := 4) rfl rfl ?_
  exact w_thr (pc := 5) (As := [.int x1, .int x2]) (la := 2) (cd := 1) hV (vM_L z_pu0 42 _ rfl) rfl rfl rfl hkd hE (Or.inr rfl) [] ⟨0, 10, 13, 18⟩ [] rfl (fun z hz => by cases hz) (by decide) (by decide) (z_m1T (i := 4140) (by decide +kernel)) (Or.inr ⟨4, rfl, rfl, by decide⟩) rfl rfl rfl
theorem eL_way_k {G : z_G} {d a o : Nat} {x1 x2 : Int32} {h h1 : z_H} {v : Int32} (hkd : z_kd h a = 27) (hE : z_Ev G d k_X11_way (.ref a :: [.int x1, .int x2]) h (.inl (some (.int v)), h1)) (ho : z_kd h1 o = 2) (hl : z_ln h1 o = 1) : z_Ev G (d + 1) k_L_way [.ref a, .int x1, .int x2, .ref o] h (.inl (some (.int (nI 0))), z_pal h1 o 0 v.toInt64) := by
  have hV : z_PV (m_L_way z_pu0) := vP_L_way z_pu0
  refine w_enter (μ := m_L_way z_pu0) rfl (by decide) (fun q => by cases q) rfl (Nat.le_of_ble_eq_true rfl) ?_
  refine w_aload_n hV (pc := 0) rfl rfl ?_
  refine w_iconst hV (pc := 1) rfl ?_
  refine w_aload_n hV (pc := 2) rfl rfl ?_
  refine w_iload_n hV (pc := 3) rfl rfl ?_
  refine w_iload_n hV (pc := 4) rfl rfl ?_
  exact w_okc (pc := 5) (As := [.int x1, .int x2]) (tg := 17) hV (vM_L z_pu0 45 _ rfl) rfl rfl rfl rfl rfl (by decide) rfl rfl rfl hkd hE ho hl rfl
theorem eL_way_t1 {G : z_G} {d a o : Nat} {x1 x2 : Int32} {h h1 : z_H} (hkd : z_kd h a = 27) (hE : z_Ev G d k_X11_way (.ref a :: [.int x1, .int x2]) h (.inr z_NSE, h1)) : z_Ev G (d + 1) k_L_way [.ref a, .int x1, .int x2, .ref o] h (.inl (some (.int (nI 1))), z_thr h1 (z_n h1 + 1)) := by
  have hV : z_PV (m_L_way z_pu0) := vP_L_way z_pu0
  refine w_enter (μ := m_L_way z_pu0) rfl (by decide) (fun q => by cases q) rfl (Nat.le_of_ble_eq_true rfl) ?_
  refine w_aload_n hV (pc := 0) rfl rfl ?_
  refine w_iconst hV (pc := 1) rfl ?_
  refine w_aload_n hV (pc := 2) rfl rfl ?_
  refine w_iload_n hV (pc := 3) rfl rfl ?_
  refine w_iload_n hV (pc := 4) rfl rfl ?_
  exact w_thr (pc := 5) (As := [.int x1, .int x2]) (la := 2) (cd := 1) hV (vM_L z_pu0 45 _ rfl) rfl rfl rfl hkd hE (Or.inr rfl) [] ⟨0, 10, 13, 18⟩ [] rfl (fun z hz => by cases hz) (by decide) (by decide) (z_m1T (i := 4140) (by decide +kernel)) (Or.inr ⟨4, rfl, rfl, by decide⟩) rfl rfl rfl
theorem eL_list_k {G : z_G} {d a o : Nat} {x1 x2 x3 x4 : Int32} {h h1 : z_H} {v : Int32} (hkd : z_kd h a = 27) (hE : z_Ev G d k_X11_list (.ref a :: [.int x1, .int x2, .int x3, .int x4]) h (.inl (some (.int v)), h1)) (ho : z_kd h1 o = 2) (hl : z_ln h1 o = 1) : z_Ev G (d + 1) k_L_list [.ref a, .int x1, .int x2, .int x3, .int x4, .ref o] h (.inl (some (.int (nI 0))), z_pal h1 o 0 v.toInt64) := by
  have hV : z_PV (m_L_list z_pu0) := vP_L_list z_pu0
  refine w_enter (μ := m_L_list z_pu0) rfl (by decide) (fun q => by cases q) rfl (Nat.le_of_ble_eq_true rfl) ?_
  refine w_aload hV (pc := 0) rfl rfl ?_
  refine w_iconst hV (pc := 2) rfl ?_
  refine w_aload_n hV (pc := 3) rfl rfl ?_
  refine w_iload_n hV (pc := 4) rfl rfl ?_
  refine w_iload_n hV (pc := 5) rfl rfl ?_
  refine w_iload_n hV (pc := 6) rfl rfl ?_
  refine w_iload hV (pc := 7) rfl rfl ?_
  exact w_okc (pc := 9) (As := [.int x1, .int x2, .int x3, .int x4]) (tg := 25) hV (vM_L z_pu0 48 _ rfl) rfl rfl rfl rfl rfl (by decide) rfl rfl rfl hkd hE ho hl rfl
theorem eL_list_t1 {G : z_G} {d a o : Nat} {x1 x2 x3 x4 : Int32} {h h1 : z_H} (hkd : z_kd h a = 27) (hE : z_Ev G d k_X11_list (.ref a :: [.int x1, .int x2, .int x3, .int x4]) h (.inr z_IAE, h1)) : z_Ev G (d + 1) k_L_list [.ref a, .int x1, .int x2, .int x3, .int x4, .ref o] h (.inl (some (.int (nI 1))), z_thr h1 (z_n h1 + 1)) := by
  have hV : z_PV (m_L_list z_pu0) := vP_L_list z_pu0
  refine w_enter (μ := m_L_list z_pu0) rfl (by decide) (fun q => by cases q) rfl (Nat.le_of_ble_eq_true rfl) ?_
  refine w_aload hV (pc := 0) rfl rfl ?_
  refine w_iconst hV (pc := 2) rfl ?_
  refine w_aload_n hV (pc := 3) rfl rfl ?_
  refine w_iload_n hV (pc := 4) rfl rfl ?_
  refine w_iload_n hV (pc := 5) rfl rfl ?_
  refine w_iload_n hV (pc := 6) rfl rfl ?_
  refine w_iload hV (pc := 7) rfl rfl ?_
  exact w_thr (pc := 9) (As := [.int x1, .int x2, .int x3, .int x4]) (la := 2) (cd := 1) hV (vM_L z_pu0 48 _ rfl) rfl rfl rfl hkd hE (Or.inl rfl) [] ⟨0, 14, 17, 13⟩ [⟨0, 14, 21, 18⟩] rfl (fun z hz => by cases hz) (by decide) (by decide) (z_m1T (i := 3173) (by decide +kernel)) (Or.inr ⟨6, rfl, rfl, by decide⟩) rfl rfl rfl
theorem eL_list_t2 {G : z_G} {d a o : Nat} {x1 x2 x3 x4 : Int32} {h h1 : z_H} (hkd : z_kd h a = 27) (hE : z_Ev G d k_X11_list (.ref a :: [.int x1, .int x2, .int x3, .int x4]) h (.inr z_NSE, h1)) : z_Ev G (d + 1) k_L_list [.ref a, .int x1, .int x2, .int x3, .int x4, .ref o] h (.inl (some (.int (nI 2))), z_thr h1 (z_n h1 + 1)) := by
  have hV : z_PV (m_L_list z_pu0) := vP_L_list z_pu0
  refine w_enter (μ := m_L_list z_pu0) rfl (by decide) (fun q => by cases q) rfl (Nat.le_of_ble_eq_true rfl) ?_
  refine w_aload hV (pc := 0) rfl rfl ?_
  refine w_iconst hV (pc := 2) rfl ?_
  refine w_aload_n hV (pc := 3) rfl rfl ?_
  refine w_iload_n hV (pc := 4) rfl rfl ?_
  refine w_iload_n hV (pc := 5) rfl rfl ?_
  refine w_iload_n hV (pc := 6) rfl rfl ?_
  refine w_iload hV (pc := 7) rfl rfl ?_
  exact w_thr (pc := 9) (As := [.int x1, .int x2, .int x3, .int x4]) (la := 2) (cd := 2) hV (vM_L z_pu0 48 _ rfl) rfl rfl rfl hkd hE (Or.inr rfl) [⟨0, 14, 17, 13⟩] ⟨0, 14, 21, 18⟩ [] rfl (fun z hz => by
    cases List.mem_singleton.mp hz
    exact ⟨(by decide), z_IAE, Or.inl rfl, by decide +kernel, z_m1T (i := 3173) (by decide +kernel)⟩) (by decide) (by decide) (z_m1T (i := 4140) (by decide +kernel)) (Or.inr ⟨6, rfl, rfl, by decide⟩) rfl rfl rfl
theorem eL_square_k {G : z_G} {d a o : Nat} {x1 x2 : Int32} {h h1 : z_H} {v : Int32} (hkd : z_kd h a = 27) (hE : z_Ev G d k_X11_square (.ref a :: [.int x1, .int x2]) h (.inl (some (.int v)), h1)) (ho : z_kd h1 o = 2) (hl : z_ln h1 o = 1) : z_Ev G (d + 1) k_L_square [.ref a, .int x1, .int x2, .ref o] h (.inl (some (.int (nI 0))), z_pal h1 o 0 v.toInt64) := by
  have hV : z_PV (m_L_square z_pu0) := vP_L_square z_pu0
  refine w_enter (μ := m_L_square z_pu0) rfl (by decide) (fun q => by cases q) rfl (Nat.le_of_ble_eq_true rfl) ?_
  refine w_aload_n hV (pc := 0) rfl rfl ?_
  refine w_iconst hV (pc := 1) rfl ?_
  refine w_aload_n hV (pc := 2) rfl rfl ?_
  refine w_iload_n hV (pc := 3) rfl rfl ?_
  refine w_iload_n hV (pc := 4) rfl rfl ?_
  exact w_okc (pc := 5) (As := [.int x1, .int x2]) (tg := 21) hV (vM_L z_pu0 52 _ rfl) rfl rfl rfl rfl rfl (by decide) rfl rfl rfl hkd hE ho hl rfl
theorem eL_square_t1 {G : z_G} {d a o : Nat} {x1 x2 : Int32} {h h1 : z_H} (hkd : z_kd h a = 27) (hE : z_Ev G d k_X11_square (.ref a :: [.int x1, .int x2]) h (.inr z_NSE, h1)) : z_Ev G (d + 1) k_L_square [.ref a, .int x1, .int x2, .ref o] h (.inl (some (.int (nI 1))), z_thr h1 (z_n h1 + 1)) := by
  have hV : z_PV (m_L_square z_pu0) := vP_L_square z_pu0
  refine w_enter (μ := m_L_square z_pu0) rfl (by decide) (fun q => by cases q) rfl (Nat.le_of_ble_eq_true rfl) ?_
  refine w_aload_n hV (pc := 0) rfl rfl ?_
  refine w_iconst hV (pc := 1) rfl ?_
  refine w_aload_n hV (pc := 2) rfl rfl ?_
  refine w_iload_n hV (pc := 3) rfl rfl ?_
  refine w_iload_n hV (pc := 4) rfl rfl ?_
  exact w_thr (pc := 5) (As := [.int x1, .int x2]) (la := 2) (cd := 1) hV (vM_L z_pu0 52 _ rfl) rfl rfl rfl hkd hE (Or.inr rfl) [] ⟨0, 10, 13, 18⟩ [⟨0, 10, 17, 13⟩] rfl (fun z hz => by cases hz) (by decide) (by decide) (z_m1T (i := 4140) (by decide +kernel)) (Or.inr ⟨4, rfl, rfl, by decide⟩) rfl rfl rfl
theorem eL_square_t2 {G : z_G} {d a o : Nat} {x1 x2 : Int32} {h h1 : z_H} (hkd : z_kd h a = 27) (hE : z_Ev G d k_X11_square (.ref a :: [.int x1, .int x2]) h (.inr z_IAE, h1)) : z_Ev G (d + 1) k_L_square [.ref a, .int x1, .int x2, .ref o] h (.inl (some (.int (nI 2))), z_thr h1 (z_n h1 + 1)) := by
  have hV : z_PV (m_L_square z_pu0) := vP_L_square z_pu0
  refine w_enter (μ := m_L_square z_pu0) rfl (by decide) (fun q => by cases q) rfl (Nat.le_of_ble_eq_true rfl) ?_
  refine w_aload_n hV (pc := 0) rfl rfl ?_
  refine w_iconst hV (pc := 1) rfl ?_
  refine w_aload_n hV (pc := 2) rfl rfl ?_
  refine w_iload_n hV (pc := 3) rfl rfl ?_
  refine w_iload_n hV (pc := 4) rfl rfl ?_
  exact w_thr (pc := 5) (As := [.int x1, .int x2]) (la := 2) (cd := 2) hV (vM_L z_pu0 52 _ rfl) rfl rfl rfl hkd hE (Or.inl rfl) [⟨0, 10, 13, 18⟩] ⟨0, 10, 17, 13⟩ [] rfl (fun z hz => by
    cases List.mem_singleton.mp hz
    exact ⟨(by decide), z_NSE, Or.inr rfl, by decide +kernel, z_m1T (i := 4140) (by decide +kernel)⟩) (by decide) (by decide) (z_m1T (i := 3173) (by decide +kernel)) (Or.inr ⟨4, rfl, rfl, by decide⟩) rfl rfl rfl
theorem eL_plane_k {G : z_G} {d a o : Nat} {x1 x2 : Int32} {h h1 : z_H} {v : Int32} (hkd : z_kd h a = 27) (hE : z_Ev G d k_X11_plane (.ref a :: [.int x1, .int x2]) h (.inl (some (.int v)), h1)) (ho : z_kd h1 o = 2) (hl : z_ln h1 o = 1) : z_Ev G (d + 1) k_L_plane [.ref a, .int x1, .int x2, .ref o] h (.inl (some (.int (nI 0))), z_pal h1 o 0 v.toInt64) := by
  have hV : z_PV (m_L_plane z_pu0) := vP_L_plane z_pu0
  refine w_enter (μ := m_L_plane z_pu0) rfl (by decide) (fun q => by cases q) rfl (Nat.le_of_ble_eq_true rfl) ?_
  refine w_aload_n hV (pc := 0) rfl rfl ?_
  refine w_iconst hV (pc := 1) rfl ?_
  refine w_aload_n hV (pc := 2) rfl rfl ?_
  refine w_iload_n hV (pc := 3) rfl rfl ?_
  refine w_iload_n hV (pc := 4) rfl rfl ?_
  exact w_okc (pc := 5) (As := [.int x1, .int x2]) (tg := 21) hV (vM_L z_pu0 55 _ rfl) rfl rfl rfl rfl rfl (by decide) rfl rfl rfl hkd hE ho hl rfl
theorem eL_plane_t1 {G : z_G} {d a o : Nat} {x1 x2 : Int32} {h h1 : z_H} (hkd : z_kd h a = 27) (hE : z_Ev G d k_X11_plane (.ref a :: [.int x1, .int x2]) h (.inr z_NSE, h1)) : z_Ev G (d + 1) k_L_plane [.ref a, .int x1, .int x2, .ref o] h (.inl (some (.int (nI 1))), z_thr h1 (z_n h1 + 1)) := by
  have hV : z_PV (m_L_plane z_pu0) := vP_L_plane z_pu0
  refine w_enter (μ := m_L_plane z_pu0) rfl (by decide) (fun q => by cases q) rfl (Nat.le_of_ble_eq_true rfl) ?_
  refine w_aload_n hV (pc := 0) rfl rfl ?_
  refine w_iconst hV (pc := 1) rfl ?_
  refine w_aload_n hV (pc := 2) rfl rfl ?_
  refine w_iload_n hV (pc := 3) rfl rfl ?_
  refine w_iload_n hV (pc := 4) rfl rfl ?_
  exact w_thr (pc := 5) (As := [.int x1, .int x2]) (la := 2) (cd := 1) hV (vM_L z_pu0 55 _ rfl) rfl rfl rfl hkd hE (Or.inr rfl) [] ⟨0, 10, 13, 18⟩ [⟨0, 10, 17, 13⟩] rfl (fun z hz => by cases hz) (by decide) (by decide) (z_m1T (i := 4140) (by decide +kernel)) (Or.inr ⟨4, rfl, rfl, by decide⟩) rfl rfl rfl
theorem eL_plane_t2 {G : z_G} {d a o : Nat} {x1 x2 : Int32} {h h1 : z_H} (hkd : z_kd h a = 27) (hE : z_Ev G d k_X11_plane (.ref a :: [.int x1, .int x2]) h (.inr z_IAE, h1)) : z_Ev G (d + 1) k_L_plane [.ref a, .int x1, .int x2, .ref o] h (.inl (some (.int (nI 2))), z_thr h1 (z_n h1 + 1)) := by
  have hV : z_PV (m_L_plane z_pu0) := vP_L_plane z_pu0
  refine w_enter (μ := m_L_plane z_pu0) rfl (by decide) (fun q => by cases q) rfl (Nat.le_of_ble_eq_true rfl) ?_
  refine w_aload_n hV (pc := 0) rfl rfl ?_
  refine w_iconst hV (pc := 1) rfl ?_
  refine w_aload_n hV (pc := 2) rfl rfl ?_
  refine w_iload_n hV (pc := 3) rfl rfl ?_
  refine w_iload_n hV (pc := 4) rfl rfl ?_
  exact w_thr (pc := 5) (As := [.int x1, .int x2]) (la := 2) (cd := 2) hV (vM_L z_pu0 55 _ rfl) rfl rfl rfl hkd hE (Or.inl rfl) [⟨0, 10, 13, 18⟩] ⟨0, 10, 17, 13⟩ [] rfl (fun z hz => by
    cases List.mem_singleton.mp hz
    exact ⟨(by decide), z_NSE, Or.inr rfl, by decide +kernel, z_m1T (i := 4140) (by decide +kernel)⟩) (by decide) (by decide) (z_m1T (i := 3173) (by decide +kernel)) (Or.inr ⟨4, rfl, rfl, by decide⟩) rfl rfl rfl
theorem eL_set_k {G : z_G} {d a o : Nat} {x1 : Int32} {h h1 : z_H} {v : Int32} (hkd : z_kd h a = 27) (hE : z_Ev G d k_X11_set (.ref a :: [.int x1]) h (.inl (some (.int v)), h1)) (ho : z_kd h1 o = 2) (hl : z_ln h1 o = 1) : z_Ev G (d + 1) k_L_set [.ref a, .int x1, .ref o] h (.inl (some (.int (nI 0))), z_pal h1 o 0 v.toInt64) := by
  have hV : z_PV (m_L_set z_pu0) := vP_L_set z_pu0
  refine w_enter (μ := m_L_set z_pu0) rfl (by decide) (fun q => by cases q) rfl (Nat.le_of_ble_eq_true rfl) ?_
  refine w_aload_n hV (pc := 0) rfl rfl ?_
  refine w_iconst hV (pc := 1) rfl ?_
  refine w_aload_n hV (pc := 2) rfl rfl ?_
  refine w_iload_n hV (pc := 3) rfl rfl ?_
  exact w_okc (pc := 4) (As := [.int x1]) (tg := 15) hV (vM_L z_pu0 58 _ rfl) rfl rfl rfl rfl rfl (by decide) rfl rfl rfl hkd hE ho hl rfl
theorem eL_set_t1 {G : z_G} {d a o : Nat} {x1 : Int32} {h h1 : z_H} (hkd : z_kd h a = 27) (hE : z_Ev G d k_X11_set (.ref a :: [.int x1]) h (.inr z_NSE, h1)) : z_Ev G (d + 1) k_L_set [.ref a, .int x1, .ref o] h (.inl (some (.int (nI 1))), z_thr h1 (z_n h1 + 1)) := by
  have hV : z_PV (m_L_set z_pu0) := vP_L_set z_pu0
  refine w_enter (μ := m_L_set z_pu0) rfl (by decide) (fun q => by cases q) rfl (Nat.le_of_ble_eq_true rfl) ?_
  refine w_aload_n hV (pc := 0) rfl rfl ?_
  refine w_iconst hV (pc := 1) rfl ?_
  refine w_aload_n hV (pc := 2) rfl rfl ?_
  refine w_iload_n hV (pc := 3) rfl rfl ?_
  exact w_thr (pc := 4) (As := [.int x1]) (la := 1) (cd := 1) hV (vM_L z_pu0 58 _ rfl) rfl rfl rfl hkd hE (Or.inr rfl) [] ⟨0, 9, 12, 18⟩ [] rfl (fun z hz => by cases hz) (by decide) (by decide) (z_m1T (i := 4140) (by decide +kernel)) (Or.inl ⟨3, rfl, rfl, by decide⟩) rfl rfl rfl
theorem eL_far_k {G : z_G} {d a o : Nat} {x1 x2 : Int32} {h h1 : z_H} {v : Int32} (hkd : z_kd h a = 27) (hE : z_Ev G d k_X11_far (.ref a :: [.int x1, .int x2]) h (.inl (some (.int v)), h1)) (ho : z_kd h1 o = 2) (hl : z_ln h1 o = 1) : z_Ev G (d + 1) k_L_far [.ref a, .int x1, .int x2, .ref o] h (.inl (some (.int (nI 0))), z_pal h1 o 0 v.toInt64) := by
  have hV : z_PV (m_L_far z_pu0) := vP_L_far z_pu0
  refine w_enter (μ := m_L_far z_pu0) rfl (by decide) (fun q => by cases q) rfl (Nat.le_of_ble_eq_true rfl) ?_
  refine w_aload_n hV (pc := 0) rfl rfl ?_
  refine w_iconst hV (pc := 1) rfl ?_
  refine w_aload_n hV (pc := 2) rfl rfl ?_
  refine w_iload_n hV (pc := 3) rfl rfl ?_
  refine w_iload_n hV (pc := 4) rfl rfl ?_
  exact w_okc (pc := 5) (As := [.int x1, .int x2]) (tg := 17) hV (vM_L z_pu0 61 _ rfl) rfl rfl rfl rfl rfl (by decide) rfl rfl rfl hkd hE ho hl rfl
theorem eL_far_t1 {G : z_G} {d a o : Nat} {x1 x2 : Int32} {h h1 : z_H} (hkd : z_kd h a = 27) (hE : z_Ev G d k_X11_far (.ref a :: [.int x1, .int x2]) h (.inr z_NSE, h1)) : z_Ev G (d + 1) k_L_far [.ref a, .int x1, .int x2, .ref o] h (.inl (some (.int (nI 1))), z_thr h1 (z_n h1 + 1)) := by
  have hV : z_PV (m_L_far z_pu0) := vP_L_far z_pu0
  refine w_enter (μ := m_L_far z_pu0) rfl (by decide) (fun q => by cases q) rfl (Nat.le_of_ble_eq_true rfl) ?_
  refine w_aload_n hV (pc := 0) rfl rfl ?_
  refine w_iconst hV (pc := 1) rfl ?_
  refine w_aload_n hV (pc := 2) rfl rfl ?_
  refine w_iload_n hV (pc := 3) rfl rfl ?_
  refine w_iload_n hV (pc := 4) rfl rfl ?_
  exact w_thr (pc := 5) (As := [.int x1, .int x2]) (la := 2) (cd := 1) hV (vM_L z_pu0 61 _ rfl) rfl rfl rfl hkd hE (Or.inr rfl) [] ⟨0, 10, 13, 18⟩ [] rfl (fun z hz => by cases hz) (by decide) (by decide) (z_m1T (i := 4140) (by decide +kernel)) (Or.inr ⟨4, rfl, rfl, by decide⟩) rfl rfl rfl
theorem eL_game_k {G : z_G} {d a o : Nat} {x1 : Int32} {h h1 : z_H} {v : Int32} (hkd : z_kd h a = 27) (hE : z_Ev G d k_X11_game (.ref a :: [.int x1]) h (.inl (some (.int v)), h1)) (ho : z_kd h1 o = 2) (hl : z_ln h1 o = 1) : z_Ev G (d + 1) k_L_game [.ref a, .int x1, .ref o] h (.inl (some (.int (nI 0))), z_pal h1 o 0 v.toInt64) := by
  have hV : z_PV (m_L_game z_pu0) := vP_L_game z_pu0
  refine w_enter (μ := m_L_game z_pu0) rfl (by decide) (fun q => by cases q) rfl (Nat.le_of_ble_eq_true rfl) ?_
  refine w_aload_n hV (pc := 0) rfl rfl ?_
  refine w_iconst hV (pc := 1) rfl ?_
  refine w_aload_n hV (pc := 2) rfl rfl ?_
  refine w_iload_n hV (pc := 3) rfl rfl ?_
  exact w_okc (pc := 4) (As := [.int x1]) (tg := 15) hV (vM_L z_pu0 64 _ rfl) rfl rfl rfl rfl rfl (by decide) rfl rfl rfl hkd hE ho hl rfl
theorem eL_game_t1 {G : z_G} {d a o : Nat} {x1 : Int32} {h h1 : z_H} (hkd : z_kd h a = 27) (hE : z_Ev G d k_X11_game (.ref a :: [.int x1]) h (.inr z_NSE, h1)) : z_Ev G (d + 1) k_L_game [.ref a, .int x1, .ref o] h (.inl (some (.int (nI 1))), z_thr h1 (z_n h1 + 1)) := by
  have hV : z_PV (m_L_game z_pu0) := vP_L_game z_pu0
  refine w_enter (μ := m_L_game z_pu0) rfl (by decide) (fun q => by cases q) rfl (Nat.le_of_ble_eq_true rfl) ?_
  refine w_aload_n hV (pc := 0) rfl rfl ?_
  refine w_iconst hV (pc := 1) rfl ?_
  refine w_aload_n hV (pc := 2) rfl rfl ?_
  refine w_iload_n hV (pc := 3) rfl rfl ?_
  exact w_thr (pc := 4) (As := [.int x1]) (la := 1) (cd := 1) hV (vM_L z_pu0 64 _ rfl) rfl rfl rfl hkd hE (Or.inr rfl) [] ⟨0, 9, 12, 18⟩ [] rfl (fun z hz => by cases hz) (by decide) (by decide) (z_m1T (i := 4140) (by decide +kernel)) (Or.inl ⟨3, rfl, rfl, by decide⟩) rfl rfl rfl
theorem eL_years_k {G : z_G} {d a o : Nat} {x1 x2 x3 : Int32} {h h1 : z_H} {v : Int32} (hkd : z_kd h a = 27) (hE : z_Ev G d k_X11_years (.ref a :: [.int x1, .int x2, .int x3]) h (.inl (some (.int v)), h1)) (ho : z_kd h1 o = 2) (hl : z_ln h1 o = 1) : z_Ev G (d + 1) k_L_years [.ref a, .int x1, .int x2, .int x3, .ref o] h (.inl (some (.int (nI 0))), z_pal h1 o 0 v.toInt64) := by
  have hV : z_PV (m_L_years z_pu0) := vP_L_years z_pu0
  refine w_enter (μ := m_L_years z_pu0) rfl (by decide) (fun q => by cases q) rfl (Nat.le_of_ble_eq_true rfl) ?_
  refine w_aload hV (pc := 0) rfl rfl ?_
  refine w_iconst hV (pc := 2) rfl ?_
  refine w_aload_n hV (pc := 3) rfl rfl ?_
  refine w_iload_n hV (pc := 4) rfl rfl ?_
  refine w_iload_n hV (pc := 5) rfl rfl ?_
  refine w_iload_n hV (pc := 6) rfl rfl ?_
  exact w_okc (pc := 7) (As := [.int x1, .int x2, .int x3]) (tg := 23) hV (vM_L z_pu0 67 _ rfl) rfl rfl rfl rfl rfl (by decide) rfl rfl rfl hkd hE ho hl rfl
theorem eL_years_t1 {G : z_G} {d a o : Nat} {x1 x2 x3 : Int32} {h h1 : z_H} (hkd : z_kd h a = 27) (hE : z_Ev G d k_X11_years (.ref a :: [.int x1, .int x2, .int x3]) h (.inr z_NSE, h1)) : z_Ev G (d + 1) k_L_years [.ref a, .int x1, .int x2, .int x3, .ref o] h (.inl (some (.int (nI 1))), z_thr h1 (z_n h1 + 1)) := by
  have hV : z_PV (m_L_years z_pu0) := vP_L_years z_pu0
  refine w_enter (μ := m_L_years z_pu0) rfl (by decide) (fun q => by cases q) rfl (Nat.le_of_ble_eq_true rfl) ?_
  refine w_aload hV (pc := 0) rfl rfl ?_
  refine w_iconst hV (pc := 2) rfl ?_
  refine w_aload_n hV (pc := 3) rfl rfl ?_
  refine w_iload_n hV (pc := 4) rfl rfl ?_
  refine w_iload_n hV (pc := 5) rfl rfl ?_
  refine w_iload_n hV (pc := 6) rfl rfl ?_
  exact w_thr (pc := 7) (As := [.int x1, .int x2, .int x3]) (la := 2) (cd := 1) hV (vM_L z_pu0 67 _ rfl) rfl rfl rfl hkd hE (Or.inr rfl) [] ⟨0, 12, 15, 18⟩ [⟨0, 12, 19, 13⟩] rfl (fun z hz => by cases hz) (by decide) (by decide) (z_m1T (i := 4140) (by decide +kernel)) (Or.inr ⟨5, rfl, rfl, by decide⟩) rfl rfl rfl
theorem eL_years_t2 {G : z_G} {d a o : Nat} {x1 x2 x3 : Int32} {h h1 : z_H} (hkd : z_kd h a = 27) (hE : z_Ev G d k_X11_years (.ref a :: [.int x1, .int x2, .int x3]) h (.inr z_IAE, h1)) : z_Ev G (d + 1) k_L_years [.ref a, .int x1, .int x2, .int x3, .ref o] h (.inl (some (.int (nI 2))), z_thr h1 (z_n h1 + 1)) := by
  have hV : z_PV (m_L_years z_pu0) := vP_L_years z_pu0
  refine w_enter (μ := m_L_years z_pu0) rfl (by decide) (fun q => by cases q) rfl (Nat.le_of_ble_eq_true rfl) ?_
  refine w_aload hV (pc := 0) rfl rfl ?_
  refine w_iconst hV (pc := 2) rfl ?_
  refine w_aload_n hV (pc := 3) rfl rfl ?_
  refine w_iload_n hV (pc := 4) rfl rfl ?_
  refine w_iload_n hV (pc := 5) rfl rfl ?_
  refine w_iload_n hV (pc := 6) rfl rfl ?_
  exact w_thr (pc := 7) (As := [.int x1, .int x2, .int x3]) (la := 2) (cd := 2) hV (vM_L z_pu0 67 _ rfl) rfl rfl rfl hkd hE (Or.inl rfl) [⟨0, 12, 15, 18⟩] ⟨0, 12, 19, 13⟩ [] rfl (fun z hz => by
    cases List.mem_singleton.mp hz
    exact ⟨(by decide), z_NSE, Or.inr rfl, by decide +kernel, z_m1T (i := 4140) (by decide +kernel)⟩) (by decide) (by decide) (z_m1T (i := 3173) (by decide +kernel)) (Or.inr ⟨5, rfl, rfl, by decide⟩) rfl rfl rfl
