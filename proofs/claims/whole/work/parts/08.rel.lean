/-! THE RELATION of the abstract heap to the machine's, and what a state of the walk means -/
def z_gt : List Cond := lw_tbl.filter goodWord
theorem z_gt_of {w : Cond} (h : w ∈ lw_tbl) (hg : goodWord w = true) : w ∈ z_gt := List.mem_filter.mpr ⟨h, hg⟩
theorem z_gt_good : GoodIn z_gt z_gt := fun w h => ⟨h, good_of_word (List.mem_filter.mp h).2⟩
def z_A (G : z_G) : Nat → Prop := fun q => z_B G ≤ q
def z_tys (G : z_G) : List (ClassId × FieldType) := [(z_cid G 1, .int), (z_cid G 2, .long), (z_cid G 3, .byte), (z_cid G 4, .boolean), (z_cid G 5, .object RX1), (z_cid G 6, .array .int)]
def z_fv (h : z_H) (a ci k : Nat) : Value := match z_ki (z_tyA ci k) with
  | 2 => va_rf (z_or h a k)
  | _ => .int (z_oi h a k)
def z_ok (G : z_G) (h : z_H) (H : Heap) (q : Nat) : Prop :=
  (z_kd h q = 1 → H[q]? = some (vp_cell (z_cid G 1) (z_ln h q, .inl (z_ai h q)))) ∧
  (z_kd h q = 2 → H[q]? = some (vp_cell (z_cid G 2) (z_ln h q, .inr (.inl (z_al h q))))) ∧
  (z_kd h q = 3 → H[q]? = some (vp_cell (z_cid G 3) (z_ln h q, .inl (z_ai h q)))) ∧
  (z_kd h q = 4 → H[q]? = some (vp_cell (z_cid G 4) (z_ln h q, .inl (z_ai h q)))) ∧
  (z_kd h q = 5 → H[q]? = some (vp_cell (z_cid G 5) (z_ln h q, .inr (.inr (.inr (.inr (z_ar h q))))))) ∧
  (z_kd h q = 6 → H[q]? = some (vp_cell (z_cid G 6) (z_ln h q, .inr (.inr (.inr (.inr (z_ar h q))))))) ∧
  (∀ ci, z_kd h q = 16 + ci → ∃ r, vwCl[ci]? = some r ∧ t_OB q ((z_D G).1 ci) r.2.2 ((z_D G).2 ci) H (z_fv h q ci))
def z_R (G : z_G) (h : z_H) (H : Heap) : Prop := H.size = z_n h ∧ ∀ q, z_kd h q ≠ 0 → z_B G ≤ q ∧ q < z_n h ∧ z_ok G h H q
/-- words beyond the good ones -/
def z_IAE : String := "java/lang/IllegalArgumentException"
def z_NSE : String := "java/util/NoSuchElementException"
def z_xN : List Cond := [.methodLinkNest RX11 57 yX7_init RX11, .methodLinkNest RX11 64 yX5_init RX11, .methodLinkNest RX11 71 yX4_init RX11, .methodLinkNest RX11 78 yX2_init RX11, .methodLinkNest RX11 85 yX6_init RX11, .methodLinkNest RX11 92 yX9_init RX11, .methodLinkNest RX11 99 yX10_init RX11]
def z_xC : List Cond := [.castable "[I" "java/lang/Cloneable", .castable z_IAE z_IAE, .castable z_NSE z_NSE]
def z_xD : List Cond := [.declares ⟨"java/lang/RuntimeException", "<init>", "()V"⟩, .declares ⟨"java/lang/Exception", "<init>", "()V"⟩, .declares ⟨"java/lang/Throwable", "<init>", "()V"⟩]
def z_xO : List Cond := [.arrayOver (.object RX1), .arrayOver (.array .int)]
/-- the texts: points, line, at; twice -/
def z_slen : List Nat := [6, 4, 2, 6, 4, 2]
def z_sbyt : List (List Int32) := [[112, 111, 105, 110, 116, 115], [108, 105, 110, 101], [97, 116], [112, 111, 105, 110, 116, 115], [108, 105, 110, 101], [97, 116]]
def z_XS (G : z_G) (U : State) (H : Heap) : Prop :=
  (∀ i : Nat, i < 6 → vk_S 1 [z_slen.getD i 0] [z_sbyt.getD i []] (fun _ => z_sad G i) (fun _ => z_sav G i) (z_A G) U H) ∧
  (vk_R RX7 129 "points" (z_sad G 0) U ∧ vk_R RX7 134 "line" (z_sad G 1) U ∧ vk_R RX7 136 "at" (z_sad G 2) U ∧ vk_R RX12 174 "points" (z_sad G 3) U ∧ vk_R RX12 183 "line" (z_sad G 4) U ∧ vk_R RX12 188 "at" (z_sad G 5) U) ∧
  va_Z "java/lang/String" "COMPACT_STRINGS" "Z" (.int 1) (z_A G) U H ∧ va_Zq "jdk/internal/util/Preconditions" "SIOOBE_FORMATTER" "Ljava/util/function/BiFunction;" (z_A G) U H
theorem z_XS_moved {G : z_G} {s U : State} {H H1 : Heap} (hW : s.WarmedH U.vm) (hk : ∀ q : Nat, q < H.size → ¬ z_A G q → H1[q]? = H[q]?) (h : z_XS G s H) : z_XS G U H1 := by
  obtain ⟨h1, ⟨r1, r2, r3, r4, r5, r6⟩, h3, h4⟩ := h
  exact ⟨fun i hi => ((h1 i hi).kept hk).moved hW.alike, ⟨r1.warm hW, r2.warm hW, r3.warm hW, r4.warm hW, r5.warm hW, r6.warm hW⟩, (h3.kept hk).moved hW.alike, (h4.kept hk).moved hW.alike⟩
/-- what lies outside: words, statics, the script -/
def z_X (G : z_G) (U : State) (H : Heap) : Prop :=
  (∀ w ∈ z_xN ++ z_xC ++ z_xD ++ z_xO, va_Nw w U) ∧ (va_Nc z_IAE z_NSE U ∧ va_Nc z_NSE z_IAE U) ∧
  vx_Zq Bundle.tN "UNASSIGNED_STACK" Bundle.steD (z_A G) U H ∧ vx_Zq Bundle.tN "SUPPRESSED_SENTINEL" Bundle.listD (z_A G) U H ∧
  (va_X (z_sb G) (z_sL G) (z_sx G) U H ∧ z_sb G < z_B G) ∧ (z_l G).stackTraces = false ∧ z_XS G U H
theorem z_xN_w {s U : State} (hW : s.WarmedH U.vm) : ∀ w ∈ z_xN, va_Nw w s → va_Nw w U := by
  intro w hw
  simp only [z_xN, List.mem_cons, List.not_mem_nil, or_false] at hw
  rcases hw with rfl | rfl | rfl | rfl | rfl | rfl | rfl <;> exact fun h => va_Nw.warmM hW h
theorem z_xC_w {s U : State} (hW : s.WarmedH U.vm) : ∀ w ∈ z_xC, va_Nw w s → va_Nw w U := by
  intro w hw
  simp only [z_xC, List.mem_cons, List.not_mem_nil, or_false] at hw
  rcases hw with rfl | rfl | rfl <;> exact fun h => va_Nw.warmC hW h
theorem z_xD_w {s U : State} (hW : s.WarmedH U.vm) : ∀ w ∈ z_xD, va_Nw w s → va_Nw w U := by
  intro w hw
  simp only [z_xD, List.mem_cons, List.not_mem_nil, or_false] at hw
  rcases hw with rfl | rfl | rfl <;> exact fun h => va_Nw.warmD hW h
theorem z_xO_w {s U : State} (hW : s.WarmedH U.vm) : ∀ w ∈ z_xO, va_Nw w s → va_Nw w U := by
  intro w hw
  simp only [z_xO, List.mem_cons, List.not_mem_nil, or_false] at hw
  have key : ∀ ty, va_Nw (.arrayOver ty) s → va_Nw (.arrayOver ty) U := fun ty h => by
    have h1 : (Cond.arrayOver ty).before #[] (s.setVm U.vm) = true := by rw [Cond.arrayOver_setVmC hW.alike]; exact h
    exact h1
  rcases hw with rfl | rfl <;> exact fun h => key _ h
/-- what lies outside stays -/
theorem z_X_moved {G : z_G} {s U : State} {H H1 : Heap} (hW : s.WarmedH U.vm) (hk : ∀ q : Nat, q < H.size → ¬ z_A G q → H1[q]? = H[q]?) (hB : z_B G ≤ H.size) (h : z_X G s H) : z_X G U H1 := by
  obtain ⟨h1, h2, h3, h4, h5, h6, h7⟩ := h
  refine ⟨fun w hw => ?_, ⟨h2.1.moved hW.alike, h2.2.moved hW.alike⟩, (h3.kept hk).moved hW.alike, (h4.kept hk).moved hW.alike, ⟨(h5.1.kept (hk _ (Nat.lt_of_lt_of_le h5.2 hB) (fun q => absurd h5.2 (Nat.not_lt.mpr q)))).moved hW.alike, h5.2⟩, h6, z_XS_moved hW hk h7⟩
  have hs := h1 w hw
  simp only [List.mem_append] at hw
  rcases hw with ((hw | hw) | hw) | hw
  · exact z_xN_w hW w hw hs
  · exact z_xC_w hW w hw hs
  · exact z_xD_w hW w hw hs
  · exact z_xO_w hW w hw hs
def z_rcC (r : z_Res) : Nat := match r.1 with
  | .inl _ => z_c r.2
  | .inr _ => z_c r.2 + 1
def z_rcS (r : z_Res) : Nat := match r.1 with
  | .inl _ => z_s r.2
  | .inr _ => z_s r.2 + 6
def z_Qc (G : z_G) (r : z_Res) : Array Value → State → Outcome → State → Prop := fun _ st oc t => ∃ v, r.1 = .inl v ∧ oc = .returned v ∧ z_R G r.2 t.heap ∧ va_F (z_A G) st t
def z_XC (G : z_G) (r : z_Res) : String → State → State → Prop := fun E st t => r.1 = .inr E ∧ (∃ n, n = z_n r.2 + 1 ∧ z_R G (z_thr r.2 n) t.heap) ∧ va_F (z_A G) st t
def z_lr (lc : List (Option Value)) (ls : Array Slot) : Prop := ls.size = lc.length ∧ lv_wf ls ∧ ∀ i v, z_lg lc i = some v → ls[i]? = some (.val v)
def z_Cx (G : z_G) (d : Nat) (μ : z_M) (p : Program) (R : Room) (s : State) (m : MethodId) (args : Array Value) (meth : Method) (c : Code) : Prop :=
  p.tables.exec = Jvm.exec ∧ c.code = μ.1.2.1 ∧ c.maxLocals = μ.1.2.2.1 ∧ meth.sig.returnType = μ.1.2.2.2.1 ∧ s.vm.findClass (z_cNm μ.2.2.1) = some m.cls ∧ meth.locks = false ∧ (μ.2.1 = true → meth.name = "<init>") ∧
  (∀ w ∈ z_gt, w.before args s = true) ∧ va_K (z_D G) vwCl (z_tys G) s ∧ z_X G s s.heap ∧ z_B G ≤ s.heap.size ∧ (∀ x ∈ c.exceptionTable.toList, False) ∧ d + 8 ≤ R.frames ∧ 60 * d + 400 ≤ R.locals
def z_J (G : z_G) (d : Nat) (μ : z_M) (r : z_Res) : z_K := fun pc lc st h =>
  (z_c h ≤ z_c r.2 ∧ z_s h ≤ z_s r.2) ∧
  ∀ (p : Program) (e : Env) (R : Room) (s : State) (m : MethodId) (args : Array Value) (below : List Frame) (meth : Method) (c : Code), z_Cx G d μ p R s m args meth c →
  ∀ (H : Heap) (locs : List Loc) (cells slots mc ms : Nat) (ls : Array Slot), z_lr lc ls → lc.length = μ.1.2.2.1 → z_R G h H → va_S (z_A G) s.heap H locs → cells + z_rcC r ≤ mc + z_c h → slots + z_rcS r ≤ ms + z_s h → mc ≤ R.cells → ms ≤ R.slots →
  W p (z_l G) e R s m args below meth c H locs cells slots (vx_MQ below (z_Qc G r) (z_XC G r) args s mc ms (z_A G)) (F0 m pc ls st)
def z_rm (d mc ms : Nat) : Room := { frames := d + 8, cells := mc, slots := ms, locals := 60 * d + 400 }
def z_w (κ : z_Key) : Cond := if κ.2.2.2.2 = [] then .code κ.1 κ.2.1 κ.2.2.1 κ.2.2.2.1 else .codeWith κ.1 κ.2.1 κ.2.2.1 κ.2.2.2.1 κ.2.2.2.2
def z_Pc (G : z_G) (As : List Value) (h : z_H) : Array Value → State → Prop := fun v U => v = As.toArray ∧ z_R G h U.heap ∧ va_K (z_D G) vwCl (z_tys G) U ∧ z_X G U U.heap ∧ z_B G ≤ U.heap.size
/-- a callee: from h with As to r -/
def z_Ev (G : z_G) (d : Nat) : z_E := fun κ As h r => (z_c h ≤ z_c r.2 ∧ z_s h ≤ z_s r.2) ∧
  vx_Met (z_l G) κ.1 (z_w κ :: z_gt) (z_rm d (z_rcC r - z_c h) (z_rcS r - z_s h)) (z_Pc G As h) (z_Qc G r) (z_XC G r) (z_rcC r - z_c h) (z_rcS r - z_s h) (z_A G)
/-- a method's table of instructions is its bytes' -/
def z_PV (μ : z_M) : Prop := ∀ pc q, μ.2.2.2 pc = some q → decode μ.1.2.1 pc = .ok q
theorem z_ifT {b : Bool} {K : Prop} (h : z_if b K) : b = true ∧ K := by
  cases b with
  | false => exact h.elim
  | true => exact ⟨rfl, h⟩
/-- an instruction that leaves locals and heap -/
theorem z_sim {G : z_G} {d : Nat} {μ : z_M} {r : z_Res} {pc pc' : Nat} {lc : List (Option Value)} {st st' : List Value} {h : z_H}
    (hw : ∀ (p : Program) (e : Env) (R : Room) (s : State) (m : MethodId) (args : Array Value) (below : List Frame) (meth : Method) (c : Code) (H : Heap) (locs : List Loc) (cells slots : Nat) (ls : Array Slot) (Q : State → Prop),
      z_Cx G d μ p R s m args meth c → z_lr lc ls → W p (z_l G) e R s m args below meth c H locs cells slots Q (F0 m pc' ls st') → W p (z_l G) e R s m args below meth c H locs cells slots Q (F0 m pc ls st))
    (k : z_J G d μ r pc' lc st' h) : z_J G d μ r pc lc st h :=
  ⟨k.1, fun p e R s m args below meth c X H locs cells slots mc ms ls hl hn hR hS h1 h2 h3 h4 => hw p e R s m args below meth c H locs cells slots ls _ X hl (k.2 p e R s m args below meth c X H locs cells slots mc ms ls hl hn hR hS h1 h2 h3 h4)⟩
/-- a branch -/
theorem z_br {G : z_G} {d : Nat} {μ : z_M} {r : z_Res} {pc p1 p2 : Nat} {lc : List (Option Value)} {st st' : List Value} {h : z_H} {b : Prop} {db : Decidable b}
    (hw : ∀ (p : Program) (e : Env) (R : Room) (s : State) (m : MethodId) (args : Array Value) (below : List Frame) (meth : Method) (c : Code) (H : Heap) (locs : List Loc) (cells slots : Nat) (ls : Array Slot) (Q : State → Prop),
      z_Cx G d μ p R s m args meth c → (b → W p (z_l G) e R s m args below meth c H locs cells slots Q (F0 m p1 ls st')) → (¬ b → W p (z_l G) e R s m args below meth c H locs cells slots Q (F0 m p2 ls st')) → W p (z_l G) e R s m args below meth c H locs cells slots Q (F0 m pc ls st))
    {c : z_K} (hc : ∀ pc lc st h, c pc lc st h → z_J G d μ r pc lc st h) (k : @ite Prop b db (c p1 lc st' h) (c p2 lc st' h)) : z_J G d μ r pc lc st h := by
  by_cases hb : b
  · rw [if_pos hb] at k
    have k := hc _ _ _ _ k
    exact ⟨k.1, fun p e R s m args below meth c X H locs cells slots mc ms ls hl hn hR hS h1 h2 h3 h4 => hw p e R s m args below meth c H locs cells slots ls _ X (fun _ => k.2 p e R s m args below meth c X H locs cells slots mc ms ls hl hn hR hS h1 h2 h3 h4) (fun h => absurd hb h)⟩
  · rw [if_neg hb] at k
    have k := hc _ _ _ _ k
    exact ⟨k.1, fun p e R s m args below meth c X H locs cells slots mc ms ls hl hn hR hS h1 h2 h3 h4 => hw p e R s m args below meth c H locs cells slots ls _ X (fun h => absurd h hb) (fun _ => k.2 p e R s m args below meth c X H locs cells slots mc ms ls hl hn hR hS h1 h2 h3 h4)⟩
theorem z_tgE {pc : Nat} {o : Int} (h : z_t0 pc o = true) : (pc : Int) + o = (z_tg pc o : Int) := by
  unfold z_t0 at h
  unfold z_tg
  cases hq : (pc : Int) + o with
  | ofNat n => simp
  | negSucc n => rw [hq] at h; cases h
/-- locals -/
theorem z_lg_lt : ∀ {lc : List (Option Value)} {i : Nat} {v : Value}, z_lg lc i = some v → i < lc.length
  | [], _, _, h => by cases h
  | _ :: _, 0, _, _ => by simp
  | _ :: t, i + 1, v, h => by
    have := z_lg_lt (lc := t) (i := i) (v := v) h
    simp; omega
theorem z_ls_len : ∀ (lc : List (Option Value)) (i : Nat) (v : Value), (z_ls lc i v).length = lc.length
  | [], _, _ => rfl
  | _ :: _, 0, _ => rfl
  | _ :: t, 1, v => by simp [z_ls, z_ls_len t 0 v]
  | _ :: t, i + 2, v => by simp [z_ls, z_ls_len t (i + 1) v]
theorem z_cl0_len (lc : List (Option Value)) : (z_cl0 lc).length = lc.length := by cases lc <;> rfl
theorem z_ls2_len : ∀ (lc : List (Option Value)) (i : Nat) (v : Value), (z_ls2 lc i v).length = lc.length
  | [], _, _ => rfl
  | _ :: t, 0, _ => by simp [z_ls2, z_cl0_len]
  | _ :: t, 1, v => by simp [z_ls2, z_ls2_len t 0 v]
  | _ :: t, i + 2, v => by simp [z_ls2, z_ls2_len t (i + 1) v]
theorem z_clr_some {x : Option Value} {w : Value} (h : z_clr x = some w) : x = some w ∧ ¬ w.category = 2 := by
  cases x with
  | none => cases h
  | some v => cases v <;> simp only [z_clr, Option.some.injEq, reduceCtorEq] at h <;> subst h <;> exact ⟨rfl, by simp [Value.category]⟩
/-- what a store leaves -/
theorem z_ls_get : ∀ (lc : List (Option Value)) (i : Nat) (v : Value) (j : Nat) (w : Value), z_lg (z_ls lc i v) j = some w → (j = i ∧ w = v) ∨ (j ≠ i ∧ z_lg lc j = some w ∧ ¬ (j + 1 = i ∧ w.category = 2))
  | [], _, _, _, _, h => by cases h
  | x :: t, 0, v, 0, w, h => by
    simp [z_ls, z_lg] at h
    exact Or.inl ⟨rfl, h.symm⟩
  | x :: t, 0, v, j + 1, w, h => by
    simp [z_ls, z_lg] at h
    exact Or.inr ⟨by omega, by simpa [z_lg] using h, by omega⟩
  | x :: t, 1, v, 0, w, h => by
    simp only [z_ls, z_lg] at h
    obtain ⟨h1, h2⟩ := z_clr_some h
    exact Or.inr ⟨by omega, by simpa [z_lg] using h1, fun q => h2 q.2⟩
  | x :: t, 1, v, j + 1, w, h => by
    simp only [z_ls, z_lg] at h
    rcases z_ls_get t 0 v j w h with ⟨h1, h2⟩ | ⟨h1, h2, h3⟩
    · exact Or.inl ⟨by omega, h2⟩
    · exact Or.inr ⟨by omega, by simpa [z_lg] using h2, by omega⟩
  | x :: t, i + 2, v, 0, w, h => by
    simp only [z_ls, z_lg] at h
    exact Or.inr ⟨by omega, by simpa [z_lg] using h, by omega⟩
  | x :: t, i + 2, v, j + 1, w, h => by
    simp only [z_ls, z_lg] at h
    rcases z_ls_get t (i + 1) v j w h with ⟨h1, h2⟩ | ⟨h1, h2, h3⟩
    · exact Or.inl ⟨by omega, h2⟩
    · exact Or.inr ⟨by omega, by simpa [z_lg] using h2, fun q => h3 ⟨by omega, q.2⟩⟩
theorem z_cl0_get : ∀ (lc : List (Option Value)) (j : Nat) (w : Value), z_lg (z_cl0 lc) j = some w → j ≠ 0 ∧ z_lg lc j = some w
  | [], _, _, h => by cases h
  | x :: t, 0, w, h => by simp [z_cl0, z_lg] at h
  | x :: t, j + 1, w, h => ⟨by omega, by simpa [z_cl0, z_lg] using h⟩
theorem z_ls2_get : ∀ (lc : List (Option Value)) (i : Nat) (v : Value) (j : Nat) (w : Value), z_lg (z_ls2 lc i v) j = some w → (j = i ∧ w = v) ∨ (j ≠ i ∧ j ≠ i + 1 ∧ z_lg lc j = some w ∧ ¬ (j + 1 = i ∧ w.category = 2))
  | [], _, _, _, _, h => by cases h
  | x :: t, 0, v, 0, w, h => by
    simp [z_ls2, z_lg] at h
    exact Or.inl ⟨rfl, h.symm⟩
  | x :: t, 0, v, j + 1, w, h => by
    simp only [z_ls2, z_lg] at h
    obtain ⟨h1, h2⟩ := z_cl0_get t j w h
    exact Or.inr ⟨by omega, by omega, by simpa [z_lg] using h2, by omega⟩
  | x :: t, 1, v, 0, w, h => by
    simp only [z_ls2, z_lg] at h
    obtain ⟨h1, h2⟩ := z_clr_some h
    exact Or.inr ⟨by omega, by omega, by simpa [z_lg] using h1, fun q => h2 q.2⟩
  | x :: t, 1, v, j + 1, w, h => by
    simp only [z_ls2, z_lg] at h
    rcases z_ls2_get t 0 v j w h with ⟨h1, h2⟩ | ⟨h1, h1', h2, h3⟩
    · exact Or.inl ⟨by omega, h2⟩
    · exact Or.inr ⟨by omega, by omega, by simpa [z_lg] using h2, by omega⟩
  | x :: t, i + 2, v, 0, w, h => by
    simp only [z_ls2, z_lg] at h
    exact Or.inr ⟨by omega, by omega, by simpa [z_lg] using h, by omega⟩
  | x :: t, i + 2, v, j + 1, w, h => by
    simp only [z_ls2, z_lg] at h
    rcases z_ls2_get t (i + 1) v j w h with ⟨h1, h2⟩ | ⟨h1, h1', h2, h3⟩
    · exact Or.inl ⟨by omega, h2⟩
    · exact Or.inr ⟨by omega, by omega, by simpa [z_lg] using h2, fun q => h3 ⟨by omega, q.2⟩⟩
/-- the pairs that a list of locals tells -/
def z_prs (lc : List (Option Value)) : List (Nat × Value) := (List.range lc.length).filterMap (fun i => (z_lg lc i).map (fun v => (i, v)))
theorem z_prs_mem {lc : List (Option Value)} {q : Nat × Value} : q ∈ z_prs lc ↔ z_lg lc q.1 = some q.2 := by
  unfold z_prs
  simp only [List.mem_filterMap, List.mem_range, Option.map_eq_some_iff]
  constructor
  · rintro ⟨i, _, v, h, rfl⟩
    exact h
  · intro h
    exact ⟨q.1, z_lg_lt h, q.2, h, rfl⟩
theorem z_lr_has {lc : List (Option Value)} {ls : Array Slot} (h : z_lr lc ls) : lv_has ls lc.length (z_prs lc) := ⟨h.1, h.2.1, fun q hq => h.2.2 q.1 q.2 (z_prs_mem.mp hq)⟩
theorem z_lr_ls {lc : List (Option Value)} {ls : Array Slot} {i : Nat} {v : Value} (h : lv_has ls lc.length ((i, v) :: (z_prs lc).filter (fun q => !(q.1 == i) && !(q.1 + 1 == i && q.2.category == 2)))) : z_lr (z_ls lc i v) ls := by
  refine ⟨by rw [z_ls_len]; exact h.1, h.2.1, fun j w hj => ?_⟩
  rcases z_ls_get lc i v j w hj with ⟨rfl, rfl⟩ | ⟨h1, h2, h3⟩
  · exact h.2.2 (j, w) List.mem_cons_self
  · refine h.2.2 (j, w) (List.mem_cons_of_mem _ (List.mem_filter.mpr ⟨z_prs_mem.mpr h2, ?_⟩))
    simp only [Bool.and_eq_true, Bool.not_eq_true', beq_eq_false_iff_ne, ne_eq, Bool.and_eq_false_iff]
    exact ⟨h1, by
      by_cases q : j + 1 = i
      · exact Or.inr fun z => h3 ⟨q, z⟩
      · exact Or.inl q⟩
theorem z_lr_ls2 {lc : List (Option Value)} {ls : Array Slot} {i : Nat} {v : Value} (h : lv_has ls lc.length ((i, v) :: (z_prs lc).filter (fun q => !(q.1 == i) && (!(q.1 == i + 1) && !(q.1 + 1 == i && q.2.category == 2))))) : z_lr (z_ls2 lc i v) ls := by
  refine ⟨by rw [z_ls2_len]; exact h.1, h.2.1, fun j w hj => ?_⟩
  rcases z_ls2_get lc i v j w hj with ⟨rfl, rfl⟩ | ⟨h1, h1', h2, h3⟩
  · exact h.2.2 (j, w) List.mem_cons_self
  · refine h.2.2 (j, w) (List.mem_cons_of_mem _ (List.mem_filter.mpr ⟨z_prs_mem.mpr h2, ?_⟩))
    simp only [Bool.and_eq_true, Bool.not_eq_true', beq_eq_false_iff_ne, ne_eq, Bool.and_eq_false_iff]
    exact ⟨h1, h1', by
      by_cases q : j + 1 = i
      · exact Or.inr fun z => h3 ⟨q, z⟩
      · exact Or.inl q⟩
/-- an instruction that changes the locals -/
theorem z_sto {G : z_G} {d : Nat} {μ : z_M} {r : z_Res} {pc pc' : Nat} {lc lc' : List (Option Value)} {st st' : List Value} {h : z_H} (hlen : lc'.length = lc.length)
    (hw : ∀ (p : Program) (e : Env) (R : Room) (s : State) (m : MethodId) (args : Array Value) (below : List Frame) (meth : Method) (c : Code) (H : Heap) (locs : List Loc) (cells slots : Nat) (ls : Array Slot) (Q : State → Prop),
      z_Cx G d μ p R s m args meth c → z_lr lc ls → (∀ ls', z_lr lc' ls' → W p (z_l G) e R s m args below meth c H locs cells slots Q (F0 m pc' ls' st')) → W p (z_l G) e R s m args below meth c H locs cells slots Q (F0 m pc ls st))
    (k : z_J G d μ r pc' lc' st' h) : z_J G d μ r pc lc st h :=
  ⟨k.1, fun p e R s m args below meth c X H locs cells slots mc ms ls hl hn hR hS h1 h2 h3 h4 => hw p e R s m args below meth c H locs cells slots ls _ X hl (fun ls' hl' => k.2 p e R s m args below meth c X H locs cells slots mc ms ls' hl' (hlen.trans hn) hR hS h1 h2 h3 h4)⟩
