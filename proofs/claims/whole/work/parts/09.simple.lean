section SIMPLE
variable {G : z_G} {d : Nat} {μ : z_M} {r : z_Res} {pc len : Nat} {lc : List (Option Value)} {st : List Value} {h : z_H} {c : z_K} {i : Instr}
theorem z_piT {st : List Value} {K : Int32 → List Value → Prop} (h : z_pi st K) : ∃ x t, st = .int x :: t ∧ K x t := by
  unfold z_pi at h
  split at h
  · exact ⟨_, _, rfl, h⟩
  · exact h.elim
theorem z_plT {st : List Value} {K : Int64 → List Value → Prop} (h : z_pl st K) : ∃ x t, st = .long x :: t ∧ K x t := by
  unfold z_pl at h
  split at h
  · exact ⟨_, _, rfl, h⟩
  · exact h.elim
theorem z_prT {st : List Value} {K : Nat → List Value → Prop} (h : z_pr st K) : ∃ x t, st = .ref x :: t ∧ K x t := by
  unfold z_pr at h
  split at h
  · exact ⟨_, _, rfl, h⟩
  · exact h.elim
theorem z_pqT {st : List Value} {K : Option Nat → List Value → Prop} (h : z_pq st K) : ∃ o t, st = va_rf o :: t ∧ K o t := by
  unfold z_pq at h
  split at h
  · exact ⟨some _, _, rfl, h⟩
  · exact ⟨none, _, rfl, h⟩
  · exact h.elim
theorem z_p1T {st : List Value} {K : Value → List Value → Prop} (h : z_p1 st K) : ∃ v t, st = v :: t ∧ v.category = 1 ∧ K v t := by
  unfold z_p1 at h
  split at h
  · exact ⟨_, _, rfl, rfl, h⟩
  · exact ⟨_, _, rfl, rfl, h⟩
  · exact ⟨_, _, rfl, rfl, h⟩
  · exact h.elim
theorem z_ldiT {lc : List (Option Value)} {k : Nat} {K : Int32 → Prop} (h : z_ldi lc k K) : ∃ x, z_lg lc k = some (.int x) ∧ K x := by
  unfold z_ldi at h
  split at h
  · exact ⟨_, by assumption, h⟩
  · exact h.elim
theorem z_ldlT {lc : List (Option Value)} {k : Nat} {K : Int64 → Prop} (h : z_ldl lc k K) : ∃ x, z_lg lc k = some (.long x) ∧ K x := by
  unfold z_ldl at h
  split at h
  · exact ⟨_, by assumption, h⟩
  · exact h.elim
theorem z_ldaT {lc : List (Option Value)} {k : Nat} {K : Value → Prop} (h : z_lda lc k K) : ∃ o, z_lg lc k = some (va_rf o) ∧ K (va_rf o) := by
  unfold z_lda at h
  split at h
  · exact ⟨some _, by assumption, h⟩
  · exact ⟨none, by assumption, h⟩
  · exact h.elim
theorem z_aloadq {p : Program} {l : Launch} {e : Env} {R : Room} {s : State} {m : MethodId} {args : Array Value} {below : List Frame} {meth : Method} {c : Code} {H : Heap} {locs : List Loc} {cells slots : Nat} {Q : State → Prop} {cc : ByteArray} {pc : Nat} {ls : Array Slot} {rest : List Value} (hx : p.tables.exec = Jvm.exec) (hb : c.code = cc) {i : Nat} {o : Option Nat} (hd : decode cc pc = .ok (.aload i, 2)) (hl : ls[i]? = some (.val (va_rf o)))
    (k : W p l e R s m args below meth c H locs cells slots Q (F0 m (pc + 2) ls (va_rf o :: rest))) : W p l e R s m args below meth c H locs cells slots Q (F0 m pc ls rest) := by
  cases o with
  | none => exact lv_aloadN hx hb hd hl k
  | some x => exact lv_aload hx hb hd hl k
theorem z_aload_nq {p : Program} {l : Launch} {e : Env} {R : Room} {s : State} {m : MethodId} {args : Array Value} {below : List Frame} {meth : Method} {c : Code} {H : Heap} {locs : List Loc} {cells slots : Nat} {Q : State → Prop} {cc : ByteArray} {pc : Nat} {ls : Array Slot} {rest : List Value} (hx : p.tables.exec = Jvm.exec) (hb : c.code = cc) {i : Fin 4} {o : Option Nat} (hd : decode cc pc = .ok (.aload_n i, 1)) (hl : ls[i.val]? = some (.val (va_rf o)))
    (k : W p l e R s m args below meth c H locs cells slots Q (F0 m (pc + 1) ls (va_rf o :: rest))) : W p l e R s m args below meth c H locs cells slots Q (F0 m pc ls rest) := by
  cases o with
  | none => exact lv_aload_nN hx hb hd rfl hl k
  | some x => exact lv_aload_n hx hb hd rfl hl k
theorem z_len {a b : Nat} (h : (a == b) = true) : a = b := by simpa using h
theorem z_len2 {a b x y : Nat} (h : (a == b && Nat.blt x y) = true) : a = b ∧ x < y := by
  simp only [Bool.and_eq_true] at h
  exact ⟨by simpa using h.1, Nat.blt_eq.mp h.2⟩
theorem z_len3 {a b : Nat} {q : Bool} (h : (a == b && q) = true) : a = b ∧ q = true := by
  simp only [Bool.and_eq_true] at h
  exact ⟨by simpa using h.1, h.2⟩
set_option maxHeartbeats 4000000 in
theorem z_sA (hPV : z_PV μ) (hcq : ∀ k v, z_cQ μ.2.2.1 k = some (.inl v) → Cond.constant (z_cNm μ.2.2.1) k v ∈ z_gt) (hcl : ∀ k v, z_cQ μ.2.2.1 k = some (.inr (.inl v)) → Cond.constantLong (z_cNm μ.2.2.1) k v ∈ z_gt)
    (hcs : ∀ k s pc lc st h, z_cQ μ.2.2.1 k = some (.inr (.inr s)) → μ.2.2.2 pc = some (.ldc k, 2) → z_J G d μ r (pc + 2) lc (.ref (z_sad G s) :: st) h → z_J G d μ r pc lc st h)
    (hc : ∀ pc lc st h, c pc lc st h → z_J G d μ r pc lc st h) (hp : μ.2.2.2 pc = some (i, len)) (hx : z_exA G μ.2.2.1 c i len pc lc st h) : z_J G d μ r pc lc st h := by
  have hd := hPV _ _ hp
  cases i with
  | aconst_null =>
    obtain ⟨hl, k⟩ := z_ifT hx
    cases z_len hl
    exact z_sim (fun p e R s m args below meth c H locs cells slots ls Q X _ k => lv_null X.1 X.2.1 hd k) (hc _ _ _ _ k)
  | iconst n =>
    obtain ⟨hl, k⟩ := z_ifT hx
    cases z_len hl
    exact z_sim (fun p e R s m args below meth c H locs cells slots ls Q X _ k => lv_iconst X.1 X.2.1 hd rfl k) (hc _ _ _ _ k)
  | lconst n =>
    obtain ⟨hl, k⟩ := z_ifT hx
    cases z_len hl
    exact z_sim (fun p e R s m args below meth c H locs cells slots ls Q X _ k => lv_lconst X.1 X.2.1 hd rfl k) (hc _ _ _ _ k)
  | bipush n =>
    obtain ⟨hl, k⟩ := z_ifT hx
    cases z_len hl
    exact z_sim (fun p e R s m args below meth c H locs cells slots ls Q X _ k => lv_bipush X.1 X.2.1 hd rfl k) (hc _ _ _ _ k)
  | sipush n =>
    obtain ⟨hl, k⟩ := z_ifT hx
    cases z_len hl
    exact z_sim (fun p e R s m args below meth c H locs cells slots ls Q X _ k => lv_sipush X.1 X.2.1 hd rfl k) (hc _ _ _ _ k)
  | ldc k =>
    obtain ⟨hl, q⟩ := z_ifT hx
    cases z_len hl
    split at q
    · rename_i v hv
      exact z_sim (fun p e R s m args below meth c H locs cells slots ls Q X _ k => lv_ldc X.1 X.2.1 X.2.2.2.2.1 (X.2.2.2.2.2.2.2.1 _ (hcq _ _ hv)) hd k) (hc _ _ _ _ q)
    · rename_i v hv
      exact hcs _ _ _ _ _ _ hv hp (hc _ _ _ _ q)
    · exact q.elim
  | ldc_w k =>
    obtain ⟨hl, q⟩ := z_ifT hx
    cases z_len hl
    split at q
    · rename_i v hv
      exact z_sim (fun p e R s m args below meth c H locs cells slots ls Q X _ k => lv_ldcw X.1 X.2.1 X.2.2.2.2.1 (X.2.2.2.2.2.2.2.1 _ (hcq _ _ hv)) hd k) (hc _ _ _ _ q)
    · exact q.elim
  | ldc2_w k =>
    obtain ⟨hl, q⟩ := z_ifT hx
    cases z_len hl
    split at q
    · rename_i v hv
      exact z_sim (fun p e R s m args below meth c H locs cells slots ls Q X _ k => lv_ldc2 X.1 X.2.1 X.2.2.2.2.1 (X.2.2.2.2.2.2.2.1 _ (hcl _ _ hv)) hd k) (hc _ _ _ _ q)
    · exact q.elim
  | iload k =>
    obtain ⟨hl, q⟩ := z_ifT hx
    cases z_len hl
    obtain ⟨x, e1, q⟩ := z_ldiT q
    exact z_sim (fun p e R s m args below meth c H locs cells slots ls Q X L k => lv_iload X.1 X.2.1 hd (L.2.2 _ _ e1) k) (hc _ _ _ _ q)
  | iload_n k =>
    obtain ⟨hl, q⟩ := z_ifT hx
    cases z_len hl
    obtain ⟨x, e1, q⟩ := z_ldiT q
    exact z_sim (fun p e R s m args below meth c H locs cells slots ls Q X L k => lv_iload_n X.1 X.2.1 hd rfl (L.2.2 _ _ e1) k) (hc _ _ _ _ q)
  | lload k =>
    obtain ⟨hl, q⟩ := z_ifT hx
    cases z_len hl
    obtain ⟨x, e1, q⟩ := z_ldlT q
    exact z_sim (fun p e R s m args below meth c H locs cells slots ls Q X L k => lv_lload X.1 X.2.1 hd (L.2.2 _ _ e1) k) (hc _ _ _ _ q)
  | lload_n k =>
    obtain ⟨hl, q⟩ := z_ifT hx
    cases z_len hl
    obtain ⟨x, e1, q⟩ := z_ldlT q
    exact z_sim (fun p e R s m args below meth c H locs cells slots ls Q X L k => lv_lload_n X.1 X.2.1 hd rfl (L.2.2 _ _ e1) k) (hc _ _ _ _ q)
  | aload k =>
    obtain ⟨hl, q⟩ := z_ifT hx
    cases z_len hl
    obtain ⟨o, e1, q⟩ := z_ldaT q
    exact z_sim (fun p e R s m args below meth c H locs cells slots ls Q X L k => z_aloadq X.1 X.2.1 hd (L.2.2 _ _ e1) k) (hc _ _ _ _ q)
  | aload_n k =>
    obtain ⟨hl, q⟩ := z_ifT hx
    cases z_len hl
    obtain ⟨o, e1, q⟩ := z_ldaT q
    exact z_sim (fun p e R s m args below meth c H locs cells slots ls Q X L k => z_aload_nq X.1 X.2.1 hd (L.2.2 _ _ e1) k) (hc _ _ _ _ q)
  | istore k =>
    obtain ⟨hl, q⟩ := z_ifT hx
    obtain ⟨hl, hk⟩ := z_len2 hl
    cases hl
    obtain ⟨x, t, rfl, q1⟩ := z_piT q
    exact z_sto (z_ls_len _ _ _) (fun p e R s m args below meth c H locs cells slots ls Q X L k => lv_istore X.1 X.2.1 hd (z_lr_has L) hk rfl (fun ls hl => k ls (z_lr_ls hl))) (hc _ _ _ _ q1)
  | istore_n k =>
    obtain ⟨hl, q⟩ := z_ifT hx
    obtain ⟨hl, hk⟩ := z_len2 hl
    cases hl
    obtain ⟨x, t, rfl, q1⟩ := z_piT q
    exact z_sto (z_ls_len _ _ _) (fun p e R s m args below meth c H locs cells slots ls Q X L k => lv_istore_n X.1 X.2.1 hd rfl (z_lr_has L) hk rfl (fun ls hl => k ls (z_lr_ls hl))) (hc _ _ _ _ q1)
  | lstore k =>
    obtain ⟨hl, q⟩ := z_ifT hx
    obtain ⟨hl, hk⟩ := z_len2 hl
    cases hl
    obtain ⟨x, t, rfl, q1⟩ := z_plT q
    exact z_sto (z_ls2_len _ _ _) (fun p e R s m args below meth c H locs cells slots ls Q X L k => lv_lstore X.1 X.2.1 hd (z_lr_has L) hk rfl (fun ls hl => k ls (z_lr_ls2 hl))) (hc _ _ _ _ q1)
  | lstore_n k =>
    obtain ⟨hl, q⟩ := z_ifT hx
    obtain ⟨hl, hk⟩ := z_len2 hl
    cases hl
    obtain ⟨x, t, rfl, q1⟩ := z_plT q
    exact z_sto (z_ls2_len _ _ _) (fun p e R s m args below meth c H locs cells slots ls Q X L k => lv_lstore_n X.1 X.2.1 hd rfl (z_lr_has L) hk rfl (fun ls hl => k ls (z_lr_ls2 hl))) (hc _ _ _ _ q1)
  | astore k =>
    obtain ⟨hl, q⟩ := z_ifT hx
    obtain ⟨hl, hk⟩ := z_len2 hl
    cases hl
    obtain ⟨o, t, rfl, q1⟩ := z_pqT q
    cases o with
    | none => exact z_sto (z_ls_len _ _ _) (fun p e R s m args below meth c H locs cells slots ls Q X L k => lv_astoreN X.1 X.2.1 hd (z_lr_has L) hk rfl (fun ls hl => k ls (z_lr_ls hl))) (hc _ _ _ _ q1)
    | some x => exact z_sto (z_ls_len _ _ _) (fun p e R s m args below meth c H locs cells slots ls Q X L k => lv_astore X.1 X.2.1 hd (z_lr_has L) hk rfl (fun ls hl => k ls (z_lr_ls hl))) (hc _ _ _ _ q1)
  | astore_n k =>
    obtain ⟨hl, q⟩ := z_ifT hx
    obtain ⟨hl, hk⟩ := z_len2 hl
    cases hl
    obtain ⟨o, t, rfl, q1⟩ := z_pqT q
    cases o with
    | none => exact z_sto (z_ls_len _ _ _) (fun p e R s m args below meth c H locs cells slots ls Q X L k => lv_astore_nN X.1 X.2.1 hd rfl (z_lr_has L) hk rfl (fun ls hl => k ls (z_lr_ls hl))) (hc _ _ _ _ q1)
    | some x => exact z_sto (z_ls_len _ _ _) (fun p e R s m args below meth c H locs cells slots ls Q X L k => lv_astore_n X.1 X.2.1 hd rfl (z_lr_has L) hk rfl (fun ls hl => k ls (z_lr_ls hl))) (hc _ _ _ _ q1)
  | iinc k n =>
    obtain ⟨hl, q⟩ := z_ifT hx
    obtain ⟨hl, hk⟩ := z_len2 hl
    cases hl
    obtain ⟨x, e1, q⟩ := z_ldiT q
    obtain ⟨j, hj⟩ := List.getElem?_of_mem ((z_prs_mem (q := (k, .int x))).mpr e1)
    exact z_sto (z_ls_len _ _ _) (fun p e R s m args below meth c H locs cells slots ls Q X L kk => lv_iinc X.1 X.2.1 hd (z_lr_has L) hj rfl hk rfl (fun ls hl => kk ls (z_lr_ls hl))) (hc _ _ _ _ q)
  | dup =>
    obtain ⟨hl, q⟩ := z_ifT hx
    cases z_len hl
    obtain ⟨v, t, rfl, hv, q1⟩ := z_p1T q
    exact z_sim (fun p e R s m args below meth c H locs cells slots ls Q X _ k => lv_dup X.1 X.2.1 hd hv k) (hc _ _ _ _ q1)
  | pop =>
    obtain ⟨hl, q⟩ := z_ifT hx
    cases z_len hl
    obtain ⟨v, t, rfl, hv, q1⟩ := z_p1T q
    exact z_sim (fun p e R s m args below meth c H locs cells slots ls Q X _ k => lv_pop X.1 X.2.1 hd hv k) (hc _ _ _ _ q1)
  | dup_x1 =>
    obtain ⟨hl, q⟩ := z_ifT hx
    cases z_len hl
    obtain ⟨v, t, rfl, hv, q1⟩ := z_p1T q
    obtain ⟨w, t, rfl, hw, q2⟩ := z_p1T q1
    exact z_sim (fun p e R s m args below meth c H locs cells slots ls Q X _ k => lv_dup_x1 X.1 X.2.1 hd hv hw k) (hc _ _ _ _ q2)
  | dup2 =>
    obtain ⟨hl, q⟩ := z_ifT hx
    cases z_len hl
    obtain ⟨v, t, rfl, hv, q1⟩ := z_p1T q
    obtain ⟨w, t, rfl, hw, q2⟩ := z_p1T q1
    exact z_sim (fun p e R s m args below meth c H locs cells slots ls Q X _ k => lv_dup2_11 X.1 X.2.1 hd hv hw k) (hc _ _ _ _ q2)
  | _ => exact hx.elim
set_option maxHeartbeats 4000000 in
theorem z_sB (hPV : z_PV μ) (hc : ∀ pc lc st h, c pc lc st h → z_J G d μ r pc lc st h) (hp : μ.2.2.2 pc = some (i, len)) (hx : z_exB c i len pc lc st h) : z_J G d μ r pc lc st h := by
  have hd := hPV _ _ hp
  cases i with
  | iadd =>
    obtain ⟨hl, q⟩ := z_ifT hx
    cases z_len hl
    obtain ⟨y, t, rfl, q1⟩ := z_piT q
    obtain ⟨x, t, rfl, q2⟩ := z_piT q1
    exact z_sim (fun p e R s m args below meth c H locs cells slots ls Q X _ k => lv_iadd X.1 X.2.1 hd k) (hc _ _ _ _ q2)
  | isub =>
    obtain ⟨hl, q⟩ := z_ifT hx
    cases z_len hl
    obtain ⟨y, t, rfl, q1⟩ := z_piT q
    obtain ⟨x, t, rfl, q2⟩ := z_piT q1
    exact z_sim (fun p e R s m args below meth c H locs cells slots ls Q X _ k => lv_isub X.1 X.2.1 hd k) (hc _ _ _ _ q2)
  | imul =>
    obtain ⟨hl, q⟩ := z_ifT hx
    cases z_len hl
    obtain ⟨y, t, rfl, q1⟩ := z_piT q
    obtain ⟨x, t, rfl, q2⟩ := z_piT q1
    exact z_sim (fun p e R s m args below meth c H locs cells slots ls Q X _ k => lv_imul X.1 X.2.1 hd k) (hc _ _ _ _ q2)
  | iand =>
    obtain ⟨hl, q⟩ := z_ifT hx
    cases z_len hl
    obtain ⟨y, t, rfl, q1⟩ := z_piT q
    obtain ⟨x, t, rfl, q2⟩ := z_piT q1
    exact z_sim (fun p e R s m args below meth c H locs cells slots ls Q X _ k => lv_iand X.1 X.2.1 hd k) (hc _ _ _ _ q2)
  | ior =>
    obtain ⟨hl, q⟩ := z_ifT hx
    cases z_len hl
    obtain ⟨y, t, rfl, q1⟩ := z_piT q
    obtain ⟨x, t, rfl, q2⟩ := z_piT q1
    exact z_sim (fun p e R s m args below meth c H locs cells slots ls Q X _ k => lv_ior X.1 X.2.1 hd k) (hc _ _ _ _ q2)
  | ixor =>
    obtain ⟨hl, q⟩ := z_ifT hx
    cases z_len hl
    obtain ⟨y, t, rfl, q1⟩ := z_piT q
    obtain ⟨x, t, rfl, q2⟩ := z_piT q1
    exact z_sim (fun p e R s m args below meth c H locs cells slots ls Q X _ k => lv_ixor X.1 X.2.1 hd k) (hc _ _ _ _ q2)
  | ishl =>
    obtain ⟨hl, q⟩ := z_ifT hx
    cases z_len hl
    obtain ⟨y, t, rfl, q1⟩ := z_piT q
    obtain ⟨x, t, rfl, q2⟩ := z_piT q1
    exact z_sim (fun p e R s m args below meth c H locs cells slots ls Q X _ k => lv_ishl X.1 X.2.1 hd k) (hc _ _ _ _ q2)
  | ishr =>
    obtain ⟨hl, q⟩ := z_ifT hx
    cases z_len hl
    obtain ⟨y, t, rfl, q1⟩ := z_piT q
    obtain ⟨x, t, rfl, q2⟩ := z_piT q1
    exact z_sim (fun p e R s m args below meth c H locs cells slots ls Q X _ k => lv_ishr X.1 X.2.1 hd k) (hc _ _ _ _ q2)
  | idiv =>
    obtain ⟨hl, q⟩ := z_ifT hx
    cases z_len hl
    obtain ⟨y, t, rfl, q1⟩ := z_piT q
    obtain ⟨x, t, rfl, q2⟩ := z_piT q1
    exact z_sim (fun p e R s m args below meth c H locs cells slots ls Q X _ k => lv_idiv X.1 X.2.1 hd q2.1 k) (hc _ _ _ _ q2.2)
  | irem =>
    obtain ⟨hl, q⟩ := z_ifT hx
    cases z_len hl
    obtain ⟨y, t, rfl, q1⟩ := z_piT q
    obtain ⟨x, t, rfl, q2⟩ := z_piT q1
    exact z_sim (fun p e R s m args below meth c H locs cells slots ls Q X _ k => lv_irem X.1 X.2.1 hd q2.1 k) (hc _ _ _ _ q2.2)
  | iushr =>
    obtain ⟨hl, q⟩ := z_ifT hx
    cases z_len hl
    obtain ⟨y, t, rfl, q1⟩ := z_piT q
    obtain ⟨x, t, rfl, q2⟩ := z_piT q1
    exact z_sim (fun p e R s m args below meth c H locs cells slots ls Q X _ k => lv_iushr X.1 X.2.1 hd rfl k) (hc _ _ _ _ q2)
  | ineg =>
    obtain ⟨hl, q⟩ := z_ifT hx
    cases z_len hl
    obtain ⟨x, t, rfl, q1⟩ := z_piT q
    exact z_sim (fun p e R s m args below meth c H locs cells slots ls Q X _ k => lv_ineg X.1 X.2.1 hd k) (hc _ _ _ _ q1)
  | i2l =>
    obtain ⟨hl, q⟩ := z_ifT hx
    cases z_len hl
    obtain ⟨x, t, rfl, q1⟩ := z_piT q
    exact z_sim (fun p e R s m args below meth c H locs cells slots ls Q X _ k => lv_i2l X.1 X.2.1 hd rfl k) (hc _ _ _ _ q1)
  | i2b =>
    obtain ⟨hl, q⟩ := z_ifT hx
    cases z_len hl
    obtain ⟨x, t, rfl, q1⟩ := z_piT q
    exact z_sim (fun p e R s m args below meth c H locs cells slots ls Q X _ k => lv_i2b X.1 X.2.1 hd rfl k) (hc _ _ _ _ q1)
  | i2c =>
    obtain ⟨hl, q⟩ := z_ifT hx
    cases z_len hl
    obtain ⟨x, t, rfl, q1⟩ := z_piT q
    exact z_sim (fun p e R s m args below meth c H locs cells slots ls Q X _ k => lv_i2c X.1 X.2.1 hd rfl k) (hc _ _ _ _ q1)
  | lor =>
    obtain ⟨hl, q⟩ := z_ifT hx
    cases z_len hl
    obtain ⟨y, t, rfl, q1⟩ := z_plT q
    obtain ⟨x, t, rfl, q2⟩ := z_plT q1
    exact z_sim (fun p e R s m args below meth c H locs cells slots ls Q X _ k => lv_lor X.1 X.2.1 hd k) (hc _ _ _ _ q2)
  | lshl =>
    obtain ⟨hl, q⟩ := z_ifT hx
    cases z_len hl
    obtain ⟨y, t, rfl, q1⟩ := z_piT q
    obtain ⟨x, t, rfl, q2⟩ := z_plT q1
    exact z_sim (fun p e R s m args below meth c H locs cells slots ls Q X _ k => lv_lshl X.1 X.2.1 hd rfl k) (hc _ _ _ _ q2)
  | lcmp =>
    obtain ⟨hl, q⟩ := z_ifT hx
    cases z_len hl
    obtain ⟨y, t, rfl, q1⟩ := z_plT q
    obtain ⟨x, t, rfl, q2⟩ := z_plT q1
    exact z_sim (fun p e R s m args below meth c H locs cells slots ls Q X _ k => W.lcmp X.1 X.2.1 hd k) (hc _ _ _ _ q2)
  | _ => exact hx.elim
set_option maxHeartbeats 4000000 in
theorem z_sC (hPV : z_PV μ) (hc : ∀ pc lc st h, c pc lc st h → z_J G d μ r pc lc st h) (hp : μ.2.2.2 pc = some (i, len)) (hx : z_exC c i len pc lc st h) : z_J G d μ r pc lc st h := by
  have hd := hPV _ _ hp
  cases i with
  | goto o =>
    obtain ⟨hl, q⟩ := z_ifT hx
    obtain ⟨hl, ho⟩ := z_len3 hl
    cases hl
    exact z_sim (fun p e R s m args below meth c H locs cells slots ls Q X _ k => lv_goto X.1 X.2.1 hd (z_tgE ho) k) (hc _ _ _ _ q)
  | ifCond cc o =>
    cases cc <;> (obtain ⟨hl, q⟩ := z_ifT hx; obtain ⟨hl, ho⟩ := z_len3 hl; cases hl; obtain ⟨x, t, rfl, q1⟩ := z_piT q)
    · exact z_br (fun p e R s m args below meth c H locs cells slots ls Q X k1 k2 => lv_if_eq X.1 X.2.1 hd (z_tgE ho) k1 k2) hc q1
    · exact z_br (fun p e R s m args below meth c H locs cells slots ls Q X k1 k2 => lv_if_ne X.1 X.2.1 hd (z_tgE ho) k2 k1) hc q1
    · exact z_br (fun p e R s m args below meth c H locs cells slots ls Q X k1 k2 => lv_if_lt X.1 X.2.1 hd (z_tgE ho) k1 k2) hc q1
    · exact z_br (fun p e R s m args below meth c H locs cells slots ls Q X k1 k2 => lv_if_ge X.1 X.2.1 hd (z_tgE ho) (fun hh => k2 (Int32.not_lt.mpr hh)) (fun hh => k1 (Int32.not_le.mp hh))) hc q1
    · exact z_br (fun p e R s m args below meth c H locs cells slots ls Q X k1 k2 => lv_if_gt X.1 X.2.1 hd (z_tgE ho) k1 k2) hc q1
    · exact z_br (fun p e R s m args below meth c H locs cells slots ls Q X k1 k2 => lv_if_le X.1 X.2.1 hd (z_tgE ho) (fun hh => k2 (Int32.not_lt.mpr hh)) (fun hh => k1 (Int32.not_le.mp hh))) hc q1
  | if_icmp cc o =>
    cases cc <;> (obtain ⟨hl, q⟩ := z_ifT hx; obtain ⟨hl, ho⟩ := z_len3 hl; cases hl; obtain ⟨y, t, rfl, q1⟩ := z_piT q; obtain ⟨x, t, rfl, q2⟩ := z_piT q1)
    · exact z_br (fun p e R s m args below meth c H locs cells slots ls Q X k1 k2 => lv_icmp_eq X.1 X.2.1 hd (z_tgE ho) k1 k2) hc q2
    · exact z_br (fun p e R s m args below meth c H locs cells slots ls Q X k1 k2 => lv_icmp_ne X.1 X.2.1 hd (z_tgE ho) k2 k1) hc q2
    · exact z_br (fun p e R s m args below meth c H locs cells slots ls Q X k1 k2 => lv_icmp_lt X.1 X.2.1 hd (z_tgE ho) k1 k2) hc q2
    · exact z_br (fun p e R s m args below meth c H locs cells slots ls Q X k1 k2 => lv_icmp_ge X.1 X.2.1 hd (z_tgE ho) (fun hh => k2 (Int32.not_lt.mpr hh)) (fun hh => k1 (Int32.not_le.mp hh))) hc q2
    · exact z_br (fun p e R s m args below meth c H locs cells slots ls Q X k1 k2 => lv_icmp_gt X.1 X.2.1 hd (z_tgE ho) k1 k2) hc q2
    · exact z_br (fun p e R s m args below meth c H locs cells slots ls Q X k1 k2 => lv_icmp_le X.1 X.2.1 hd (z_tgE ho) (fun hh => k2 (Int32.not_lt.mpr hh)) (fun hh => k1 (Int32.not_le.mp hh))) hc q2
  | ifnull o =>
    obtain ⟨hl, q⟩ := z_ifT hx
    obtain ⟨hl, ho⟩ := z_len3 hl
    cases hl
    obtain ⟨x, t, rfl, q1⟩ := z_pqT q
    cases x with
    | none => exact z_sim (fun p e R s m args below meth c H locs cells slots ls Q X _ k => lv_ifnullN X.1 X.2.1 hd (z_tgE ho) k) (hc _ _ _ _ q1)
    | some x => exact z_sim (fun p e R s m args below meth c H locs cells slots ls Q X _ k => lv_ifnull X.1 X.2.1 hd k) (hc _ _ _ _ q1)
  | ifnonnull o =>
    obtain ⟨hl, q⟩ := z_ifT hx
    obtain ⟨hl, ho⟩ := z_len3 hl
    cases hl
    obtain ⟨x, t, rfl, q1⟩ := z_pqT q
    cases x with
    | none => exact z_sim (fun p e R s m args below meth c H locs cells slots ls Q X _ k => lv_ifnonnullN X.1 X.2.1 hd k) (hc _ _ _ _ q1)
    | some x => exact z_sim (fun p e R s m args below meth c H locs cells slots ls Q X _ k => lv_ifnonnull X.1 X.2.1 hd (z_tgE ho) k) (hc _ _ _ _ q1)
  | if_acmp cc o =>
    cases cc <;> (obtain ⟨hl, q⟩ := z_ifT hx; obtain ⟨hl, ho⟩ := z_len3 hl; cases hl; obtain ⟨y, t, rfl, q1⟩ := z_pqT q; obtain ⟨x, t, rfl, q2⟩ := z_pqT q1)
    · exact z_br (fun p e R s m args below meth c H locs cells slots ls Q X k1 k2 => lv_acmp_eq X.1 X.2.1 hd (z_tgE ho) k1 k2) hc q2
    · exact z_br (fun p e R s m args below meth c H locs cells slots ls Q X k1 k2 => lv_acmp_ne X.1 X.2.1 hd (z_tgE ho) k2 k1) hc q2
  | _ => exact hx.elim
end SIMPLE
