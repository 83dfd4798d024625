/-! the heap: reads, writes, makings -/
def z_same (h h' : z_H) (q : Nat) : Prop := z_kd h' q = z_kd h q ∧ z_ln h' q = z_ln h q ∧ z_oi h' q = z_oi h q ∧ z_or h' q = z_or h q ∧ z_ai h' q = z_ai h q ∧ z_al h' q = z_al h q ∧ z_ar h' q = z_ar h q
theorem z_fv_same {h h' : z_H} {q : Nat} (hs : z_same h h' q) (ci : Nat) : z_fv h' q ci = z_fv h q ci := by
  funext k
  obtain ⟨-, -, h3, h4, -⟩ := hs
  unfold z_fv
  rw [h3, h4]
theorem z_ok_same {G : z_G} {h h' : z_H} {H : Heap} {q : Nat} (hs : z_same h h' q) (hk : z_ok G h H q) : z_ok G h' H q := by
  have hfv := z_fv_same hs
  obtain ⟨h1, h2, h3, h4, h5, h6, h7⟩ := hs
  obtain ⟨k1, k2, k3, k4, k5, k6, k7⟩ := hk
  refine ⟨?_, ?_, ?_, ?_, ?_, ?_, ?_⟩
  · rw [h1, h2, h5]; exact k1
  · rw [h1, h2, h6]; exact k2
  · rw [h1, h2, h5]; exact k3
  · rw [h1, h2, h5]; exact k4
  · rw [h1, h2, h7]; exact k5
  · rw [h1, h2, h7]; exact k6
  · intro ci hci
    rw [h1] at hci
    rw [hfv]
    exact k7 ci hci
theorem z_ok_kept {G : z_G} {h : z_H} {H H' : Heap} {q : Nat} (e : H'[q]? = H[q]?) (hk : z_ok G h H q) : z_ok G h H' q := by
  obtain ⟨k1, k2, k3, k4, k5, k6, k7⟩ := hk
  refine ⟨?_, ?_, ?_, ?_, ?_, ?_, ?_⟩
  · rw [e]; exact k1
  · rw [e]; exact k2
  · rw [e]; exact k3
  · rw [e]; exact k4
  · rw [e]; exact k5
  · rw [e]; exact k6
  · intro ci hci
    obtain ⟨r, h1, h2⟩ := k7 ci hci
    exact ⟨r, h1, h2.kept e⟩
theorem z_R_upd {G : z_G} {h h' : z_H} {H H' : Heap} {a : Nat} (hR : z_R G h H) (hn : z_n h' = z_n h) (hk : z_kd h' = z_kd h) (hs : ∀ q, q ≠ a → z_same h h' q) (hz : H'.size = H.size) (ho : ∀ q : Nat, q ≠ a → H'[q]? = H[q]?) (ha : z_ok G h' H' a) : z_R G h' H' := by
  refine ⟨hz.trans (hR.1.trans hn.symm), fun q hq => ?_⟩
  rw [hk] at hq
  obtain ⟨h1, h2, h3⟩ := hR.2 q hq
  refine ⟨h1, by rw [hn]; exact h2, ?_⟩
  by_cases e : q = a
  · rw [e]; exact ha
  · exact z_ok_kept (ho q e) (z_ok_same (hs q e) h3)
theorem z_R_new {G : z_G} {h h' : z_H} {H H' : Heap} (hR : z_R G h H) (hB : z_B G ≤ H.size) (hn : z_n h' = z_n h + 1) (hs : ∀ q, q ≠ z_n h → z_same h h' q) (hz : H'.size = H.size + 1) (ho : ∀ q : Nat, q < H.size → H'[q]? = H[q]?) (ha : z_ok G h' H' (z_n h)) : z_R G h' H' := by
  refine ⟨by rw [hz, hR.1, hn], fun q hq => ?_⟩
  by_cases e : q = z_n h
  · subst e
    exact ⟨by rw [← hR.1]; exact hB, by omega, ha⟩
  · rw [(hs q e).1] at hq
    obtain ⟨h1, h2, h3⟩ := hR.2 q hq
    exact ⟨h1, by omega, z_ok_kept (ho q (by rw [hR.1]; exact h2)) (z_ok_same (hs q e) h3)⟩
theorem z_u_eq {α : Type} (f : Nat → α) (a : Nat) (v : α) : z_u f a v a = v := by simp [z_u]
theorem z_u_ne {α : Type} (f : Nat → α) {a x : Nat} (v : α) (h : x ≠ a) : z_u f a v x = f x := by simp [z_u, h]
theorem z_uu_eq {α : Type} (f : Nat → Nat → α) (a k : Nat) (v : α) : z_uu f a k v a = z_u (f a) k v := by simp [z_uu, z_u]
theorem z_uu_ne {α : Type} (f : Nat → Nat → α) {a x : Nat} (k : Nat) (v : α) (h : x ≠ a) : z_uu f a k v x = f x := by simp [z_uu, z_u, h]
section HEAP
variable {G : z_G} {d : Nat} {μ : z_M} {r : z_Res} {pc pc' len : Nat} {lc : List (Option Value)} {st st' : List Value} {h h' : z_H} {c : z_K} {i : Instr}
/-- an instruction that reads the heap -/
theorem z_rd (hw : ∀ (p : Program) (e : Env) (R : Room) (s : State) (m : MethodId) (args : Array Value) (below : List Frame) (meth : Method) (c : Code) (H : Heap) (locs : List Loc) (cells slots : Nat) (ls : Array Slot) (Q : State → Prop),
      z_Cx G d μ p R s m args meth c → z_R G h H → va_S (z_A G) s.heap H locs → W p (z_l G) e R s m args below meth c H locs cells slots Q (F0 m pc' ls st') → W p (z_l G) e R s m args below meth c H locs cells slots Q (F0 m pc ls st))
    (k : z_J G d μ r pc' lc st' h) : z_J G d μ r pc lc st h :=
  ⟨k.1, fun p e R s m args below meth c X H locs cells slots mc ms ls hl hn hR hS h1 h2 h3 h4 => hw p e R s m args below meth c H locs cells slots ls _ X hR hS (k.2 p e R s m args below meth c X H locs cells slots mc ms ls hl hn hR hS h1 h2 h3 h4)⟩
/-- an instruction that writes -/
theorem z_wr (hc : z_c h' = z_c h) (hs : z_s h' = z_s h) (hw : ∀ (p : Program) (e : Env) (R : Room) (s : State) (m : MethodId) (args : Array Value) (below : List Frame) (meth : Method) (c : Code) (H : Heap) (locs : List Loc) (cells slots : Nat) (ls : Array Slot) (Q : State → Prop),
      z_Cx G d μ p R s m args meth c → z_R G h H → va_S (z_A G) s.heap H locs → (∀ H' locs', z_R G h' H' → va_S (z_A G) s.heap H' locs' → W p (z_l G) e R s m args below meth c H' locs' cells slots Q (F0 m pc' ls st')) → W p (z_l G) e R s m args below meth c H locs cells slots Q (F0 m pc ls st))
    (k : z_J G d μ r pc' lc st' h') : z_J G d μ r pc lc st h :=
  ⟨by rw [← hc, ← hs]; exact k.1, fun p e R s m args below meth c X H locs cells slots mc ms ls hl hn hR hS h1 h2 h3 h4 => hw p e R s m args below meth c H locs cells slots ls _ X hR hS (fun H' locs' hR' hS' => k.2 p e R s m args below meth c X H' locs' cells slots mc ms ls hl hn hR' hS' (by rw [hc]; exact h1) (by rw [hs]; exact h2) h3 h4)⟩
/-- an instruction that makes a cell of n slots -/
theorem z_mk {n : Nat} (hc : z_c h' = z_c h + 1) (hs : z_s h' = z_s h + n) (hw : ∀ (p : Program) (e : Env) (R : Room) (s : State) (m : MethodId) (args : Array Value) (below : List Frame) (meth : Method) (c : Code) (H : Heap) (locs : List Loc) (cells slots : Nat) (ls : Array Slot) (Q : State → Prop),
      z_Cx G d μ p R s m args meth c → ls.size = μ.1.2.2.1 → z_R G h H → va_S (z_A G) s.heap H locs → cells + 1 ≤ R.cells → slots + n ≤ R.slots → (∀ H', z_R G h' H' → va_S (z_A G) s.heap H' locs → W p (z_l G) e R s m args below meth c H' locs (cells + 1) (slots + n) Q (F0 m pc' ls st')) → W p (z_l G) e R s m args below meth c H locs cells slots Q (F0 m pc ls st))
    (k : z_J G d μ r pc' lc st' h') : z_J G d μ r pc lc st h := by
  have hr1 : z_c r.2 ≤ z_rcC r := by unfold z_rcC; split <;> omega
  have hr2 : z_s r.2 ≤ z_rcS r := by unfold z_rcS; split <;> omega
  have k1 := k.1
  rw [hc, hs] at k1
  exact ⟨⟨by omega, by omega⟩, fun p e R s m args below meth c X H locs cells slots mc ms ls hl hn hR hS h1 h2 h3 h4 => hw p e R s m args below meth c H locs cells slots ls _ X (hl.1.trans hn) hR hS (by omega) (by omega) (fun H' hR' hS' => k.2 p e R s m args below meth c X H' locs (cells + 1) (slots + n) mc ms ls hl hn hR' hS' (by omega) (by omega) h3 h4)⟩
theorem z_one {D : va_G} {cl : List vw_C} {q : Nat × va_E} {H : Heap} (hq : va_at D cl q H) : va_P D cl [q] H := by
  intro k x hk
  cases k with
  | zero => cases hk; exact hq
  | succ k => cases hk
/-- the fields as a list -/
def z_fl (h : z_H) (a ci N : Nat) : List Value := (List.range N).map (z_fv h a ci)
theorem z_fl_V {h : z_H} {a ci N k : Nat} (hk : k < N) : vp_V (z_fl h a ci N) k = z_fv h a ci k := by simp [vp_V, z_fl, hk]
theorem z_fl_get {h : z_H} {a ci N k : Nat} (hk : k < N) : (z_fl h a ci N)[k]? = some (z_fv h a ci k) := by simp [z_fl, hk]
theorem z_obj {H : Heap} {a ci : Nat} {r : vw_C} (hR : z_R G h H) (hk : z_kd h a = 16 + ci) (hc : vwCl[ci]? = some r) : va_P (z_D G) vwCl [(a, .inr (ci, z_fl h a ci r.2.2))] H := by
  obtain ⟨-, -, -, -, -, -, -, -, k7⟩ := hR.2 a (by omega)
  obtain ⟨r', h1, h2⟩ := k7 ci hk
  cases hc.symm.trans h1
  exact z_one ⟨r, hc, h2.to (fun k hk => (z_fl_V hk).symm)⟩
/-- what is known of the classes -/
def z_CF : Prop := ∀ (ci : Nat) (r : vw_C), vwCl[ci]? = some r → (∀ w ∈ u_ws r.1 r.2.1 r.2.2, w ∈ z_gt) ∧ (∀ k, k < r.2.2 → parseFieldDescriptor (r.2.1 k).2.2.1 = some (z_tyA ci k)) ∧ (∀ a, a < r.2.2 → ∀ b, b < r.2.2 → a ≠ b → (r.2.1 a).2.1 ≠ (r.2.1 b).2.1) ∧ r.2.2 = z_nf ci ∧ (∀ k, z_fnl ci k = (r.2.1 k).2.2.2) ∧ (∀ k, k < r.2.2 → (r.2.1 k).1 = r.1) ∧ Cond.instantiable r.1 (z_nf ci) ∈ z_gt ∧ Cond.initialized r.1 ∈ z_gt ∧ (∀ k, k < r.2.2 → (z_tyA ci k = .int ∨ z_tyA ci k = .boolean ∨ (∃ n, z_tyA ci k = .object n) ∨ ∃ t, z_tyA ci k = .array t))
def z_FV (C : z_CT) : Prop := ∀ k ci s, z_cF C k = some (ci, s) → ∃ r, vwCl[ci]? = some r ∧ s < r.2.2 ∧ Cond.fieldLink (z_cNm C) k r.1 (r.2.1 s).2.1 (r.2.1 s).2.2.1 ∈ z_gt ∧ (ci = z_cN C → r.1 = z_cNm C)
def z_KV (C : z_CT) : Prop := ∀ k q, z_cK C k = some q → (q.1 = 0 → ∃ r, vwCl[q.2.1]? = some r ∧ Cond.classLink (z_cNm C) k r.1 ∈ z_gt) ∧ (q.1 = 2 → (q.2.1 = 5 ∧ Cond.classLink (z_cNm C) k RX1 ∈ z_gt) ∨ (q.2.1 = 6 ∧ Cond.classLink (z_cNm C) k "[I" ∈ z_gt)) ∧ (q.1 = 3 → Cond.classLink (z_cNm C) k "[I" ∈ z_gt)
theorem z_narI (v : Int32) : narrow .int (.int v) = .int v := rfl
theorem z_narZ {v : Int32} (h : z_bz v) : narrow .boolean (.int v) = .int v := by
  rcases h with rfl | rfl <;> decide
theorem z_putok {H' : Heap} {a ci k : Nat} {rr : vw_C} {v : Value} (hkd : z_kd h a = 16 + ci) (hc : vwCl[ci]? = some rr) (hk' : z_kd h' = z_kd h) (hfv : ∀ j, j < rr.2.2 → z_fv h' a ci j = updV (z_fv h a ci) k v j)
    (hob : t_OB a ((z_D G).1 ci) rr.2.2 ((z_D G).2 ci) H' (updV (z_fv h a ci) k v)) : z_ok G h' H' a := by
  refine ⟨?_, ?_, ?_, ?_, ?_, ?_, ?_⟩
  · intro q; rw [hk', hkd] at q; omega
  · intro q; rw [hk', hkd] at q; omega
  · intro q; rw [hk', hkd] at q; omega
  · intro q; rw [hk', hkd] at q; omega
  · intro q; rw [hk', hkd] at q; omega
  · intro q; rw [hk', hkd] at q; omega
  · intro cj hcj
    rw [hk', hkd] at hcj
    have : cj = ci := by omega
    subst this
    exact ⟨rr, hc, hob.to (fun j hj => (hfv j hj).symm)⟩
/-- a field is written -/
theorem z_putf (hCF : z_CF) {k ci s a : Nat} {rr : vw_C} {v : Value} {ini : Bool} (hini : μ.2.1 = ini) (hd : decode μ.1.2.1 pc = .ok (.putfield k, 3)) (hc : vwCl[ci]? = some rr) (hs : s < rr.2.2) (hlink : Cond.fieldLink (z_cNm μ.2.2.1) k rr.1 (rr.2.1 s).2.1 (rr.2.1 s).2.2.1 ∈ z_gt)
    (hfin : z_fnl ci s = true → ini = true ∧ rr.1 = z_cNm μ.2.2.1) (hkd : z_kd h a = 16 + ci) (hn : narrow (z_tyA ci s) v = v) (hfit : fits (z_tyA ci s) v = true)
    (hk' : z_kd h' = z_kd h) (hn' : z_n h' = z_n h) (hsame : ∀ q, q ≠ a → z_same h h' q) (hfv : ∀ j, j < rr.2.2 → z_fv h' a ci j = updV (z_fv h a ci) s v j) (hc1 : z_c h' = z_c h) (hs1 : z_s h' = z_s h)
    {t : List Value} (kk : z_J G d μ r (pc + 3) lc t h') : z_J G d μ r pc lc (v :: .ref a :: t) h := by
  obtain ⟨f1, f2, f3, f4, f5, f6, -, -, -⟩ := hCF ci rr hc
  obtain ⟨C, T, N⟩ := rr
  refine z_wr hc1 hs1 (fun p e R s0 m args below meth c H locs cells slots ls Q X hR hS kk => ?_) kk
  obtain ⟨hx, hb, hml, hr, hown, hlocks, hnm, hts, hK, hX, hB, hex, -⟩ := X
  have hap := va_apart (own := z_cNm μ.2.2.1) hts f1 (z_tyA ci) f2 f3 hK hc
  obtain ⟨g1, g2, -, -, -, -, -, -, k7⟩ := hR.2 a (by omega)
  obtain ⟨r', h1, cell, q1, q2, q3, q4⟩ := k7 ci hkd
  cases hc.symm.trans h1
  obtain ⟨hSl, hfc, kC, hkC, hkind⟩ := hK.1 ci _ hc
  obtain ⟨cf, kf, fi, f, hi, hsl⟩ := hSl s hs
  have hlay := hts _ (f1 _ (u_in_lay hs))
  have hst := (u_facts hfc hkC (u_lays hts f1 hs) hi).1
  have hi' : s0.fieldFound? C (T s).2.1 (T s).2.2.1 = some (cf, kf, fi, f) := by
    have q := hi
    rw [show ((C, T, N).2.1 s).1 = C from f6 s hs] at q
    exact q
  have fin : ∀ H', H'[a]? = some (cell.setSlot f.slot v) → H'.size = H.size → (∀ q, q ≠ a → H'[q]? = H[q]?) → W p (z_l G) e R s0 m args below meth c H' (locs ++ [⟨a, f.slot⟩]) cells slots Q (F0 m (pc + 3) ls t) := by
    intro H' e1 e2 e3
    rw [hsl] at e1
    exact kk H' _ (z_R_upd hR hn' hk' hsame e2 e3 (z_putok hkd hc hk' hfv ⟨_, e1, q2, q3, t_set q4 hap hs v⟩)) (hS.put e2 e3 g1)
  unfold u_lay at hlay
  by_cases hf : (T s).2.2.2 = true
  · rw [if_pos hf] at hlay
    obtain ⟨e1, e2⟩ := hfin (by rw [f5 s]; exact hf)
    have hcf : m.cls = cf := by
      obtain ⟨_, _, c', _, _, _, -, -, hf', -, -, -, hown2, -⟩ := Cond.laysFinal_spec hlay
      have e3 : c' = cf := by have := hi.symm.trans hf'; simp at this; exact this.1.symm
      rw [f6 s hs, show C = z_cNm μ.2.2.1 from e2] at hown2
      rw [← e3]; exact Option.some.inj (hown.symm.trans hown2)
    have h6 := u_fits hfc hkC hkind (Or.inr hlay) hi (f2 s hs) hn hfit
    exact W.putFinK hx hb hown (hts _ hlink) hi' hst hcf (hnm (hini.trans e1)) (by rw [q2]; exact h6) q1 q3 (by rw [hsl]; exact k2_hasslot (q4 s hs)) rfl rfl hd fin
  · rw [if_neg hf] at hlay
    have h6 := u_store hfc hkC hkind hlay hi (f2 s hs) hn hfit
    exact W.putK hx hb (f := f) ⟨hown, hts _ hlink, ⟨_, _, _, hi'⟩, hst⟩ (by rw [q2]; exact h6) q1 q3 (by rw [hsl]; exact k2_hasslot (q4 s hs)) rfl rfl hd fin
end HEAP
