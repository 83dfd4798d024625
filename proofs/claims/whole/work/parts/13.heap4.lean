section HEAP4
variable {G : z_G} {d : Nat} {μ : z_M} {r : z_Res} {pc pc' len : Nat} {lc : List (Option Value)} {st st' : List Value} {h h' : z_H} {c : z_K} {i : Instr}
/-- the words that a throw needs -/
def z_TV (C : z_CT) : Prop := ∀ k ic E, z_cK C k = some (1, ic, E) → (E = z_IAE ∨ E = z_NSE) ∧ Cond.classLink (z_cNm C) k E ∈ z_gt ∧ Cond.initialized E ∈ z_gt ∧ (∀ w ∈ (vx_at0 (z_cNm C) ic E ["java/lang/RuntimeException", "java/lang/Exception"]).filter goodWord, w ∈ z_gt) ∧
  (vx_at0 (z_cNm C) ic E ["java/lang/RuntimeException", "java/lang/Exception"]).filter (fun w => !goodWord w) = [.declares ⟨"java/lang/RuntimeException", "<init>", "()V"⟩, .declares ⟨"java/lang/Exception", "<init>", "()V"⟩, .declares ⟨"java/lang/Throwable", "<init>", "()V"⟩, .castable E E] ∧ (∀ w ∈ vx_at0 (z_cNm C) ic E ["java/lang/RuntimeException", "java/lang/Exception"], vx_ot w = true)
theorem z_cat (st : List Value) : (st.map fun v => v.category).sum ≤ 2 * st.length := by
  induction st with
  | nil => simp
  | cons v t ih =>
    have : v.category ≤ 2 := by cases v <;> simp [Value.category]
    simp; omega
theorem z_cat8 {st : List Value} (h : Nat.ble st.length 4 = true) : (st.map fun v => v.category).sum ≤ 8 := by
  have := z_cat st
  have := Nat.le_of_ble_eq_true h
  omega
theorem z_thr_R {H H' : Heap} (hR : z_R G h H) (hz : H.size ≤ H'.size) (ho : ∀ q : Nat, q < H.size → H'[q]? = H[q]?) : z_R G (z_thr h H'.size) H' := by
  refine ⟨rfl, fun q hq => ?_⟩
  obtain ⟨h1, h2, h3⟩ := hR.2 q hq
  exact ⟨h1, Nat.lt_of_lt_of_le (by rw [hR.1]; exact h2) hz, z_ok_kept (ho q (by rw [hR.1]; exact h2)) (z_ok_same ⟨rfl, rfl, rfl, rfl, rfl, rfl, rfl⟩ h3)⟩
set_option maxHeartbeats 4000000 in
theorem z_throw (hPV : z_PV μ) (hTV : z_TV μ.2.2.1) {k ic : Nat} {E : String} (hk : z_cK μ.2.2.1 k = some (1, ic, E)) (hp : μ.2.2.2 pc = some (.new k, 3)) (hT : z_isT μ.2.2.2 pc ic = true) (hst : Nat.ble st.length 4 = true) (hr : r = (.inr E, h)) : z_J G d μ r pc lc st h := by
  subst hr
  obtain ⟨hE, w1, w2, w3, w4, w5⟩ := hTV k ic E hk
  have hd := hPV _ _ hp
  obtain ⟨hd3, hd4, hd7⟩ : decode μ.1.2.1 (pc + 3) = .ok (.dup, 1) ∧ decode μ.1.2.1 (pc + 4) = .ok (.invokespecial ic, 3) ∧ decode μ.1.2.1 (pc + 7) = .ok (.athrow, 1) := by
    unfold z_isT at hT
    split at hT
    · rename_i k' e3 e4 e7
      have : k' = ic := by simpa using hT
      subst this
      exact ⟨hPV _ _ e3, hPV _ _ e4, hPV _ _ e7⟩
    · cases hT
  refine ⟨⟨Nat.le_refl _, Nat.le_refl _⟩, fun p e R s m args below meth c X H locs cells slots mc ms ls hl hn hR hS h1 h2 h3 h4 => ?_⟩
  obtain ⟨hx, hb, hml, hret, hown, hlocks, hnm, hts, hK, hX, hB, hex, hf, hlo⟩ := X
  obtain ⟨x1, x2, x3, x4, x5, x6, x7⟩ := hX
  have hh1 : cells + 1 ≤ mc := by
    have : cells + (z_c h + 1) ≤ mc + z_c h := h1
    omega
  have hh2 : slots + 6 ≤ ms := by
    have : slots + (z_s h + 6) ≤ ms + z_s h := h2
    omega
  have hcat := z_cat8 hst
  refine vx_throw0 (cc := μ.1.2.1) (own := z_cNm μ.2.2.1) (cls := E) (names := ["java/lang/RuntimeException", "java/lang/Exception"]) (ik := k) (ic := ic) (A := z_A G) hx hb x6 hown (by rcases hE with rfl | rfl <;> decide +kernel) (by decide +kernel) (hts _ w1) (hts _ w2) ?_ ?_ x3 x4 hS (by rw [hl.1, hn, hml]) hd hd3 hd4 hd7 (fun x hx => (hex x hx).elim) (by show 2 + 3 < R.frames; omega) (by show _ + (13 * (2 + 1) + 42) ≤ R.locals; omega) (by omega) (by omega) hlocks ?_ (fun z hz => hS.2.2 z hz) hh1 hh2
  · refine vx_hat (B := [.declares ⟨"java/lang/RuntimeException", "<init>", "()V"⟩, .declares ⟨"java/lang/Exception", "<init>", "()V"⟩, .declares ⟨"java/lang/Throwable", "<init>", "()V"⟩, .castable E E]) (fun w hw => hts w (w3 w hw)) (fun w hw => by rw [w4] at hw; exact hw) ?_
    refine vx_c (va_Nw.use rfl (x1 _ ?_)) (vx_c (va_Nw.use rfl (x1 _ ?_)) (vx_c (va_Nw.use rfl (x1 _ ?_)) (vx_c (va_Nw.use rfl (x1 _ ?_)) vx_n)))
    · simp [z_xD]
    · simp [z_xD]
    · simp [z_xD]
    · rcases hE with rfl | rfl <;> simp [z_xC]
  · intro w hw
    rcases List.mem_cons.mp hw with rfl | hw
    · rfl
    · rcases List.mem_cons.mp hw with rfl | hw
      · rfl
      · exact w5 w hw
  · intro t hal hz ho hsz
    refine ⟨rfl, ⟨t.heap.size, ?_, z_thr_R hR hz ho⟩, ?_⟩
    · show t.heap.size = z_n h + 1
      rw [← hR.1]; exact hsz
    · exact ⟨Nat.le_trans hS.1 hz, fun q q1 q2 => (ho q (Nat.lt_of_lt_of_le q1 hS.1)).trans (hS.2.1 q q1 q2)⟩
theorem z_clT {k : Nat} {q : ClassId × FieldType} {U : State} (hK : va_K (z_D G) vwCl (z_tys G) U) (hq : (z_tys G)[k]? = some q) : ArrOfT U q.1 q.2 := (hK.2 k q hq).1
theorem z_outA {a : Nat} (h : z_B G ≤ a) : z_A G a := h
set_option maxHeartbeats 4000000 in
theorem z_sD2 (hPV : z_PV μ) {P} (hc : ∀ pc lc st h, c pc lc st h → z_J G d μ r pc lc st h) (hp : μ.2.2.2 pc = some (i, len)) (hg : i = .iaload ∨ i = .baload ∨ i = .laload ∨ i = .aaload ∨ i = .arraylength) (hx : z_exD G μ.2.2.1 μ.2.1 P r c i len pc lc st h) : z_J G d μ r pc lc st h := by
  have hd := hPV _ _ hp
  rcases hg with rfl | rfl | rfl | rfl | rfl
  · obtain ⟨hl, q⟩ := z_ifT hx
    cases z_len hl
    obtain ⟨j, t, rfl, q1⟩ := z_piT q
    obtain ⟨a, t, rfl, q2⟩ := z_prT q1
    cases hsc : z_cSc μ.2.2.1 with
    | true =>
      rw [hsc] at q2
      obtain ⟨rfl, hin, q3⟩ := q2
      exact z_rd (fun p e R s m args below meth c H locs cells slots ls Q X hR hS k => va_sld (A := z_A G) X.1 X.2.1 X.2.2.2.2.2.2.2.2.2.1.2.2.2.2.1.1 (Nat.lt_of_lt_of_le X.2.2.2.2.2.2.2.2.2.1.2.2.2.2.1.2 X.2.2.2.2.2.2.2.2.2.2.1) (fun q => absurd X.2.2.2.2.2.2.2.2.2.1.2.2.2.2.1.2 (Nat.not_lt.mpr q)) hS hin hd k) (hc _ _ _ _ q3)
    | false =>
      rw [hsc] at q2
      obtain ⟨hkd, hin, q3⟩ := q2
      exact z_rd (fun p e R s m args below meth c H locs cells slots ls Q X hR hS k => va_iald X.1 X.2.1 X.2.2.2.2.2.2.2.2.1 (z_at1 hR hkd) 0 0 rfl rfl hin hd k) (hc _ _ _ _ q3)
  · obtain ⟨hl, q⟩ := z_ifT hx
    cases z_len hl
    obtain ⟨j, t, rfl, q1⟩ := z_piT q
    obtain ⟨a, t, rfl, q2⟩ := z_prT q1
    obtain ⟨hkd, hin, q3⟩ := q2
    rcases hkd with hkd | hkd
    · exact z_rd (fun p e R s m args below meth c H locs cells slots ls Q X hR hS k => va_bald X.1 X.2.1 X.2.2.2.2.2.2.2.2.1 (z_at3 hR hkd) 0 2 rfl rfl hin hd k) (hc _ _ _ _ q3)
    · exact z_rd (fun p e R s m args below meth c H locs cells slots ls Q X hR hS k => va_zald X.1 X.2.1 X.2.2.2.2.2.2.2.2.1 (z_at4 hR hkd) 0 3 rfl rfl hin hd k) (hc _ _ _ _ q3)
  · obtain ⟨hl, q⟩ := z_ifT hx
    cases z_len hl
    obtain ⟨j, t, rfl, q1⟩ := z_piT q
    obtain ⟨a, t, rfl, q2⟩ := z_prT q1
    obtain ⟨hkd, hin, q3⟩ := q2
    exact z_rd (fun p e R s m args below meth c H locs cells slots ls Q X hR hS k => va_lald X.1 X.2.1 X.2.2.2.2.2.2.2.2.1 (z_at2 hR hkd) 0 1 rfl rfl hin hd k) (hc _ _ _ _ q3)
  · obtain ⟨hl, q⟩ := z_ifT hx
    cases z_len hl
    obtain ⟨j, t, rfl, q1⟩ := z_piT q
    obtain ⟨a, t, rfl, q2⟩ := z_prT q1
    obtain ⟨hkd, hin, q3⟩ := q2
    have q4 : z_J G d μ r (pc + 1) lc (va_rf (z_ar h a j.toNatClampNeg) :: t) h := by
      rcases z_rcT q3 with ⟨e, q4⟩ | ⟨x, e, q4⟩
      · rw [e]; exact hc _ _ _ _ q4
      · rw [e]; exact hc _ _ _ _ q4
    have hlt : j.toNatClampNeg < z_ln h a := Nat.not_le.mp fun q => hin (Or.inr q)
    rcases hkd with hkd | hkd
    · exact z_rd (fun p e R s m args below meth c H locs cells slots ls Q X hR hS k => va_aldq X.1 X.2.1 X.2.2.2.2.2.2.2.2.1 (z_at5 hR hkd) 0 4 rfl rfl hin hd k) q4
    · exact z_rd (fun p e R s m args below meth c H locs cells slots ls Q X hR hS k => W.aald (v := va_rf (z_ar h a j.toNatClampNeg)) (ty := .array .int) X.1 X.2.1 ((hR.2 a (by omega)).2.2.2.2.2.2.2.1 hkd) (z_clT (k := 5) X.2.2.2.2.2.2.2.2.1 rfl _ _) rfl (fun q => by cases q) (by show ¬ (j < 0 ∨ (arrV _ _ _).slots.size ≤ _); rw [arrV_size]; exact hin) (by rw [vp_cell_q, arrV_read _ _ hlt]) rfl rfl hd k) q4
  · obtain ⟨hl, q⟩ := z_ifT hx
    cases z_len hl
    obtain ⟨a, t, rfl, q1⟩ := z_prT q
    cases hsc : z_cSc μ.2.2.1 with
    | true =>
      rw [hsc] at q1
      obtain ⟨rfl, q3⟩ := q1
      exact z_rd (fun p e R s m args below meth c H locs cells slots ls Q X hR hS k => va_slen (A := z_A G) X.1 X.2.1 X.2.2.2.2.2.2.2.2.2.1.2.2.2.2.1.1 (Nat.lt_of_lt_of_le X.2.2.2.2.2.2.2.2.2.1.2.2.2.2.1.2 X.2.2.2.2.2.2.2.2.2.2.1) (fun q => absurd X.2.2.2.2.2.2.2.2.2.1.2.2.2.2.1.2 (Nat.not_lt.mpr q)) hS hd k) (hc _ _ _ _ q3)
    | false =>
      rw [hsc] at q1
      obtain ⟨hkd, q3⟩ := q1
      have hcase : z_kd h a = 1 ∨ z_kd h a = 2 ∨ z_kd h a = 3 ∨ z_kd h a = 4 ∨ z_kd h a = 5 ∨ z_kd h a = 6 := by omega
      rcases hcase with hkd | hkd | hkd | hkd | hkd | hkd
      · exact z_rd (fun p e R s m args below meth c H locs cells slots ls Q X hR hS k => va_alen X.1 X.2.1 X.2.2.2.2.2.2.2.2.1 (z_at1 hR hkd) 0 0 rfl rfl rfl hd k) (hc _ _ _ _ q3)
      · exact z_rd (fun p e R s m args below meth c H locs cells slots ls Q X hR hS k => va_alen X.1 X.2.1 X.2.2.2.2.2.2.2.2.1 (z_at2 hR hkd) 0 1 rfl rfl rfl hd k) (hc _ _ _ _ q3)
      · exact z_rd (fun p e R s m args below meth c H locs cells slots ls Q X hR hS k => va_alen X.1 X.2.1 X.2.2.2.2.2.2.2.2.1 (z_at3 hR hkd) 0 2 rfl rfl rfl hd k) (hc _ _ _ _ q3)
      · exact z_rd (fun p e R s m args below meth c H locs cells slots ls Q X hR hS k => va_alen X.1 X.2.1 X.2.2.2.2.2.2.2.2.1 (z_at4 hR hkd) 0 3 rfl rfl rfl hd k) (hc _ _ _ _ q3)
      · exact z_rd (fun p e R s m args below meth c H locs cells slots ls Q X hR hS k => va_alen X.1 X.2.1 X.2.2.2.2.2.2.2.2.1 (z_at5 hR hkd) 0 4 rfl rfl rfl hd k) (hc _ _ _ _ q3)
      · exact z_rd (fun p e R s m args below meth c H locs cells slots ls Q X hR hS k => va_alen X.1 X.2.1 X.2.2.2.2.2.2.2.2.1 (z_at6 hR hkd) 0 5 rfl rfl rfl hd k) (hc _ _ _ _ q3)
end HEAP4
