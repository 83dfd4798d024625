section SOUND
variable {G : z_G} {d : Nat} {μ : z_M} {r ρ : z_Res} {pc pc' len : Nat} {lc : List (Option Value)} {st st' rest : List Value} {h h' : z_H} {c : z_K} {i : Instr}
set_option maxHeartbeats 4000000 in
theorem z_clone {ix a : Nat} (hw : ∀ w ∈ ([.methodLink (z_cNm μ.2.2.1) ix ⟨"[I", "clone", "()Ljava/lang/Object;"⟩, .sameMethod "[I" "java/lang/Object" "clone" "()Ljava/lang/Object;", .native ⟨"java/lang/Object", "clone", "()Ljava/lang/Object;"⟩, .instanceMethod ⟨"java/lang/Object", "clone", "()Ljava/lang/Object;"⟩, .selects "[I" ⟨"[I", "clone", "()Ljava/lang/Object;"⟩ ⟨"java/lang/Object", "clone", "()Ljava/lang/Object;"⟩] : List Cond), w ∈ z_gt) (hd : decode μ.1.2.1 pc = .ok (.invokevirtual ix, 3)) (hst : Nat.ble rest.length 4 = true) (ha : z_kd h a = 1)
    (k : z_J G d μ r (pc + 3) lc (.ref (z_n h) :: rest) (z_nwi h 1 (z_ln h a) (z_ai h a))) : z_J G d μ r pc lc (.ref a :: rest) h := by
  refine z_mk (n := z_ln h a) rfl rfl (fun p e R s m args below meth c H locs cells slots ls Q X hls hR hS h1 h2 k => ?_) k
  have hB := z_BH X hS
  obtain ⟨hx, hbb, hml, hret, hown, hlocks, hnm, hts, hK, hX, -, hex, hf, hlo⟩ := X
  have hcell : H[a]? = some (vp_cell (z_cid G 1) (z_ln h a, .inl (z_ai h a))) := (hR.2 a (by omega)).2.2.1 ha
  have hcat := z_cat8 hst
  have hsz : (vp_cell (z_cid G 1) (z_ln h a, .inl (z_ai h a))).slots.size = z_ln h a := arrV_size _ _ _
  have hcellE : ({ cls := (vp_cell (z_cid G 1) (z_ln h a, .inl (z_ai h a))).cls, slots := (vp_cell (z_cid G 1) (z_ln h a, .inl (z_ai h a))).slots } : Cell) = vp_cell (z_cid G 1) (z_ln h a, .inl (z_ai h a)) := rfl
  have hnm1 : s.vm.findClass "[I" = some (z_cid G 1) := (z_cidEq hK).1
  obtain ⟨c0, t0', f1, f2, f3⟩ := Cond.castable_spec (va_Nw.use (A := args) rfl (hX.1 (.castable "[I" "java/lang/Cloneable") (by simp [z_xC])))
  cases hnm1.symm.trans f1
  intro T hT Y
  have hcellT : T.heap[a]? = some (vp_cell (z_cid G 1) (z_ln h a, .inl (z_ai h a))) := by rw [hT]; exact hcell
  obtain ⟨-, kA, hkA, comp, hkind⟩ := State.isArrayOf_alike Y.warmed.alike (z_clT (k := 0) hK rfl 0 (fun _ => .null))
  obtain ⟨-, kS, hkS, compS, hkindS⟩ := z_clT (k := 0) hK rfl 0 (fun _ => .null)
  obtain ⟨vm', Y', st⟩ := Y.cloneArray (index := ix) hx hown (hts _ (hw _ (by simp))) (hts _ (hw _ (by simp))) (hts _ (hw _ (by simp))) (hts _ (hw _ (by simp))) (hts _ (hw _ (by simp))) (a := a) (cell := vp_cell (z_cid G 1) (z_ln h a, .inl (z_ai h a))) hcellT (fun k h => by cases h) (fun h => by cases h) hnm1 f2 f3
    (fun j v hv => by
      have hk' : T.vm.classes[z_cid G 1]? = some kA := hkA
      have hv2 : ∃ y, v = .int y := by
        rw [vp_cell_i] at hv
        by_cases hj : j < z_ln h a
        · rw [arrV_read _ _ hj] at hv
          exact ⟨_, (Option.some.inj hv).symm⟩
        · have := (Array.getElem?_eq_some_iff.mp hv).1
          rw [arrV_size] at this
          exact absurd this hj
      obtain ⟨y, rfl⟩ := hv2
      show T.fitsSlot (z_cid G 1) _ j (.int y) = true
      simp [State.fitsSlot, State.slotType?, hk', hkind, fits])
    (g := F0 m pc ls (.ref a :: rest)) rfl (by rw [hls, hml]) rfl (by rw [hbb]; exact hd) (by omega) (by show 2 * 0 + _ + 14 ≤ _; omega) h1 (by rw [hsz]; exact h2) (hloader := Vm.clonesLoader_of_array hkS hkindS)
  rw [hcellE, hsz] at Y'
  have z1 : (H.push (vp_cell (z_cid G 1) (z_ln h a, .inl (z_ai h a)))).size = H.size + 1 := by rw [Array.size_push]
  have o1 : ∀ q : Nat, q < H.size → (H.push (vp_cell (z_cid G 1) (z_ln h a, .inl (z_ai h a))))[q]? = H[q]? := fun q hq => by rw [Array.getElem?_push, if_neg (Nat.ne_of_lt hq)]
  obtain ⟨t, b1, b2⟩ := k _ (z_nwi_R (Or.inl rfl) hR hB (by rw [Array.getElem?_push_size]) z1 o1) (z_grow hS z1 o1) ((T.setVm vm').pushCell (vp_cell (z_cid G 1) (z_ln h a, .inl (z_ai h a)))) (by rw [← hT]; rfl) Y'
  refine ⟨t, st t ?_, b2⟩
  rw [hcellE, hT, hR.1]
  exact b1
theorem z_i32 {v : Int} (h1 : -1000 ≤ v) (h2 : v ≤ 1000) : (Int32.ofInt v).toInt = v := Int32.toInt_ofInt_of_le (by omega) (by omega)
theorem z_swT {x : Int32} {t : List Value} {df : Int} : ∀ (os : List Int) (v : Int), -1000 ≤ v → v + os.length ≤ 1000 → z_swt c pc lc h x t df v os → (∃ (j : Nat) (o : Int), os[j]? = some o ∧ x.toInt = v + j ∧ z_t0 pc o = true ∧ c (z_tg pc o) lc t h) ∨ ((x.toInt < v ∨ v + os.length ≤ x.toInt) ∧ z_t0 pc df = true ∧ c (z_tg pc df) lc t h) := by
  intro os
  induction os with
  | nil =>
    intro v h1 h2 hx
    obtain ⟨a, b⟩ := z_ifT hx
    exact Or.inr ⟨by simp; omega, a, b⟩
  | cons o os ih =>
    intro v h1 h2 hx
    unfold z_swt at hx
    simp only [List.length_cons] at h2
    have e1 := z_i32 h1 (by omega)
    by_cases he : x = Int32.ofInt v
    · rw [if_pos he] at hx
      obtain ⟨a, b⟩ := z_ifT hx
      exact Or.inl ⟨0, o, rfl, by rw [he, e1]; simp, a, b⟩
    · rw [if_neg he] at hx
      have hne : x.toInt ≠ v := fun q => he (by rw [← q, Int32.ofInt_toInt])
      rcases ih (v + 1) (by omega) (by omega) hx with ⟨j, o', a1, a2, a3⟩ | ⟨a1, a2⟩
      · exact Or.inl ⟨j + 1, o', by simpa using a1, by omega, a3⟩
      · refine Or.inr ⟨?_, a2⟩
        simp only [List.length_cons]
        omega
theorem z_lkT {x : Int32} {t : List Value} {df : Int} : ∀ (ps : List (Int × Int)), (∀ q ∈ ps, -1000 ≤ q.1 ∧ q.1 ≤ 1000) → z_lks c pc lc h x t df ps → ∃ off, Op.lookupswitch.offset ps df x.toInt = off ∧ z_t0 pc off = true ∧ c (z_tg pc off) lc t h := by
  intro ps
  induction ps with
  | nil =>
    intro _ hx
    obtain ⟨a, b⟩ := z_ifT hx
    exact ⟨df, rfl, a, b⟩
  | cons q ps ih =>
    intro hq hx
    unfold z_lks at hx
    obtain ⟨q1, q2⟩ := q
    have e1 := z_i32 (hq (q1, q2) List.mem_cons_self).1 (hq (q1, q2) List.mem_cons_self).2
    by_cases he : x = Int32.ofInt q1
    · rw [if_pos he] at hx
      obtain ⟨a, b⟩ := z_ifT hx
      refine ⟨q2, ?_, a, b⟩
      rw [he, e1]
      simp [Op.lookupswitch.offset]
    · rw [if_neg he] at hx
      obtain ⟨off, a1, a2⟩ := ih (fun z hz => hq z (List.mem_cons_of_mem _ hz)) hx
      exact ⟨off, by rw [lv_osw he e1]; exact a1, a2⟩
set_option maxHeartbeats 4000000 in
theorem z_sE (hMV : z_MV μ.2.2.1) (hPu : z_PuV G d μ.2.2.1) (hPV : z_PV μ) (hc : ∀ pc lc st h, c pc lc st h → z_J G (d + 1) μ r pc lc st h) (hp : μ.2.2.2 pc = some (i, len)) (hx : z_exE G μ.2.2.1 μ.1.2.2.2.1 (z_Ev G d) r c i len pc lc st h) : z_J G (d + 1) μ r pc lc st h := by
  have hd := hPV _ _ hp
  cases i with
  | ireturn =>
    obtain ⟨hl, q⟩ := z_ifT hx
    cases z_len hl
    obtain ⟨v, t, rfl, q1⟩ := z_piT q
    obtain ⟨ht, q2⟩ := z_ifT q1
    cases List.isEmpty_iff.mp ht
    split at q2
    · rename_i hr
      exact z_ret q2 (fun p e R s m args below meth c H locs cells slots ls X hq hf => W.iret X.1 X.2.1 (X.2.2.2.1.trans hr) hq hf hd X.2.2.2.2.2.1)
    · rename_i hr
      exact z_ret q2.2 (fun p e R s m args below meth c H locs cells slots ls X hq hf => W.zret X.1 X.2.1 (X.2.2.2.1.trans hr) (z_narZ q2.1) hq hf hd X.2.2.2.2.2.1)
    · rename_i ty _ _ hr
      exact z_ret q2.2 (fun p e R s m args below meth c H locs cells slots ls X hq hf => W.zret X.1 X.2.1 (X.2.2.2.1.trans hr) q2.1 hq hf hd X.2.2.2.2.2.1)
    · exact q2.elim
  | lreturn =>
    obtain ⟨hl, q⟩ := z_ifT hx
    cases z_len hl
    obtain ⟨v, t, rfl, q1⟩ := z_plT q
    obtain ⟨ht, q2⟩ := z_ifT q1
    simp only [Bool.and_eq_true, decide_eq_true_eq] at ht
    cases List.isEmpty_iff.mp ht.1
    exact z_ret q2 (fun p e R s m args below meth c H locs cells slots ls X hq hf => W.lret X.1 X.2.1 (X.2.2.2.1.trans ht.2) hq hf hd X.2.2.2.2.2.1)
  | areturn =>
    obtain ⟨hl, q⟩ := z_ifT hx
    cases z_len hl
    obtain ⟨v, t, rfl, q1⟩ := z_pqT q
    obtain ⟨ht, q2⟩ := z_ifT q1
    cases List.isEmpty_iff.mp ht
    have hv : va_rf v = .null ∨ ∃ a, va_rf v = .ref a := by
      cases v with
      | none => exact Or.inl rfl
      | some x => exact Or.inr ⟨x, rfl⟩
    split at q2
    · rename_i hr
      exact z_ret q2 (fun p e R s m args below meth c H locs cells slots ls X hq hf => W.aret X.1 X.2.1 (X.2.2.2.1.trans hr) (Or.inl ⟨_, rfl⟩) hv hq hf hd X.2.2.2.2.2.1)
    · rename_i hr
      exact z_ret q2 (fun p e R s m args below meth c H locs cells slots ls X hq hf => W.aret X.1 X.2.1 (X.2.2.2.1.trans hr) (Or.inr ⟨_, rfl⟩) hv hq hf hd X.2.2.2.2.2.1)
    · exact q2.elim
  | return_ =>
    obtain ⟨hl, q⟩ := z_ifT hx
    cases z_len hl
    obtain ⟨ht, q2⟩ := z_ifT q
    simp only [Bool.and_eq_true, decide_eq_true_eq] at ht
    cases List.isEmpty_iff.mp ht.1
    exact z_ret q2 (fun p e R s m args below meth c H locs cells slots ls X hq hf => W.vret X.1 X.2.1 (X.2.2.2.1.trans ht.2) hq hf hd X.2.2.2.2.2.1)
  | invokevirtual k =>
    obtain ⟨hl, q⟩ := z_ifT hx
    cases z_len hl
    split at q
    · exact q.elim
    · rename_i kind κ n ci hk
      have hmv := hMV k _ hk
      split at q
      · obtain ⟨As, t, hAs, rfl, q1⟩ := z_argsT q
        rw [List.append_nil] at q1
        obtain ⟨a, t, rfl, q2⟩ := z_prT q1
        obtain ⟨ht, q3⟩ := z_ifT q2
        obtain ⟨hkd, q4⟩ := q3
        obtain ⟨⟨rr, m1, m2, m3⟩, m4, m5, m6, m7⟩ := hmv
        split at q4
        · rename_i S f hcp
          have hE := hPu k S f _ hcp hk _ h q4.1
          exact z_inv hE.1 (z_runV hd m1 m2 m4 m3 m5 m6 m7 hAs hkd ht hE) (Or.inl ⟨_, rfl, hc _ _ _ _ q4.2⟩)
        · rcases z_callT q4 with ⟨v, h1, hE, q5⟩ | ⟨e, h1, hE, q5⟩
          · exact z_inv hE.1 (z_runV hd m1 m2 m4 m3 m5 m6 m7 hAs hkd ht hE) (Or.inl ⟨_, rfl, hc _ _ _ _ q5⟩)
          · exact z_inv hE.1 (z_runV hd m1 m2 m4 m3 m5 m6 m7 hAs hkd ht hE) (Or.inr ⟨_, rfl, q5⟩)
      · obtain ⟨As, t, hAs, rfl, q1⟩ := z_argsT q
        rw [List.append_nil] at q1
        obtain ⟨a, t, rfl, q2⟩ := z_prT q1
        obtain ⟨ht, q3⟩ := z_ifT q2
        obtain ⟨hkd, q4⟩ := q3
        obtain ⟨⟨rr, m1, m2, m3⟩, m4, m5, m6, m7⟩ := hmv
        rcases z_callT q4 with ⟨v, h1, hE, q5⟩ | ⟨e, h1, hE, q5⟩
        · exact z_inv hE.1 (z_runV hd m1 m2 m4 m3 m5 m6 m7 hAs hkd ht hE) (Or.inl ⟨_, rfl, hc _ _ _ _ q5⟩)
        · exact z_inv hE.1 (z_runV hd m1 m2 m4 m3 m5 m6 m7 hAs hkd ht hE) (Or.inr ⟨_, rfl, q5⟩)
      · obtain ⟨a, t, rfl, q2⟩ := z_prT q
        obtain ⟨ht, q3⟩ := z_ifT q2
        exact z_clone hmv hd ht q3.1 (hc _ _ _ _ q3.2)
      · obtain ⟨As, t, hAs, rfl, q1⟩ := z_argsT q
        rw [List.append_nil] at q1
        obtain ⟨a, t, rfl, q2⟩ := z_prT q1
        obtain ⟨ht, j, hj, rfl, q4⟩ := z_ifT q2
        obtain ⟨m3, m2, m4, m5, m6, m7⟩ := hmv
        rcases z_callT q4 with ⟨v, h1, hE, q5⟩ | ⟨e, h1, hE, q5⟩
        · exact z_inv hE.1 (s_runV hj hd m2 m4 m3 m5 m6 m7 hAs ht hE) (Or.inl ⟨_, rfl, hc _ _ _ _ q5⟩)
        · exact z_inv hE.1 (s_runV hj hd m2 m4 m3 m5 m6 m7 hAs ht hE) (Or.inr ⟨_, rfl, q5⟩)
      · exact q.elim
  | invokestatic k =>
    obtain ⟨hl, q⟩ := z_ifT hx
    cases z_len hl
    split at q
    · exact q.elim
    · rename_i kind κ n ci hk
      have hmv := hMV k _ hk
      split at q
      · obtain ⟨As, t, hAs, rfl, q1⟩ := z_argsT q
        rw [List.append_nil] at q1
        obtain ⟨ht, q4⟩ := z_ifT q1
        obtain ⟨m3, m4, m5, m6, m7⟩ := hmv
        split at q4
        · rename_i S f hcp
          have hE := hPu k S f _ hcp hk _ h q4.1
          exact z_inv hE.1 (z_runS hd m4 m3 m5 m6 m7 hAs ht hE) (Or.inl ⟨_, rfl, hc _ _ _ _ q4.2⟩)
        · rcases z_callT q4 with ⟨v, h1, hE, q5⟩ | ⟨e, h1, hE, q5⟩
          · exact z_inv hE.1 (z_runS hd m4 m3 m5 m6 m7 hAs ht hE) (Or.inl ⟨_, rfl, hc _ _ _ _ q5⟩)
          · exact z_inv hE.1 (z_runS hd m4 m3 m5 m6 m7 hAs ht hE) (Or.inr ⟨_, rfl, q5⟩)
      · obtain ⟨As, t, hAs, rfl, q1⟩ := z_argsT q
        rw [List.append_nil] at q1
        obtain ⟨ht, q4⟩ := z_ifT q1
        obtain ⟨m3, m4, m5, m6, m7⟩ := hmv
        obtain ⟨v, h1, hE, q5⟩ := z_backT (show z_back κ.2.2.2.1 (fun o h1 => z_Ev G d κ As h (o, h1)) (fun v h1 => c (pc + 3) lc (v ++ t) h1) from q4)
        exact z_inv hE.1 (z_runSW hd m4 m3 m5 m6 m7 hAs ht rfl hE) (Or.inl ⟨_, rfl, hc _ _ _ _ q5⟩)
      · obtain ⟨As, t, hAs, rfl, q1⟩ := z_argsT q
        rw [List.append_nil] at q1
        obtain ⟨ht, q4⟩ := z_ifT q1
        obtain ⟨m3, m4, m5, m6, m7⟩ := hmv
        rcases z_callT q4 with ⟨v, h1, hE, q5⟩ | ⟨e, h1, hE, q5⟩
        · exact z_inv hE.1 (z_runS hd m4 m3 m5 m6 m7 hAs ht hE) (Or.inl ⟨_, rfl, hc _ _ _ _ q5⟩)
        · exact z_inv hE.1 (z_runS hd m4 m3 m5 m6 m7 hAs ht hE) (Or.inr ⟨_, rfl, q5⟩)
      · obtain ⟨m, t, rfl, q1⟩ := z_piT q
        obtain ⟨dp, t, rfl, q2⟩ := z_piT q1
        obtain ⟨b, t, rfl, q3⟩ := z_prT q2
        obtain ⟨sp, t, rfl, q4⟩ := z_piT q3
        obtain ⟨a, t, rfl, q5⟩ := z_prT q4
        obtain ⟨ht, ⟨g1, g2, g3, g4, g5⟩, q6⟩ := z_ifT q5
        rcases q6 with ⟨ha, hb, q7⟩ | ⟨ha, hb, q7⟩
        · exact z_copyI hmv hd ht ha hb g1 g2 g3 g4 g5 (hc _ _ _ _ q7)
        · exact z_copyL hmv hd ht ha hb g1 g2 g3 g4 g5 (hc _ _ _ _ q7)
      · exact q.elim
  | invokespecial k =>
    obtain ⟨hl, q⟩ := z_ifT hx
    cases z_len hl
    split at q
    · exact q.elim
    · rename_i kind κ n ci hk
      have hmv := hMV k _ hk
      split at q
      · obtain ⟨As, t, hAs, rfl, q1⟩ := z_argsT q
        rw [List.append_nil] at q1
        obtain ⟨a, t, rfl, q2⟩ := z_prT q1
        obtain ⟨ht, q4⟩ := z_ifT q2
        obtain ⟨m3, m4, m5, m6, m7, m8, m9⟩ := hmv
        obtain ⟨h1, hE, q5⟩ : ∃ h1, z_Ev G d κ (.ref a :: As) h (.inl none, h1) ∧ c (pc + 3) lc ([] ++ t) h1 := q4
        exact z_inv hE.1 (z_runI hd m4 m5 m6 m3 m7 m8 m9 hAs ht rfl hE) (Or.inl ⟨_, rfl, hc _ _ _ _ q5⟩)
      · obtain ⟨As, t, hAs, rfl, q1⟩ := z_argsT q
        rw [List.append_nil] at q1
        obtain ⟨a, t, rfl, q2⟩ := z_prT q1
        obtain ⟨ht, q4⟩ := z_ifT q2
        obtain ⟨m3, m4, m5, m6, m7, m8, m9, m10⟩ := hmv
        obtain ⟨h1, hE, q5⟩ : ∃ h1, z_Ev G d κ (.ref a :: As) h (.inl none, h1) ∧ c (pc + 3) lc ([] ++ t) h1 := q4
        exact z_inv hE.1 (z_runIN hd m5 m6 m7 m4 m3 m8 m9 m10 hAs ht rfl hE) (Or.inl ⟨_, rfl, hc _ _ _ _ q5⟩)
      · obtain ⟨a, t, rfl, q2⟩ := z_prT q
        obtain ⟨ht, q3⟩ := z_ifT q2
        have k1 := hc _ _ _ _ q3
        refine ⟨k1.1, fun p e R s m args below meth c X H locs cells slots mc ms ls hl hn hR hS g1 g2 g3 g4 => ?_⟩
        have hts := X.2.2.2.2.2.2.2.1
        have hcat := z_cat8 ht
        have hf := X.2.2.2.2.2.2.2.2.2.2.2.2
        exact W.objInit X.1 X.2.1 X.2.2.2.2.1 (hts _ (hmv _ (by simp))) (hts _ (hmv _ (by simp))) (hts _ (hmv _ (by simp))) rfl (by rw [X.2.2.1]; exact hl.1.trans hn) rfl hd (by omega) (by show 2 * 0 + _ + 12 ≤ _; omega) (k1.2 p e R s m args below meth c X H locs cells slots mc ms ls hl hn hR hS g1 g2 g3 g4)
      · exact q.elim
  | tableswitch df lo hi offs =>
    obtain ⟨x, t, rfl, q1⟩ := z_piT hx
    obtain ⟨h0, q2⟩ := z_ifT q1
    simp only [z_swok, Bool.and_eq_true, decide_eq_true_eq] at h0
    rcases z_swT _ _ h0.1.1 h0.1.2 q2 with ⟨j, o, ho, hj, h1, q3⟩ | ⟨hout, h1, q3⟩
    · have hjl : j < offs.toList.length := (List.getElem?_eq_some_iff.mp ho).1
      exact z_sim (fun p e R s m args below meth c H locs cells slots ls Q X _ k => lv_tableIn X.1 X.2.1 hd (by omega) (by omega) (by rw [show (x.toInt - lo).toNat = j by omega, ← Array.getElem?_toList]; exact ho) (z_tgE h1) k) (hc _ _ _ _ q3)
    · exact z_sim (fun p e R s m args below meth c H locs cells slots ls Q X _ k => lv_tableOut X.1 X.2.1 hd (by omega) (z_tgE h1) k) (hc _ _ _ _ q3)
  | lookupswitch df ps =>
    obtain ⟨x, t, rfl, q1⟩ := z_piT hx
    obtain ⟨h0, q2⟩ := z_ifT q1
    simp only [z_lkok, Bool.and_eq_true] at h0
    obtain ⟨off, h1, h2, q3⟩ := z_lkT _ (fun q hq => by
      have := List.all_eq_true.mp h0.1 q hq
      simp only [Bool.and_eq_true, decide_eq_true_eq] at this
      exact this) q2
    exact z_sim (fun p e R s m args below meth c H locs cells slots ls Q X _ k => lv_lookup X.1 X.2.1 hd h0.2 h1 (z_tgE h2) k) (hc _ _ _ _ q3)
  | _ => exact hx.elim
/-- what must be known of a method's tables -/
def z_V (G : z_G) (d : Nat) (μ : z_M) : Prop := z_CF ∧ z_AV ∧ z_PV μ ∧ z_FV μ.2.2.1 ∧ z_KV μ.2.2.1 ∧ z_TV μ.2.2.1 ∧ z_MV μ.2.2.1 ∧ (∀ k v, z_cQ μ.2.2.1 k = some (.inl v) → Cond.constant (z_cNm μ.2.2.1) k v ∈ z_gt) ∧ (∀ k v, z_cQ μ.2.2.1 k = some (.inr (.inl v)) → Cond.constantLong (z_cNm μ.2.2.1) k v ∈ z_gt) ∧ z_SV μ.2.2.1 ∧ z_PuV G d μ.2.2.1
/-- ONE INSTRUCTION IS RIGHT -/
theorem z_step (hV : z_V G d μ) (hc : ∀ pc lc st h, c pc lc st h → z_J G (d + 1) μ r pc lc st h) (hx : z_ex G μ (z_Ev G d) r c pc lc st h) : z_J G (d + 1) μ r pc lc st h := by
  obtain ⟨v1, v2, v3, v4, v5, v6, v7, v8, v9, v10, v11⟩ := hV
  unfold z_ex at hx
  split at hx
  · exact hx.elim
  · rename_i q hp
    obtain ⟨i, len⟩ := q
    split at hx
    · exact z_sA v3 v8 v9 (fun k s pc lc st h q1 q2 q3 => by
        obtain ⟨tx, htx⟩ := v10 k s q1
        exact z_ldcS htx (v3 _ _ q2) q3) hc hp hx
    · exact z_sB v3 hc hp hx
    · exact z_sC v3 hc hp hx
    · exact z_sD v1 v2 v4 v5 v6 v3 hc hp hx
    · exact z_sE v7 v11 v3 hc hp hx
theorem z_wpS (hV : z_V G d μ) {hd : Nat → Bool} {J : z_K} (hJ : ∀ pc lc st h, J pc lc st h → z_J G (d + 1) μ r pc lc st h) : ∀ (k pc : Nat) (lc : List (Option Value)) (st : List Value) (h : z_H), z_wp G μ (z_Ev G d) r hd J k pc lc st h → z_J G (d + 1) μ r pc lc st h := by
  intro k
  induction k with
  | zero => intro pc lc st h hx; exact hx.elim
  | succ k ih =>
    intro pc lc st h hx
    unfold z_wp at hx
    cases hh : hd pc with
    | true => rw [hh] at hx; exact hJ _ _ _ _ hx
    | false => rw [hh] at hx; exact z_step hV ih hx
/-- A BLOCK IS RIGHT -/
theorem z_blk (hV : z_V G d μ) (hd : Nat → Bool) (k : Nat) (hx : z_ex G μ (z_Ev G d) r (z_wp G μ (z_Ev G d) r hd (z_J G (d + 1) μ r) k) pc lc st h) : z_J G (d + 1) μ r pc lc st h :=
  z_step hV (z_wpS hV (fun _ _ _ _ q => q) k) hx
end SOUND
