section HEAP5
variable {G : z_G} {d : Nat} {μ : z_M} {r : z_Res} {pc pc' len : Nat} {lc : List (Option Value)} {st st' : List Value} {h h' : z_H} {c : z_K} {i : Instr}
theorem z_narB {v : Int32} (hv : v.toInt8.toInt32 = v) : narrow .byte (.int v) = .int v := by
  show Value.int _ = _
  rw [show _ = v.toInt8.toInt32 from rfl, hv]
theorem z_comp6 {U : State} {H : Heap} {kA : Class} {comp : ClassId} (hX : z_X G U H) (hkA : U.vm.classes[z_cid G 6]? = some kA) (hkind : kA.kind = .array comp (.array .int)) (hK : va_K (z_D G) vwCl (z_tys G) U) : U.vm.assignable (z_cid G 1) comp = true ∧ ∃ kc, U.vm.classes[comp]? = some kc := by
  obtain ⟨comp', cA', kA', h1, h2, h3, h4, h5⟩ := arrayOverA_spec (hX.1 (.arrayOver (.array .int)) (by simp [z_xO]))
  have e1 : cA' = z_cid G 6 := Option.some.inj (h5.symm.trans (z_cidEq hK).2.2.2.2.2)
  subst e1
  cases hkA.symm.trans h3
  have e2 : comp' = comp := by
    have := h4.symm.trans hkind
    simp at this
    exact this
  subst e2
  have e3 : comp' = z_cid G 1 := Option.some.inj (h1.symm.trans (z_cidEq hK).1)
  rw [e3]
  obtain ⟨kc, hkc, -⟩ := Vm.findClass_spec (z_cidEq hK).1
  exact ⟨va_asg _ _, kc, hkc⟩
set_option maxHeartbeats 4000000 in
theorem z_sD3 (hPV : z_PV μ) {P} (hc : ∀ pc lc st h, c pc lc st h → z_J G d μ r pc lc st h) (hp : μ.2.2.2 pc = some (i, len)) (hg : i = .iastore ∨ i = .bastore ∨ i = .lastore ∨ i = .aastore) (hx : z_exD G μ.2.2.1 μ.2.1 P r c i len pc lc st h) : z_J G d μ r pc lc st h := by
  have hd := hPV _ _ hp
  rcases hg with rfl | rfl | rfl | rfl
  · obtain ⟨hl, q⟩ := z_ifT hx
    cases z_len hl
    obtain ⟨v, t, rfl, q1⟩ := z_piT q
    obtain ⟨j, t, rfl, q2⟩ := z_piT q1
    obtain ⟨a, t, rfl, q3⟩ := z_prT q2
    obtain ⟨hkd, hin, q4⟩ := q3
    refine z_wr (h' := z_pai h a j.toNatClampNeg v) rfl rfl (fun p e R s m args below meth c H locs cells slots ls Q X hR hS k => ?_) (hc _ _ _ _ q4)
    have hA := (hR.2 a (by omega)).1
    exact W.iast X.1 X.2.1 ((hR.2 a (by omega)).2.2.1 hkd) (z_clT (k := 0) X.2.2.2.2.2.2.2.2.1 rfl _ _) (fun q => by cases q) (by show ¬ (j < 0 ∨ (arrV _ _ _).slots.size ≤ _); rw [arrV_size]; exact hin) rfl rfl hd fun H1 e z oq => k H1 _ (z_pai_R (Or.inl rfl) hR hkd e z oq) (hS.put z oq hA)
  · obtain ⟨hl, q⟩ := z_ifT hx
    cases z_len hl
    obtain ⟨v, t, rfl, q1⟩ := z_piT q
    obtain ⟨j, t, rfl, q2⟩ := z_piT q1
    obtain ⟨a, t, rfl, q3⟩ := z_prT q2
    obtain ⟨hkd, hin, q4⟩ := q3
    refine z_wr (h' := z_pai h a j.toNatClampNeg v) rfl rfl (fun p e R s m args below meth c H locs cells slots ls Q X hR hS k => ?_) (hc _ _ _ _ q4)
    rcases hkd with ⟨hkd, hv⟩ | ⟨hkd, hv⟩
    · have hA := (hR.2 a (by omega)).1
      exact W.bast X.1 X.2.1 ((hR.2 a (by omega)).2.2.2.2.1 hkd) (z_clT (k := 2) X.2.2.2.2.2.2.2.2.1 rfl _ _) (fun q => by cases q) (by show ¬ (j < 0 ∨ (arrV _ _ _).slots.size ≤ _); rw [arrV_size]; exact hin) rfl rfl hd fun H1 e z oq => k H1 _ (z_pai_R (Or.inr (Or.inl rfl)) hR hkd (by rw [e, z_narB hv]) z oq) (hS.put z oq hA)
    · have hA := (hR.2 a (by omega)).1
      exact W.zast X.1 X.2.1 ((hR.2 a (by omega)).2.2.2.2.2.1 hkd) (z_clT (k := 3) X.2.2.2.2.2.2.2.2.1 rfl _ _) (fun q => by cases q) (by show ¬ (j < 0 ∨ (arrV _ _ _).slots.size ≤ _); rw [arrV_size]; exact hin) rfl rfl hd fun H1 e z oq => k H1 _ (z_pai_R (Or.inr (Or.inr rfl)) hR hkd (by rw [e, z_narZ hv]) z oq) (hS.put z oq hA)
  · obtain ⟨hl, q⟩ := z_ifT hx
    cases z_len hl
    obtain ⟨v, t, rfl, q1⟩ := z_plT q
    obtain ⟨j, t, rfl, q2⟩ := z_piT q1
    obtain ⟨a, t, rfl, q3⟩ := z_prT q2
    obtain ⟨hkd, hin, q4⟩ := q3
    refine z_wr (h' := z_pal h a j.toNatClampNeg v) rfl rfl (fun p e R s m args below meth c H locs cells slots ls Q X hR hS k => ?_) (hc _ _ _ _ q4)
    have hA := (hR.2 a (by omega)).1
    exact W.last X.1 X.2.1 ((hR.2 a (by omega)).2.2.2.1 hkd) (z_clT (k := 1) X.2.2.2.2.2.2.2.2.1 rfl _ _) (fun q => by cases q) (by show ¬ (j < 0 ∨ (arrV _ _ _).slots.size ≤ _); rw [arrV_size]; exact hin) rfl rfl hd fun H1 e z oq => k H1 _ (z_pal_R hR hkd e z oq) (hS.put z oq hA)
  · obtain ⟨hl, q⟩ := z_ifT hx
    cases z_len hl
    obtain ⟨v, t, rfl, q1⟩ := z_pqT q
    obtain ⟨j, t, rfl, q2⟩ := z_piT q1
    obtain ⟨a, t, rfl, q3⟩ := z_prT q2
    obtain ⟨hkd, hin, q4⟩ := q3
    have h0 : ¬ j < 0 := fun q => hin (Or.inl q)
    have hlt : j.toNatClampNeg < z_ln h a := Nat.not_le.mp fun q => hin (Or.inr q)
    refine z_wr (h' := z_par h a j.toNatClampNeg v) rfl rfl (fun p e R s m args below meth c H locs cells slots ls Q X hR hS k => ?_) (hc _ _ _ _ q4)
    have hK := X.2.2.2.2.2.2.2.2.1
    rcases hkd with ⟨hkd, hv⟩ | ⟨hkd, hv⟩
    · have hA := (hR.2 a (by omega)).1
      rcases z_rcT hv with ⟨rfl, -⟩ | ⟨b, rfl, hb⟩
      · exact va_WaastN X.1 X.2.1 ((hR.2 a (by omega)).2.2.2.2.2.2.1 hkd) (z_clT (k := 4) hK rfl _ _) (fun q => by cases q) (by show ¬ (j < 0 ∨ (arrV _ _ _).slots.size ≤ _); rw [arrV_size]; exact hin) rfl rfl hd fun H1 e z oq => k H1 _ (z_par_R (Or.inl rfl) hR hkd e z oq) (hS.put z oq hA)
      · obtain ⟨-, -, -, -, -, -, -, -, k7⟩ := hR.2 b (by omega)
        obtain ⟨rr, hc1, cellV, g1, g2, g3, -⟩ := k7 1 hb
        have hcls := (hK.1 1 _ (show vwCl[1]? = some (RX1, TX1, 3) from rfl)).2
        obtain ⟨kA, comp, k1, k2, k3, -⟩ := (hK.2 4 _ rfl).2
        have hcomp : comp = (z_D G).1 1 := Option.some.inj (k3.symm.trans hcls.1)
        subst hcomp
        obtain ⟨kC, hkC, -⟩ := hcls.2
        exact W.aast X.1 X.2.1 ((hR.2 a (by omega)).2.2.2.2.2.2.1 hkd) (fun q h => by cases h) (fun h => by cases h) k1 k2 rfl hkC ⟨h0, by show _ < (arrV _ _ _).slots.size; rw [arrV_size]; exact hlt⟩ g1 (fun q h => by rw [g3] at h; cases h) (by rw [g2]; exact hkC) (by rw [g2]; exact va_asg _ _) rfl rfl hd fun H1 e z oq => k H1 _ (z_par_R (Or.inl rfl) hR hkd e z oq) (hS.put z oq hA)
    · have hA := (hR.2 a (by omega)).1
      rcases z_rcT hv with ⟨rfl, hf⟩ | ⟨b, rfl, hb⟩
      · exact hf.elim
      · have hcb : H[b]? = some (vp_cell (z_cid G 1) (z_ln h b, .inl (z_ai h b))) := (hR.2 b (by omega)).2.2.1 hb
        obtain ⟨-, kA, hkA, comp, hkind⟩ := z_clT (k := 5) hK rfl 0 (fun _ => .null)
        obtain ⟨-, kB, hkB, compB, hkindB⟩ := z_clT (k := 0) hK rfl 0 (fun _ => .null)
        have hcomp : s.vm.assignable (z_cid G 1) comp = true ∧ ∃ kc, s.vm.classes[comp]? = some kc := z_comp6 X.2.2.2.2.2.2.2.2.2.1 hkA hkind hK
        obtain ⟨hc1, kc, hc2⟩ := hcomp
        exact W.aast X.1 X.2.1 ((hR.2 a (by omega)).2.2.2.2.2.2.2.1 hkd) (fun q h => by cases h) (fun h => by cases h) hkA hkind rfl hc2 ⟨h0, by show _ < (arrV _ _ _).slots.size; rw [arrV_size]; exact hlt⟩ hcb (fun q h => by cases h) hkB hc1 rfl rfl hd fun H1 e z oq => k H1 _ (z_par_R (Or.inr rfl) hR hkd e z oq) (hS.put z oq hA)
def z_AV : Prop := Cond.arrayClass .int ∈ z_gt ∧ Cond.arrayClass .long ∈ z_gt ∧ Cond.arrayClass .byte ∈ z_gt ∧ Cond.arrayClass .boolean ∈ z_gt
theorem z_nwI {atype : ArrayType} (hAV : Cond.arrayClass (newarray.typeOf atype) ∈ z_gt) (hd : decode μ.1.2.1 pc = .ok (.newarray atype, 2)) {t : Nat} (ht : t = 1 ∨ t = 3 ∨ t = 4) (hcid : ∀ U, va_K (z_D G) vwCl (z_tys G) U → U.vm.findClass ("[" ++ (newarray.typeOf atype).toString) = some (z_cid G t)) (hdef : defaultValue (newarray.typeOf atype) = .int 0) (hby : componentBytes (newarray.typeOf atype) ≤ 8)
    {n : Int32} {rest : List Value} (hn : ¬ n < 0) (hle : n.toNatClampNeg ≤ 1000000) (k : z_J G d μ r (pc + 2) lc (.ref (z_n h) :: rest) (z_nwi h t n.toNatClampNeg fun _ => 0)) : z_J G d μ r pc lc (.int n :: rest) h := by
  refine z_mk (n := n.toNatClampNeg) rfl rfl (fun p e R s m args below meth c H locs cells slots ls Q X _ hR hS h1 h2 k => ?_) k
  refine va_newaK X.1 X.2.1 (X.2.2.2.2.2.2.2.1 _ hAV) rfl hd rfl hn rfl (Nat.le_trans (Nat.mul_le_mul hle hby) (by decide)) h1 h2 rfl fun H' cA e1 z1 o1 hAr hNm => ?_
  cases Option.some.inj (hNm.symm.trans (hcid s X.2.2.2.2.2.2.2.2.1))
  rw [hdef] at e1
  rw [show H.size = z_n h from hR.1]
  exact k H' (z_nwi_R ht hR (z_BH X hS) e1 z1 o1) (z_grow hS z1 o1)
theorem z_nwL (hAV : Cond.arrayClass .long ∈ z_gt) (hd : decode μ.1.2.1 pc = .ok (.newarray .long, 2)) {n : Int32} {rest : List Value} (hn : ¬ n < 0) (hle : n.toNatClampNeg ≤ 1000000) (k : z_J G d μ r (pc + 2) lc (.ref (z_n h) :: rest) (z_nwl h n.toNatClampNeg)) : z_J G d μ r pc lc (.int n :: rest) h := by
  refine z_mk (n := n.toNatClampNeg) rfl rfl (fun p e R s m args below meth c H locs cells slots ls Q X _ hR hS h1 h2 k => ?_) k
  refine va_newaK (atype := .long) X.1 X.2.1 (X.2.2.2.2.2.2.2.1 _ hAV) rfl hd rfl hn rfl (Nat.le_trans (Nat.mul_le_mul hle (show componentBytes (newarray.typeOf .long) ≤ 8 by decide)) (by decide)) h1 h2 rfl fun H' cA e1 z1 o1 hAr hNm => ?_
  cases Option.some.inj (hNm.symm.trans (z_cidEq X.2.2.2.2.2.2.2.2.1).2.1)
  rw [show H.size = z_n h from hR.1]
  exact k H' (z_nwl_R hR (z_BH X hS) e1 z1 o1) (z_grow hS z1 o1)
theorem z_nwR (hKV : z_KV μ.2.2.1) {ix tag : Nat} {E : String} (hk : z_cK μ.2.2.1 ix = some (2, tag, E)) (hd : decode μ.1.2.1 pc = .ok (.anewarray ix, 3)) {n : Int32} {rest : List Value} (hn : ¬ n < 0) (hle : n.toNatClampNeg ≤ 1000000) (k : z_J G d μ r (pc + 3) lc (.ref (z_n h) :: rest) (z_nwr h tag n.toNatClampNeg)) : z_J G d μ r pc lc (.int n :: rest) h := by
  refine z_mk (n := n.toNatClampNeg) rfl rfl (fun p e R s m args below meth c H locs cells slots ls Q X _ hR hS h1 h2 k => ?_) k
  have hX := X.2.2.2.2.2.2.2.2.2.1
  have hK := X.2.2.2.2.2.2.2.2.1
  have push : ∀ (cA : ClassId) (t : Nat), (t = 5 ∨ t = 6) → tag = t → cA = z_cid G t → W p (z_l G) e R s m args below meth c (H.push ({ cls := cA, slots := Array.replicate n.toNatClampNeg .null, vm := .none } : Cell)) locs (cells + 1) (slots + n.toNatClampNeg) Q (F0 m (pc + 3) ls (.ref H.size :: rest)) := by
    intro cA t ht e1 e2
    subst e1; subst e2
    rw [show H.size = z_n h from hR.1]
    have z1 : (H.push ({ cls := z_cid G tag, slots := Array.replicate n.toNatClampNeg .null, vm := .none } : Cell)).size = H.size + 1 := by rw [Array.size_push]
    have o1 : ∀ q : Nat, q < H.size → (H.push ({ cls := z_cid G tag, slots := Array.replicate n.toNatClampNeg .null, vm := .none } : Cell))[q]? = H[q]? := fun q hq => by rw [Array.getElem?_push, if_neg (Nat.ne_of_lt hq)]
    exact k _ (z_nwr_R ht hR (z_BH X hS) (by rw [Array.getElem?_push_size, arrV_new, vp_cell_q]; rfl) z1 o1) (z_grow hS z1 o1)
  rcases (hKV ix _ hk).2.1 rfl with ⟨e1, hw⟩ | ⟨e1, hw⟩
  · exact W.anew X.1 X.2.1 X.2.2.2.2.1 (X.2.2.2.2.2.2.2.1 _ hw) (va_AO.use (hX.1 (.arrayOver (.object RX1)) (by simp [z_xO]))) rfl hd rfl hn (by omega) h1 h2 fun cA kA comp f1 f2 f3 f4 => push cA 5 (Or.inl rfl) e1 (Option.some.inj (f1.symm.trans (z_cidEq hK).2.2.2.2.1))
  · exact W.anewA (t := .int) X.1 X.2.1 X.2.2.2.2.1 (X.2.2.2.2.2.2.2.1 _ hw) (hX.1 (.arrayOver (.array .int)) (by simp [z_xO])) rfl hd rfl hn (by omega) h1 h2 fun cA kA comp f1 f2 f3 f4 => push cA 6 (Or.inr rfl) e1 (Option.some.inj (f1.symm.trans (z_cidEq hK).2.2.2.2.2))
theorem z_nwO (hCF : z_CF) {ix ci : Nat} {rr : vw_C} (hcl : vwCl[ci]? = some rr) (hw : Cond.classLink (z_cNm μ.2.2.1) ix rr.1 ∈ z_gt) (hd : decode μ.1.2.1 pc = .ok (.new ix, 3)) (k : z_J G d μ r (pc + 3) lc (.ref (z_n h) :: st) (z_nwo h ci (z_nf ci))) : z_J G d μ r pc lc st h := by
  obtain ⟨f1, f2, f3, f4, f5, f6, f7, f8, f9⟩ := hCF ci rr hcl
  refine z_mk (n := z_nf ci) rfl rfl (fun p e R s m args below meth c H locs cells slots ls Q X _ hR hS h1 h2 k => ?_) k
  have hKn := X.2.2.2.2.2.2.2.2.1.1 ci _ hcl
  have hts := X.2.2.2.2.2.2.2.1
  refine W.newcK X.1 X.2.1 X.2.2.2.2.1 (hts _ hw) (hts _ f7) (hts _ f8) rfl hd h1 h2 hKn.2.1 rfl fun H1 kC hkC e1 z1 o1 => ?_
  rw [show H.size = z_n h from hR.1]
  refine k H1 (z_nwo_R hcl f4 hR (z_BH X hS) ?_ z1 o1) (z_grow hS z1 o1)
  refine (u_born (z_tyA ci) hts f1 hKn hkC e1 f2).to (fun j hj => ?_)
  rcases f9 j hj with e | e | ⟨n, e⟩ | ⟨n, e⟩ <;> rw [e] <;> rfl
set_option maxHeartbeats 4000000 in
theorem z_sD (hCF : z_CF) (hAV : z_AV) (hFV : z_FV μ.2.2.1) (hKV : z_KV μ.2.2.1) (hTV : z_TV μ.2.2.1) (hPV : z_PV μ) (hc : ∀ pc lc st h, c pc lc st h → z_J G d μ r pc lc st h) (hp : μ.2.2.2 pc = some (i, len)) (hx : z_exD G μ.2.2.1 μ.2.1 μ.2.2.2 r c i len pc lc st h) : z_J G d μ r pc lc st h := by
  have hd := hPV _ _ hp
  cases i with
  | getfield k => exact z_sD1 hCF hFV hPV hc hp (Or.inl ⟨k, rfl⟩) hx
  | putfield k => exact z_sD1 hCF hFV hPV hc hp (Or.inr ⟨k, rfl⟩) hx
  | iaload => exact z_sD2 hPV hc hp (Or.inl rfl) hx
  | baload => exact z_sD2 hPV hc hp (Or.inr (Or.inl rfl)) hx
  | laload => exact z_sD2 hPV hc hp (Or.inr (Or.inr (Or.inl rfl))) hx
  | aaload => exact z_sD2 hPV hc hp (Or.inr (Or.inr (Or.inr (Or.inl rfl)))) hx
  | arraylength => exact z_sD2 hPV hc hp (Or.inr (Or.inr (Or.inr (Or.inr rfl)))) hx
  | iastore => exact z_sD3 hPV hc hp (Or.inl rfl) hx
  | bastore => exact z_sD3 hPV hc hp (Or.inr (Or.inl rfl)) hx
  | lastore => exact z_sD3 hPV hc hp (Or.inr (Or.inr (Or.inl rfl))) hx
  | aastore => exact z_sD3 hPV hc hp (Or.inr (Or.inr (Or.inr rfl))) hx
  | newarray ty =>
    cases ty with
    | int =>
      obtain ⟨hl, q⟩ := z_ifT hx
      cases z_len hl
      obtain ⟨n, t, rfl, q1⟩ := z_piT q
      exact z_nwI (atype := .int) (t := 1) hAV.1 hd (Or.inl rfl) (fun U hK => (z_cidEq hK).1) rfl (by decide) q1.1 q1.2.1 (hc _ _ _ _ q1.2.2)
    | long =>
      obtain ⟨hl, q⟩ := z_ifT hx
      cases z_len hl
      obtain ⟨n, t, rfl, q1⟩ := z_piT q
      exact z_nwL hAV.2.1 hd q1.1 q1.2.1 (hc _ _ _ _ q1.2.2)
    | byte =>
      obtain ⟨hl, q⟩ := z_ifT hx
      cases z_len hl
      obtain ⟨n, t, rfl, q1⟩ := z_piT q
      exact z_nwI (atype := .byte) (t := 3) hAV.2.2.1 hd (Or.inr (Or.inl rfl)) (fun U hK => (z_cidEq hK).2.2.1) rfl (by decide) q1.1 q1.2.1 (hc _ _ _ _ q1.2.2)
    | boolean =>
      obtain ⟨hl, q⟩ := z_ifT hx
      cases z_len hl
      obtain ⟨n, t, rfl, q1⟩ := z_piT q
      exact z_nwI (atype := .boolean) (t := 4) hAV.2.2.2 hd (Or.inr (Or.inr rfl)) (fun U hK => (z_cidEq hK).2.2.2.1) rfl (by decide) q1.1 q1.2.1 (hc _ _ _ _ q1.2.2)
    | _ => exact hx.elim
  | anewarray k =>
    obtain ⟨hl, q⟩ := z_ifT hx
    cases z_len hl
    split at q
    · rename_i tag E hk
      obtain ⟨n, t, rfl, q1⟩ := z_piT q
      exact z_nwR hKV hk hd q1.1 q1.2.1 (hc _ _ _ _ q1.2.2)
    · exact q.elim
  | new k =>
    obtain ⟨hl, q⟩ := z_ifT hx
    cases z_len hl
    split at q
    · rename_i ci E hk
      obtain ⟨rr, hcl, hw⟩ := (hKV k _ hk).1 rfl
      exact z_nwO hCF hcl hw hd (hc _ _ _ _ q)
    · rename_i ic E hk
      obtain ⟨hT, q1⟩ := z_ifT q
      simp only [Bool.and_eq_true] at hT
      exact z_throw hPV hTV hk hp hT.1 hT.2 q1
    · exact q.elim
  | checkcast k =>
    obtain ⟨hl, q⟩ := z_ifT hx
    cases z_len hl
    split at q
    · rename_i a1 a2 hk
      obtain ⟨a, t, rfl, q1⟩ := z_prT q
      obtain ⟨hkd, q2⟩ := q1
      exact z_rd (fun p e R s m args below meth c H locs cells slots ls Q X hR hS k => va_castA X.1 X.2.1 X.2.2.2.2.1 (X.2.2.2.2.2.2.2.1 _ ((hKV _ _ hk).2.2 rfl)) (z_at1 hR hkd) 0 rfl (z_cidEq X.2.2.2.2.2.2.2.2.1).1 hd k) (hc _ _ _ _ q2)
    · exact q.elim
  | _ => exact hx.elim
end HEAP5
