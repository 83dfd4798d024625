/-! the cards: the last point gone -/
def unm (S : Sc) (i : Nat) : Bool := !(S.2.2 i).testBit (S.1 - 1)
def lsF (S : Sc) (k : Nat) : List Nat := ((List.range k).filter (unm S)).map S.2.2
def lsB (S : Sc) (j k : Nat) : List Nat := ((List.range' j k).filter (unm S)).map S.2.2
def lsg (l : List Nat) (i : Nat) : Nat := (l[i]?).getD 0
def shF (S : Sc) (i : Nat) (a : Nat × (Nat → Nat)) : Nat × (Nat → Nat) := if (S.2.2 i).testBit (S.1 - 1) then a else (a.1 + 1, z_u a.2 a.1 (S.2.2 i))
theorem lsg_app (l : List Nat) (x : Nat) : z_u (lsg l) l.length x = lsg (l ++ [x]) := by
  funext i
  unfold lsg
  by_cases e : i = l.length
  · subst e; rw [u_eq, List.getElem?_append_right (Nat.le_refl _)]; simp
  · rw [u_ne _ _ e]
    by_cases c : i < l.length
    · rw [List.getElem?_append_left c]
    · rw [List.getElem?_append_right (by omega), List.getElem?_eq_none (by omega), List.getElem?_eq_none (by simp; omega)]
theorem shF_ls (S : Sc) : ∀ k, it (shF S) (0, fun _ => 0) k = ((lsF S k).length, lsg (lsF S k)) := by
  intro k
  induction k with
  | zero => rfl
  | succ k ih =>
    rw [it_s, ih]
    unfold shF
    have e : lsF S (k + 1) = if unm S k then lsF S k ++ [S.2.2 k] else lsF S k := by
      unfold lsF
      rw [List.range_succ, List.filter_append, List.map_append]
      cases c : unm S k <;> simp [c]
    rw [e]
    unfold unm
    cases c : (S.2.2 k).testBit (S.1 - 1)
    · rw [if_neg (by decide), if_pos (by decide), lsg_app, List.length_append]; rfl
    · rw [if_pos rfl, if_neg (by decide)]
theorem less_ls (cd : Cd) : ∀ k, k ≤ cd.1.2.1 → (op_lessF cd k).1 = (cd.1.1, cd.1.2.1 - k + (lsB cd.1 (cd.1.2.1 - k) k).length, fun l => if l < cd.1.2.1 - k then cd.1.2.2 l else lsg (lsB cd.1 (cd.1.2.1 - k) k) (l - (cd.1.2.1 - k))) ∨ ¬ c_sok cd.1 := by
  intro k
  by_cases hS : c_sok cd.1
  · intro hk
    left
    induction k with
    | zero =>
      show cd.1 = _
      refine Prod.ext rfl (Prod.ext (by show _ = cd.1.2.1 - 0 + 0; omega) (funext fun l => ?_))
      show cd.1.2.2 l = if l < cd.1.2.1 - 0 then cd.1.2.2 l else lsg [] _
      by_cases c : l < cd.1.2.1
      · rw [if_pos (by omega)]
      · rw [if_neg (by omega)]; exact hS.2.2.2.1 l (by omega)
    | succ k ih =>
      have ih := ih (by omega)
      obtain ⟨j, ej⟩ : ∃ j, cd.1.2.1 - k = j + 1 := ⟨cd.1.2.1 - k - 1, by omega⟩
      have ej' : cd.1.2.1 - (k + 1) = j := by omega
      have ej2 : cd.1.2.1 - 1 - k = j := by omega
      have es : op_lessF cd (k + 1) = if ((op_lessF cd k).1.2.2 (cd.1.2.1 - 1 - k)).testBit (cd.1.1 - 1) then op_drop (op_lessF cd k) (cd.1.2.1 - 1 - k) else op_lessF cd k := rfl
      rw [ej] at ih
      rw [ej', es, ej2]
      obtain ⟨c', ec'⟩ : ∃ c', c' = op_lessF cd k := ⟨_, rfl⟩
      rw [← ec'] at ih ⊢
      have lj : c'.1.2.2 j = cd.1.2.2 j := by rw [ih]; show (if j < j + 1 then _ else _) = _; rw [if_pos (by omega)]
      rw [lj]
      have eB : lsB cd.1 j (k + 1) = if unm cd.1 j then cd.1.2.2 j :: lsB cd.1 (j + 1) k else lsB cd.1 (j + 1) k := by
        unfold lsB
        rw [List.range'_succ, List.filter_cons]
        cases c : unm cd.1 j <;> simp
      rw [eB]
      unfold unm
      cases c : (cd.1.2.2 j).testBit (cd.1.1 - 1)
      · rw [if_neg (by decide), if_pos (by decide), ih]
        refine Prod.ext rfl (Prod.ext (by show j + 1 + _ = j + (_ + 1); omega) (funext fun l => ?_))
        show (if l < j + 1 then _ else _) = if l < j then _ else _
        by_cases c1 : l < j
        · rw [if_pos (by omega), if_pos c1]
        · rw [if_neg c1]
          by_cases c2 : l = j
          · rw [if_pos (by omega), c2]; unfold lsg; simp
          · rw [if_neg (by omega)]
            obtain ⟨t, et⟩ : ∃ t, l - j = t + 1 := ⟨l - j - 1, by omega⟩
            rw [et, show l - (j + 1) = t by omega]
            unfold lsg
            rw [List.getElem?_cons_succ]
      · rw [if_pos rfl, if_neg (by decide)]
        unfold op_drop
        rw [ih]
        refine Prod.ext rfl (Prod.ext (by show j + 1 + _ - 1 = j + _; omega) (funext fun l => ?_))
        show (if l < j then (if l < j + 1 then _ else _) else if l + 1 < j + 1 + (lsB cd.1 (j + 1) k).length then (if l + 1 < j + 1 then _ else _) else 0) = if l < j then _ else _
        by_cases c1 : l < j
        · rw [if_pos c1, if_pos (by omega), if_pos c1]
        · rw [if_neg c1, if_neg c1, if_neg (show ¬ l + 1 < j + 1 by omega), show l + 1 - (j + 1) = l - j by omega]
          by_cases c2 : l + 1 < j + 1 + (lsB cd.1 (j + 1) k).length
          · rw [if_pos c2]
          · rw [if_neg c2]
            unfold lsg
            rw [List.getElem?_eq_none (by omega)]
            rfl
  · intro _; exact Or.inr hS
theorem less_eq {cd : Cd} (hok : c_cok cd) : (op_less cd).1 = (cd.1.1 - 1, it (shF cd.1) (0, fun _ => 0) cd.1.2.1) := by
  have h := (less_ls cd cd.1.2.1 (Nat.le_refl _)).resolve_right (fun n => n hok.1)
  rw [Nat.sub_self] at h
  unfold op_less
  rw [h, shF_ls]
  have e : lsB cd.1 0 cd.1.2.1 = lsF cd.1 cd.1.2.1 := by
    unfold lsB lsF
    rw [List.range_eq_range']
  rw [e]
  refine Prod.ext rfl (Prod.ext (Nat.zero_add _) (funext fun l => ?_))
  show (if l < 0 then cd.1.2.2 l else lsg (lsF cd.1 cd.1.2.1) (l - 0)) = lsg (lsF cd.1 cd.1.2.1) l
  rw [if_neg (Nat.not_lt_zero _), Nat.sub_zero]
section HF
variable {V : CV} {G : z_G} {d L c : Nat} {h : z_H} {cd : Cd} {X : Nat → Prop}
theorem e1_shrunk (hX : ∀ a, X a → hl L a) (hI : inv V L h) (hL : L + 75 ≤ z_n h) (hc : cdk L h c cd) (hok : c_cok cd) (h1 : 1 < cd.1.1) : ∃ h' c', z_Ev G (d + 6) k_X1_shrunk [.ref c] h (.inl (some (va_rf (some c'))), h') ∧ inv V L h' ∧ ex X 14 178 h h' ∧ cdk L h' c' (op_less cd) := by
  have hc0 := hc
  obtain ⟨q, b, u, v, ⟨c1, c2, ⟨c3, c4, c5⟩, ⟨c6, c7, c8⟩, hA, c10⟩, g1, g2, g3⟩ := hc0
  have hn := y_n8 hA
  have hm := y_m12 hA
  have hless := cok_less hok h1
  have eless := less_eq hok
  obtain ⟨S, eS⟩ : ∃ S, S = cd.1 := ⟨_, rfl⟩
  rw [← eS] at hn hm hA h1 eless
  obtain ⟨M, eM⟩ : ∃ M, M = it (shF S) (0, fun _ => 0) S.2.1 := ⟨_, rfl⟩
  rw [← eM] at eless
  have hML : ∀ k, (it (shF S) (0, fun _ => 0) k).1 ≤ k := by
    intro k
    induction k with
    | zero => exact Nat.le_refl _
    | succ k ih =>
      rw [it_s]
      unfold shF
      split
      · unfold shF at ih; omega
      · show _ + 1 ≤ k + 1; unfold shF at ih; omega
  have hM := hML S.2.1
  rw [← eM] at hM
  obtain ⟨h2, eh2⟩ : ∃ h2, h2 = z_nwi h 1 12 (fun i => nI (M.2 i)) := ⟨_, rfl⟩
  obtain ⟨I1, e1⟩ := nw_k hI 12 (fun i => nI (M.2 i)) X
  have fr1 := nw_fr hI hL 12 (fun i => nI (M.2 i))
  rw [← eh2] at I1 e1 fr1
  have L1 : L + 75 ≤ z_n h2 := Nat.le_trans hL e1.1.1
  have hc1 := cdk_ex hI hX e1 hc
  obtain ⟨h3, k3, ev3, I3, e3, hk3⟩ := e1_placed (G := G) (d := d) hX I1 L1 hc1 (p := S.1 - 1) (by omega) (nI 0) (nI 0)
  have L3 : L + 75 ≤ z_n h3 := Nat.le_trans L1 e3.1.1
  have frn := ex_fr I1 hX e3 fr1
  obtain ⟨h4, ev4, I4, e4, A4, N4⟩ := mk_sc (G := G) (d := d) (X := X) (S := (op_less cd).1) I3 L3 hless.1 (a := z_n h) (La := 12) frn.1.1 (by rw [frn.2.1, eh2]; exact nwi_kd _ _ _ _) (by rw [frn.2.2.1, eh2]; exact nwi_ln _ _ _ _) (by decide) (hless.1.2.1) (fun l hl => by
    rw [frn.2.2.2.2.2.1, eh2, nwi_ai, eless])
  have L4 : L + 75 ≤ z_n h4 := Nat.le_trans L3 e4.1.1
  obtain ⟨h5, ev5, I5, e5, hk5⟩ := e1_with (G := G) (d := d) hX I4 L4 (cdk_ex I3 hX e4 hk3) A4
  have E3 := ex_trans hI I1 hX e1 e3
  have E4 := ex_trans hI I3 hX E3 e4
  have E5 := ex_trans hI I4 hX E4 e5
  have ecd : ((op_less cd).1, z_u cd.2.1 (S.1 - 1) (nI 0), z_u cd.2.2 (S.1 - 1) (nI 0)) = op_less cd := by rw [eS]; rfl
  rw [eless] at ev4
  rw [← ecd]
  refine ⟨h5, z_n h4, en_X1_shrunk (b_X1_shrunk_0 (z_pu0V rfl) ⟨c1, ?_⟩), I5, ex_mono E5 (by omega) (by omega), hk5⟩
  rw [c2, z_rcs, y_n hA, q_sub (show 1 ≤ S.1 by omega), nI_clamp (show 12 < 2 ^ 31 by decide)]
  refine ⟨y_kd hA, by decide, by decide, ?_⟩
  have hAf : ∀ f, sc_at q b (z_nwi h 1 12 f) S := fun f => nw_sc hI 12 f hA
  have hcf : ∀ f, z_kd (z_nwi h 1 12 f) c = 17 := fun f => by
    rw [show z_kd (z_nwi h 1 12 f) c = z_kd h c from u_ne _ _ (by have := g1.1; omega)]; exact c1
  have oc : ∀ f, z_or (z_nwi h 1 12 f) c 0 = some q := fun f => c2
  have key := z_forH (G := G) (d := d + 6) (μ := m_X1_shrunk z_pu0) (r := (.inl (some (va_rf (some (z_n h4)))), h5)) (pc := 20) (fun k (a : Nat × (Nat → Nat)) => [some (.ref c), some (.int (nI (S.1 - 1))), some (.ref (z_n h)), some (.int (nI a.1)), some (.int (nI k))]) (fun _ a => z_nwi h 1 12 (fun i => nI (a.2 i))) (shF S) (0, fun _ => 0) S.2.1 ?_ ?_
  · exact key
  · intro k hk hJ
    have hl := hML k
    obtain ⟨a, ea⟩ : ∃ a, a = it (shF S) (0, fun _ => 0) k := ⟨_, rfl⟩
    rw [← ea] at hJ hl ⊢
    have l1 := y_256 hA k
    have rw5 : ∀ f, z_ai (z_nwi h 1 12 f) (b + 5) k = nI (S.2.2 k) := fun f => y_Ln (hAf f) hk
    refine b_X1_shrunk_20 (z_pu0V rfl) ⟨hcf _, ?_⟩
    rw [oc, z_rcs, z_rcs, z_rcs, (y_row (hAf _)).1, z_rcs, z_rcs, y_m (hAf _), if_pos (nI_lt hk (by omega)), nI_clamp (show k < 2 ^ 31 by omega), nI_clamp (show a.1 < 2 ^ 31 by omega), rw5, show (nI (S.2.2 k) >>> (nI (S.1 - 1) &&& nI 31)) &&& nI 1 = nI ((S.2.2 k).testBit (S.1 - 1)).toNat from n_bit (by omega) (by omega), nI_add, nI_add, nwi_pai, nu, nwi_kd, nwi_ln]
    refine ⟨y_kd (hAf _), hcf _, y_kd (hAf _), (y_row (hAf _)).2.1, by rw [(y_row (hAf _)).2.2]; exact vp_in_nI hk (by omega), ?_⟩
    unfold shF at hJ
    cases cb : (S.2.2 k).testBit (S.1 - 1)
    · rw [cb, if_neg (by decide)] at hJ
      rw [if_pos (by rfl)]
      exact ⟨hcf _, y_kd (hAf _), (y_row (hAf _)).2.1, by rw [(y_row (hAf _)).2.2]; exact vp_in_nI hk (by omega), rfl, vp_in_nI (by omega) (by decide), hJ⟩
    · rw [cb, if_pos rfl] at hJ
      rw [if_neg (by decide)]
      exact hJ
  · rw [← eM, ← eh2]
    have A1 := ex_sc hI hX e1 hA
    have oc2 : z_or h2 c 0 = some q := by rw [eh2]; exact c2
    have hc2 : z_kd h2 c = 17 := by rw [eh2]; exact hcf _
    obtain ⟨_, _, _, _, ⟨t1, _⟩, _⟩ := cdk_ex I3 hX e4 hk3
    refine b_X1_shrunk_20 (z_pu0V rfl) ⟨hc2, ?_⟩
    rw [oc2, z_rcs, y_m A1, if_neg (nI_nlt (Nat.le_refl _) (by omega))]
    refine ⟨y_kd A1, hc2, _, _, ev3, ?_⟩
    rw [z_rcs]
    refine ⟨_, ev4, t1, _, _, ev5, ?_⟩
    rw [z_rcs]
end HF
