section HEAP3
variable {G : z_G} {d : Nat} {μ : z_M} {r : z_Res} {pc pc' len : Nat} {lc : List (Option Value)} {st st' : List Value} {h h' : z_H} {c : z_K} {i : Instr}
theorem z_rcT {o : Option Nat} {A : Prop} {B : Nat → Prop} (q : z_rc o A B) : (o = none ∧ A) ∨ ∃ x, o = some x ∧ B x := by
  cases o with
  | none => exact Or.inl ⟨rfl, q⟩
  | some x => exact Or.inr ⟨x, rfl, q⟩
theorem z_BH {p : Program} {R : Room} {s : State} {m : MethodId} {args : Array Value} {meth : Method} {cc : Code} {H : Heap} {locs : List Loc} (X : z_Cx G d μ p R s m args meth cc) (hS : va_S (z_A G) s.heap H locs) : z_B G ≤ H.size := Nat.le_trans X.2.2.2.2.2.2.2.2.2.2.1 hS.1
set_option maxHeartbeats 4000000 in
theorem z_get (hCF : z_CF) {k ci s a : Nat} {rr : vw_C} (hd : decode μ.1.2.1 pc = .ok (.getfield k, 3)) (hc : vwCl[ci]? = some rr) (hs : s < rr.2.2) (hlink : Cond.fieldLink (z_cNm μ.2.2.1) k rr.1 (rr.2.1 s).2.1 (rr.2.1 s).2.2.1 ∈ z_gt)
    (hkd : z_kd h a = 16 + ci) {t : List Value} (kk : z_J G d μ r (pc + 3) lc (z_fv h a ci s :: t) h) : z_J G d μ r pc lc (.ref a :: t) h := by
  obtain ⟨f1, f2, f3, f4, f5, f6, -, -, -⟩ := hCF ci rr hc
  refine z_rd (fun p e R s0 m args below meth c H locs cells slots ls Q X hR hS kk => ?_) kk
  exact va_get (D := z_D G) (ci := ci) (C := rr.1) (T := rr.2.1) (N := rr.2.2) X.1 X.2.1 X.2.2.2.2.2.2.2.1 f1 X.2.2.2.2.1 X.2.2.2.2.2.2.2.2.1 (z_obj hR hkd hc) 0 rfl hc s hs (X.2.2.2.2.2.2.2.1 _ hlink) (fun x hx => by rw [← f6 s hs]; exact hx) (z_fl_get hs) hd kk
theorem z_fitI (v : Int32) : fits .int (.int v) = true := rfl
theorem z_fvI {a ci s j : Nat} {v : Int32} (hki : z_ki (z_tyA ci s) ≠ 2) : z_fv (z_poi h a s v) a ci j = updV (z_fv h a ci) s (.int v) j := by
  unfold z_fv updV
  have e1 : z_oi (z_poi h a s v) a = z_u (z_oi h a) s v := z_uu_eq _ _ _ _
  have e2 : z_or (z_poi h a s v) = z_or h := rfl
  rw [e1, e2]
  by_cases hj : j = s
  · subst hj
    simp only [if_true, z_u]
    try (split <;> first | contradiction | rfl)
  · simp only [if_neg hj, z_u]
theorem z_fvR {a ci s j : Nat} {v : Option Nat} (hki : z_ki (z_tyA ci s) = 2) : z_fv (z_por h a s v) a ci j = updV (z_fv h a ci) s (va_rf v) j := by
  unfold z_fv updV
  have e1 : z_or (z_por h a s v) a = z_u (z_or h a) s v := z_uu_eq _ _ _ _
  have e2 : z_oi (z_por h a s v) = z_oi h := rfl
  rw [e1, e2]
  by_cases hj : j = s
  · subst hj
    simp only [if_true, z_u]
    try (split <;> first | rfl | contradiction)
  · simp only [if_neg hj, z_u]
set_option maxHeartbeats 4000000 in
theorem z_sD1 (hCF : z_CF) (hFV : z_FV μ.2.2.1) (hPV : z_PV μ) {P} (hc : ∀ pc lc st h, c pc lc st h → z_J G d μ r pc lc st h) (hp : μ.2.2.2 pc = some (i, len)) (hg : (∃ k, i = .getfield k) ∨ ∃ k, i = .putfield k) (hx : z_exD G μ.2.2.1 μ.2.1 P r c i len pc lc st h) : z_J G d μ r pc lc st h := by
  have hd := hPV _ _ hp
  rcases hg with ⟨k, rfl⟩ | ⟨k, rfl⟩
  · obtain ⟨hl, q⟩ := z_ifT hx
    cases z_len hl
    split at q
    · exact q.elim
    · rename_i ci s hcf
      obtain ⟨rr, hcl, hs, hlink, -⟩ := hFV k ci s hcf
      obtain ⟨a, t, rfl, q1⟩ := z_prT q
      obtain ⟨hkd, q2⟩ := q1
      refine z_get hCF hd hcl hs hlink hkd ?_
      unfold z_fv
      split at q2
      · rename_i e2
        rw [e2]
        rcases z_rcT q2 with ⟨e, q3⟩ | ⟨x, e, q3⟩
        · simp only [e]; exact hc _ _ _ _ q3
        · simp only [e]; exact hc _ _ _ _ q3
      · rename_i e2
        split
        · rename_i e3; exact absurd e3 e2
        · exact hc _ _ _ _ q2
  · obtain ⟨hl, q⟩ := z_ifT hx
    cases z_len hl
    split at q
    · exact q.elim
    · rename_i ci s hcf
      obtain ⟨rr, hcl, hs, hlink, hcn⟩ := hFV k ci s hcf
      obtain ⟨f1, f2, f3, f4, f5, f6, -, -, f9⟩ := hCF ci rr hcl
      obtain ⟨hfi, q1⟩ := z_ifT q
      have hfin : z_fnl ci s = true → μ.2.1 = true ∧ rr.1 = z_cNm μ.2.2.1 := by
        intro hf
        rw [hf] at hfi
        simp only [Bool.not_true, Bool.false_or, Bool.and_eq_true] at hfi
        exact ⟨hfi.1, hcn (Nat.eq_of_beq_eq_true hfi.2)⟩
      split at q1
      · rename_i e2
        obtain ⟨v, t, rfl, q2⟩ := z_pqT q1
        obtain ⟨a, t, rfl, q3⟩ := z_prT q2
        obtain ⟨hkd, q4⟩ := q3
        have hty : (∃ n, z_tyA ci s = .object n) ∨ ∃ t, z_tyA ci s = .array t := by
          rcases f9 s hs with e | e | e | e
          · rw [e] at e2; cases e2
          · rw [e] at e2; cases e2
          · exact Or.inl e
          · exact Or.inr e
        have hn : narrow (z_tyA ci s) (va_rf v) = va_rf v ∧ fits (z_tyA ci s) (va_rf v) = true := by
          rcases hty with ⟨n, e⟩ | ⟨n, e⟩ <;> rw [e] <;> cases v <;> exact ⟨rfl, rfl⟩
        exact z_putf (h' := z_por h a s v) hCF rfl hd hcl hs hlink hfin hkd hn.1 hn.2 rfl rfl (fun q hq => ⟨rfl, rfl, rfl, z_uu_ne _ _ _ hq, rfl, rfl, rfl⟩) (fun j _ => z_fvR e2) rfl rfl (hc _ _ _ _ q4)
      · rename_i e2
        obtain ⟨v, t, rfl, q2⟩ := z_piT q1
        obtain ⟨a, t, rfl, q3⟩ := z_prT q2
        obtain ⟨hkd, hbz, q4⟩ := q3
        have hty : z_tyA ci s = .boolean := by
          rcases f9 s hs with e | e | ⟨n, e⟩ | ⟨n, e⟩
          · rw [e] at e2; cases e2
          · exact e
          · rw [e] at e2; cases e2
          · rw [e] at e2; cases e2
        have hn : narrow (z_tyA ci s) (.int v) = .int v ∧ fits (z_tyA ci s) (.int v) = true := by
          rw [hty]
          exact ⟨z_narZ hbz, by rcases hbz with rfl | rfl <;> decide⟩
        exact z_putf (h' := z_poi h a s v) hCF rfl hd hcl hs hlink hfin hkd hn.1 hn.2 rfl rfl (fun q hq => ⟨rfl, rfl, z_uu_ne _ _ _ hq, rfl, rfl, rfl, rfl⟩) (fun j _ => z_fvI (by rw [e2]; decide)) rfl rfl (hc _ _ _ _ q4)
      · rename_i e2 e3
        obtain ⟨v, t, rfl, q2⟩ := z_piT q1
        obtain ⟨a, t, rfl, q3⟩ := z_prT q2
        obtain ⟨hkd, q4⟩ := q3
        have hty : z_tyA ci s = .int := by
          rcases f9 s hs with e | e | ⟨n, e⟩ | ⟨n, e⟩
          · exact e
          · exact absurd (by rw [e]; rfl) e3
          · exact absurd (by rw [e]; rfl) e2
          · exact absurd (by rw [e]; rfl) e2
        have hn : narrow (z_tyA ci s) (.int v) = .int v ∧ fits (z_tyA ci s) (.int v) = true := by
          rw [hty]
          exact ⟨rfl, rfl⟩
        exact z_putf (h' := z_poi h a s v) hCF rfl hd hcl hs hlink hfin hkd hn.1 hn.2 rfl rfl (fun q hq => ⟨rfl, rfl, z_uu_ne _ _ _ hq, rfl, rfl, rfl, rfl⟩) (fun j _ => z_fvI e2) rfl rfl (hc _ _ _ _ q4)
end HEAP3
