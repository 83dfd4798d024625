section HEAP2
variable {G : z_G} {d : Nat} {μ : z_M} {r : z_Res} {pc pc' len : Nat} {lc : List (Option Value)} {st st' : List Value} {h h' : z_H} {c : z_K} {i : Instr}
theorem z_at1 {H : Heap} {a : Nat} (hR : z_R G h H) (hk : z_kd h a = 1) : va_P (z_D G) vwCl [(a, .inl (z_cid G 1, z_ln h a, .inl (z_ai h a)))] H := z_one ((hR.2 a (by omega)).2.2.1 hk)
theorem z_at2 {H : Heap} {a : Nat} (hR : z_R G h H) (hk : z_kd h a = 2) : va_P (z_D G) vwCl [(a, .inl (z_cid G 2, z_ln h a, .inr (.inl (z_al h a))))] H := z_one ((hR.2 a (by omega)).2.2.2.1 hk)
theorem z_at3 {H : Heap} {a : Nat} (hR : z_R G h H) (hk : z_kd h a = 3) : va_P (z_D G) vwCl [(a, .inl (z_cid G 3, z_ln h a, .inl (z_ai h a)))] H := z_one ((hR.2 a (by omega)).2.2.2.2.1 hk)
theorem z_at4 {H : Heap} {a : Nat} (hR : z_R G h H) (hk : z_kd h a = 4) : va_P (z_D G) vwCl [(a, .inl (z_cid G 4, z_ln h a, .inl (z_ai h a)))] H := z_one ((hR.2 a (by omega)).2.2.2.2.2.1 hk)
theorem z_at5 {H : Heap} {a : Nat} (hR : z_R G h H) (hk : z_kd h a = 5) : va_P (z_D G) vwCl [(a, .inl (z_cid G 5, z_ln h a, .inr (.inr (.inr (.inr (z_ar h a))))))] H := z_one ((hR.2 a (by omega)).2.2.2.2.2.2.1 hk)
theorem z_at6 {H : Heap} {a : Nat} (hR : z_R G h H) (hk : z_kd h a = 6) : va_P (z_D G) vwCl [(a, .inl (z_cid G 6, z_ln h a, .inr (.inr (.inr (.inr (z_ar h a))))))] H := z_one ((hR.2 a (by omega)).2.2.2.2.2.2.2.1 hk)
/-- an array's cell, newly said -/
theorem z_ok_i {H : Heap} {a t : Nat} (ht : t = 1 ∨ t = 3 ∨ t = 4) (hk : z_kd h a = t) (hc : H[a]? = some (vp_cell (z_cid G t) (z_ln h a, .inl (z_ai h a)))) : z_ok G h H a := by
  refine ⟨?_, ?_, ?_, ?_, ?_, ?_, ?_⟩ <;> intro q
  · have : t = 1 := by omega
    subst this; exact hc
  · omega
  · have : t = 3 := by omega
    subst this; exact hc
  · have : t = 4 := by omega
    subst this; exact hc
  · omega
  · omega
  · intro z; omega
theorem z_ok_l {H : Heap} {a : Nat} (hk : z_kd h a = 2) (hc : H[a]? = some (vp_cell (z_cid G 2) (z_ln h a, .inr (.inl (z_al h a))))) : z_ok G h H a := by
  refine ⟨?_, ?_, ?_, ?_, ?_, ?_, ?_⟩ <;> intro q
  · omega
  · exact hc
  · omega
  · omega
  · omega
  · omega
  · intro z; omega
theorem z_ok_r {H : Heap} {a t : Nat} (ht : t = 5 ∨ t = 6) (hk : z_kd h a = t) (hc : H[a]? = some (vp_cell (z_cid G t) (z_ln h a, .inr (.inr (.inr (.inr (z_ar h a))))))) : z_ok G h H a := by
  refine ⟨?_, ?_, ?_, ?_, ?_, ?_, ?_⟩ <;> intro q
  · omega
  · omega
  · omega
  · omega
  · have : t = 5 := by omega
    subst this; exact hc
  · have : t = 6 := by omega
    subst this; exact hc
  · intro z; omega
/-- one int of a row of ints is written -/
theorem z_pai_R {H H' : Heap} {a j t : Nat} {v : Int32} (ht : t = 1 ∨ t = 3 ∨ t = 4) (hR : z_R G h H) (hk : z_kd h a = t) (e : H'[a]? = some ((vp_cell (z_cid G t) (z_ln h a, .inl (z_ai h a))).setSlot j (.int v))) (hz : H'.size = H.size) (ho : ∀ q : Nat, q ≠ a → H'[q]? = H[q]?) : z_R G (z_pai h a j v) H' := by
  refine z_R_upd hR rfl rfl (fun q hq => ⟨rfl, rfl, rfl, rfl, z_uu_ne _ _ _ hq, rfl, rfl⟩) hz ho (z_ok_i ht hk ?_)
  rw [e, vp_cell_i, arrV_store, vp_cell_i]
  show some (arrV _ (z_ln h a) _) = some (arrV _ (z_ln h a) fun j_1 => Value.int (z_uu (z_ai h) a j v a j_1))
  rw [z_uu_eq]
  congr 2
  funext q
  by_cases hq : q = j
  · subst hq; simp [updV, z_u]
  · simp [updV, z_u, hq]
theorem z_pal_R {H H' : Heap} {a j : Nat} {v : Int64} (hR : z_R G h H) (hk : z_kd h a = 2) (e : H'[a]? = some ((vp_cell (z_cid G 2) (z_ln h a, .inr (.inl (z_al h a)))).setSlot j (.long v))) (hz : H'.size = H.size) (ho : ∀ q : Nat, q ≠ a → H'[q]? = H[q]?) : z_R G (z_pal h a j v) H' := by
  refine z_R_upd hR rfl rfl (fun q hq => ⟨rfl, rfl, rfl, rfl, rfl, z_uu_ne _ _ _ hq, rfl⟩) hz ho (z_ok_l hk ?_)
  rw [e, vp_cell_l, arrV_store, vp_cell_l]
  show some (arrV _ (z_ln h a) _) = some (arrV _ (z_ln h a) fun j_1 => Value.long (z_uu (z_al h) a j v a j_1))
  rw [z_uu_eq]
  congr 2
  funext q
  by_cases hq : q = j
  · subst hq; simp [updV, z_u]
  · simp [updV, z_u, hq]
theorem z_par_R {H H' : Heap} {a j t : Nat} {v : Option Nat} (ht : t = 5 ∨ t = 6) (hR : z_R G h H) (hk : z_kd h a = t) (e : H'[a]? = some ((vp_cell (z_cid G t) (z_ln h a, .inr (.inr (.inr (.inr (z_ar h a)))))).setSlot j (va_rf v))) (hz : H'.size = H.size) (ho : ∀ q : Nat, q ≠ a → H'[q]? = H[q]?) : z_R G (z_par h a j v) H' := by
  refine z_R_upd hR rfl rfl (fun q hq => ⟨rfl, rfl, rfl, rfl, rfl, rfl, z_uu_ne _ _ _ hq⟩) hz ho (z_ok_r ht hk ?_)
  rw [e, vp_cell_q, arrV_store, vp_cell_q]
  show some (arrV _ (z_ln h a) _) = some (arrV _ (z_ln h a) fun j_1 => va_rf (z_uu (z_ar h) a j v a j_1))
  rw [z_uu_eq]
  congr 2
  funext q
  by_cases hq : q = j
  · subst hq; simp [updV, z_u]
  · simp [updV, z_u, hq]
theorem z_nwi_R {H H' : Heap} {t n : Nat} {f : Nat → Int32} (ht : t = 1 ∨ t = 3 ∨ t = 4) (hR : z_R G h H) (hB : z_B G ≤ H.size) (e : H'[H.size]? = some (vp_cell (z_cid G t) (n, .inl f))) (hz : H'.size = H.size + 1) (ho : ∀ q : Nat, q < H.size → H'[q]? = H[q]?) : z_R G (z_nwi h t n f) H' := by
  refine z_R_new hR hB rfl (fun q hq => ⟨z_u_ne _ _ hq, z_u_ne _ _ hq, rfl, rfl, z_u_ne _ _ hq, rfl, rfl⟩) hz ho (z_ok_i ht (z_u_eq _ _ _) ?_)
  rw [← hR.1, e]
  show _ = some (vp_cell _ (z_u (z_ln h) (z_n h) n H.size, .inl (z_u (z_ai h) (z_n h) f H.size)))
  rw [hR.1, z_u_eq, z_u_eq]
theorem z_nwl_R {H H' : Heap} {n : Nat} (hR : z_R G h H) (hB : z_B G ≤ H.size) (e : H'[H.size]? = some (vp_cell (z_cid G 2) (n, .inr (.inl fun _ => 0)))) (hz : H'.size = H.size + 1) (ho : ∀ q : Nat, q < H.size → H'[q]? = H[q]?) : z_R G (z_nwl h n) H' := by
  refine z_R_new hR hB rfl (fun q hq => ⟨z_u_ne _ _ hq, z_u_ne _ _ hq, rfl, rfl, rfl, z_u_ne _ _ hq, rfl⟩) hz ho (z_ok_l (z_u_eq _ _ _) ?_)
  rw [← hR.1, e]
  show _ = some (vp_cell _ (z_u (z_ln h) (z_n h) n H.size, .inr (.inl (z_u (z_al h) (z_n h) (fun _ => 0) H.size))))
  rw [hR.1, z_u_eq, z_u_eq]
theorem z_nwr_R {H H' : Heap} {t n : Nat} (ht : t = 5 ∨ t = 6) (hR : z_R G h H) (hB : z_B G ≤ H.size) (e : H'[H.size]? = some (vp_cell (z_cid G t) (n, .inr (.inr (.inr (.inr fun _ => none)))))) (hz : H'.size = H.size + 1) (ho : ∀ q : Nat, q < H.size → H'[q]? = H[q]?) : z_R G (z_nwr h t n) H' := by
  refine z_R_new hR hB rfl (fun q hq => ⟨z_u_ne _ _ hq, z_u_ne _ _ hq, rfl, rfl, rfl, rfl, z_u_ne _ _ hq⟩) hz ho (z_ok_r ht (z_u_eq _ _ _) ?_)
  rw [← hR.1, e]
  show _ = some (vp_cell _ (z_u (z_ln h) (z_n h) n H.size, .inr (.inr (.inr (.inr (z_u (z_ar h) (z_n h) (fun _ => none) H.size))))))
  rw [hR.1, z_u_eq, z_u_eq]
theorem z_nwo_R {H H' : Heap} {ci : Nat} {rr : vw_C} (hc : vwCl[ci]? = some rr) (hN : rr.2.2 = z_nf ci) (hR : z_R G h H) (hB : z_B G ≤ H.size) (e : t_OB H.size ((z_D G).1 ci) rr.2.2 ((z_D G).2 ci) H' (fun k => match z_ki (z_tyA ci k) with
  | 2 => .null
  | _ => .int 0)) (hz : H'.size = H.size + 1) (ho : ∀ q : Nat, q < H.size → H'[q]? = H[q]?) : z_R G (z_nwo h ci (z_nf ci)) H' := by
  have hk : z_kd (z_nwo h ci (z_nf ci)) (z_n h) = 16 + ci := z_u_eq _ _ _
  refine z_R_new hR hB rfl (fun q hq => ⟨z_u_ne _ _ hq, rfl, z_u_ne _ _ hq, z_u_ne _ _ hq, rfl, rfl, rfl⟩) hz ho ⟨?_, ?_, ?_, ?_, ?_, ?_, ?_⟩
  · intro q; omega
  · intro q; omega
  · intro q; omega
  · intro q; omega
  · intro q; omega
  · intro q; omega
  · intro cj hcj
    have : cj = ci := by omega
    subst this
    refine ⟨rr, hc, ?_⟩
    rw [← hR.1]
    refine e.to (fun k hk => ?_)
    have e1 : z_or (z_nwo h cj (z_nf cj)) H.size = fun _ => none := by
      show z_u (z_or h) (z_n h) (fun _ => none) H.size = _
      rw [hR.1, z_u_eq]
    have e2 : z_oi (z_nwo h cj (z_nf cj)) H.size = fun _ => 0 := by
      show z_u (z_oi h) (z_n h) (fun _ => 0) H.size = _
      rw [hR.1, z_u_eq]
    unfold z_fv
    rw [e1, e2]
    rfl
theorem z_grow {H H' : Heap} {s0 : State} {locs : List Loc} (hS : va_S (z_A G) s0.heap H locs) (hz : H'.size = H.size + 1) (ho : ∀ q : Nat, q < H.size → H'[q]? = H[q]?) : va_S (z_A G) s0.heap H' locs :=
  ⟨Nat.le_trans hS.1 (by omega), fun q h1 h2 => (ho q (Nat.lt_of_lt_of_le h1 hS.1)).trans (hS.2.1 q h1 h2), hS.2.2⟩
theorem z_cidEq {U : State} (hK : va_K (z_D G) vwCl (z_tys G) U) : U.vm.findClass ("[" ++ FieldType.int.toString) = some (z_cid G 1) ∧ U.vm.findClass ("[" ++ FieldType.long.toString) = some (z_cid G 2) ∧ U.vm.findClass ("[" ++ FieldType.byte.toString) = some (z_cid G 3) ∧ U.vm.findClass ("[" ++ FieldType.boolean.toString) = some (z_cid G 4) ∧ U.vm.findClass ("[" ++ (FieldType.object RX1).toString) = some (z_cid G 5) ∧ U.vm.findClass ("[" ++ (FieldType.array .int).toString) = some (z_cid G 6) := by
  refine ⟨(hK.2 0 _ rfl).2, (hK.2 1 _ rfl).2, (hK.2 2 _ rfl).2, (hK.2 3 _ rfl).2, ?_, (hK.2 5 _ rfl).2⟩
  obtain ⟨kA, comp, h1, h2, h3, h4⟩ := (hK.2 4 _ rfl).2
  exact h4
end HEAP2
