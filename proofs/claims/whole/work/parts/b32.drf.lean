/-! MATHEMATICS: square and plane against the reference -/
section B32
variable {S : Sc}
theorem sq_ref (hS : c_sok S) {i p : Nat} (hi : i < 3) (hp : p < S.1) (W P : Nat → Int32) : d_sqv S i (p + 1) = if (c_dwA S (bil i) (d_pl i) true W P).1 = 0 then mI else (c_dwA S (bil i) (d_pl i) true W P).2.1 p := by
  have hd := sq_head hS hi (fun _ => 0)
  have hr := dwA_list (S := S) (il := bil i) (pm := d_pl i) (pl16 i (by omega)) true W P (fun _ => 0)
  have hg := gs_list (TL := d_TL (wpS S)) (LI := d_LI i) (T := g_twT (wpS S)) (tf := 0) (n := S.1) (pl := d_pl i) (R0 := d_sqR i) false S.1 0 (fun _ => 0) none (by omega)
  unfold d_sqv
  rw [if_neg (by omega)]
  unfold d_sq
  rw [hg, hr.1, hr.2 p hp, if_pos rfl]
  show fdv S.1 ((none : Option (Nat → Nat)).or _) (p + 1) = _
  rw [Option.none_or, hd]
  unfold hdv fdv
  rw [if_pos rfl]
  cases e : rlq S (bil i) (d_pl i) 0 (fun _ => 0) with
  | nil => rfl
  | cons M L =>
    rw [if_neg (show ¬ (min 1 (M :: L).length = 0) by rw [List.length_cons]; omega)]
    show (if 1 ≤ p + 1 ∧ p + 1 ≤ S.1 then nI (M (p + 1 - 1)) else mI) = nI (M p)
    rw [if_pos ⟨by omega, by omega⟩]
    rfl
theorem pn_ref (hS : c_sok S) {i p : Nat} (h5 : i < 5) (h3 : 3 ≤ i) (hp : p < S.1) (W P : Nat → Int32) : d_pnv S i (p + 1) = if (c_dwA S (bil i) (d_pl i) true W P).1 = 0 then mI else (c_dwA S (bil i) (d_pl i) true W P).2.1 p := by
  have hd := pn_head hS h5 h3 (fun _ => 0)
  have hr := dwA_list (S := S) (il := bil i) (pm := d_pl i) (pl16 i h5) true W P (fun _ => 0)
  have hg := gs_list (TL := d_TL (wpS S)) (LI := d_LI i) (T := g_twT (wpS S)) (tf := 2) (n := S.1) (pl := d_pl i) (R0 := d_plR i) true S.1 0 (fun _ => 0) none (by omega)
  unfold d_pnv
  rw [if_neg (by omega)]
  unfold d_pn
  rw [hg, hr.1, hr.2 p hp, if_pos rfl]
  show fdv S.1 ((none : Option (Nat → Nat)).or _) (p + 1) = _
  rw [Option.none_or, hd]
  unfold hdv fdv
  rw [if_pos rfl]
  cases e : rlq S (bil i) (d_pl i) 0 (fun _ => 0) with
  | nil => rfl
  | cons M L =>
    rw [if_neg (show ¬ (min 1 (M :: L).length = 0) by rw [List.length_cons]; omega)]
    show (if 1 ≤ p + 1 ∧ p + 1 ≤ S.1 then nI (M (p + 1 - 1)) else mI) = nI (M p)
    rw [if_pos ⟨by omega, by omega⟩]
    rfl
theorem pn_ref0 (hS : c_sok S) {i : Nat} (h5 : i < 5) (h3 : 3 ≤ i) (W P : Nat → Int32) : d_pnv S i 0 = nI (c_dwA S (bil i) (d_pl i) false W P).1 := by
  have hr := dwA_list (S := S) (il := bil i) (pm := d_pl i) (pl16 i h5) false W P (fun _ => 0)
  have hg := gs_list (TL := d_TL (wpS S)) (LI := d_LI i) (T := g_twT (wpS S)) (tf := 2) (n := S.1) (pl := d_pl i) (R0 := d_plR i) true S.1 0 (fun _ => 0) none (by omega)
  unfold d_pnv
  rw [if_pos rfl]
  unfold d_pn
  obtain ⟨r1, _⟩ := hr
  rw [if_neg (show ¬ (false = true) by decide)] at r1
  rw [if_pos rfl] at hg
  rw [hg, r1]
  show nI (_ * _) = _
  rw [pn_len hS h5 h3 (fun _ => 0)]
end B32
