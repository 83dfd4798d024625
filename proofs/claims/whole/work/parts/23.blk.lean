section BLK
variable {G : z_G} {d : Nat} {μ : z_M} {r : z_Res} {pc : Nat} {lc lc' : List (Option Value)} {st : List Value} {h : z_H}
/-- what is no longer needed of the locals is forgotten -/
def z_msk : List Bool → List (Option Value) → List (Option Value)
  | b :: bs, x :: xs => cond b x none :: z_msk bs xs
  | _, xs => xs
theorem z_msk_len : ∀ (bs : List Bool) (xs : List (Option Value)), (z_msk bs xs).length = xs.length
  | [], xs => by cases xs <;> rfl
  | _ :: _, [] => rfl
  | b :: bs, x :: xs => by simp [z_msk, z_msk_len bs xs]
theorem z_msk_get : ∀ (bs : List Bool) (xs : List (Option Value)) (i : Nat) (v : Value), z_lg (z_msk bs xs) i = some v → z_lg xs i = some v
  | [], xs, i, v, h => by cases xs <;> exact h
  | _ :: _, [], i, v, h => h
  | b :: bs, x :: xs, 0, v, h => by
    cases b with
    | true => exact h
    | false => cases h
  | b :: bs, x :: xs, i + 1, v, h => z_msk_get bs xs i v h
theorem z_J_forget (hl : lc'.length = lc.length) (hg : ∀ i v, z_lg lc' i = some v → z_lg lc i = some v) (k : z_J G d μ r pc lc' st h) : z_J G d μ r pc lc st h :=
  ⟨k.1, fun p e R s m args below meth c X H locs cells slots mc ms ls hr hn => k.2 p e R s m args below meth c X H locs cells slots mc ms ls ⟨hr.1.trans hl.symm, hr.2.1, fun i v q => hr.2.2 i v (hg i v q)⟩ (hl.trans hn)⟩
/-- up to the next head, whose mask says what is kept -/
def z_wq (G : z_G) (μ : z_M) (E : z_E) (r : z_Res) (hd : Nat → Option (List Bool)) (J : z_K) : Nat → z_K
  | 0 => fun _ _ _ _ => False
  | k + 1 => fun pc lc st h => match hd pc with
    | some mk => J pc (z_msk mk lc) st h
    | none => z_ex G μ E r (z_wq G μ E r hd J k) pc lc st h
theorem z_wqS (hV : z_V G d μ) {hd : Nat → Option (List Bool)} : ∀ (k pc : Nat) (lc : List (Option Value)) (st : List Value) (h : z_H), z_wq G μ (z_Ev G d) r hd (z_J G (d + 1) μ r) k pc lc st h → z_J G (d + 1) μ r pc lc st h := by
  intro k
  induction k with
  | zero => intro pc lc st h hx; exact hx.elim
  | succ k ih =>
    intro pc lc st h hx
    unfold z_wq at hx
    split at hx
    · exact z_J_forget (z_msk_len _ _) (z_msk_get _ _) hx
    · exact z_step hV ih hx
theorem z_bq (hV : z_V G d μ) (hd : Nat → Option (List Bool)) (k : Nat) (hx : z_ex G μ (z_Ev G d) r (z_wq G μ (z_Ev G d) r hd (z_J G (d + 1) μ r) k) pc lc st h) : z_J G (d + 1) μ r pc lc st h :=
  z_step hV (z_wqS hV k) hx
end BLK
