/-! THE REFERENCE'S STATE: its object at M, its rows at M+1 .. M+25; F: its numbers by slot, A: its rows by place -/
def z_rs (h : z_H) (M : Nat) (F : Nat → Int32) (A : Nat → Nat → Int32) : z_H := (h.1, z_kd h, z_ln h, z_u (z_oi h) M F, z_or h, (fun q => if M < q ∧ q ≤ M + 25 then A (q - M) else z_ai h q), z_al h, z_ar h)
/-- where things lie -/
def z_sh (M : Nat) (h : z_H) : Prop := z_kd h M = 28 ∧ (z_or h M 1 = some (M + 1) ∧ z_kd h (M + 1) = 1 ∧ z_ln h (M + 1) = 154) ∧ (z_or h M 2 = some (M + 2) ∧ z_kd h (M + 2) = 1 ∧ z_ln h (M + 2) = 30) ∧ (z_or h M 3 = some (M + 3) ∧ z_kd h (M + 3) = 1 ∧ z_ln h (M + 3) = 2) ∧ (z_or h M 4 = some (M + 4) ∧ z_kd h (M + 4) = 1 ∧ z_ln h (M + 4) = 400) ∧ (z_or h M 16 = some (M + 5) ∧ z_kd h (M + 5) = 1 ∧ z_ln h (M + 5) = 8) ∧ (z_or h M 17 = some (M + 6) ∧ z_kd h (M + 6) = 1 ∧ z_ln h (M + 6) = 256) ∧ (z_or h M 18 = some (M + 7) ∧ z_kd h (M + 7) = 1 ∧ z_ln h (M + 7) = 8) ∧ (z_or h M 19 = some (M + 8) ∧ z_kd h (M + 8) = 1 ∧ z_ln h (M + 8) = 8) ∧ (z_or h M 20 = some (M + 9) ∧ z_kd h (M + 9) = 1 ∧ z_ln h (M + 9) = 8) ∧ (z_or h M 21 = some (M + 10) ∧ z_kd h (M + 10) = 1 ∧ z_ln h (M + 10) = 12) ∧ (z_or h M 22 = some (M + 11) ∧ z_kd h (M + 11) = 1 ∧ z_ln h (M + 11) = 12) ∧ (z_or h M 23 = some (M + 12) ∧ z_kd h (M + 12) = 1 ∧ z_ln h (M + 12) = 8) ∧ (z_or h M 26 = some (M + 13) ∧ z_kd h (M + 13) = 1 ∧ z_ln h (M + 13) = 6160) ∧ (z_or h M 30 = some (M + 14) ∧ z_kd h (M + 14) = 1 ∧ z_ln h (M + 14) = 14000) ∧ (z_or h M 31 = some (M + 15) ∧ z_kd h (M + 15) = 1 ∧ z_ln h (M + 15) = 7) ∧ (z_or h M 32 = some (M + 16) ∧ z_kd h (M + 16) = 1 ∧ z_ln h (M + 16) = 8) ∧ (z_or h M 33 = some (M + 17) ∧ z_kd h (M + 17) = 1 ∧ z_ln h (M + 17) = 8) ∧ (z_or h M 34 = some (M + 18) ∧ z_kd h (M + 18) = 1 ∧ z_ln h (M + 18) = 16) ∧ (z_or h M 35 = some (M + 19) ∧ z_kd h (M + 19) = 1 ∧ z_ln h (M + 19) = 16) ∧ (z_or h M 36 = some (M + 20) ∧ z_kd h (M + 20) = 1 ∧ z_ln h (M + 20) = 16) ∧ (z_or h M 44 = some (M + 21) ∧ z_kd h (M + 21) = 1 ∧ z_ln h (M + 21) = 65536) ∧ (z_or h M 46 = some (M + 22) ∧ z_kd h (M + 22) = 1 ∧ z_ln h (M + 22) = 154) ∧ (z_or h M 49 = some (M + 23) ∧ z_kd h (M + 23) = 1 ∧ z_ln h (M + 23) = 154) ∧ (z_or h M 50 = some (M + 24) ∧ z_kd h (M + 24) = 1 ∧ z_ln h (M + 24) = 6160) ∧ (z_or h M 51 = some (M + 25) ∧ z_kd h (M + 25) = 1 ∧ z_ln h (M + 25) = 2)
theorem sh_kd {M : Nat} {h : z_H} (hM : z_sh M h) : z_kd h M = 28 := hM.1
theorem sh_now {M : Nat} {h : z_H} (hM : z_sh M h) : z_or h M 1 = some (M + 1) ∧ z_kd h (M + 1) = 1 ∧ z_ln h (M + 1) = 154 := hM.2.1
theorem sh_read {M : Nat} {h : z_H} (hM : z_sh M h) : z_or h M 2 = some (M + 2) ∧ z_kd h (M + 2) = 1 ∧ z_ln h (M + 2) = 30 := hM.2.2.1
theorem sh_status {M : Nat} {h : z_H} (hM : z_sh M h) : z_or h M 3 = some (M + 3) ∧ z_kd h (M + 3) = 1 ∧ z_ln h (M + 3) = 2 := hM.2.2.2.1
theorem sh_tape {M : Nat} {h : z_H} (hM : z_sh M h) : z_or h M 4 = some (M + 4) ∧ z_kd h (M + 4) = 1 ∧ z_ln h (M + 4) = 400 := hM.2.2.2.2.1
theorem sh_naming {M : Nat} {h : z_H} (hM : z_sh M h) : z_or h M 16 = some (M + 5) ∧ z_kd h (M + 5) = 1 ∧ z_ln h (M + 5) = 8 := hM.2.2.2.2.2.1
theorem sh_lineBy {M : Nat} {h : z_H} (hM : z_sh M h) : z_or h M 17 = some (M + 6) ∧ z_kd h (M + 6) = 1 ∧ z_ln h (M + 6) = 256 := hM.2.2.2.2.2.2.1
theorem sh_becomes {M : Nat} {h : z_H} (hM : z_sh M h) : z_or h M 18 = some (M + 7) ∧ z_kd h (M + 7) = 1 ∧ z_ln h (M + 7) = 8 := hM.2.2.2.2.2.2.2.1
theorem sh_dualLines {M : Nat} {h : z_H} (hM : z_sh M h) : z_or h M 19 = some (M + 8) ∧ z_kd h (M + 8) = 1 ∧ z_ln h (M + 8) = 8 := hM.2.2.2.2.2.2.2.2.1
theorem sh_on {M : Nat} {h : z_H} (hM : z_sh M h) : z_or h M 20 = some (M + 9) ∧ z_kd h (M + 9) = 1 ∧ z_ln h (M + 9) = 8 := hM.2.2.2.2.2.2.2.2.2.1
theorem sh_rowNow {M : Nat} {h : z_H} (hM : z_sh M h) : z_or h M 21 = some (M + 10) ∧ z_kd h (M + 10) = 1 ∧ z_ln h (M + 10) = 12 := hM.2.2.2.2.2.2.2.2.2.2.1
theorem sh_least {M : Nat} {h : z_H} (hM : z_sh M h) : z_or h M 22 = some (M + 11) ∧ z_kd h (M + 11) = 1 ∧ z_ln h (M + 11) = 12 := hM.2.2.2.2.2.2.2.2.2.2.2.1
theorem sh_wayFirst {M : Nat} {h : z_H} (hM : z_sh M h) : z_or h M 23 = some (M + 12) ∧ z_kd h (M + 12) = 1 ∧ z_ln h (M + 12) = 8 := hM.2.2.2.2.2.2.2.2.2.2.2.2.1
theorem sh_past {M : Nat} {h : z_H} (hM : z_sh M h) : z_or h M 26 = some (M + 13) ∧ z_kd h (M + 13) = 1 ∧ z_ln h (M + 13) = 6160 := hM.2.2.2.2.2.2.2.2.2.2.2.2.2.1
theorem sh_list {M : Nat} {h : z_H} (hM : z_sh M h) : z_or h M 30 = some (M + 14) ∧ z_kd h (M + 14) = 1 ∧ z_ln h (M + 14) = 14000 := hM.2.2.2.2.2.2.2.2.2.2.2.2.2.2.1
theorem sh_path {M : Nat} {h : z_H} (hM : z_sh M h) : z_or h M 31 = some (M + 15) ∧ z_kd h (M + 15) = 1 ∧ z_ln h (M + 15) = 7 := hM.2.2.2.2.2.2.2.2.2.2.2.2.2.2.2.1
theorem sh_places {M : Nat} {h : z_H} (hM : z_sh M h) : z_or h M 32 = some (M + 16) ∧ z_kd h (M + 16) = 1 ∧ z_ln h (M + 16) = 8 := hM.2.2.2.2.2.2.2.2.2.2.2.2.2.2.2.2.1
theorem sh_firstPlaces {M : Nat} {h : z_H} (hM : z_sh M h) : z_or h M 33 = some (M + 17) ∧ z_kd h (M + 17) = 1 ∧ z_ln h (M + 17) = 8 := hM.2.2.2.2.2.2.2.2.2.2.2.2.2.2.2.2.2.1
theorem sh_px {M : Nat} {h : z_H} (hM : z_sh M h) : z_or h M 34 = some (M + 18) ∧ z_kd h (M + 18) = 1 ∧ z_ln h (M + 18) = 16 := hM.2.2.2.2.2.2.2.2.2.2.2.2.2.2.2.2.2.2.1
theorem sh_py {M : Nat} {h : z_H} (hM : z_sh M h) : z_or h M 35 = some (M + 19) ∧ z_kd h (M + 19) = 1 ∧ z_ln h (M + 19) = 16 := hM.2.2.2.2.2.2.2.2.2.2.2.2.2.2.2.2.2.2.2.1
theorem sh_pz {M : Nat} {h : z_H} (hM : z_sh M h) : z_or h M 36 = some (M + 20) ∧ z_kd h (M + 20) = 1 ∧ z_ln h (M + 20) = 16 := hM.2.2.2.2.2.2.2.2.2.2.2.2.2.2.2.2.2.2.2.2.1
theorem sh_comesTo {M : Nat} {h : z_H} (hM : z_sh M h) : z_or h M 44 = some (M + 21) ∧ z_kd h (M + 21) = 1 ∧ z_ln h (M + 21) = 65536 := hM.2.2.2.2.2.2.2.2.2.2.2.2.2.2.2.2.2.2.2.2.2.1
theorem sh_rowThen {M : Nat} {h : z_H} (hM : z_sh M h) : z_or h M 46 = some (M + 22) ∧ z_kd h (M + 22) = 1 ∧ z_ln h (M + 22) = 154 := hM.2.2.2.2.2.2.2.2.2.2.2.2.2.2.2.2.2.2.2.2.2.2.1
theorem sh_imageRow {M : Nat} {h : z_H} (hM : z_sh M h) : z_or h M 49 = some (M + 23) ∧ z_kd h (M + 23) = 1 ∧ z_ln h (M + 23) = 154 := hM.2.2.2.2.2.2.2.2.2.2.2.2.2.2.2.2.2.2.2.2.2.2.2.1
theorem sh_pastThen {M : Nat} {h : z_H} (hM : z_sh M h) : z_or h M 50 = some (M + 24) ∧ z_kd h (M + 24) = 1 ∧ z_ln h (M + 24) = 6160 := hM.2.2.2.2.2.2.2.2.2.2.2.2.2.2.2.2.2.2.2.2.2.2.2.2.1
theorem sh_statusThen {M : Nat} {h : z_H} (hM : z_sh M h) : z_or h M 51 = some (M + 25) ∧ z_kd h (M + 25) = 1 ∧ z_ln h (M + 25) = 2 := hM.2.2.2.2.2.2.2.2.2.2.2.2.2.2.2.2.2.2.2.2.2.2.2.2.2
theorem rs_sh {M : Nat} {h : z_H} {F : Nat → Int32} {A : Nat → Nat → Int32} (hM : z_sh M h) : z_sh M (z_rs h M F A) := hM
section RS
variable (h : z_H) (M : Nat) (F : Nat → Int32) (A : Nat → Nat → Int32)
theorem rs_kd : z_kd (z_rs h M F A) = z_kd h := rfl
theorem rs_ln : z_ln (z_rs h M F A) = z_ln h := rfl
theorem rs_or : z_or (z_rs h M F A) = z_or h := rfl
theorem rs_al : z_al (z_rs h M F A) = z_al h := rfl
theorem rs_ar : z_ar (z_rs h M F A) = z_ar h := rfl
theorem rs_n : z_n (z_rs h M F A) = z_n h := rfl
theorem rs_c : z_c (z_rs h M F A) = z_c h := rfl
theorem rs_s : z_s (z_rs h M F A) = z_s h := rfl
theorem rs_oi : z_oi (z_rs h M F A) M = F := z_u_eq _ _ _
theorem rs_ai {j : Nat} (h0 : 0 < j) (h1 : j ≤ 25) : z_ai (z_rs h M F A) (M + j) = A j := by
  show (if M < M + j ∧ M + j ≤ M + 25 then A (M + j - M) else z_ai h (M + j)) = A j
  rw [if_pos ⟨by omega, by omega⟩, Nat.add_sub_cancel_left]
theorem z_u_u {α : Type} (f : Nat → α) (a : Nat) (v w : α) : z_u (z_u f a v) a w = z_u f a w := by
  funext x; unfold z_u; split <;> rfl
theorem rs_poi (s : Nat) (v : Int32) : z_poi (z_rs h M F A) M s v = z_rs h M (z_u F s v) A := by
  unfold z_poi z_rs
  show (_, _, _, z_uu (z_u (z_oi h) M F) M s v, _) = _
  unfold z_uu
  rw [z_u_u, z_u_eq]
  rfl
theorem rs_pax {j : Nat} (h0 : 0 < j) (h1 : j ≤ 25) (f : Nat → Int32) : z_pax (z_rs h M F A) (M + j) f = z_rs h M F (z_u A j f) := by
  have e : z_u (fun q => if M < q ∧ q ≤ M + 25 then A (q - M) else z_ai h q) (M + j) f = (fun q => if M < q ∧ q ≤ M + 25 then z_u A j f (q - M) else z_ai h q) := by
    funext q
    unfold z_u
    by_cases hq : q = M + j
    · subst hq
      rw [if_pos rfl, if_pos ⟨by omega, by omega⟩, if_pos (by omega)]
    · rw [if_neg hq]
      show (if M < q ∧ q ≤ M + 25 then A (q - M) else z_ai h q) = _
      split
      · rw [if_neg (by omega)]
      · rfl
  show (h.1, z_kd h, z_ln h, z_u (z_oi h) M F, z_or h, z_u (fun q => if M < q ∧ q ≤ M + 25 then A (q - M) else z_ai h q) (M + j) f, z_al h, z_ar h) = _
  rw [e]
  rfl
theorem rs_pai {j : Nat} (h0 : 0 < j) (h1 : j ≤ 25) (k : Nat) (v : Int32) : z_pai (z_rs h M F A) (M + j) k v = z_rs h M F (z_u A j (z_u (A j) k v)) := by
  have e : z_pai (z_rs h M F A) (M + j) k v = z_pax (z_rs h M F A) (M + j) (z_u (z_ai (z_rs h M F A) (M + j)) k v) := rfl
  rw [e, rs_pax h M F A h0 h1, rs_ai h M F A h0 h1]
/-- every heap that is laid so is one -/
theorem rs_self : z_rs h M (z_oi h M) (fun j => z_ai h (M + j)) = h := by
  unfold z_rs
  have e1 : z_u (z_oi h) M (z_oi h M) = z_oi h := by
    funext x; unfold z_u; split
    · rename_i e; rw [e]
    · rfl
  have e2 : (fun q => if M < q ∧ q ≤ M + 25 then z_ai h (M + (q - M)) else z_ai h q) = z_ai h := by
    funext q; split
    · rw [show M + (q - M) = q by omega]
    · rfl
  rw [e1, e2]
  rfl
end RS
