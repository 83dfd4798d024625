/-! a helper: an object with its int fields, and the rows behind it -/
def z_pox (h : z_H) (a : Nat) (F : Nat → Int32) : z_H := (h.1, z_kd h, z_ln h, z_u (z_oi h) a F, z_or h, z_ai h, z_al h, z_ar h)
def z_hb (h : z_H) (x n : Nat) (F : Nat → Int32) (A : Nat → Nat → Int32) : z_H := z_bk (z_pox h x F) (x + 1) n A
section HB
variable (h : z_H) (x n : Nat) (F : Nat → Int32) (A : Nat → Nat → Int32)
theorem hb_kd : z_kd (z_hb h x n F A) = z_kd h := rfl
theorem hb_ln : z_ln (z_hb h x n F A) = z_ln h := rfl
theorem hb_or : z_or (z_hb h x n F A) = z_or h := rfl
theorem hb_al : z_al (z_hb h x n F A) = z_al h := rfl
theorem hb_ar : z_ar (z_hb h x n F A) = z_ar h := rfl
theorem hb_oi : z_oi (z_hb h x n F A) x = F := u_eq _ _ _
theorem hb_oi' {q : Nat} (hq : q ≠ x) : z_oi (z_hb h x n F A) q = z_oi h q := u_ne _ _ hq
theorem hb_ai {j : Nat} (hj : j < n) : z_ai (z_hb h x n F A) (x + 1 + j) = A j := bk_ai _ _ _ _ hj
theorem hb_out {a : Nat} (ha : a < x + 1 ∨ x + 1 + n ≤ a) : z_ai (z_hb h x n F A) a = z_ai h a := bk_out _ _ _ _ ha
theorem hb_poi (k : Nat) (v : Int32) : z_poi (z_hb h x n F A) x k v = z_hb h x n (z_u F k v) A := by
  have e : z_uu (z_u (z_oi h) x F) x k v = z_u (z_oi h) x (z_u F k v) := by
    unfold z_uu
    rw [u_eq, u_u]
  show (h.1, z_kd h, z_ln h, z_uu (z_u (z_oi h) x F) x k v, z_or h, z_ai (z_hb h x n F A), z_al h, z_ar h) = _
  rw [e]
  rfl
theorem hb_pai {j : Nat} (hj : j < n) (k : Nat) (v : Int32) : z_pai (z_hb h x n F A) (x + 1 + j) k v = z_hb h x n F (z_u A j (z_u (A j) k v)) := bk_pai _ _ _ _ hj k v
theorem hb_pax {j : Nat} (hj : j < n) (f : Nat → Int32) : z_pax (z_hb h x n F A) (x + 1 + j) f = z_hb h x n F (z_u A j f) := bk_pax _ _ _ _ hj f
end HB
theorem hb_self (h : z_H) (x n : Nat) : z_hb h x n (z_oi h x) (fun j => z_ai h (x + 1 + j)) = h := by
  have e : z_pox h x (z_oi h x) = h := by
    unfold z_pox
    rw [u_self]
    rfl
  unfold z_hb
  rw [e]
  exact bk_id h (x + 1) n
theorem hb_sc {h : z_H} {x n q b : Nat} {F : Nat → Int32} {A : Nat → Nat → Int32} {S : Sc} (hA : sc_at q b h S) (hx : x ≠ q) (hr : x + n < b ∨ b + 8 ≤ x + 1) : sc_at q b (z_hb h x n F A) S := sc_at_of hA (fun _ _ => ⟨rfl, rfl⟩) (u_ne _ _ (fun e => hx e.symm)) (fun _ _ => rfl) (fun j hj _ _ => bk_out _ _ _ _ (by omega))
theorem hb_hb (h : z_H) (x n : Nat) (F F' : Nat → Int32) (A A' : Nat → Nat → Int32) : z_hb (z_hb h x n F A) x n F' A' = z_hb h x n F' A' := by
  have e1 : z_u (z_u (z_oi h) x F) x F' = z_u (z_oi h) x F' := u_u _ _ _ _
  have e2 : (fun a => if x + 1 ≤ a ∧ a < x + 1 + n then A' (a - (x + 1)) else z_ai (z_hb h x n F A) a) = (fun a => if x + 1 ≤ a ∧ a < x + 1 + n then A' (a - (x + 1)) else z_ai h a) := by
    funext a
    by_cases c : x + 1 ≤ a ∧ a < x + 1 + n
    · rw [if_pos c, if_pos c]
    · rw [if_neg c, if_neg c, hb_out h x n F A (by omega)]
  show (h.1, z_kd h, z_ln h, z_u (z_u (z_oi h) x F) x F', z_or h, (fun a => if x + 1 ≤ a ∧ a < x + 1 + n then A' (a - (x + 1)) else z_ai (z_hb h x n F A) a), z_al h, z_ar h) = _
  rw [e1, e2]
  rfl
theorem xt_hb {X : Nat → Prop} {h : z_H} {x n : Nat} {F : Nat → Int32} {A : Nat → Nat → Int32} (hX : ∀ a, x ≤ a → a ≤ x + n → X a) : xt X h (z_hb h x n F A) := ⟨Nat.le_refl _, fun a _ => ⟨rfl, rfl, fun hx => ⟨u_ne _ _ (fun e => hx (hX a (by omega) (by omega))), rfl, bk_out _ _ _ _ (by
  apply Classical.byContradiction
  intro c
  exact hx (hX a (by omega) (by omega))), rfl, rfl⟩⟩, fun _ _ e => e⟩
