/-! THE LAW: one call of both -/
theorem lg_self (x : Int64) : lg_cmp x x = nI 0 := by
  unfold lg_cmp
  simp
  try rfl
section C20
variable {G : z_G} {d L M r r1 c s : Nat} {h h1 : z_H} {F F' : Nat → Int32} {A A' : Nat → Nat → Int32} {σ σ' : RSt}
theorem sh_k1 (hM : z_sh M h) : ∀ j, 0 < j → j ≤ 25 → z_kd h (M + j) = 1 := by
  obtain ⟨k0, c1, c2, c3, c4, c5, c6, c7, c8, c9, c10, c11, c12, c13, c14, c15, c16, c17, c18, c19, c20, c21, c22, c23, c24, c25⟩ := hM
  intro j h0 h25
  match j, h0, h25 with
  | 1, _, _ => exact c1.2.1
  | 2, _, _ => exact c2.2.1
  | 3, _, _ => exact c3.2.1
  | 4, _, _ => exact c4.2.1
  | 5, _, _ => exact c5.2.1
  | 6, _, _ => exact c6.2.1
  | 7, _, _ => exact c7.2.1
  | 8, _, _ => exact c8.2.1
  | 9, _, _ => exact c9.2.1
  | 10, _, _ => exact c10.2.1
  | 11, _, _ => exact c11.2.1
  | 12, _, _ => exact c12.2.1
  | 13, _, _ => exact c13.2.1
  | 14, _, _ => exact c14.2.1
  | 15, _, _ => exact c15.2.1
  | 16, _, _ => exact c16.2.1
  | 17, _, _ => exact c17.2.1
  | 18, _, _ => exact c18.2.1
  | 19, _, _ => exact c19.2.1
  | 20, _, _ => exact c20.2.1
  | 21, _, _ => exact c21.2.1
  | 22, _, _ => exact c22.2.1
  | 23, _, _ => exact c23.2.1
  | 24, _, _ => exact c24.2.1
  | 25, _, _ => exact c25.2.1
  | n + 26, _, hh => exact absurd hh (by omega)
theorem sh_keep (hM : z_sh M h) (o : z_or h1 M = z_or h M) (k : ∀ a, M ≤ a → a ≤ M + 25 → z_kd h1 a = z_kd h a ∧ z_ln h1 a = z_ln h a) : z_sh M h1 := by
  have K := fun j (hj : j ≤ 25) => (k (M + j) (by omega) (by omega)).1
  have L := fun j (hj : j ≤ 25) => (k (M + j) (by omega) (by omega)).2
  unfold z_sh at hM ⊢
  rw [o, (k M (by omega) (by omega)).1, K 1 (by decide), L 1 (by decide), K 2 (by decide), L 2 (by decide), K 3 (by decide), L 3 (by decide), K 4 (by decide), L 4 (by decide), K 5 (by decide), L 5 (by decide), K 6 (by decide), L 6 (by decide), K 7 (by decide), L 7 (by decide), K 8 (by decide), L 8 (by decide), K 9 (by decide), L 9 (by decide), K 10 (by decide), L 10 (by decide), K 11 (by decide), L 11 (by decide), K 12 (by decide), L 12 (by decide), K 13 (by decide), L 13 (by decide), K 14 (by decide), L 14 (by decide), K 15 (by decide), L 15 (by decide), K 16 (by decide), L 16 (by decide), K 17 (by decide), L 17 (by decide), K 18 (by decide), L 18 (by decide), K 19 (by decide), L 19 (by decide), K 20 (by decide), L 20 (by decide), K 21 (by decide), L 21 (by decide), K 22 (by decide), L 22 (by decide), K 23 (by decide), L 23 (by decide), K 24 (by decide), L 24 (by decide), K 25 (by decide), L 25 (by decide)]
  exact hM
theorem rs_keep (hs : h = z_rs h M F A) (e1 : z_oi h1 M = z_oi h M) (e2 : ∀ j, 0 < j → j ≤ 25 → z_ai h1 (M + j) = z_ai h (M + j)) : h1 = z_rs h1 M F A := by
  have a1 : z_oi h M = F := by
    rw [hs]; exact rs_oi _ _ _ _
  have a2 : ∀ j, 0 < j → j ≤ 25 → z_ai h (M + j) = A j := fun j g0 g1 => by
    rw [hs]; exact rs_ai _ _ _ _ g0 g1
  have b1 : z_u (z_oi h1) M F = z_oi h1 := by rw [← a1, ← e1, u_self]
  have b2 : (fun q => if M < q ∧ q ≤ M + 25 then A (q - M) else z_ai h1 q) = z_ai h1 := by
    funext q
    by_cases cq : M < q ∧ q ≤ M + 25
    · rw [if_pos cq, ← a2 (q - M) (by omega) (by omega), ← e2 (q - M) (by omega) (by omega), show M + (q - M) = q by omega]
    · rw [if_neg cq]
  show h1 = (h1.1, z_kd h1, z_ln h1, z_u (z_oi h1) M F, z_or h1, (fun q => if M < q ∧ q ≤ M + 25 then A (q - M) else z_ai h1 q), z_al h1, z_ar h1)
  rw [b1, b2]
  rfl
/-- both stand, and the row for the answers -/
def LD (L r : Nat) (h : z_H) (F : Nat → Int32) (A : Nat → Nat → Int32) (σ : RSt) : Prop := cI L r h σ ∧ z_sh (L + 48) h ∧ h = z_rs h (L + 48) F A ∧ (z_kd h (L + 74) = 2 ∧ z_ln h (L + 74) = 1)
def LC (r : Nat) (h : z_H) (C S : Nat) : Prop := z_c h + 5000 * (8 - r) ≤ C ∧ z_s h + 240000 * (8 - r) ≤ S
theorem ld_cls (D : LD L r h F A σ) (c1 : cI L r1 h1 σ') (e : ex (cX L) c s h h1) : LD L r1 h1 F A σ' := by
  obtain ⟨hc, hM, hs, ho, hlen⟩ := D
  have k1 := sh_k1 hM
  have k0 := sh_kd hM
  have nX : ∀ a, L + 48 ≤ a → ¬ cX L a := fun a ha q => by unfold cX at q; omega
  have f0 := ex_hl hc.1.2.2.1 hc.1.2.2.2 e (x := L + 48) (by unfold hl; omega) (nX _ (by omega)) (by omega)
  have f74 := ex_hl hc.1.2.2.1 hc.1.2.2.2 e (x := L + 74) (by unfold hl; omega) (nX _ (by omega)) (by omega)
  have fj : ∀ j, 0 < j → j ≤ 25 → _ := fun j g0 g1 => ex_hl hc.1.2.2.1 hc.1.2.2.2 e (x := L + 48 + j) (by unfold hl; omega) (nX _ (by omega)) (by rw [k1 j g0 g1]; decide)
  refine ⟨c1, sh_keep hM f0.2.2.2.1 (fun a g0 g1 => ?_), rs_keep hs f0.2.2.1 (fun j g0 g1 => (fj j g0 g1).2.2.2.2.1), by rw [f74.1]; exact ho, by rw [f74.2.1]; exact hlen⟩
  by_cases ea : a = L + 48
  · rw [ea]; exact ⟨f0.1, f0.2.1⟩
  · have := fj (a - (L + 48)) (by omega) (by omega)
    rw [show L + 48 + (a - (L + 48)) = a by omega] at this
    exact ⟨this.1, this.2.1⟩
theorem ld_pal (D : LD L r h F A σ) (v : Int64) : LD L r (z_pal h (L + 74) 0 v) F A σ := by
  obtain ⟨hc, hM, hs, ho, hlen⟩ := D
  have t : xt (fun a => a = L + 74) h (z_pal h (L + 74) 0 v) := xt_pal _ _ rfl
  exact ⟨cI_ref hc (inv_xt hc.1.2.2.1 (fun a q => by unfold hl; omega) t) (xt_ex t (c := 0) (s := 0) (Nat.le_refl _) (Nat.le_refl _)) (fun a q => by omega), hM, rs_keep hs rfl (fun _ _ _ => rfl), ho, hlen⟩
theorem ld_thr (D : LD L r h F A σ) : LD L r (z_thr h (z_n h + 1)) F A σ := by
  obtain ⟨hc, hM, hs, ho, hlen⟩ := D
  have t : xt (fun _ => False) h (z_thr h (z_n h + 1)) := ⟨Nat.le_succ _, fun _ _ => ⟨rfl, rfl, fun _ => ⟨rfl, rfl, rfl, rfl, rfl⟩⟩, fun _ _ e => e⟩
  exact ⟨cI_no hc (inv_xt hc.1.2.2.1 no_hl t) (xt_ex t (c := 1) (s := 6) (Nat.le_refl _) (Nat.le_refl _)), hM, rs_keep hs rfl (fun _ _ _ => rfl), ho, hlen⟩
theorem ld_ref (D : LD L r h F A σ) (F' : Nat → Int32) (A' : Nat → Nat → Int32) : LD L r (z_rs h (L + 48) F' A') F' A' σ := by
  obtain ⟨hc, hM, hs, ho, hlen⟩ := D
  have t : xt (fun a => L + 48 ≤ a ∧ a < L + 75) h (z_rs h (L + 48) F' A') := ⟨Nat.le_refl _, fun a _ => ⟨rfl, rfl, fun hx => ⟨u_ne _ _ (fun e => hx (by omega)), rfl, if_neg (fun q => hx (by omega)), rfl, rfl⟩⟩, fun _ _ e => e⟩
  exact ⟨cI_ref hc (inv_xt hc.1.2.2.1 (fun a q => by unfold hl; omega) t) (xt_ex t (c := 0) (s := 0) (Nat.le_refl _) (Nat.le_refl _)) (fun a q => q), hM, (rs_rs _ _ _ _ F' A').symm, ho, hlen⟩
/-- what the reference does -/
def RR (G : z_G) (d : Nat) (κ : z_Key) (M : Nat) (h : z_H) (As : List Value) (F : Nat → Int32) (A : Nat → Nat → Int32) (v code : Int32) (σ' : RSt) : Prop := ∃ F' A', rI F' A' σ' ∧ rL F' A' ∧ F' 0 = code ∧ z_Ev G d κ (.ref M :: As) (z_rs h M F A) (.inl (some (.int v)), z_rs h M F' A')
theorem rr_P {κ : z_Key} {As : List Value} {v code : Int32} (hL : rL F A) (hp : pubR G d κ M h As F A v code σ') : RR G d κ M h As F A v code σ' := by
  obtain ⟨F', A', r1, r2, r3, r4⟩ := hp
  exact ⟨F', A', r1, rL_k hL r2, r3, r4⟩
def LE (L : Nat) (h : z_H) (σ' : RSt) (C S : Nat) : Prop := ∃ F' A' r', LD L r' h F' A' σ' ∧ rI F' A' σ' ∧ rL F' A' ∧ LC r' h C S
theorem st_act {κC κR : z_Key} {As : List Value} {v code : Int32} {C S : Nat} (D : LD L r h F A σ) (hC : LC r h C S) (hP : pubC G d κC L r h As (.inl (some (.int v))) σ') (hQ : ∀ h2, z_sh (L + 48) h2 → RR G d κR (L + 48) h2 As F A v code σ') : ∃ h1 h3, z_Ev G d κC (.ref L :: As) h (.inl (some (.int v)), h1) ∧ z_kd h1 (L + 48) = 28 ∧ z_Ev G d κR (.ref (L + 48) :: As) h1 (.inl (some (.int v)), h3) ∧ LE L h3 σ' (C + 41) (S + 806) := by
  obtain ⟨h1, r1, c1, ct, e1, E1⟩ := hP
  have D1 := ld_cls D c1 e1
  obtain ⟨F', A', q1, q2, q3, q4⟩ := hQ h1 D1.2.1
  rw [← D1.2.2.1] at q4
  refine ⟨h1, z_rs h1 (L + 48) F' A', E1, sh_kd D1.2.1, q4, F', A', r1, ld_ref D1 F' A', q1, q2, ?_⟩
  obtain ⟨t1, t2, t3⟩ := ct
  obtain ⟨g1, g2⟩ := hC
  exact ⟨by show z_c h1 + _ ≤ _; omega, by show z_s h1 + _ ≤ _; omega⟩
theorem st_qst {κC κR κW : z_Key} {As : List Value} {v code : Int32} {x1 x2 : String} {C S : Nat} (D : LD L r h F A σ) (hC : LC r h C S) (hP : pubC G d κC L r h As (ans x1 x2 (some (.int v)) code) σ') (hcode : code = nI 0 ∨ code = nI 1 ∨ code = nI 2)
    (K : ∀ h1, z_Ev G d κC (.ref L :: As) h (.inl (some (.int v)), h1) → z_kd h1 (L + 74) = 2 → z_ln h1 (L + 74) = 1 → z_Ev G (d + 1) κW (.ref L :: (As ++ [.ref (L + 74)])) h (.inl (some (.int (nI 0))), z_pal h1 (L + 74) 0 v.toInt64))
    (T1 : code = nI 1 → ∀ h1, z_Ev G d κC (.ref L :: As) h (.inr x1, h1) → z_Ev G (d + 1) κW (.ref L :: (As ++ [.ref (L + 74)])) h (.inl (some (.int (nI 1))), z_thr h1 (z_n h1 + 1)))
    (T2 : code = nI 2 → ∀ h1, z_Ev G d κC (.ref L :: As) h (.inr x2, h1) → z_Ev G (d + 1) κW (.ref L :: (As ++ [.ref (L + 74)])) h (.inl (some (.int (nI 2))), z_thr h1 (z_n h1 + 1)))
    (hQ : ∀ h2, z_sh (L + 48) h2 → RR G (d + 1) κR (L + 48) h2 As F A v code σ') (d4 : ∃ d', d + 1 = d' + 4) : ∃ h1 h3, z_Ev G (d + 1) κW (.ref L :: (As ++ [.ref (L + 74)])) h (.inl (some (.int code)), h1) ∧ z_kd h1 (L + 48) = 28 ∧ z_Ev G (d + 1) κR (.ref (L + 48) :: As) h1 (.inl (some (.int v)), h3) ∧ z_kd h3 (L + 48) = 28 ∧ z_Ev G (d + 1) k_X12_thrown [.ref (L + 48)] h3 (.inl (some (.int code)), h3) ∧ (code = nI 0 → z_al h3 (L + 74) 0 = v.toInt64) ∧ (z_kd h3 (L + 74) = 2 ∧ z_ln h3 (L + 74) = 1) ∧ LE L h3 σ' (C + 41) (S + 806) := by
  obtain ⟨h1, r1, c1, ct, e1, E1⟩ := hP
  have D1 := ld_cls D c1 e1
  obtain ⟨t1, t2, t3⟩ := ct
  obtain ⟨g1, g2⟩ := hC
  have main : ∀ h2, LD L r1 h2 F A σ' → z_c h2 ≤ z_c h1 + 1 → z_s h2 ≤ z_s h1 + 6 → (code = nI 0 → z_al h2 (L + 74) 0 = v.toInt64) → z_Ev G (d + 1) κW (.ref L :: (As ++ [.ref (L + 74)])) h (.inl (some (.int code)), h2) → ∃ h1 h3, z_Ev G (d + 1) κW (.ref L :: (As ++ [.ref (L + 74)])) h (.inl (some (.int code)), h1) ∧ z_kd h1 (L + 48) = 28 ∧ z_Ev G (d + 1) κR (.ref (L + 48) :: As) h1 (.inl (some (.int v)), h3) ∧ z_kd h3 (L + 48) = 28 ∧ z_Ev G (d + 1) k_X12_thrown [.ref (L + 48)] h3 (.inl (some (.int code)), h3) ∧ (code = nI 0 → z_al h3 (L + 74) 0 = v.toInt64) ∧ (z_kd h3 (L + 74) = 2 ∧ z_ln h3 (L + 74) = 1) ∧ LE L h3 σ' (C + 41) (S + 806) := fun h2 D2 k1 k2 hv EW => by
    obtain ⟨F', A', q1, q2, q3, q4⟩ := hQ h2 D2.2.1
    rw [← D2.2.2.1] at q4
    have D3 := ld_ref D2 F' A'
    obtain ⟨d', ed⟩ := d4
    have Et : z_Ev G (d + 1) k_X12_thrown [.ref (L + 48)] (z_rs h2 (L + 48) F' A') (.inl (some (.int code)), z_rs h2 (L + 48) F' A') := by
      rw [ed, ← q3]
      exact e_thrownQ D2.2.1
    exact ⟨h2, z_rs h2 (L + 48) F' A', EW, sh_kd D2.2.1, q4, sh_kd D2.2.1, Et, hv, D3.2.2.2, F', A', r1, D3, q1, q2, by show z_c h2 + _ ≤ _; omega, by show z_s h2 + _ ≤ _; omega⟩
  rcases hcode with e | e | e
  · rw [e, ans_0] at E1
    have EW := K h1 E1 D1.2.2.2.1 D1.2.2.2.2
    rw [← e] at EW
    exact main _ (ld_pal D1 _) (Nat.le_succ _) (Nat.le_add_right _ _) (fun _ => by
      show z_uu (z_al h1) (L + 74) 0 v.toInt64 (L + 74) 0 = _
      unfold z_uu
      rw [u_eq, u_eq]) EW
  · rw [e, ans_1] at E1
    have EW := T1 e h1 E1
    rw [← e] at EW
    exact main _ (ld_thr D1) (Nat.le_refl _) (Nat.le_refl _) (fun q => by rw [e] at q; cases q) EW
  · rw [e, ans_2] at E1
    have EW := T2 e h1 E1
    rw [← e] at EW
    exact main _ (ld_thr D1) (Nat.le_refl _) (Nat.le_refl _) (fun q => by rw [e] at q; cases q) EW
/-- the state of the loop behind i calls -/
def LI (L i : Nat) (h : z_H) : Prop := ∃ σ F A r, LD L r h F A σ ∧ rI F A σ ∧ rL F A ∧ LC r h (100000 + 41 * i) (2100000 + 806 * i)
set_option maxRecDepth 16384 in
theorem li_E {i : Nat} (he : LE L h σ (100000 + 41 * i + 41) (2100000 + 806 * i + 806)) : LI L (i + 1) h := by
  obtain ⟨F', A', r', D, q1, q2, q3⟩ := he
  refine ⟨σ, F', A', r', D, q1, q2, ?_⟩
  unfold LC at q3 ⊢
  omega
theorem st_fin {v w : Int32} {a : Nat} {J N N' : Prop} (o1 : z_kd h a = 2) (o2 : z_ln h a = 1) (hv : v = nI 0 → z_al h a 0 = w.toInt64) (hJ : J) : (if v = v then (if v = nI 0 then (z_kd h a = 2 ∧ vp_in (nI 0) (z_ln h a) ∧ (if lg_cmp (z_al h a (Int32.toNatClampNeg (nI 0))) (Int32.toInt64 w) = nI 0 then J else N)) else J) else N') := by
  rw [if_pos rfl]
  by_cases c0 : v = nI 0
  · rw [if_pos c0, nI_clamp (show 0 < 2 ^ 31 by decide), hv c0, lg_self, if_pos rfl]
    exact ⟨o1, by rw [o2]; exact vp_in_nI (by decide) (by decide), hJ⟩
  · rw [if_neg c0]
    exact hJ
theorem cd2 {p : Int32 × Int32} {c : Prop} [Decidable c] {a b : Int32 × Int32} (e : p = if c then a else b) (ha : a.2 = nI 0 ∨ a.2 = nI 1 ∨ a.2 = nI 2) (hb : b.2 = nI 0 ∨ b.2 = nI 1 ∨ b.2 = nI 2) : p.2 = nI 0 ∨ p.2 = nI 1 ∨ p.2 = nI 2 := by
  rw [e]
  split
  · exact ha
  · exact hb
end C20
theorem cd_if {c : Prop} [Decidable c] {a b : Int32 × Int32} (ha : a.2 = nI 0 ∨ a.2 = nI 1) (hb : b.2 = nI 0 ∨ b.2 = nI 1) : (if c then a else b).2 = nI 0 ∨ (if c then a else b).2 = nI 1 := by
  split
  · exact ha
  · exact hb
theorem cd_count {S : Sc} {R : Nat → Int32} {hl : Nat} {fed : Nat} {s0 : Nat} {s1 : Nat} {w : Int32} : (c_count S R hl fed s0 s1 w).2 = nI 0 ∨ (c_count S R hl fed s0 s1 w).2 = nI 1 := by
  unfold c_count
  repeat (refine cd_if (Or.inl rfl) ?_)
  exact Or.inr rfl
theorem cd_line {S : Sc} {w : Int32} : (c_line S w).2 = nI 0 ∨ (c_line S w).2 = nI 1 := by
  unfold c_line
  repeat' split
  all_goals (first | exact Or.inl rfl | exact Or.inr rfl)
theorem cd_point {S : Sc} {R : Nat → Int32} {w : Int32} {x : Int32} : (c_point S R w x).2 = nI 0 ∨ (c_point S R w x).2 = nI 1 := by
  unfold c_point
  repeat' split
  all_goals (first | exact Or.inl rfl | exact Or.inr rfl)
theorem cd_joined {S : Sc} {w : Int32} {x : Int32} : (c_joined S w x).2 = nI 0 ∨ (c_joined S w x).2 = nI 1 ∨ (c_joined S w x).2 = nI 2 := by
  unfold c_joined
  repeat' split
  all_goals (first | exact Or.inl rfl | exact Or.inr (Or.inl rfl) | exact Or.inr (Or.inr rfl))
theorem cd_meet {S : Sc} {w : Int32} {x : Int32} : (c_meet S w x).2 = nI 0 ∨ (c_meet S w x).2 = nI 1 ∨ (c_meet S w x).2 = nI 2 := by
  unfold c_meet
  repeat' split
  all_goals (first | exact Or.inl rfl | exact Or.inr (Or.inl rfl) | exact Or.inr (Or.inr rfl))
theorem cd_symmetry {S : Sc} {w : Int32} {x : Int32} : (c_symmetry S w x).2 = nI 0 ∨ (c_symmetry S w x).2 = nI 1 := by
  unfold c_symmetry c_symR
  repeat' split
  all_goals (first | exact Or.inl rfl | exact Or.inr rfl)
theorem cd_normal {S : Sc} {f : Nat → Int32} {g : Nat → Int32} {w : Int32} : (c_normal S f g w).2 = nI 0 ∨ (c_normal S f g w).2 = nI 1 := by
  unfold c_normal
  repeat' split
  all_goals (first | exact Or.inl rfl | exact Or.inr rfl)
theorem cd_dual {S : Sc} {w : Int32} : (c_dualI S w).2 = nI 0 ∨ (c_dualI S w).2 = nI 1 := by
  unfold c_dualI
  repeat' split
  all_goals (first | exact Or.inl rfl | exact Or.inr rfl)
theorem cd_shelf {S : Sc} {R : Nat → Int32} {f : Nat → Int32} {g : Nat → Int32} {w : Int32} {x : Int32} : (c_shelf S R f g w x).2 = nI 0 ∨ (c_shelf S R f g w x).2 = nI 1 := by
  unfold c_shelf
  repeat' split
  all_goals (first | exact Or.inl rfl | exact Or.inr rfl)
theorem cd_way {S : Sc} {R : Nat → Int32} {f : Nat → Int32} {g : Nat → Int32} {w : Int32} {x : Int32} : (c_way S R f g w x).2 = nI 0 ∨ (c_way S R f g w x).2 = nI 1 := by
  unfold c_way
  repeat' split
  all_goals (first | exact Or.inl rfl | exact Or.inr rfl)
theorem cd_square {S : Sc} {f : Nat → Int32} {g : Nat → Int32} {w : Int32} {x : Int32} : (c_square S f g w x).2 = nI 0 ∨ (c_square S f g w x).2 = nI 1 ∨ (c_square S f g w x).2 = nI 2 := by
  unfold c_square
  repeat' split
  all_goals (first | exact Or.inl rfl | exact Or.inr (Or.inl rfl) | exact Or.inr (Or.inr rfl))
theorem cd_plane {S : Sc} {f : Nat → Int32} {g : Nat → Int32} {w : Int32} {x : Int32} : (c_plane S f g w x).2 = nI 0 ∨ (c_plane S f g w x).2 = nI 1 ∨ (c_plane S f g w x).2 = nI 2 := by
  unfold c_plane
  repeat' split
  all_goals (first | exact Or.inl rfl | exact Or.inr (Or.inl rfl) | exact Or.inr (Or.inr rfl))
theorem cd_set {S : Sc} {w : Int32} : (c_set S w).2 = nI 0 ∨ (c_set S w).2 = nI 1 := by
  unfold c_set
  repeat' split
  all_goals (first | exact Or.inl rfl | exact Or.inr rfl)
theorem cd_far {S : Sc} {w : Int32} {x : Int32} : (c_far S w x).2 = nI 0 ∨ (c_far S w x).2 = nI 1 := by
  unfold c_far
  repeat' split
  all_goals (first | exact Or.inl rfl | exact Or.inr rfl)
theorem cd_game {S : Sc} {f : Nat → Int32} {w : Int32} : (c_game S f w).2 = nI 0 ∨ (c_game S f w).2 = nI 1 := by
  unfold c_game
  repeat' split
  all_goals (first | exact Or.inl rfl | exact Or.inr rfl)
theorem cd_years {c : Cd} {w : Int32} {x : Int32} {y : Int32} : (c_years c w x y).2 = nI 0 ∨ (c_years c w x y).2 = nI 1 ∨ (c_years c w x y).2 = nI 2 := by
  unfold c_years
  repeat' split
  all_goals (first | exact Or.inl rfl | exact Or.inr (Or.inl rfl) | exact Or.inr (Or.inr rfl))
theorem cd_list {w : Int32} {x : Int32} {y : Int32} {z : Int32} : (c_list w x y z).2 = nI 0 ∨ (c_list w x y z).2 = nI 1 ∨ (c_list w x y z).2 = nI 2 := by
  unfold c_list
  repeat' split
  all_goals (first | exact Or.inl rfl | exact Or.inr (Or.inl rfl) | exact Or.inr (Or.inr rfl))
theorem cd_scheme {σ : RSt} {w : Int32} : (s_scheme σ w).1.2 = nI 0 ∨ (s_scheme σ w).1.2 = nI 1 := by
  unfold s_scheme
  repeat' split
  all_goals (first | exact Or.inl rfl | exact Or.inr rfl)
