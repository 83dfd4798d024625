/-! loops with an invariant; loops that may end early -/
theorem z_forI {G : z_G} {d : Nat} {μ : z_M} {r : z_Res} {pc : Nat} {α : Type} (mkl : Nat → α → List (Option Value)) (H : Nat → α → z_H) (I : Nat → α → Prop) (f : Nat → α → α) (a : α) (m : Nat) (h0 : I 0 a)
    (hstep : ∀ l a, l < m → I l a → I (l + 1) (f l a) ∧ (z_J G d μ r pc (mkl (l + 1) (f l a)) [] (H (l + 1) (f l a)) → z_J G d μ r pc (mkl l a) [] (H l a)))
    (hend : I m (it f a m) → z_J G d μ r pc (mkl m (it f a m)) [] (H m (it f a m))) : z_J G d μ r pc (mkl 0 a) [] (H 0 a) := by
  have hI : ∀ l, l ≤ m → I l (it f a l) := by
    intro l
    induction l with
    | zero => intro _; exact h0
    | succ l ih => intro hl; exact (hstep l _ (by omega) (ih (by omega))).1
  have key : ∀ k l, l + k = m → z_J G d μ r pc (mkl l (it f a l)) [] (H l (it f a l)) := by
    intro k
    induction k with
    | zero => intro l hl; rw [show l = m by omega]; exact hend (hI m (Nat.le_refl _))
    | succ k ih => intro l hl; exact (hstep l _ (by omega) (hI l (by omega))).2 (ih (l + 1) (by omega))
  exact key m 0 (Nat.zero_add m)
def itx {α : Type} (f : Nat → α → Option α) (a : α) : Nat → Option α
  | 0 => some a
  | k + 1 => match itx f a k with
    | none => none
    | some b => f k b
theorem itx_none {α : Type} {f : Nat → α → Option α} {a : α} {l : Nat} (h : itx f a l = none) : ∀ k, l ≤ k → itx f a k = none := by
  intro k hk
  induction k with
  | zero => rw [show l = 0 by omega] at h; exact h
  | succ k ih =>
    by_cases e : l = k + 1
    · rw [← e]; exact h
    · show (match itx f a k with | none => none | some b => f k b) = none
      rw [ih (by omega)]
/-- a loop that ends early where f says none -/
theorem z_forx {G : z_G} {d : Nat} {μ : z_M} {r : z_Res} {pc : Nat} {α : Type} (mkl : Nat → α → List (Option Value)) (H : Nat → α → z_H) (I : Nat → α → Prop) (f : Nat → α → Option α) (a : α) (m : Nat) (h0 : I 0 a)
    (hno : ∀ l a', l < m → I l a' → f l a' = none → itx f a m = none → z_J G d μ r pc (mkl l a') [] (H l a'))
    (hstep : ∀ l a' b, l < m → I l a' → f l a' = some b → I (l + 1) b ∧ (z_J G d μ r pc (mkl (l + 1) b) [] (H (l + 1) b) → z_J G d μ r pc (mkl l a') [] (H l a')))
    (hend : ∀ b, I m b → itx f a m = some b → z_J G d μ r pc (mkl m b) [] (H m b)) : z_J G d μ r pc (mkl 0 a) [] (H 0 a) := by
  have key : ∀ k l b, l + k = m → I l b → itx f a l = some b → z_J G d μ r pc (mkl l b) [] (H l b) := by
    intro k
    induction k with
    | zero => intro l b hl hI hb; rw [show l = m by omega] at hI hb ⊢; exact hend b hI hb
    | succ k ih =>
      intro l b hl hI hb
      have e : itx f a (l + 1) = f l b := by
        show (match itx f a l with | none => none | some b => f l b) = f l b
        rw [hb]
      cases hf : f l b with
      | none => exact hno l b (by omega) hI hf (itx_none (e.trans hf) m (by omega))
      | some c =>
        have h2 := hstep l b c (by omega) hI hf
        exact h2.2 (ih (l + 1) c (by omega) h2.1 (e.trans hf))
  exact key m 0 a (Nat.zero_add m) h0 rfl
section TQ
variable {h : z_H} {M : Nat} {S : Sc}
theorem t_slines (hA : z_at M h S) : s_X12_lines M h := hA.1
theorem t_spoints (hA : z_at M h S) : s_X12_points M h := hA.1
theorem t_sbits (x : Int32) : s_X12_bits x h := trivial
theorem t_smax (x y : Int32) : s_J9_max_7cf53 x y h := trivial
theorem q_rcf (p : Prop) [Decidable p] (A B : Prop) : (if p then A else B) = ((p → A) ∧ (¬ p → B)) := by
  by_cases hp : p <;> simp [hp]
end TQ
theorem en_X12_isDuality {pu : Nat → Option ((List Value → z_H → Prop) × (List Value → z_H → Int32))} {G : z_G} {d : Nat} {r : z_Res} {h : z_H} {x0 : Nat} (hJ : z_J G d (m_X12_isDuality pu) r 0 [some (.ref x0), none, none, none, none, none] [] h) : z_Ev G d k_X12_isDuality [.ref x0] h r := z_enter (μ := m_X12_isDuality pu) rfl (by decide) rfl rfl (fun q => by cases q) (Nat.le_of_ble_eq_true rfl) hJ
def hd_X12_isDuality : Nat → Option (List Bool) := (fun k => (cond (Nat.blt k 96) (cond (Nat.blt k 28) (cond (Nat.beq k 4) (some [true, true, true, false, false, false]) none) (cond (Nat.beq k 28) (some [true, true, true, true, true, true]) none)) none))
set_option maxRecDepth 20000 in
theorem b_X12_isDuality_0 {G : z_G} {d : Nat} {r : z_Res} (hPu : z_PuV G d (t_X12 z_puC)) {h : z_H} {x0 : Nat} (hT : (z_J G (d + 1) (m_X12_isDuality z_puC) r) 4 [some (.ref x0), some (.int (nI 0)), some (.int (nI 0)), none, none, none] [] h) : (z_J G (d + 1) (m_X12_isDuality z_puC) r) 0 [some (.ref x0), none, none, none, none, none] [] h := z_bq (v_X12 z_puC (vP_X12_isDuality z_puC) hPu) hd_X12_isDuality 7 hT
set_option maxRecDepth 20000 in
theorem b_X12_isDuality_4 {G : z_G} {d : Nat} {r : z_Res} (hPu : z_PuV G d (t_X12 z_puC)) {h : z_H} {x0 : Nat} {x1 : Int32} {x2 : Int32} (hT : (z_kd h x0 = 28 ∧ s_X12_lines x0 h ∧ (if x2 < (f_X12_lines x0 h) then (z_kd h x0 = 28 ∧ s_X12_lineAt x0 x2 h ∧ (z_kd h x0 = 28 ∧ s_X12_named x0 (f_X12_lineAt x0 x2 h) h ∧ (z_J G (d + 1) (m_X12_isDuality z_puC) r) 28 [some (.ref x0), some (.int x1), some (.int x2), some (.int (f_X12_named x0 (f_X12_lineAt x0 x2 h) h)), some (.int mI), some (.int (nI 0))] [] h)) else (z_bz (nI 1) ∧ r = (.inl (some (.int (nI 1))), h))))) : (z_J G (d + 1) (m_X12_isDuality z_puC) r) 4 [some (.ref x0), some (.int x1), some (.int x2), none, none, none] [] h := z_bq (v_X12 z_puC (vP_X12_isDuality z_puC) hPu) hd_X12_isDuality 17 hT
set_option maxRecDepth 20000 in
theorem b_X12_isDuality_28 {G : z_G} {d : Nat} {r : z_Res} (hPu : z_PuV G d (t_X12 z_puC)) {h : z_H} {x0 : Nat} {x1 : Int32} {x2 : Int32} {x3 : Int32} {x4 : Int32} {x5 : Int32} (hT : (z_kd h x0 = 28 ∧ s_X12_points x0 h ∧ (if x5 < (f_X12_points x0 h) then (z_kd h x0 = 28 ∧ (z_rc (z_or h x0 20) False (fun x_1 => (z_kd h x_1 = 1 ∧ vp_in x5 (z_ln h x_1) ∧ (if (z_ai h x_1 (Int32.toNatClampNeg x5)) = x3 then (z_J G (d + 1) (m_X12_isDuality z_puC) r) 28 [some (.ref x0), some (.int x1), some (.int x2), some (.int x3), some (.int x5), some (.int (x5 + (nI 1)))] [] h else (z_J G (d + 1) (m_X12_isDuality z_puC) r) 28 [some (.ref x0), some (.int x1), some (.int x2), some (.int x3), some (.int x4), some (.int (x5 + (nI 1)))] [] h))))) else (if x4 = mI then (z_bz (nI 0) ∧ r = (.inl (some (.int (nI 0))), h)) else (if ((x1 >>> (x4 &&& (nI 31))) &&& (nI 1)) = (nI 1) then (z_bz (nI 0) ∧ r = (.inl (some (.int (nI 0))), h)) else (z_J G (d + 1) (m_X12_isDuality z_puC) r) 4 [some (.ref x0), some (.int (x1 ||| ((nI 1) <<< (x4 &&& (nI 31))))), some (.int (x2 + (nI 1))), none, none, none] [] h))))) : (z_J G (d + 1) (m_X12_isDuality z_puC) r) 28 [some (.ref x0), some (.int x1), some (.int x2), some (.int x3), some (.int x4), some (.int x5)] [] h := z_bq (v_X12 z_puC (vP_X12_isDuality z_puC) hPu) hd_X12_isDuality 25 hT
theorem en_X12_isPolarity {pu : Nat → Option ((List Value → z_H → Prop) × (List Value → z_H → Int32))} {G : z_G} {d : Nat} {r : z_Res} {h : z_H} {x0 : Nat} (hJ : z_J G d (m_X12_isPolarity pu) r 0 [some (.ref x0), none, none] [] h) : z_Ev G d k_X12_isPolarity [.ref x0] h r := z_enter (μ := m_X12_isPolarity pu) rfl (by decide) rfl rfl (fun q => by cases q) (Nat.le_of_ble_eq_true rfl) hJ
def hd_X12_isPolarity : Nat → Option (List Bool) := (fun k => (cond (Nat.blt k 64) (cond (Nat.blt k 12) (cond (Nat.beq k 2) (some [true, true, false]) none) (cond (Nat.beq k 12) (some [true, true, true]) none)) none))
set_option maxRecDepth 20000 in
theorem b_X12_isPolarity_0 {G : z_G} {d : Nat} {r : z_Res} (hPu : z_PuV G d (t_X12 z_puC)) {h : z_H} {x0 : Nat} (hT : (z_J G (d + 1) (m_X12_isPolarity z_puC) r) 2 [some (.ref x0), some (.int (nI 0)), none] [] h) : (z_J G (d + 1) (m_X12_isPolarity z_puC) r) 0 [some (.ref x0), none, none] [] h := z_bq (v_X12 z_puC (vP_X12_isPolarity z_puC) hPu) hd_X12_isPolarity 5 hT
set_option maxRecDepth 20000 in
theorem b_X12_isPolarity_2 {G : z_G} {d : Nat} {r : z_Res} (hPu : z_PuV G d (t_X12 z_puC)) {h : z_H} {x0 : Nat} {x1 : Int32} (hT : (z_kd h x0 = 28 ∧ s_X12_points x0 h ∧ (if x1 < (f_X12_points x0 h) then (z_J G (d + 1) (m_X12_isPolarity z_puC) r) 12 [some (.ref x0), some (.int x1), some (.int (nI 0))] [] h else (z_bz (nI 1) ∧ r = (.inl (some (.int (nI 1))), h))))) : (z_J G (d + 1) (m_X12_isPolarity z_puC) r) 2 [some (.ref x0), some (.int x1), none] [] h := z_bq (v_X12 z_puC (vP_X12_isPolarity z_puC) hPu) hd_X12_isPolarity 9 hT
set_option maxRecDepth 20000 in
theorem b_X12_isPolarity_12 {G : z_G} {d : Nat} {r : z_Res} (hPu : z_PuV G d (t_X12 z_puC)) {h : z_H} {x0 : Nat} {x1 : Int32} {x2 : Int32} (hT : (if x2 < x1 then (z_kd h x0 = 28 ∧ (z_rc (z_or h x0 16) False (fun x_1 => (z_kd h x_1 = 1 ∧ vp_in x2 (z_ln h x_1) ∧ (z_kd h x0 = 28 ∧ s_X12_lineAt x0 (z_ai h x_1 (Int32.toNatClampNeg x2)) h ∧ (z_kd h x0 = 28 ∧ (z_rc (z_or h x0 16) False (fun x_2 => (z_kd h x_2 = 1 ∧ vp_in x1 (z_ln h x_2) ∧ (z_kd h x0 = 28 ∧ s_X12_lineAt x0 (z_ai h x_2 (Int32.toNatClampNeg x1)) h ∧ (if (((f_X12_lineAt x0 (z_ai h x_1 (Int32.toNatClampNeg x2)) h) >>> (x1 &&& (nI 31))) &&& (nI 1)) = (((f_X12_lineAt x0 (z_ai h x_2 (Int32.toNatClampNeg x1)) h) >>> (x2 &&& (nI 31))) &&& (nI 1)) then (z_J G (d + 1) (m_X12_isPolarity z_puC) r) 12 [some (.ref x0), some (.int x1), some (.int (x2 + (nI 1)))] [] h else (z_bz (nI 0) ∧ r = (.inl (some (.int (nI 0))), h))))))))))))) else (z_J G (d + 1) (m_X12_isPolarity z_puC) r) 2 [some (.ref x0), some (.int (x1 + (nI 1))), none] [] h)) : (z_J G (d + 1) (m_X12_isPolarity z_puC) r) 12 [some (.ref x0), some (.int x1), some (.int x2)] [] h := z_bq (v_X12 z_puC (vP_X12_isPolarity z_puC) hPu) hd_X12_isPolarity 29 hT
theorem en_X12_lies {pu : Nat → Option ((List Value → z_H → Prop) × (List Value → z_H → Int32))} {G : z_G} {d : Nat} {r : z_Res} {h : z_H} {x0 : Nat} {x1 : Int32} (hJ : z_J G d (m_X12_lies pu) r 0 [some (.ref x0), some (.int x1), none, none, none] [] h) : z_Ev G d k_X12_lies [.ref x0, .int x1] h r := z_enter (μ := m_X12_lies pu) rfl (by decide) rfl rfl (fun q => by cases q) (Nat.le_of_ble_eq_true rfl) hJ
def hd_X12_lies : Nat → Option (List Bool) := (fun k => (cond (Nat.blt k 65) (cond (Nat.beq k 4) (some [true, true, true, true, false]) none) none))
set_option maxRecDepth 20000 in
theorem b_X12_lies_0 {G : z_G} {d : Nat} {r : z_Res} (hPu : z_PuV G d (t_X12 z_puC)) {h : z_H} {x0 : Nat} {x1 : Int32} (hT : (z_J G (d + 1) (m_X12_lies z_puC) r) 4 [some (.ref x0), some (.int x1), some (.int (nI 0)), some (.int (nI 0)), none] [] h) : (z_J G (d + 1) (m_X12_lies z_puC) r) 0 [some (.ref x0), some (.int x1), none, none, none] [] h := z_bq (v_X12 z_puC (vP_X12_lies z_puC) hPu) hd_X12_lies 7 hT
set_option maxRecDepth 20000 in
theorem b_X12_lies_4 {G : z_G} {d : Nat} {r : z_Res} (hPu : z_PuV G d (t_X12 z_puC)) {h : z_H} {x0 : Nat} {x1 : Int32} {x2 : Int32} {x3 : Int32} (hT : (z_kd h x0 = 28 ∧ s_X12_onShelf x0 x1 (nI 1) h ∧ (if x3 < (f_X12_onShelf x0 x1 (nI 1) h) then (z_kd h x0 = 28 ∧ s_X12_onShelf x0 x1 ((nI 2) + x3) h ∧ (z_kd h x0 = 28 ∧ s_X12_named x0 (f_X12_onShelf x0 x1 ((nI 2) + x3) h) h ∧ (z_kd h x0 = 28 ∧ s_X12_lineOf x0 (f_X12_named x0 (f_X12_onShelf x0 x1 ((nI 2) + x3) h) h) h ∧ (if (f_X12_lineOf x0 (f_X12_named x0 (f_X12_onShelf x0 x1 ((nI 2) + x3) h) h) h) = mI then (z_bz (nI 0) ∧ r = (.inl (some (.int (nI 0))), h)) else (if ((x2 >>> ((f_X12_lineOf x0 (f_X12_named x0 (f_X12_onShelf x0 x1 ((nI 2) + x3) h) h) h) &&& (nI 31))) &&& (nI 1)) = (nI 1) then (z_bz (nI 0) ∧ r = (.inl (some (.int (nI 0))), h)) else (z_J G (d + 1) (m_X12_lies z_puC) r) 4 [some (.ref x0), some (.int x1), some (.int (x2 ||| ((nI 1) <<< ((f_X12_lineOf x0 (f_X12_named x0 (f_X12_onShelf x0 x1 ((nI 2) + x3) h) h) h) &&& (nI 31))))), some (.int (x3 + (nI 1))), none] [] h))))) else (z_bz (nI 1) ∧ r = (.inl (some (.int (nI 1))), h))))) : (z_J G (d + 1) (m_X12_lies z_puC) r) 4 [some (.ref x0), some (.int x1), some (.int x2), some (.int x3), none] [] h := z_bq (v_X12 z_puC (vP_X12_lies z_puC) hPu) hd_X12_lies 38 hT
theorem en_X12_areInLineOn {pu : Nat → Option ((List Value → z_H → Prop) × (List Value → z_H → Int32))} {G : z_G} {d : Nat} {r : z_Res} {h : z_H} {x0 : Nat} {x1 : Int32} {x2 : Int32} {x3 : Int32} (hJ : z_J G d (m_X12_areInLineOn pu) r 0 [some (.ref x0), some (.int x1), some (.int x2), some (.int x3), none] [] h) : z_Ev G d k_X12_areInLineOn [.ref x0, .int x1, .int x2, .int x3] h r := z_enter (μ := m_X12_areInLineOn pu) rfl (by decide) rfl rfl (fun q => by cases q) (Nat.le_of_ble_eq_true rfl) hJ
def hd_X12_areInLineOn : Nat → Option (List Bool) := (fun k => none)
set_option maxRecDepth 20000 in
theorem b_X12_areInLineOn_0 {G : z_G} {d : Nat} {r : z_Res} (hPu : z_PuV G d (t_X12 z_puC)) {h : z_H} {x0 : Nat} {x1 : Int32} {x2 : Int32} {x3 : Int32} (hT : (z_kd h x0 = 28 ∧ (if (z_oi h x0 38) = (nI 0) then (z_kd h x0 = 28 ∧ (z_rc (z_or h x0 34) False (fun x_1 => (z_kd h x_1 = 1 ∧ vp_in x1 (z_ln h x_1) ∧ (z_kd h x0 = 28 ∧ (z_rc (z_or h x0 35) False (fun x_2 => (z_kd h x_2 = 1 ∧ vp_in x1 (z_ln h x_2) ∧ (z_kd h x0 = 28 ∧ (z_rc (z_or h x0 34) False (fun x_3 => (z_kd h x_3 = 1 ∧ vp_in x2 (z_ln h x_3) ∧ (z_kd h x0 = 28 ∧ (z_rc (z_or h x0 35) False (fun x_4 => (z_kd h x_4 = 1 ∧ vp_in x2 (z_ln h x_4) ∧ (z_kd h x0 = 28 ∧ (z_rc (z_or h x0 34) False (fun x_5 => (z_kd h x_5 = 1 ∧ vp_in x3 (z_ln h x_5) ∧ (z_kd h x0 = 28 ∧ (z_rc (z_or h x0 35) False (fun x_6 => (z_kd h x_6 = 1 ∧ vp_in x3 (z_ln h x_6) ∧ (s_X12_areInLine (z_ai h x_1 (Int32.toNatClampNeg x1)) (z_ai h x_2 (Int32.toNatClampNeg x1)) (z_ai h x_3 (Int32.toNatClampNeg x2)) (z_ai h x_4 (Int32.toNatClampNeg x2)) (z_ai h x_5 (Int32.toNatClampNeg x3)) (z_ai h x_6 (Int32.toNatClampNeg x3)) h ∧ (z_bz (f_X12_areInLine (z_ai h x_1 (Int32.toNatClampNeg x1)) (z_ai h x_2 (Int32.toNatClampNeg x1)) (z_ai h x_3 (Int32.toNatClampNeg x2)) (z_ai h x_4 (Int32.toNatClampNeg x2)) (z_ai h x_5 (Int32.toNatClampNeg x3)) (z_ai h x_6 (Int32.toNatClampNeg x3)) h) ∧ r = (.inl (some (.int (f_X12_areInLine (z_ai h x_1 (Int32.toNatClampNeg x1)) (z_ai h x_2 (Int32.toNatClampNeg x1)) (z_ai h x_3 (Int32.toNatClampNeg x2)) (z_ai h x_4 (Int32.toNatClampNeg x2)) (z_ai h x_5 (Int32.toNatClampNeg x3)) (z_ai h x_6 (Int32.toNatClampNeg x3)) h))), h))))))))))))))))))))))))))) else (z_kd h x0 = 28 ∧ (z_rc (z_or h x0 34) False (fun x_7 => (z_kd h x_7 = 1 ∧ vp_in x1 (z_ln h x_7) ∧ (z_kd h x0 = 28 ∧ (z_rc (z_or h x0 35) False (fun x_8 => (z_kd h x_8 = 1 ∧ vp_in x2 (z_ln h x_8) ∧ (z_kd h x0 = 28 ∧ (z_rc (z_or h x0 36) False (fun x_9 => (z_kd h x_9 = 1 ∧ vp_in x3 (z_ln h x_9) ∧ (z_kd h x0 = 28 ∧ (z_rc (z_or h x0 35) False (fun x_10 => (z_kd h x_10 = 1 ∧ vp_in x3 (z_ln h x_10) ∧ (z_kd h x0 = 28 ∧ (z_rc (z_or h x0 36) False (fun x_11 => (z_kd h x_11 = 1 ∧ vp_in x2 (z_ln h x_11) ∧ (z_kd h x0 = 28 ∧ (z_rc (z_or h x0 35) False (fun x_12 => (z_kd h x_12 = 1 ∧ vp_in x1 (z_ln h x_12) ∧ (z_kd h x0 = 28 ∧ (z_rc (z_or h x0 34) False (fun x_13 => (z_kd h x_13 = 1 ∧ vp_in x2 (z_ln h x_13) ∧ (z_kd h x0 = 28 ∧ (z_rc (z_or h x0 36) False (fun x_14 => (z_kd h x_14 = 1 ∧ vp_in x3 (z_ln h x_14) ∧ (z_kd h x0 = 28 ∧ (z_rc (z_or h x0 34) False (fun x_15 => (z_kd h x_15 = 1 ∧ vp_in x3 (z_ln h x_15) ∧ (z_kd h x0 = 28 ∧ (z_rc (z_or h x0 36) False (fun x_16 => (z_kd h x_16 = 1 ∧ vp_in x2 (z_ln h x_16) ∧ (z_kd h x0 = 28 ∧ (z_rc (z_or h x0 36) False (fun x_17 => (z_kd h x_17 = 1 ∧ vp_in x1 (z_ln h x_17) ∧ (z_kd h x0 = 28 ∧ (z_rc (z_or h x0 34) False (fun x_18 => (z_kd h x_18 = 1 ∧ vp_in x2 (z_ln h x_18) ∧ (z_kd h x0 = 28 ∧ (z_rc (z_or h x0 35) False (fun x_19 => (z_kd h x_19 = 1 ∧ vp_in x3 (z_ln h x_19) ∧ (z_kd h x0 = 28 ∧ (z_rc (z_or h x0 34) False (fun x_20 => (z_kd h x_20 = 1 ∧ vp_in x3 (z_ln h x_20) ∧ (z_kd h x0 = 28 ∧ (z_rc (z_or h x0 35) False (fun x_21 => (z_kd h x_21 = 1 ∧ vp_in x2 (z_ln h x_21) ∧ (z_kd h x0 = 28 ∧ (¬ (z_oi h x0 38) = (nI 0) ∧ (if (((((z_ai h x_7 (Int32.toNatClampNeg x1)) * (((z_ai h x_8 (Int32.toNatClampNeg x2)) * (z_ai h x_9 (Int32.toNatClampNeg x3))) - ((z_ai h x_10 (Int32.toNatClampNeg x3)) * (z_ai h x_11 (Int32.toNatClampNeg x2))))) - ((z_ai h x_12 (Int32.toNatClampNeg x1)) * (((z_ai h x_13 (Int32.toNatClampNeg x2)) * (z_ai h x_14 (Int32.toNatClampNeg x3))) - ((z_ai h x_15 (Int32.toNatClampNeg x3)) * (z_ai h x_16 (Int32.toNatClampNeg x2)))))) + ((z_ai h x_17 (Int32.toNatClampNeg x1)) * (((z_ai h x_18 (Int32.toNatClampNeg x2)) * (z_ai h x_19 (Int32.toNatClampNeg x3))) - ((z_ai h x_20 (Int32.toNatClampNeg x3)) * (z_ai h x_21 (Int32.toNatClampNeg x2)))))) - ((((z_ai h x_7 (Int32.toNatClampNeg x1)) * (((z_ai h x_8 (Int32.toNatClampNeg x2)) * (z_ai h x_9 (Int32.toNatClampNeg x3))) - ((z_ai h x_10 (Int32.toNatClampNeg x3)) * (z_ai h x_11 (Int32.toNatClampNeg x2))))) - ((z_ai h x_12 (Int32.toNatClampNeg x1)) * (((z_ai h x_13 (Int32.toNatClampNeg x2)) * (z_ai h x_14 (Int32.toNatClampNeg x3))) - ((z_ai h x_15 (Int32.toNatClampNeg x3)) * (z_ai h x_16 (Int32.toNatClampNeg x2)))))) + ((z_ai h x_17 (Int32.toNatClampNeg x1)) * (((z_ai h x_18 (Int32.toNatClampNeg x2)) * (z_ai h x_19 (Int32.toNatClampNeg x3))) - ((z_ai h x_20 (Int32.toNatClampNeg x3)) * (z_ai h x_21 (Int32.toNatClampNeg x2)))))) / (z_oi h x0 38) * (z_oi h x0 38)) = (nI 0) then (z_bz (nI 1) ∧ r = (.inl (some (.int (nI 1))), h)) else (z_bz (nI 0) ∧ r = (.inl (some (.int (nI 0))), h)))))))))))))))))))))))))))))))))))))))))))))))))))))))))))))))))))) : (z_J G (d + 1) (m_X12_areInLineOn z_puC) r) 0 [some (.ref x0), some (.int x1), some (.int x2), some (.int x3), none] [] h := z_bq (v_X12 z_puC (vP_X12_areInLineOn z_puC) hPu) hd_X12_areInLineOn 88 hT
theorem en_X12_fitsWith {pu : Nat → Option ((List Value → z_H → Prop) × (List Value → z_H → Int32))} {G : z_G} {d : Nat} {r : z_Res} {h : z_H} {x0 : Nat} {x1 : Int32} (hJ : z_J G d (m_X12_fitsWith pu) r 0 [some (.ref x0), some (.int x1), none, none] [] h) : z_Ev G d k_X12_fitsWith [.ref x0, .int x1] h r := z_enter (μ := m_X12_fitsWith pu) rfl (by decide) rfl rfl (fun q => by cases q) (Nat.le_of_ble_eq_true rfl) hJ
def hd_X12_fitsWith : Nat → Option (List Bool) := (fun k => (cond (Nat.blt k 96) (cond (Nat.blt k 26) (cond (Nat.beq k 2) (some [true, true, true, false]) none) (cond (Nat.beq k 26) (some [true, true, true, true]) none)) none))
set_option maxRecDepth 20000 in
theorem b_X12_fitsWith_0 {G : z_G} {d : Nat} {r : z_Res} (hPu : z_PuV G d (t_X12 z_puC)) {h : z_H} {x0 : Nat} {x1 : Int32} (hT : (z_J G (d + 1) (m_X12_fitsWith z_puC) r) 2 [some (.ref x0), some (.int x1), some (.int (nI 0)), none] [] h) : (z_J G (d + 1) (m_X12_fitsWith z_puC) r) 0 [some (.ref x0), some (.int x1), none, none] [] h := z_bq (v_X12 z_puC (vP_X12_fitsWith z_puC) hPu) hd_X12_fitsWith 5 hT
set_option maxRecDepth 20000 in
theorem b_X12_fitsWith_2 {G : z_G} {d : Nat} {r : z_Res} (hPu : z_PuV G d (t_X12 z_puC)) {h : z_H} {x0 : Nat} {x1 : Int32} {x2 : Int32} (hT : (if x2 < x1 then (z_kd h x0 = 28 ∧ (z_rc (z_or h x0 32) False (fun x_1 => (z_kd h x_1 = 1 ∧ vp_in x2 (z_ln h x_1) ∧ (z_kd h x0 = 28 ∧ (z_rc (z_or h x0 32) False (fun x_2 => (z_kd h x_2 = 1 ∧ vp_in x1 (z_ln h x_2) ∧ (if (z_ai h x_1 (Int32.toNatClampNeg x2)) = (z_ai h x_2 (Int32.toNatClampNeg x1)) then (z_bz (nI 0) ∧ r = (.inl (some (.int (nI 0))), h)) else (z_J G (d + 1) (m_X12_fitsWith z_puC) r) 26 [some (.ref x0), some (.int x1), some (.int x2), some (.int (nI 0))] [] h))))))))) else (z_bz (nI 1) ∧ r = (.inl (some (.int (nI 1))), h)))) : (z_J G (d + 1) (m_X12_fitsWith z_puC) r) 2 [some (.ref x0), some (.int x1), some (.int x2), none] [] h := z_bq (v_X12 z_puC (vP_X12_fitsWith z_puC) hPu) hd_X12_fitsWith 17 hT
set_option maxRecDepth 20000 in
theorem b_X12_fitsWith_26 {G : z_G} {d : Nat} {r : z_Res} (hPu : z_PuV G d (t_X12 z_puC)) {h : z_H} {x0 : Nat} {x1 : Int32} {x2 : Int32} {x3 : Int32} (hT : (if x3 < x2 then (z_kd h x0 = 28 ∧ (z_rc (z_or h x0 32) False (fun x_1 => (z_kd h x_1 = 1 ∧ vp_in x2 (z_ln h x_1) ∧ (z_kd h x0 = 28 ∧ (z_rc (z_or h x0 32) False (fun x_2 => (z_kd h x_2 = 1 ∧ vp_in x3 (z_ln h x_2) ∧ (z_kd h x0 = 28 ∧ (z_rc (z_or h x0 32) False (fun x_3 => (z_kd h x_3 = 1 ∧ vp_in x1 (z_ln h x_3) ∧ (z_kd h x0 = 28 ∧ ∃ x_5 h_4, z_Ev G d k_X12_areInLineOn [.ref x0, .int (z_ai h x_1 (Int32.toNatClampNeg x2)), .int (z_ai h x_2 (Int32.toNatClampNeg x3)), .int (z_ai h x_3 (Int32.toNatClampNeg x1))] h (.inl (some (.int x_5)), h_4) ∧ (z_kd h_4 x0 = 28 ∧ s_X12_lineOf x0 ((((nI 1) <<< (x2 &&& (nI 31))) ||| ((nI 1) <<< (x3 &&& (nI 31)))) ||| ((nI 1) <<< (x1 &&& (nI 31)))) h_4 ∧ (if (f_X12_lineOf x0 ((((nI 1) <<< (x2 &&& (nI 31))) ||| ((nI 1) <<< (x3 &&& (nI 31)))) ||| ((nI 1) <<< (x1 &&& (nI 31)))) h_4) = mI then (if x_5 = (nI 0) then (z_J G (d + 1) (m_X12_fitsWith z_puC) r) 26 [some (.ref x0), some (.int x1), some (.int x2), some (.int (x3 + (nI 1)))] [] h_4 else (z_bz (nI 0) ∧ r = (.inl (some (.int (nI 0))), h_4))) else (if x_5 = (nI 1) then (z_J G (d + 1) (m_X12_fitsWith z_puC) r) 26 [some (.ref x0), some (.int x1), some (.int x2), some (.int (x3 + (nI 1)))] [] h_4 else (z_bz (nI 0) ∧ r = (.inl (some (.int (nI 0))), h_4)))))))))))))))))) else (z_J G (d + 1) (m_X12_fitsWith z_puC) r) 2 [some (.ref x0), some (.int x1), some (.int (x2 + (nI 1))), none] [] h)) : (z_J G (d + 1) (m_X12_fitsWith z_puC) r) 26 [some (.ref x0), some (.int x1), some (.int x2), some (.int x3)] [] h := z_bq (v_X12 z_puC (vP_X12_fitsWith z_puC) hPu) hd_X12_fitsWith 40 hT
theorem en_X12_bestOf {pu : Nat → Option ((List Value → z_H → Prop) × (List Value → z_H → Int32))} {G : z_G} {d : Nat} {r : z_Res} {h : z_H} {x0 : Nat} {x1 : Int32} {x2 : Int32} (hJ : z_J G d (m_X12_bestOf pu) r 0 [some (.ref x0), some (.int x1), some (.int x2), none, none] [] h) : z_Ev G d k_X12_bestOf [.ref x0, .int x1, .int x2] h r := z_enter (μ := m_X12_bestOf pu) rfl (by decide) rfl rfl (fun q => by cases q) (Nat.le_of_ble_eq_true rfl) hJ
def hd_X12_bestOf : Nat → Option (List Bool) := (fun k => (cond (Nat.blt k 57) (cond (Nat.beq k 6) (some [true, true, true, true, true]) none) none))
set_option maxRecDepth 20000 in
theorem b_X12_bestOf_0 {G : z_G} {d : Nat} {r : z_Res} (hPu : z_PuV G d (t_X12 z_puC)) {h : z_H} {x0 : Nat} {x1 : Int32} {x2 : Int32} (hT : (z_J G (d + 1) (m_X12_bestOf z_puC) r) 6 [some (.ref x0), some (.int x1), some (.int x2), some (.int (-(nI 2))), some (.int (nI 0))] [] h) : (z_J G (d + 1) (m_X12_bestOf z_puC) r) 0 [some (.ref x0), some (.int x1), some (.int x2), none, none] [] h := z_bq (v_X12 z_puC (vP_X12_bestOf z_puC) hPu) hd_X12_bestOf 7 hT
set_option maxRecDepth 20000 in
theorem b_X12_bestOf_6 {G : z_G} {d : Nat} {r : z_Res} (hPu : z_PuV G d (t_X12 z_puC)) {h : z_H} {x0 : Nat} {x1 : Int32} {x2 : Int32} {x3 : Int32} {x4 : Int32} (hT : (z_kd h x0 = 28 ∧ s_X12_points x0 h ∧ (if x4 < (f_X12_points x0 h) then (if (((x1 ||| x2) >>> (x4 &&& (nI 31))) &&& (nI 1)) = (nI 0) then (z_kd h x0 = 28 ∧ ∃ x_2 h_1, z_Ev G d k_X12_movesTo [.ref x0, .int x1, .int x2, .int x4] h (.inl (some (.int x_2)), h_1) ∧ (s_J9_max_7cf53 x3 x_2 h_1 ∧ (z_J G (d + 1) (m_X12_bestOf z_puC) r) 6 [some (.ref x0), some (.int x1), some (.int x2), some (.int (f_J9_max_7cf53 x3 x_2 h_1)), some (.int (x4 + (nI 1)))] [] h_1)) else (z_J G (d + 1) (m_X12_bestOf z_puC) r) 6 [some (.ref x0), some (.int x1), some (.int x2), some (.int x3), some (.int (x4 + (nI 1)))] [] h) else (if x3 = (-(nI 2)) then r = (.inl (some (.int (nI 0))), h) else r = (.inl (some (.int x3)), h))))) : (z_J G (d + 1) (m_X12_bestOf z_puC) r) 6 [some (.ref x0), some (.int x1), some (.int x2), some (.int x3), some (.int x4)] [] h := z_bq (v_X12 z_puC (vP_X12_bestOf z_puC) hPu) hd_X12_bestOf 25 hT
theorem en_X12_far {pu : Nat → Option ((List Value → z_H → Prop) × (List Value → z_H → Int32))} {G : z_G} {d : Nat} {r : z_Res} {h : z_H} {x0 : Nat} {x1 : Int32} {x2 : Int32} (hJ : z_J G d (m_X12_far pu) r 0 [some (.ref x0), some (.int x1), some (.int x2), none, none, none, none] [] h) : z_Ev G d k_X12_far [.ref x0, .int x1, .int x2] h r := z_enter (μ := m_X12_far pu) rfl (by decide) rfl rfl (fun q => by cases q) (Nat.le_of_ble_eq_true rfl) hJ
def hd_X12_far : Nat → Option (List Bool) := (fun k => (cond (Nat.blt k 109) (cond (Nat.blt k 61) (cond (Nat.beq k 34) (some [true, false, true, true, true, false, false]) none) (cond (Nat.beq k 61) (some [true, false, true, true, true, true, true]) none)) none))
set_option maxRecDepth 20000 in
theorem b_X12_far_0 {G : z_G} {d : Nat} {r : z_Res} (hPu : z_PuV G d (t_X12 z_puC)) {h : z_H} {x0 : Nat} {x1 : Int32} {x2 : Int32} (hT : (z_kd h x0 = 28 ∧ (z_kd (z_poi h x0 0 (nI 0)) x0 = 28 ∧ s_X12_isPoint x0 x1 (z_poi h x0 0 (nI 0)) ∧ (if (f_X12_isPoint x0 x1 (z_poi h x0 0 (nI 0))) = (nI 0) then (z_kd (z_poi h x0 0 (nI 0)) x0 = 28 ∧ ∃ x_2 h_1, z_Ev G d k_X12_fail [.ref x0, .int (nI 1)] (z_poi h x0 0 (nI 0)) (.inl (some (.int x_2)), h_1) ∧ r = (.inl (some (.int x_2)), h_1)) else (z_kd (z_poi h x0 0 (nI 0)) x0 = 28 ∧ s_X12_isPoint x0 x2 (z_poi h x0 0 (nI 0)) ∧ (if (f_X12_isPoint x0 x2 (z_poi h x0 0 (nI 0))) = (nI 0) then (z_kd (z_poi h x0 0 (nI 0)) x0 = 28 ∧ ∃ x_4 h_3, z_Ev G d k_X12_fail [.ref x0, .int (nI 1)] (z_poi h x0 0 (nI 0)) (.inl (some (.int x_4)), h_3) ∧ r = (.inl (some (.int x_4)), h_3)) else (z_J G (d + 1) (m_X12_far z_puC) r) 34 [some (.ref x0), none, some (.int x2), some (.int ((nI 1) <<< (x1 &&& (nI 31)))), some (.int (nI 0)), none, none] [] (z_poi h x0 0 (nI 0)))))))) : (z_J G (d + 1) (m_X12_far z_puC) r) 0 [some (.ref x0), some (.int x1), some (.int x2), none, none, none, none] [] h := z_bq (v_X12 z_puC (vP_X12_far z_puC) hPu) hd_X12_far 20 hT
set_option maxRecDepth 20000 in
theorem b_X12_far_34 {G : z_G} {d : Nat} {r : z_Res} (hPu : z_PuV G d (t_X12 z_puC)) {h : z_H} {x0 : Nat} {x2 : Int32} {x3 : Int32} {x4 : Int32} (hT : (z_kd h x0 = 28 ∧ s_X12_points x0 h ∧ (if (f_X12_points x0 h) < x4 then r = (.inl (some (.int mI)), h) else (if ((x3 >>> (x2 &&& (nI 31))) &&& (nI 1)) = (nI 1) then r = (.inl (some (.int x4)), h) else (z_J G (d + 1) (m_X12_far z_puC) r) 61 [some (.ref x0), none, some (.int x2), some (.int x3), some (.int x4), some (.int x3), some (.int (nI 0))] [] h)))) : (z_J G (d + 1) (m_X12_far z_puC) r) 34 [some (.ref x0), none, some (.int x2), some (.int x3), some (.int x4), none, none] [] h := z_bq (v_X12 z_puC (vP_X12_far z_puC) hPu) hd_X12_far 18 hT
set_option maxRecDepth 20000 in
theorem b_X12_far_61 {G : z_G} {d : Nat} {r : z_Res} (hPu : z_PuV G d (t_X12 z_puC)) {h : z_H} {x0 : Nat} {x2 : Int32} {x3 : Int32} {x4 : Int32} {x5 : Int32} {x6 : Int32} (hT : (z_kd h x0 = 28 ∧ s_X12_lines x0 h ∧ (if x6 < (f_X12_lines x0 h) then (z_kd h x0 = 28 ∧ s_X12_lineAt x0 x6 h ∧ (if ((f_X12_lineAt x0 x6 h) &&& x3) = (nI 0) then (z_J G (d + 1) (m_X12_far z_puC) r) 61 [some (.ref x0), none, some (.int x2), some (.int x3), some (.int x4), some (.int x5), some (.int (x6 + (nI 1)))] [] h else (z_kd h x0 = 28 ∧ s_X12_lineAt x0 x6 h ∧ (z_J G (d + 1) (m_X12_far z_puC) r) 61 [some (.ref x0), none, some (.int x2), some (.int x3), some (.int x4), some (.int (x5 ||| (f_X12_lineAt x0 x6 h))), some (.int (x6 + (nI 1)))] [] h))) else (z_J G (d + 1) (m_X12_far z_puC) r) 34 [some (.ref x0), none, some (.int x2), some (.int x5), some (.int (x4 + (nI 1))), none, none] [] h))) : (z_J G (d + 1) (m_X12_far z_puC) r) 61 [some (.ref x0), none, some (.int x2), some (.int x3), some (.int x4), some (.int x5), some (.int x6)] [] h := z_bq (v_X12 z_puC (vP_X12_far z_puC) hPu) hd_X12_far 21 hT
/-! more of the reference's questions -/
def c_thr (O : Nat → Int32) (n x : Nat) : Nat := it (fun p t => if O p = nI x then p else t) n n
def c_duaF (S : Sc) (O : Nat → Int32) (N : Nat → Nat) (l u : Nat) : Option Nat := if c_thr O S.1 (c_nm N (S.2.2 l)) = S.1 ∨ u.testBit (c_thr O S.1 (c_nm N (S.2.2 l))) = true then none else some (u ||| 2 ^ c_thr O S.1 (c_nm N (S.2.2 l)))
def c_dua (S : Sc) (O : Nat → Int32) (N : Nat → Nat) : Bool := (itx (c_duaF S O N) 0 S.2.1).isSome
def c_pol (S : Sc) (N : Nat → Nat) : Bool := !c_any (fun p => c_any (fun q => decide ((S.2.2 (N q)).testBit p ≠ (S.2.2 (N p)).testBit q)) p) S.1
def c_shR (R : Nat → Int32) (s : Nat) : Nat → Int32 := fun k => R (31 + 31 * s + k)
def c_lieF (S T : Sc) (N : Nat → Nat) (l u : Nat) : Option Nat := if c_of S (c_nm N (T.2.2 l)) < S.2.1 ∧ u.testBit (c_of S (c_nm N (T.2.2 l))) = false then some (u ||| 2 ^ c_of S (c_nm N (T.2.2 l))) else none
def c_lies (S T : Sc) (N : Nat → Nat) : Bool := (itx (c_lieF S T N) 0 T.2.1).isSome
def c_span (X Y Z : Nat → Int32) (a b c : Nat) : Int32 := X a * (Y b * Z c - Y c * Z b) - Y a * (X b * Z c - X c * Z b) + Z a * (X b * Y c - X c * Y b)
def c_ilo (md : Int32) (X Y Z : Nat → Int32) (a b c : Nat) : Bool := if md = nI 0 then decide ((X b - X a) * (Y c - Y a) = (X c - X a) * (Y b - Y a)) else decide (c_span X Y Z a b c - c_span X Y Z a b c / md * md = nI 0)
def c_fw (S : Sc) (md : Int32) (X Y Z : Nat → Int32) (P : Nat → Nat) (k : Nat) : Bool := !c_any (fun a => decide (P a = P k) || c_any (fun b => c_ilo md X Y Z (P a) (P b) (P k) != decide (c_of S (2 ^ a ||| 2 ^ b ||| 2 ^ k) < S.2.1)) a) k
def c_boF (S : Sc) (V : Nat → Int32) (a b : Nat) : Nat → Int32 → Int32 := fun p x => if (a ||| b).testBit p then x else if x < c_mv S V a b p then c_mv S V a b p else x
def c_bo (S : Sc) (V : Nat → Int32) (a b : Nat) : Int32 := if it (c_boF S V a b) (-nI 2) S.1 = -nI 2 then nI 0 else it (c_boF S V a b) (-nI 2) S.1
def c_rch (S : Sc) (x : Nat) : Nat := it (fun l y => if S.2.2 l &&& x = 0 then y else y ||| S.2.2 l) x S.2.1
def c_reach (S : Sc) (a : Nat) (k : Nat) : Nat := it (fun _ x => c_rch S x) (2 ^ a) k
def c_farN (S : Sc) (a b : Nat) : Int32 := if fa_first (fun k => (c_reach S a k).testBit b) (S.1 + 1) < S.1 + 1 then nI (fa_first (fun k => (c_reach S a k).testBit b) (S.1 + 1)) else -1
def c_far (S : Sc) (a b : Int32) : Int32 × Int32 := if c_in a S.1 && c_in b S.1 then (c_farN S a.toNatClampNeg b.toNatClampNeg, 0) else (0, 1)
section CM
variable {G : z_G} {d : Nat} {h : z_H} {M : Nat} {S : Sc}
theorem e_canAdd (hA : z_at M h S) (a : Int32) : z_Ev G (d + 4) k_X12_canAdd [.ref M, .int a] h (.inl (some (.int (nI (c_canAdd S a).toNat))), h) := by
  have hn := t_n8 hA
  have hm := t_m12 hA
  have hp := n_p8 hn.2
  have e1 : f_X12_isIn a 0 (((1 : Int32) <<< (f_X12_points M h &&& 31)) - 1) h = nI (c_in a (2 ^ S.1)).toNat := by
    rw [t_n hA, n_one (by omega)]; exact f_isIn_c a (by omega) h
  refine en_X12_canAdd (b_X12_canAdd_0 z_puCV ?_)
  rw [e1]
  refine ⟨t_kd hA, hA.1, trivial, ?_⟩
  unfold c_canAdd
  cases hc : c_in a (2 ^ S.1)
  · rw [if_pos (by decide)]; exact ⟨Or.inl rfl, rfl⟩
  · obtain ⟨q, hq, hq2, rfl⟩ := c_in_t hc
    have p1 := n_pc12 q (by omega)
    have hsh : s_X12_sharesTwo (M + 1) (nI q) h := ⟨⟨(sh_now hA.1).2.1, by rw [(sh_now hA.1).2.2]; omega, by rw [(sh_now hA.1).2.2]; omega⟩, hA.2.1, q, by omega, rfl⟩
    have e2 : f_X12_sharesTwo (M + 1) (nI q) h = nI (c_two S q).toNat := by
      unfold f_X12_sharesTwo; rw [nI_clamp hq2, hA.2.2]
    have e3 : f_X12_isIn (nI (n_pc q)) 2 4 h = nI (decide (2 ≤ n_pc q ∧ n_pc q ≤ 4)).toNat := by
      unfold f_X12_isIn
      simp (disch := omega) only [l0, l1, l2, l3, l4, l5, l6, l7, l8, l9, l10, l11, l12, l13, l14, l15, l16, l18, l20, l22, l24, l30, l31, l39, l40, l48, l60, l154, l255, l256, l400, l2000, l6160, l14000, lm1, q_lt, q_le, q_eq, q_mI, q_mI', q_ltmI, q_in, q_bz0, q_bz1, q_bzn0, q_bzn1, q_bzb, q_bn0, q_bn1, q_shr, q_shl, q_1s, b_one, b_two, fa_and, fa_or, nI_add, n_mul, nI_clamp, z_rcs, true_and, and_true, if_true, if_false]
      by_cases c1 : n_pc q < 2
      · rw [if_pos c1, decide_eq_false (by omega)]; rfl
      · rw [if_neg c1]
        by_cases c2 : 4 < n_pc q
        · rw [if_pos c2, decide_eq_false (by omega)]; rfl
        · rw [if_neg c2, decide_eq_true (by omega)]; rfl
    rw [if_neg (by decide), t_bits (by omega), e3, (sh_now hA.1).1, z_rcs, e2, nI_clamp hq2]
    refine ⟨trivial, trivial, ?_⟩
    by_cases c3 : 2 ≤ n_pc q ∧ n_pc q ≤ 4
    · rw [decide_eq_true c3, if_neg (by decide)]
      refine ⟨t_kd hA, hsh, ?_⟩
      cases c_two S q
      · simp (disch := omega) only [l0, l1, l2, l3, l4, l5, l6, l7, l8, l9, l10, l11, l12, l13, l14, l15, l16, l18, l20, l22, l24, l30, l31, l39, l40, l48, l60, l154, l255, l256, l400, l2000, l6160, l14000, lm1, q_lt, q_le, q_eq, q_mI, q_mI', q_ltmI, q_in, q_bz0, q_bz1, q_bzn0, q_bzn1, q_bzb, q_bn0, q_bn1, q_shr, q_shl, q_1s, b_one, b_two, fa_and, fa_or, nI_add, n_mul, nI_clamp, z_rcs, true_and, and_true, if_true, if_false, t_kd hA, t_slines hA, t_spoints hA, t_m hA, t_n hA, t_Ln hA, t_sL hA, t_on hA, t_son hA, t_of hA, t_sof hA, t_has hA, t_shas hA, t_sbits, t_bits, t_stz, t_tz]
        by_cases c5 : S.2.1 < 12
        · rw [if_pos c5, decide_eq_true c5]; rfl
        · rw [if_neg c5, decide_eq_false c5]; rfl
      · rw [if_neg (by decide)]; exact ⟨Or.inl rfl, rfl⟩
    · rw [decide_eq_false c3, if_pos (by decide)]; exact ⟨Or.inl rfl, rfl⟩
theorem e_isPolarity (hA : z_at M h S) (hN : r_nm (z_ai h (M + 5))) (hN2 : ∀ i, i < S.1 → r_N (z_ai h (M + 5)) i < S.2.1) : z_Ev G (d + 4) k_X12_isPolarity [.ref M] h (.inl (some (.int (nI (c_pol S (r_N (z_ai h (M + 5)))).toNat))), h) := by
  have hn := t_n8 hA
  have hm := t_m12 hA
  refine en_X12_isPolarity (b_X12_isPolarity_0 z_puCV ?_)
  refine z_fnd (fun k => [some (.ref M), some (.int (nI k)), none]) (fun p => c_any (fun q => decide ((S.2.2 (r_N (z_ai h (M + 5)) q)).testBit p ≠ (S.2.2 (r_N (z_ai h (M + 5)) p)).testBit q)) p) S.1 ?_ ?_
  · intro p hp hno hJ
    refine b_X12_isPolarity_2 z_puCV ?_
    simp (disch := omega) only [l0, l1, l2, l3, l4, l5, l6, l7, l8, l9, l10, l11, l12, l13, l14, l15, l16, l18, l20, l22, l24, l30, l31, l39, l40, l48, l60, l154, l255, l256, l400, l2000, l6160, l14000, lm1, q_lt, q_le, q_eq, q_mI, q_mI', q_ltmI, q_in, q_bz0, q_bz1, q_bzn0, q_bzn1, q_bzb, q_bn0, q_bn1, q_shr, q_shl, q_1s, b_one, b_two, fa_and, fa_or, nI_add, n_mul, nI_clamp, z_rcs, true_and, and_true, if_true, if_false, t_kd hA, t_slines hA, t_spoints hA, t_m hA, t_n hA, t_Ln hA, t_sL hA, t_on hA, t_son hA, t_of hA, t_sof hA, t_has hA, t_shas hA, t_sbits, t_bits, t_stz, t_tz, hp]
    refine z_fnd (fun k => [some (.ref M), some (.int (nI p)), some (.int (nI k))]) (fun q => decide ((S.2.2 (r_N (z_ai h (M + 5)) q)).testBit p ≠ (S.2.2 (r_N (z_ai h (M + 5)) p)).testBit q)) p ?_ ?_
    · intro q hq hno2 hJ2
      have a1 := hN p (by omega)
      have a2 := hN q (by omega)
      have b1 := hN2 p (by omega)
      have b2 := hN2 q (by omega)
      have c1 := t_L256 hA (r_N (z_ai h (M + 5)) p)
      have c2 := t_L256 hA (r_N (z_ai h (M + 5)) q)
      refine b_X12_isPolarity_12 z_puCV ?_
      simp (disch := omega) only [l0, l1, l2, l3, l4, l5, l6, l7, l8, l9, l10, l11, l12, l13, l14, l15, l16, l18, l20, l22, l24, l30, l31, l39, l40, l48, l60, l154, l255, l256, l400, l2000, l6160, l14000, lm1, q_lt, q_le, q_eq, q_mI, q_mI', q_ltmI, q_in, q_bz0, q_bz1, q_bzn0, q_bzn1, q_bzb, q_bn0, q_bn1, q_shr, q_shl, q_1s, b_one, b_two, fa_and, fa_or, nI_add, n_mul, nI_clamp, z_rcs, true_and, and_true, if_true, if_false, t_kd hA, t_slines hA, t_spoints hA, t_m hA, t_n hA, t_Ln hA, t_sL hA, t_on hA, t_son hA, t_of hA, t_sof hA, t_has hA, t_shas hA, t_sbits, t_bits, t_stz, t_tz, hq, (sh_naming hA.1).1, (sh_naming hA.1).2.1, (sh_naming hA.1).2.2, a1.1, a2.1]
      by_cases hc : (S.2.2 (r_N (z_ai h (M + 5)) q)).testBit p = (S.2.2 (r_N (z_ai h (M + 5)) p)).testBit q
      · rw [if_pos (by rw [hc])]
        exact hJ2 (by simp [hc])
      · rw [if_neg (fun e => hc (by revert e; cases (S.2.2 (r_N (z_ai h (M + 5)) q)).testBit p <;> cases (S.2.2 (r_N (z_ai h (M + 5)) p)).testBit q <;> decide))]
        unfold c_pol
        rw [any_t (p := fun p => c_any (fun q => decide ((S.2.2 (r_N (z_ai h (M + 5)) q)).testBit p ≠ (S.2.2 (r_N (z_ai h (M + 5)) p)).testBit q)) p) hp (any_t hq (by simp [hc]))]
        rfl
    · intro hno2
      refine b_X12_isPolarity_12 z_puCV ?_
      simp (disch := omega) only [l0, l1, l2, l3, l4, l5, l6, l7, l8, l9, l10, l11, l12, l13, l14, l15, l16, l18, l20, l22, l24, l30, l31, l39, l40, l48, l60, l154, l255, l256, l400, l2000, l6160, l14000, lm1, q_lt, q_le, q_eq, q_mI, q_mI', q_ltmI, q_in, q_bz0, q_bz1, q_bzn0, q_bzn1, q_bzb, q_bn0, q_bn1, q_shr, q_shl, q_1s, b_one, b_two, fa_and, fa_or, nI_add, n_mul, nI_clamp, z_rcs, true_and, and_true, if_true, if_false, t_kd hA, t_slines hA, t_spoints hA, t_m hA, t_n hA, t_Ln hA, t_sL hA, t_on hA, t_son hA, t_of hA, t_sof hA, t_has hA, t_shas hA, t_sbits, t_bits, t_stz, t_tz, Nat.lt_irrefl]
      exact hJ (any_f hno2)
  · intro hno
    refine b_X12_isPolarity_2 z_puCV ?_
    simp (disch := omega) only [l0, l1, l2, l3, l4, l5, l6, l7, l8, l9, l10, l11, l12, l13, l14, l15, l16, l18, l20, l22, l24, l30, l31, l39, l40, l48, l60, l154, l255, l256, l400, l2000, l6160, l14000, lm1, q_lt, q_le, q_eq, q_mI, q_mI', q_ltmI, q_in, q_bz0, q_bz1, q_bzn0, q_bzn1, q_bzb, q_bn0, q_bn1, q_shr, q_shl, q_1s, b_one, b_two, fa_and, fa_or, nI_add, n_mul, nI_clamp, z_rcs, true_and, and_true, if_true, if_false, t_kd hA, t_slines hA, t_spoints hA, t_m hA, t_n hA, t_Ln hA, t_sL hA, t_on hA, t_son hA, t_of hA, t_sof hA, t_has hA, t_shas hA, t_sbits, t_bits, t_stz, t_tz, Nat.lt_irrefl]
    unfold c_pol
    rw [any_f hno]
    rfl
theorem c_thr_le (O : Nat → Int32) (n x : Nat) : c_thr O n x ≤ n := by
  unfold c_thr
  exact it_bdm (P := fun t => t ≤ n) (Nat.le_refl n) (fun k x hk hx => by split <;> omega) n (Nat.le_refl n)
theorem l_dua (hA : z_at M h S) (hN : r_nm (z_ai h (M + 5))) {l u : Nat} (hl : l < S.2.1) (hu : u < 256) (r : z_Res) : True ∧ ((if c_thr (z_ai h (M + 9)) S.1 (c_nm (r_N (z_ai h (M + 5))) (S.2.2 l)) = S.1 ∨ u.testBit (c_thr (z_ai h (M + 9)) S.1 (c_nm (r_N (z_ai h (M + 5))) (S.2.2 l))) = true then r = (.inl (some (.int (nI 0))), h) else z_J G (d + 4) (m_X12_isDuality z_puC) r 4 [some (.ref M), some (.int (nI (u ||| 2 ^ c_thr (z_ai h (M + 9)) S.1 (c_nm (r_N (z_ai h (M + 5))) (S.2.2 l))))), some (.int (nI (l + 1))), none, none, none] [] h) → z_J G (d + 4) (m_X12_isDuality z_puC) r 4 [some (.ref M), some (.int (nI u)), some (.int (nI l)), none, none, none] [] h) := by
  have hn := t_n8 hA
  have hm := t_m12 hA
  have hL := t_L256 hA l
  have hx := c_nm_lt (fun i hi => (hN i hi).2) (S.2.2 l)
  have hle := c_thr_le (z_ai h (M + 9)) S.1 (c_nm (r_N (z_ai h (M + 5))) (S.2.2 l))
  refine ⟨trivial, fun hR => b_X12_isDuality_4 z_puCV ?_⟩
  simp (disch := omega) only [l0, l1, l2, l3, l4, l5, l6, l7, l8, l9, l10, l11, l12, l13, l14, l15, l16, l18, l20, l22, l24, l30, l31, l39, l40, l48, l60, l154, l255, l256, l400, l2000, l6160, l14000, lm1, q_lt, q_le, q_eq, q_mI, q_mI', q_ltmI, q_in, q_bz0, q_bz1, q_bzn0, q_bzn1, q_bzb, q_bn0, q_bn1, q_shr, q_shl, q_1s, b_one, b_two, fa_and, fa_or, nI_add, n_mul, nI_clamp, z_rcs, true_and, and_true, if_true, if_false, t_kd hA, t_slines hA, t_spoints hA, t_m hA, t_n hA, t_Ln hA, t_sL hA, t_on hA, t_son hA, t_of hA, t_sof hA, t_has hA, t_shas hA, t_sbits, t_bits, t_stz, t_tz, hl, t_snm hA hN, t_nm]
  have key := z_forI (G := G) (d := d + 4) (μ := m_X12_isDuality z_puC) (r := r) (pc := 28) (fun p t => [some (.ref M), some (.int (nI u)), some (.int (nI l)), some (.int (nI (c_nm (r_N (z_ai h (M + 5))) (S.2.2 l)))), some (.int (if t = S.1 then -1 else nI t)), some (.int (nI p))]) (fun _ _ => h) (fun _ t => t ≤ S.1) (fun p t => if z_ai h (M + 9) p = nI (c_nm (r_N (z_ai h (M + 5))) (S.2.2 l)) then p else t) S.1 S.1 (Nat.le_refl _) ?_ ?_
  · rw [if_pos rfl] at key; exact key
  · intro p t hp ht
    refine ⟨by split <;> omega, fun hJ => b_X12_isDuality_28 z_puCV ?_⟩
    simp (disch := omega) only [l0, l1, l2, l3, l4, l5, l6, l7, l8, l9, l10, l11, l12, l13, l14, l15, l16, l18, l20, l22, l24, l30, l31, l39, l40, l48, l60, l154, l255, l256, l400, l2000, l6160, l14000, lm1, q_lt, q_le, q_eq, q_mI, q_mI', q_ltmI, q_in, q_bz0, q_bz1, q_bzn0, q_bzn1, q_bzb, q_bn0, q_bn1, q_shr, q_shl, q_1s, b_one, b_two, fa_and, fa_or, nI_add, n_mul, nI_clamp, z_rcs, true_and, and_true, if_true, if_false, t_kd hA, t_slines hA, t_spoints hA, t_m hA, t_n hA, t_Ln hA, t_sL hA, t_on hA, t_son hA, t_of hA, t_sof hA, t_has hA, t_shas hA, t_sbits, t_bits, t_stz, t_tz, hp, (sh_on hA.1).1, (sh_on hA.1).2.1, (sh_on hA.1).2.2]
    by_cases e : z_ai h (M + 9) p = nI (c_nm (r_N (z_ai h (M + 5))) (S.2.2 l))
    · rw [if_pos e] at hJ ⊢
      rw [if_neg (show ¬ p = S.1 by omega)] at hJ
      exact hJ
    · rw [if_neg e] at hJ ⊢
      exact hJ
  · intro _
    refine b_X12_isDuality_28 z_puCV ?_
    simp (disch := omega) only [l0, l1, l2, l3, l4, l5, l6, l7, l8, l9, l10, l11, l12, l13, l14, l15, l16, l18, l20, l22, l24, l30, l31, l39, l40, l48, l60, l154, l255, l256, l400, l2000, l6160, l14000, lm1, q_lt, q_le, q_eq, q_mI, q_mI', q_ltmI, q_in, q_bz0, q_bz1, q_bzn0, q_bzn1, q_bzb, q_bn0, q_bn1, q_shr, q_shl, q_1s, b_one, b_two, fa_and, fa_or, nI_add, n_mul, nI_clamp, z_rcs, true_and, and_true, if_true, if_false, t_kd hA, t_slines hA, t_spoints hA, t_m hA, t_n hA, t_Ln hA, t_sL hA, t_on hA, t_son hA, t_of hA, t_sof hA, t_has hA, t_shas hA, t_sbits, t_bits, t_stz, t_tz, Nat.lt_irrefl]
    unfold c_thr at hR hle
    revert hR hle
    generalize it (fun p t => if z_ai h (M + 9) p = nI (c_nm (r_N (z_ai h (M + 5))) (S.2.2 l)) then p else t) S.1 S.1 = t
    intro hle' hR'
    by_cases e : t = S.1
    · rw [if_pos (Or.inl e)] at hR'
      rw [if_pos e, if_pos rfl]; exact hR'
    · simp (disch := omega) only [l0, l1, l2, l3, l4, l5, l6, l7, l8, l9, l10, l11, l12, l13, l14, l15, l16, l18, l20, l22, l24, l30, l31, l39, l40, l48, l60, l154, l255, l256, l400, l2000, l6160, l14000, lm1, q_lt, q_le, q_eq, q_mI, q_mI', q_ltmI, q_in, q_bz0, q_bz1, q_bzn0, q_bzn1, q_bzb, q_bn0, q_bn1, q_shr, q_shl, q_1s, b_one, b_two, fa_and, fa_or, nI_add, n_mul, nI_clamp, z_rcs, true_and, and_true, if_true, if_false, e]
      cases hb : u.testBit t
      · rw [if_neg (show ¬ (t = S.1 ∨ u.testBit t = true) from fun q => by rcases q with q | q; exact e q; rw [hb] at q; cases q)] at hR'
        rw [if_neg (by decide)]
        exact hR'
      · rw [if_pos (Or.inr hb)] at hR'
        rw [if_pos rfl]
        exact hR'
theorem l_lie (hA : z_at M h S) (hN : r_nm (z_ai h (M + 5))) {s : Nat} (hs : s < 4) {T : Sc} (hT : r_is (c_shR (z_ai h (M + 1)) s) T) {l u : Nat} (hl : l < T.2.1) (hu : u < 4096) (r : z_Res) (hR : if c_of S (c_nm (r_N (z_ai h (M + 5))) (T.2.2 l)) < S.2.1 ∧ u.testBit (c_of S (c_nm (r_N (z_ai h (M + 5))) (T.2.2 l))) = false then z_J G (d + 4) (m_X12_lies z_puC) r 4 [some (.ref M), some (.int (nI s)), some (.int (nI (u ||| 2 ^ c_of S (c_nm (r_N (z_ai h (M + 5))) (T.2.2 l))))), some (.int (nI (l + 1))), none] [] h else r = (.inl (some (.int (nI 0))), h)) : z_J G (d + 4) (m_X12_lies z_puC) r 4 [some (.ref M), some (.int (nI s)), some (.int (nI u)), some (.int (nI l)), none] [] h := by
  have hn := t_n8 hA
  have hm := t_m12 hA
  have hTm := hT.2.2.2.1
  have hTl := hT.2.2.2.2 l hl
  have hx := c_nm_lt (fun i hi => (hN i hi).2) (T.2.2 l)
  have o1 : f_X12_onShelf M (nI s) (nI 1) h = nI T.2.1 := by
    unfold f_X12_onShelf; rw [nI_clamp (by omega)]; exact hT.2.1
  have s1 : s_X12_onShelf M (nI s) (nI 1) h := ⟨hA.1, s, 1, hs, by omega, rfl, rfl⟩
  have o2 : f_X12_onShelf M (nI s) (nI (2 + l)) h = nI (T.2.2 l) := by
    unfold f_X12_onShelf; rw [nI_clamp (by omega), nI_clamp (by omega)]; exact hTl.1
  have s2 : s_X12_onShelf M (nI s) (nI (2 + l)) h := ⟨hA.1, s, 2 + l, hs, by omega, rfl, rfl⟩
  have hl2 := hTl.2
  refine b_X12_lies_4 z_puCV ?_
  simp (disch := omega) only [l0, l1, l2, l3, l4, l5, l6, l7, l8, l9, l10, l11, l12, l13, l14, l15, l16, l18, l20, l22, l24, l30, l31, l39, l40, l48, l60, l154, l255, l256, l400, l2000, l6160, l14000, lm1, q_lt, q_le, q_eq, q_mI, q_mI', q_ltmI, q_in, q_bz0, q_bz1, q_bzn0, q_bzn1, q_bzb, q_bn0, q_bn1, q_shr, q_shl, q_1s, b_one, b_two, fa_and, fa_or, nI_add, n_mul, nI_clamp, z_rcs, true_and, and_true, if_true, if_false, t_kd hA, t_slines hA, t_spoints hA, t_m hA, t_n hA, t_Ln hA, t_sL hA, t_on hA, t_son hA, t_of hA, t_sof hA, t_has hA, t_shas hA, t_sbits, t_bits, t_stz, t_tz, o1, s1, o2, s2, hl, t_snm hA hN, t_nm]
  by_cases hc : c_of S (c_nm (r_N (z_ai h (M + 5))) (T.2.2 l)) < S.2.1
  · simp (disch := omega) only [l0, l1, l2, l3, l4, l5, l6, l7, l8, l9, l10, l11, l12, l13, l14, l15, l16, l18, l20, l22, l24, l30, l31, l39, l40, l48, l60, l154, l255, l256, l400, l2000, l6160, l14000, lm1, q_lt, q_le, q_eq, q_mI, q_mI', q_ltmI, q_in, q_bz0, q_bz1, q_bzn0, q_bzn1, q_bzb, q_bn0, q_bn1, q_shr, q_shl, q_1s, b_one, b_two, fa_and, fa_or, nI_add, n_mul, nI_clamp, z_rcs, true_and, and_true, if_true, if_false, t_kd hA, t_slines hA, t_spoints hA, t_m hA, t_n hA, t_Ln hA, t_sL hA, t_on hA, t_son hA, t_of hA, t_sof hA, t_has hA, t_shas hA, t_sbits, t_bits, t_stz, t_tz, hc, if_pos hc]
    cases hb : u.testBit (c_of S (c_nm (r_N (z_ai h (M + 5))) (T.2.2 l)))
    · rw [if_pos ⟨hc, hb⟩] at hR
      rw [if_neg (by decide)]
      exact hR
    · rw [if_neg (fun q => by rw [hb] at q; cases q.2)] at hR
      rw [if_pos (by decide)]
      exact hR
  · rw [if_neg hc, if_pos rfl]
    rw [if_neg (fun q => hc q.1)] at hR
    exact hR
theorem e_isDuality (hA : z_at M h S) (hN : r_nm (z_ai h (M + 5))) : z_Ev G (d + 4) k_X12_isDuality [.ref M] h (.inl (some (.int (nI (c_dua S (z_ai h (M + 9)) (r_N (z_ai h (M + 5)))).toNat))), h) := by
  have hn := t_n8 hA
  have hm := t_m12 hA
  refine en_X12_isDuality (b_X12_isDuality_0 z_puCV ?_)
  refine z_forx (fun l u => [some (.ref M), some (.int (nI u)), some (.int (nI l)), none, none, none]) (fun _ _ => h) (fun _ u => u < 256) (c_duaF S (z_ai h (M + 9)) (r_N (z_ai h (M + 5)))) 0 S.2.1 (by decide) ?_ ?_ ?_
  · intro l u hl hu hf hx
    refine (l_dua hA hN hl hu _).2 ?_
    unfold c_duaF at hf
    unfold c_dua
    rw [hx]
    split at hf
    · rename_i hc
      rw [if_pos hc]; rfl
    · cases hf
  · intro l u b hl hu hf
    have hle := c_thr_le (z_ai h (M + 9)) S.1 (c_nm (r_N (z_ai h (M + 5))) (S.2.2 l))
    unfold c_duaF at hf
    split at hf
    · cases hf
    · rename_i hc
      cases hf
      refine ⟨or_lt256 hu (t_pow (by omega)), fun hJ => (l_dua hA hN hl hu _).2 ?_⟩
      rw [if_neg hc]
      exact hJ
  · intro b hb hx
    refine b_X12_isDuality_4 z_puCV ?_
    simp (disch := omega) only [l0, l1, l2, l3, l4, l5, l6, l7, l8, l9, l10, l11, l12, l13, l14, l15, l16, l18, l20, l22, l24, l30, l31, l39, l40, l48, l60, l154, l255, l256, l400, l2000, l6160, l14000, lm1, q_lt, q_le, q_eq, q_mI, q_mI', q_ltmI, q_in, q_bz0, q_bz1, q_bzn0, q_bzn1, q_bzb, q_bn0, q_bn1, q_shr, q_shl, q_1s, b_one, b_two, fa_and, fa_or, nI_add, n_mul, nI_clamp, z_rcs, true_and, and_true, if_true, if_false, t_kd hA, t_slines hA, t_spoints hA, t_m hA, t_n hA, t_Ln hA, t_sL hA, t_on hA, t_son hA, t_of hA, t_sof hA, t_has hA, t_shas hA, t_sbits, t_bits, t_stz, t_tz, Nat.lt_irrefl]
    unfold c_dua
    rw [hx]
    rfl
/-- within a shelf's scheme -/
theorem e_lies (hA : z_at M h S) (hN : r_nm (z_ai h (M + 5))) {s : Nat} (hs : s < 4) {T : Sc} (hT : r_is (c_shR (z_ai h (M + 1)) s) T) : z_Ev G (d + 4) k_X12_lies [.ref M, .int (nI s)] h (.inl (some (.int (nI (c_lies S T (r_N (z_ai h (M + 5)))).toNat))), h) := by
  have hn := t_n8 hA
  have hm := t_m12 hA
  have hTm := hT.2.2.2.1
  have o1 : f_X12_onShelf M (nI s) (nI 1) h = nI T.2.1 := by
    unfold f_X12_onShelf; rw [nI_clamp (by omega)]; exact hT.2.1
  have s1 : s_X12_onShelf M (nI s) (nI 1) h := ⟨hA.1, s, 1, hs, by omega, rfl, rfl⟩
  refine en_X12_lies (b_X12_lies_0 z_puCV ?_)
  refine z_forx (fun l u => [some (.ref M), some (.int (nI s)), some (.int (nI u)), some (.int (nI l)), none]) (fun _ _ => h) (fun _ u => u < 4096) (c_lieF S T (r_N (z_ai h (M + 5)))) 0 T.2.1 (by decide) ?_ ?_ ?_
  · intro l u hl hu hf hx
    refine l_lie hA hN hs hT hl hu _ ?_
    unfold c_lieF at hf
    unfold c_lies
    rw [hx]
    split at hf
    · cases hf
    · rename_i hc
      rw [if_neg hc]; rfl
  · intro l u b hl hu hf
    unfold c_lieF at hf
    split at hf
    · rename_i hc
      cases hf
      refine ⟨?_, fun hJ => l_lie hA hN hs hT hl hu _ ?_⟩
      · exact Nat.or_lt_two_pow (n := 12) hu (p_lt4096 (by omega))
      · rw [if_pos hc]; exact hJ
    · cases hf
  · intro b hb hx
    refine b_X12_lies_4 z_puCV ?_
    simp (disch := omega) only [l0, l1, l2, l3, l4, l5, l6, l7, l8, l9, l10, l11, l12, l13, l14, l15, l16, l18, l20, l22, l24, l30, l31, l39, l40, l48, l60, l154, l255, l256, l400, l2000, l6160, l14000, lm1, q_lt, q_le, q_eq, q_mI, q_mI', q_ltmI, q_in, q_bz0, q_bz1, q_bzn0, q_bzn1, q_bzb, q_bn0, q_bn1, q_shr, q_shl, q_1s, b_one, b_two, fa_and, fa_or, nI_add, n_mul, nI_clamp, z_rcs, true_and, and_true, if_true, if_false, t_kd hA, t_slines hA, t_spoints hA, t_m hA, t_n hA, t_Ln hA, t_sL hA, t_on hA, t_son hA, t_of hA, t_sof hA, t_has hA, t_shas hA, t_sbits, t_bits, t_stz, t_tz, o1, s1, Nat.lt_irrefl]
    unfold c_lies
    rw [hx]
    rfl
theorem e_areInLineOn (hM : z_sh M h) {a b c : Nat} (ha : a < 16) (hb : b < 16) (hc : c < 16) : z_Ev G (d + 4) k_X12_areInLineOn [.ref M, .int (nI a), .int (nI b), .int (nI c)] h (.inl (some (.int (nI (c_ilo (z_oi h M 38) (z_ai h (M + 18)) (z_ai h (M + 19)) (z_ai h (M + 20)) a b c).toNat))), h) := by
  refine en_X12_areInLineOn (b_X12_areInLineOn_0 z_puCV ?_)
  simp (disch := omega) only [l0, l1, l2, l3, l4, l5, l6, l7, l8, l9, l10, l11, l12, l13, l14, l15, l16, l18, l20, l22, l24, l30, l31, l39, l40, l48, l60, l154, l255, l256, l400, l2000, l6160, l14000, lm1, q_lt, q_le, q_eq, q_mI, q_mI', q_ltmI, q_in, q_bz0, q_bz1, q_bzn0, q_bzn1, q_bzb, q_bn0, q_bn1, q_shr, q_shl, q_1s, b_one, b_two, fa_and, fa_or, nI_add, n_mul, nI_clamp, z_rcs, true_and, and_true, if_true, if_false, sh_kd hM, (sh_px hM).1, (sh_px hM).2.1, (sh_px hM).2.2, (sh_py hM).1, (sh_py hM).2.1, (sh_py hM).2.2, (sh_pz hM).1, (sh_pz hM).2.1, (sh_pz hM).2.2]
  unfold c_ilo
  by_cases h0 : z_oi h M 38 = nI 0
  · rw [if_pos h0, if_pos h0]
    refine ⟨trivial, ?_, ?_⟩
    · unfold f_X12_areInLine
      split
      · exact Or.inr rfl
      · exact Or.inl rfl
    · unfold f_X12_areInLine
      split
      · rename_i e; rw [decide_eq_true e]; rfl
      · rename_i e; rw [decide_eq_false e]; rfl
  · rw [if_neg h0, if_neg h0]
    refine ⟨h0, ?_⟩
    by_cases e : c_span (z_ai h (M + 18)) (z_ai h (M + 19)) (z_ai h (M + 20)) a b c - c_span (z_ai h (M + 18)) (z_ai h (M + 19)) (z_ai h (M + 20)) a b c / z_oi h M 38 * z_oi h M 38 = nI 0
    · rw [decide_eq_true e]
      unfold c_span at e
      rw [if_pos e]
      rfl
    · rw [decide_eq_false e]
      unfold c_span at e
      rw [if_neg e]
      rfl
theorem e_fitsWith (hA : z_at M h S) {P : Nat → Nat} {k : Nat} (hk : k < 8) (hP : ∀ i, i ≤ k → z_ai h (M + 16) i = nI (P i) ∧ P i < 16) : z_Ev G (d + 5) k_X12_fitsWith [.ref M, .int (nI k)] h (.inl (some (.int (nI (c_fw S (z_oi h M 38) (z_ai h (M + 18)) (z_ai h (M + 19)) (z_ai h (M + 20)) P k).toNat))), h) := by
  have pk := hP k (Nat.le_refl k)
  have hm := t_m12 hA
  refine en_X12_fitsWith (b_X12_fitsWith_0 z_puCV ?_)
  refine z_fnd (fun a => [some (.ref M), some (.int (nI k)), some (.int (nI a)), none]) (fun a => decide (P a = P k) || c_any (fun b => c_ilo (z_oi h M 38) (z_ai h (M + 18)) (z_ai h (M + 19)) (z_ai h (M + 20)) (P a) (P b) (P k) != decide (c_of S (2 ^ a ||| 2 ^ b ||| 2 ^ k) < S.2.1)) a) k ?_ ?_
  · intro a ha hno hJ
    have pa := hP a (by omega)
    refine b_X12_fitsWith_2 z_puCV ?_
    simp (disch := omega) only [l0, l1, l2, l3, l4, l5, l6, l7, l8, l9, l10, l11, l12, l13, l14, l15, l16, l18, l20, l22, l24, l30, l31, l39, l40, l48, l60, l154, l255, l256, l400, l2000, l6160, l14000, lm1, q_lt, q_le, q_eq, q_mI, q_mI', q_ltmI, q_in, q_bz0, q_bz1, q_bzn0, q_bzn1, q_bzb, q_bn0, q_bn1, q_shr, q_shl, q_1s, b_one, b_two, fa_and, fa_or, nI_add, n_mul, nI_clamp, z_rcs, true_and, and_true, if_true, if_false, t_kd hA, t_slines hA, t_spoints hA, t_m hA, t_n hA, t_Ln hA, t_sL hA, t_on hA, t_son hA, t_of hA, t_sof hA, t_has hA, t_shas hA, t_sbits, t_bits, t_stz, t_tz, ha, (sh_places hA.1).1, (sh_places hA.1).2.1, (sh_places hA.1).2.2, pk.1, pa.1]
    by_cases e : P a = P k
    · rw [if_pos e]
      unfold c_fw
      rw [any_t ha (by simp [e])]
      rfl
    · rw [if_neg e]
      refine z_fnd (fun b => [some (.ref M), some (.int (nI k)), some (.int (nI a)), some (.int (nI b))]) (fun b => c_ilo (z_oi h M 38) (z_ai h (M + 18)) (z_ai h (M + 19)) (z_ai h (M + 20)) (P a) (P b) (P k) != decide (c_of S (2 ^ a ||| 2 ^ b ||| 2 ^ k) < S.2.1)) a ?_ ?_
      · intro b hb hno2 hJ2
        have pb := hP b (by omega)
        have hlt := or_lt256 (or_lt256 (t_pow (show a < 8 by omega)) (t_pow (show b < 8 by omega))) (t_pow hk)
        refine b_X12_fitsWith_26 z_puCV ?_
        simp (disch := omega) only [l0, l1, l2, l3, l4, l5, l6, l7, l8, l9, l10, l11, l12, l13, l14, l15, l16, l18, l20, l22, l24, l30, l31, l39, l40, l48, l60, l154, l255, l256, l400, l2000, l6160, l14000, lm1, q_lt, q_le, q_eq, q_mI, q_mI', q_ltmI, q_in, q_bz0, q_bz1, q_bzn0, q_bzn1, q_bzb, q_bn0, q_bn1, q_shr, q_shl, q_1s, b_one, b_two, fa_and, fa_or, nI_add, n_mul, nI_clamp, z_rcs, true_and, and_true, if_true, if_false, t_kd hA, t_slines hA, t_spoints hA, t_m hA, t_n hA, t_Ln hA, t_sL hA, t_on hA, t_son hA, t_of hA, t_sof hA, t_has hA, t_shas hA, t_sbits, t_bits, t_stz, t_tz, hb, (sh_places hA.1).1, (sh_places hA.1).2.1, (sh_places hA.1).2.2, pk.1, pa.1, pb.1]
        refine ⟨_, _, e_areInLineOn hA.1 pa.2 pb.2 pk.2, ?_⟩
        revert hJ2
        have hbad : (c_ilo (z_oi h M 38) (z_ai h (M + 18)) (z_ai h (M + 19)) (z_ai h (M + 20)) (P a) (P b) (P k) != decide (c_of S (2 ^ a ||| 2 ^ b ||| 2 ^ k) < S.2.1)) = true → c_fw S (z_oi h M 38) (z_ai h (M + 18)) (z_ai h (M + 19)) (z_ai h (M + 20)) P k = false := by
          intro q
          unfold c_fw
          rw [any_t ha (by rw [any_t hb q]; simp)]
          rfl
        revert hbad
        by_cases hc : c_of S (2 ^ a ||| 2 ^ b ||| 2 ^ k) < S.2.1
        · simp (disch := omega) only [l0, l1, l2, l3, l4, l5, l6, l7, l8, l9, l10, l11, l12, l13, l14, l15, l16, l18, l20, l22, l24, l30, l31, l39, l40, l48, l60, l154, l255, l256, l400, l2000, l6160, l14000, lm1, q_lt, q_le, q_eq, q_mI, q_mI', q_ltmI, q_in, q_bz0, q_bz1, q_bzn0, q_bzn1, q_bzb, q_bn0, q_bn1, q_shr, q_shl, q_1s, b_one, b_two, fa_and, fa_or, nI_add, n_mul, nI_clamp, z_rcs, true_and, and_true, if_true, if_false, t_kd hA, t_slines hA, t_spoints hA, t_m hA, t_n hA, t_Ln hA, t_sL hA, t_on hA, t_son hA, t_of hA, t_sof hA, t_has hA, t_shas hA, t_sbits, t_bits, t_stz, t_tz, hc]
          cases c_ilo (z_oi h M 38) (z_ai h (M + 18)) (z_ai h (M + 19)) (z_ai h (M + 20)) (P a) (P b) (P k)
          · intro hbad _
            rw [hbad rfl, if_neg (by decide)]
            rfl
          · intro _ hJ2
            rw [if_pos rfl]
            exact hJ2 rfl
        · simp (disch := omega) only [l0, l1, l2, l3, l4, l5, l6, l7, l8, l9, l10, l11, l12, l13, l14, l15, l16, l18, l20, l22, l24, l30, l31, l39, l40, l48, l60, l154, l255, l256, l400, l2000, l6160, l14000, lm1, q_lt, q_le, q_eq, q_mI, q_mI', q_ltmI, q_in, q_bz0, q_bz1, q_bzn0, q_bzn1, q_bzb, q_bn0, q_bn1, q_shr, q_shl, q_1s, b_one, b_two, fa_and, fa_or, nI_add, n_mul, nI_clamp, z_rcs, true_and, and_true, if_true, if_false, t_kd hA, t_slines hA, t_spoints hA, t_m hA, t_n hA, t_Ln hA, t_sL hA, t_on hA, t_son hA, t_of hA, t_sof hA, t_has hA, t_shas hA, t_sbits, t_bits, t_stz, t_tz, hc]
          cases c_ilo (z_oi h M 38) (z_ai h (M + 18)) (z_ai h (M + 19)) (z_ai h (M + 20)) (P a) (P b) (P k)
          · intro _ hJ2
            rw [if_pos rfl]
            exact hJ2 rfl
          · intro hbad _
            rw [hbad rfl, if_neg (by decide)]
            rfl
      · intro hno2
        refine b_X12_fitsWith_26 z_puCV ?_
        simp (disch := omega) only [l0, l1, l2, l3, l4, l5, l6, l7, l8, l9, l10, l11, l12, l13, l14, l15, l16, l18, l20, l22, l24, l30, l31, l39, l40, l48, l60, l154, l255, l256, l400, l2000, l6160, l14000, lm1, q_lt, q_le, q_eq, q_mI, q_mI', q_ltmI, q_in, q_bz0, q_bz1, q_bzn0, q_bzn1, q_bzb, q_bn0, q_bn1, q_shr, q_shl, q_1s, b_one, b_two, fa_and, fa_or, nI_add, n_mul, nI_clamp, z_rcs, true_and, and_true, if_true, if_false, t_kd hA, t_slines hA, t_spoints hA, t_m hA, t_n hA, t_Ln hA, t_sL hA, t_on hA, t_son hA, t_of hA, t_sof hA, t_has hA, t_shas hA, t_sbits, t_bits, t_stz, t_tz, Nat.lt_irrefl]
        exact hJ (by rw [any_f hno2, decide_eq_false e]; rfl)
  · intro hno
    refine b_X12_fitsWith_2 z_puCV ?_
    simp (disch := omega) only [l0, l1, l2, l3, l4, l5, l6, l7, l8, l9, l10, l11, l12, l13, l14, l15, l16, l18, l20, l22, l24, l30, l31, l39, l40, l48, l60, l154, l255, l256, l400, l2000, l6160, l14000, lm1, q_lt, q_le, q_eq, q_mI, q_mI', q_ltmI, q_in, q_bz0, q_bz1, q_bzn0, q_bzn1, q_bzb, q_bn0, q_bn1, q_shr, q_shl, q_1s, b_one, b_two, fa_and, fa_or, nI_add, n_mul, nI_clamp, z_rcs, true_and, and_true, if_true, if_false, t_kd hA, t_slines hA, t_spoints hA, t_m hA, t_n hA, t_Ln hA, t_sL hA, t_on hA, t_son hA, t_of hA, t_sof hA, t_has hA, t_shas hA, t_sbits, t_bits, t_stz, t_tz, Nat.lt_irrefl]
    unfold c_fw
    rw [any_f hno]
    rfl
theorem e_bestOf (hA : z_at M h S) {a b : Nat} (ha : a < 256) (hb : b < 256) : z_Ev G (d + 5) k_X12_bestOf [.ref M, .int (nI a), .int (nI b)] h (.inl (some (.int (c_bo S (z_ai h (M + 21)) a b))), h) := by
  have hn := t_n8 hA
  have hab := or_lt256 ha hb
  refine en_X12_bestOf (b_X12_bestOf_0 z_puCV ?_)
  refine z_forI (fun l x => [some (.ref M), some (.int (nI a)), some (.int (nI b)), some (.int x), some (.int (nI l))]) (fun _ _ => h) (fun _ _ => True) (c_boF S (z_ai h (M + 21)) a b) (-nI 2) S.1 trivial ?_ ?_
  · intro p x hp _
    refine ⟨trivial, fun hJ => b_X12_bestOf_6 z_puCV ?_⟩
    simp (disch := omega) only [l0, l1, l2, l3, l4, l5, l6, l7, l8, l9, l10, l11, l12, l13, l14, l15, l16, l18, l20, l22, l24, l30, l31, l39, l40, l48, l60, l154, l255, l256, l400, l2000, l6160, l14000, lm1, q_lt, q_le, q_eq, q_mI, q_mI', q_ltmI, q_in, q_bz0, q_bz1, q_bzn0, q_bzn1, q_bzb, q_bn0, q_bn1, q_shr, q_shl, q_1s, b_one, b_two, fa_and, fa_or, nI_add, n_mul, nI_clamp, z_rcs, true_and, and_true, if_true, if_false, t_kd hA, t_slines hA, t_spoints hA, t_m hA, t_n hA, t_Ln hA, t_sL hA, t_on hA, t_son hA, t_of hA, t_sof hA, t_has hA, t_shas hA, t_sbits, t_bits, t_stz, t_tz, hp]
    unfold c_boF at hJ
    cases hc : (a ||| b).testBit p
    · rw [hc, if_neg (by decide)] at hJ
      rw [if_pos rfl]
      exact ⟨_, _, e_movesTo hA ha hb (by omega), trivial, hJ⟩
    · rw [hc, if_pos rfl] at hJ
      rw [if_neg (by decide)]
      exact hJ
  · intro _
    refine b_X12_bestOf_6 z_puCV ?_
    simp (disch := omega) only [l0, l1, l2, l3, l4, l5, l6, l7, l8, l9, l10, l11, l12, l13, l14, l15, l16, l18, l20, l22, l24, l30, l31, l39, l40, l48, l60, l154, l255, l256, l400, l2000, l6160, l14000, lm1, q_lt, q_le, q_eq, q_mI, q_mI', q_ltmI, q_in, q_bz0, q_bz1, q_bzn0, q_bzn1, q_bzb, q_bn0, q_bn1, q_shr, q_shl, q_1s, b_one, b_two, fa_and, fa_or, nI_add, n_mul, nI_clamp, z_rcs, true_and, and_true, if_true, if_false, t_kd hA, t_slines hA, t_spoints hA, t_m hA, t_n hA, t_Ln hA, t_sL hA, t_on hA, t_son hA, t_of hA, t_sof hA, t_has hA, t_shas hA, t_sbits, t_bits, t_stz, t_tz, Nat.lt_irrefl]
    unfold c_bo
    by_cases e : it (c_boF S (z_ai h (M + 21)) a b) (-nI 2) S.1 = -nI 2
    · rw [if_pos e, if_pos e]
    · rw [if_neg e, if_neg e]
theorem c_rch_lt (hA : z_at M h S) {x : Nat} (hx : x < 256) : c_rch S x < 256 :=
  it_bd (P := fun y => y < 256) hx (fun l y hy => by split; exact hy; exact or_lt256 hy (t_L256 hA l)) S.2.1
theorem e_far (hA : z_at M h S) (a b : Int32) : z_Ev G (d + 5) k_X12_far [.ref M, .int a, .int b] h (.inl (some (.int (c_far S a b).1)), z_poi h M 0 (c_far S a b).2) := by
  have hn := t_n8 hA
  have hm := t_m12 hA
  have hA0 := t_poi hA 0 (nI 0)
  refine en_X12_far (b_X12_far_0 z_puCV ?_)
  rw [t_isP hA0, t_isP hA0]
  refine ⟨t_kd hA, t_kd hA0, hA0.1, ?_⟩
  unfold c_far
  cases h1 : c_in a S.1
  · rw [if_pos (by decide), if_neg (by simp)]
    exact ⟨t_kd hA0, _, _, e_fail0 (t_kd hA) 1, rfl⟩
  · rw [if_neg (by decide)]
    refine ⟨t_kd hA0, hA0.1, ?_⟩
    cases h2 : c_in b S.1
    · rw [if_pos (by decide), if_neg (by simp)]
      exact ⟨t_kd hA0, _, _, e_fail0 (t_kd hA) 1, rfl⟩
    · rw [if_neg (by decide), if_pos (by simp)]
      obtain ⟨i, hi, hi2, rfl⟩ := c_in_t h1
      obtain ⟨j, hj, hj2, rfl⟩ := c_in_t h2
      rw [nI_clamp hi2, nI_clamp hj2, show nI 1 <<< (nI i &&& nI 31) = nI (2 ^ i) from n_one (by omega)]
      refine z_forx (α := Nat) (fun k x => [some (.ref M), none, some (.int (nI j)), some (.int (nI x)), some (.int (nI k)), none, none]) (fun _ _ => z_poi h M 0 (nI 0)) (fun k x => x < 256 ∧ x = c_reach S i k ∧ ∀ k', k' < k → (c_reach S i k').testBit j = false) (fun _ x => if x.testBit j then none else some (c_rch S x)) (2 ^ i) (S.1 + 1) ⟨t_pow (by omega), rfl, fun k' hk' => absurd hk' (Nat.not_lt_zero _)⟩ ?_ ?_ ?_
      · intro k x hk hI hf hx
        have hbt : x.testBit j = true := by
          cases hq : x.testBit j
          · rw [hq, if_neg (by decide)] at hf; cases hf
          · rfl
        have e : fa_first (fun k => (c_reach S i k).testBit j) (S.1 + 1) = k := fa_first_at hk (by rw [← hI.2.1]; exact hbt) hI.2.2
        have hx1 := hI.1
        refine b_X12_far_34 z_puCV ?_
        have hkn : ¬ S.1 < k := by omega
        simp (disch := omega) only [l0, l1, l2, l3, l4, l5, l6, l7, l8, l9, l10, l11, l12, l13, l14, l15, l16, l18, l20, l22, l24, l30, l31, l39, l40, l48, l60, l154, l255, l256, l400, l2000, l6160, l14000, lm1, q_lt, q_le, q_eq, q_mI, q_mI', q_ltmI, q_in, q_bz0, q_bz1, q_bzn0, q_bzn1, q_bzb, q_bn0, q_bn1, q_shr, q_shl, q_1s, b_one, b_two, fa_and, fa_or, nI_add, n_mul, nI_clamp, z_rcs, true_and, and_true, if_true, if_false, t_kd hA0, t_spoints hA0, t_n hA0, hkn, hbt]
        unfold c_farN
        rw [e, if_pos hk]
      · intro k x y hk hI hf
        have hbt : x.testBit j = false := by
          cases hq : x.testBit j
          · rfl
          · rw [hq, if_pos rfl] at hf; cases hf
        rw [hbt, if_neg (by decide)] at hf
        cases hf
        have hx1 := hI.1
        refine ⟨⟨c_rch_lt hA hx1, by rw [hI.2.1]; rfl, fun k' hk' => ?_⟩, fun hJ => b_X12_far_34 z_puCV ?_⟩
        · by_cases hq : k' = k
          · rw [hq, ← hI.2.1]; exact hbt
          · exact hI.2.2 k' (by omega)
        · have hkn : ¬ S.1 < k := by omega
          simp (disch := omega) only [l0, l1, l2, l3, l4, l5, l6, l7, l8, l9, l10, l11, l12, l13, l14, l15, l16, l18, l20, l22, l24, l30, l31, l39, l40, l48, l60, l154, l255, l256, l400, l2000, l6160, l14000, lm1, q_lt, q_le, q_eq, q_mI, q_mI', q_ltmI, q_in, q_bz0, q_bz1, q_bzn0, q_bzn1, q_bzb, q_bn0, q_bn1, q_shr, q_shl, q_1s, b_one, b_two, fa_and, fa_or, nI_add, n_mul, nI_clamp, z_rcs, true_and, and_true, if_true, if_false, t_kd hA0, t_spoints hA0, t_n hA0, hkn, hbt]
          rw [if_neg (by decide)]
          refine z_forI (fun l y => [some (.ref M), none, some (.int (nI j)), some (.int (nI x)), some (.int (nI k)), some (.int (nI y)), some (.int (nI l))]) (fun _ _ => z_poi h M 0 (nI 0)) (fun _ y => y < 256) (fun l y => if S.2.2 l &&& x = 0 then y else y ||| S.2.2 l) x S.2.1 hx1 ?_ ?_
          · intro l y hl hy
            have hL := t_L256 hA l
            have hlx := and_lt256 (b := x) hL
            refine ⟨by split; exact hy; exact or_lt256 hy hL, fun hJ2 => b_X12_far_61 z_puCV ?_⟩
            simp (disch := omega) only [l0, l1, l2, l3, l4, l5, l6, l7, l8, l9, l10, l11, l12, l13, l14, l15, l16, l18, l20, l22, l24, l30, l31, l39, l40, l48, l60, l154, l255, l256, l400, l2000, l6160, l14000, lm1, q_lt, q_le, q_eq, q_mI, q_mI', q_ltmI, q_in, q_bz0, q_bz1, q_bzn0, q_bzn1, q_bzb, q_bn0, q_bn1, q_shr, q_shl, q_1s, b_one, b_two, fa_and, fa_or, nI_add, n_mul, nI_clamp, z_rcs, true_and, and_true, if_true, if_false, t_kd hA0, t_slines hA0, t_m hA0, t_Ln hA0, t_sL hA0, hl]
            by_cases hc : S.2.2 l &&& x = 0
            · rw [if_pos hc] at hJ2 ⊢; exact hJ2
            · rw [if_neg hc] at hJ2 ⊢; exact hJ2
          · intro _
            refine b_X12_far_61 z_puCV ?_
            simp (disch := omega) only [l0, l1, l2, l3, l4, l5, l6, l7, l8, l9, l10, l11, l12, l13, l14, l15, l16, l18, l20, l22, l24, l30, l31, l39, l40, l48, l60, l154, l255, l256, l400, l2000, l6160, l14000, lm1, q_lt, q_le, q_eq, q_mI, q_mI', q_ltmI, q_in, q_bz0, q_bz1, q_bzn0, q_bzn1, q_bzb, q_bn0, q_bn1, q_shr, q_shl, q_1s, b_one, b_two, fa_and, fa_or, nI_add, n_mul, nI_clamp, z_rcs, true_and, and_true, if_true, if_false, t_kd hA0, t_slines hA0, t_m hA0, Nat.lt_irrefl]
            exact hJ
      · intro y hI hx
        refine b_X12_far_34 z_puCV ?_
        have hkn : S.1 < S.1 + 1 := by omega
        simp (disch := omega) only [l0, l1, l2, l3, l4, l5, l6, l7, l8, l9, l10, l11, l12, l13, l14, l15, l16, l18, l20, l22, l24, l30, l31, l39, l40, l48, l60, l154, l255, l256, l400, l2000, l6160, l14000, lm1, q_lt, q_le, q_eq, q_mI, q_mI', q_ltmI, q_in, q_bz0, q_bz1, q_bzn0, q_bzn1, q_bzb, q_bn0, q_bn1, q_shr, q_shl, q_1s, b_one, b_two, fa_and, fa_or, nI_add, n_mul, nI_clamp, z_rcs, true_and, and_true, if_true, if_false, t_kd hA0, t_spoints hA0, t_n hA0, hkn]
        unfold c_farN
        rw [fa_first_n hI.2.2, if_neg (Nat.lt_irrefl _)]
        rfl
end CM
