theorem en_X2_leavesRoom {pu : Nat → Option ((List Value → z_H → Prop) × (List Value → z_H → Int32))} {G : z_G} {d : Nat} {r : z_Res} {h : z_H} {x0 : Nat} {x1 : Int32} {x2 : Int32} (hJ : z_J G d (m_X2_leavesRoom pu) r 0 [some (.ref x0), some (.int x1), some (.int x2), none, none, none, none, none] [] h) : z_Ev G d k_X2_leavesRoom [.ref x0, .int x1, .int x2] h r := z_enter (μ := m_X2_leavesRoom pu) rfl (by decide) rfl rfl (fun q => by cases q) (Nat.le_of_ble_eq_true rfl) hJ
def hd_X2_leavesRoom : Nat → Option (List Bool) := (fun k => (cond (Nat.blt k 170) (cond (Nat.blt k 74) (cond (Nat.beq k 24) (some [true, true, true, true, true, false, false, false]) none) (cond (Nat.beq k 74) (some [true, true, true, true, true, true, true, false]) none)) none))
set_option maxRecDepth 20000 in
theorem b_X2_leavesRoom_0 {G : z_G} {d : Nat} {r : z_Res} (hPu : z_PuV G d (t_X2 z_pu0)) {h : z_H} {x0 : Nat} {x1 : Int32} {x2 : Int32} (hT : (z_kd h x0 = 18 ∧ (if x1 < (z_oi h x0 8) then (z_J G (d + 1) (m_X2_leavesRoom z_pu0) r) 24 [some (.ref x0), some (.int x1), some (.int x2), some (.int (nI 0)), some (.int (x1 + (nI 1))), none, none, none] [] h else (z_kd h x0 = 18 ∧ (z_rc (z_or h x0 7) False (fun x_1 => (z_kd h x_1 = 1 ∧ vp_in x1 (z_ln h x_1) ∧ (z_J G (d + 1) (m_X2_leavesRoom z_pu0) r) 24 [some (.ref x0), some (.int x1), some (.int x2), some (.int (z_ai h x_1 (Int32.toNatClampNeg x1))), some (.int (x1 + (nI 1))), none, none, none] [] h))))))) : (z_J G (d + 1) (m_X2_leavesRoom z_pu0) r) 0 [some (.ref x0), some (.int x1), some (.int x2), none, none, none, none, none] [] h := z_bq (v_X2 z_pu0 (vP_X2_leavesRoom z_pu0) hPu) hd_X2_leavesRoom 17 hT
set_option maxRecDepth 20000 in
theorem b_X2_leavesRoom_24 {G : z_G} {d : Nat} {r : z_Res} (hPu : z_PuV G d (t_X2 z_pu0)) {h : z_H} {x0 : Nat} {x1 : Int32} {x2 : Int32} {x3 : Int32} {x4 : Int32} (hT : (z_kd h x0 = 18 ∧ (if x4 < (z_oi h x0 5) then (z_kd h x0 = 18 ∧ (z_rc (z_or h x0 12) False (fun x_1 => (z_kd h x_1 = 1 ∧ vp_in ((x1 * (nI 8)) + x4) (z_ln h x_1) ∧ (if ((x3 >>> (x4 &&& (nI 31))) &&& (nI 1)) = (nI 0) then (z_J G (d + 1) (m_X2_leavesRoom z_pu0) r) 74 [some (.ref x0), some (.int x1), some (.int x2), some (.int x3), some (.int x4), some (.int ((z_ai h x_1 (Int32.toNatClampNeg ((x1 * (nI 8)) + x4))) &&& (((nI 1) <<< (x2 &&& (nI 31))) ^^^ mI))), some (.int (nI 0)), none] [] h else (z_J G (d + 1) (m_X2_leavesRoom z_pu0) r) 74 [some (.ref x0), some (.int x1), some (.int x2), some (.int x3), some (.int x4), some (.int (((z_ai h x_1 (Int32.toNatClampNeg ((x1 * (nI 8)) + x4))) &&& (((nI 1) <<< (x2 &&& (nI 31))) ^^^ mI)) &&& (-((nI 2) <<< (x2 &&& (nI 31)))))), some (.int (nI 0)), none] [] h))))) else (z_bz (nI 1) ∧ r = (.inl (some (.int (nI 1))), h))))) : (z_J G (d + 1) (m_X2_leavesRoom z_pu0) r) 24 [some (.ref x0), some (.int x1), some (.int x2), some (.int x3), some (.int x4), none, none, none] [] h := z_bq (v_X2 z_pu0 (vP_X2_leavesRoom z_pu0) hPu) hd_X2_leavesRoom 37 hT
set_option maxRecDepth 20000 in
theorem b_X2_leavesRoom_74 {G : z_G} {d : Nat} {r : z_Res} (hPu : z_PuV G d (t_X2 z_pu0)) {h : z_H} {x0 : Nat} {x1 : Int32} {x2 : Int32} {x3 : Int32} {x4 : Int32} {x5 : Int32} {x6 : Int32} (hT : (if x6 < x1 then (z_kd h x0 = 18 ∧ (z_rc (z_or h x0 6) (z_kd h x0 = 18 ∧ (z_rc (z_or h x0 11) False (fun x_2 => (z_kd h x_2 = 1 ∧ vp_in x6 (z_ln h x_2) ∧ False)))) (fun x_1 => (z_kd h x0 = 18 ∧ (z_rc (z_or h x0 11) False (fun x_3 => (z_kd h x_3 = 1 ∧ vp_in x6 (z_ln h x_3) ∧ (z_kd h x_1 = 1 ∧ vp_in ((x2 * (nI 16)) + (z_ai h x_3 (Int32.toNatClampNeg x6))) (z_ln h x_1) ∧ (z_kd h x0 = 18 ∧ (z_rc (z_or h x0 10) False (fun x_4 => (z_kd h x_4 = 1 ∧ vp_in ((x1 * (nI 8)) + x6) (z_ln h x_4) ∧ (if (((z_ai h x_4 (Int32.toNatClampNeg ((x1 * (nI 8)) + x6))) >>> (x4 &&& (nI 31))) &&& (nI 1)) = (nI 0) then (z_J G (d + 1) (m_X2_leavesRoom z_pu0) r) 74 [some (.ref x0), some (.int x1), some (.int x2), some (.int x3), some (.int x4), some (.int (x5 &&& ((z_ai h x_1 (Int32.toNatClampNeg ((x2 * (nI 16)) + (z_ai h x_3 (Int32.toNatClampNeg x6))))) ^^^ mI))), some (.int (x6 + (nI 1))), none] [] h else (z_J G (d + 1) (m_X2_leavesRoom z_pu0) r) 74 [some (.ref x0), some (.int x1), some (.int x2), some (.int x3), some (.int x4), some (.int (x5 &&& (z_ai h x_1 (Int32.toNatClampNeg ((x2 * (nI 16)) + (z_ai h x_3 (Int32.toNatClampNeg x6))))))), some (.int (x6 + (nI 1))), none] [] h))))))))))))) else (if x5 = (nI 0) then (z_bz (nI 0) ∧ r = (.inl (some (.int (nI 0))), h)) else (z_kd h x0 = 18 ∧ (z_rc (z_or h x0 12) False (fun x_5 => (z_kd h x_5 = 1 ∧ vp_in (((x1 + (nI 1)) * (nI 8)) + x4) (z_ln h x_5) ∧ (z_J G (d + 1) (m_X2_leavesRoom z_pu0) r) 24 [some (.ref x0), some (.int x1), some (.int x2), some (.int x3), some (.int (x4 + (nI 1))), none, none, none] [] (z_pai h x_5 (Int32.toNatClampNeg (((x1 + (nI 1)) * (nI 8)) + x4)) x5)))))))) : (z_J G (d + 1) (m_X2_leavesRoom z_pu0) r) 74 [some (.ref x0), some (.int x1), some (.int x2), some (.int x3), some (.int x4), some (.int x5), some (.int x6), none] [] h := z_bq (v_X2 z_pu0 (vP_X2_leavesRoom z_pu0) hPu) hd_X2_leavesRoom 39 hT
/-! THE DRAWER: three rows that are written (seats, rooms, what is found); the room that is left -/
def dw (g : z_H) (x a : Nat) (s m f : Nat → Int32) : z_H := z_pax (z_pax (z_pax g (x + 1 + 5) s) (x + 1 + 6) m) a f
section HI1
variable (g : z_H) (x a : Nat) (s m f : Nat → Int32)
theorem dw_s (h1 : a ≠ x + 1 + 5) : z_ai (dw g x a s m f) (x + 1 + 5) = s := by
  show z_u (z_u (z_u (z_ai g) (x + 1 + 5) s) (x + 1 + 6) m) a f (x + 1 + 5) = s
  rw [u_ne _ _ (fun e => h1 e.symm), u_ne _ _ (by omega), u_eq]
theorem dw_m (h1 : a ≠ x + 1 + 6) : z_ai (dw g x a s m f) (x + 1 + 6) = m := by
  show z_u (z_u (z_u (z_ai g) (x + 1 + 5) s) (x + 1 + 6) m) a f (x + 1 + 6) = m
  rw [u_ne _ _ (fun e => h1 e.symm), u_eq]
theorem dw_f : z_ai (dw g x a s m f) a = f := u_eq _ _ _
theorem dw_o {y : Nat} (h1 : y ≠ a) (h2 : y ≠ x + 1 + 5) (h3 : y ≠ x + 1 + 6) : z_ai (dw g x a s m f) y = z_ai g y := by
  show z_u (z_u (z_u (z_ai g) (x + 1 + 5) s) (x + 1 + 6) m) a f y = _
  rw [u_ne _ _ h1, u_ne _ _ h3, u_ne _ _ h2]
theorem pax_pax_ne (h : z_H) {y z : Nat} (f1 f2 : Nat → Int32) (hn : y ≠ z) : z_pax (z_pax h y f1) z f2 = z_pax (z_pax h z f2) y f1 := by
  have e : z_u (z_u (z_ai h) y f1) z f2 = z_u (z_u (z_ai h) z f2) y f1 := u_comm _ _ _ hn
  show (h.1, z_kd h, z_ln h, z_oi h, z_or h, z_u (z_u (z_ai h) y f1) z f2, z_al h, z_ar h) = _
  rw [e]
  rfl
theorem pai_pax (h : z_H) (y k : Nat) (v : Int32) : z_pai h y k v = z_pax h y (z_u (z_ai h y) k v) := rfl
theorem pax2 (h : z_H) (y : Nat) (f1 f2 : Nat → Int32) : z_pax (z_pax h y f1) y f2 = z_pax h y f2 := by
  have e : z_u (z_u (z_ai h) y f1) y f2 = z_u (z_ai h) y f2 := u_u _ _ _ _
  show (h.1, z_kd h, z_ln h, z_oi h, z_or h, z_u (z_u (z_ai h) y f1) y f2, z_al h, z_ar h) = _
  rw [e]
  rfl
theorem dw_xf (f' : Nat → Int32) : z_pax (dw g x a s m f) a f' = dw g x a s m f' := pax2 _ _ _ _
theorem dw_xm (m' : Nat → Int32) (h1 : a ≠ x + 1 + 6) : z_pax (dw g x a s m f) (x + 1 + 6) m' = dw g x a s m' f := by
  unfold dw
  rw [pax_pax_ne _ _ _ h1, pax2]
theorem dw_xs (s' : Nat → Int32) (h1 : a ≠ x + 1 + 5) : z_pax (dw g x a s m f) (x + 1 + 5) s' = dw g x a s' m f := by
  unfold dw
  rw [pax_pax_ne _ _ _ h1, pax_pax_ne _ _ _ (show x + 1 + 6 ≠ x + 1 + 5 by omega), pax2]
theorem dw_pm (k : Nat) (v : Int32) (h1 : a ≠ x + 1 + 6) : z_pai (dw g x a s m f) (x + 1 + 6) k v = dw g x a s (z_u m k v) f := by
  rw [pai_pax, dw_m g x a s m f h1, dw_xm g x a s m f _ h1]
theorem dw_ps (k : Nat) (v : Int32) (h1 : a ≠ x + 1 + 5) : z_pai (dw g x a s m f) (x + 1 + 5) k v = dw g x a (z_u s k v) m f := by
  rw [pai_pax, dw_s g x a s m f h1, dw_xs g x a s m f _ h1]
theorem dw_self : dw g x a (z_ai g (x + 1 + 5)) (z_ai g (x + 1 + 6)) (z_ai g a) = g := by
  have e : ∀ y, z_pax g y (z_ai g y) = g := fun y => by
    have : z_u (z_ai g) y (z_ai g y) = z_ai g := u_self _ _
    show (g.1, z_kd g, z_ln g, z_oi g, z_or g, z_u (z_ai g) y (z_ai g y), z_al g, z_ar g) = g
    rw [this]
    rfl
  unfold dw
  rw [e, e, e]
end HI1
theorem anot_16 {a b : Nat} (ha : a < 2 ^ 16) : anot a b < 2 ^ 16 := Nat.xor_lt_two_pow (n := 16) ha (Nat.lt_of_le_of_lt Nat.and_le_left ha)
theorem n_neg2 : ∀ v, v < 16 → -(nI 2 <<< (nI v &&& nI 31)) = nI (2 ^ (v + 1) - 1) ^^^ mI := by decide +kernel
def d_lfF (TL LI P : Nat → Nat) (p v r : Nat) : Nat → Nat → Nat := fun q x => if (TL (p * 8 + q)).testBit r then x &&& LI (v * 16 + P q) else anot x (LI (v * 16 + P q))
def d_lf (TL LI P : Nat → Nat) (p v r x : Nat) : Nat := it (d_lfF TL LI P p v r) x p
def d_l0 (lt v r x : Nat) : Nat := if lt.testBit r then anot (anot x (2 ^ v)) (2 ^ (v + 1) - 1) else anot x (2 ^ v)
def d_lt (T : Nat → Nat) (tf p : Nat) : Nat := if p < tf then 0 else T p
def d_nx (TL LI T P : Nat → Nat) (tf p v r x : Nat) : Nat := d_lf TL LI P p v r (d_l0 (d_lt T tf p) v r x)
def d_ok (TL LI T P : Nat → Nat) (tf n p v : Nat) (X : Nat → Nat) : Bool := !c_any (fun i => decide (d_nx TL LI T P tf p v (p + 1 + i) (X (p + 1 + i)) = 0)) (n - (p + 1))
def dcf (g : z_H) (x a n pl tf : Nat) (al : Bool) (TL LI T : Nat → Nat) : Prop := (dsh x g ∧ z_oi g x 4 = nI pl ∧ z_oi g x 5 = nI n ∧ z_oi g x 8 = nI tf ∧ z_oi g x 9 = nI al.toNat) ∧ (∃ li, z_or g x 6 = some li ∧ z_kd g li = 1 ∧ z_ln g li = 256 ∧ (∀ i, i < 256 → z_ai g li i = nI (LI i) ∧ LI i < 2 ^ 16) ∧ li ≠ a ∧ li ≠ x + 1 + 5 ∧ li ≠ x + 1 + 6) ∧ (∃ tw, z_or g x 7 = some tw ∧ z_kd g tw = 1 ∧ z_ln g tw = 8 ∧ (∀ p, p < 8 → z_ai g tw p = nI (T p) ∧ T p < 256) ∧ tw ≠ a ∧ tw ≠ x + 1 + 5 ∧ tw ≠ x + 1 + 6) ∧ (∀ i, i < 64 → z_ai g (x + 1 + 4) i = nI (TL i) ∧ TL i < 256) ∧ (z_or g x 13 = some a ∧ z_kd g a = 1 ∧ z_ln g a = 9) ∧ (a ≠ x + 1 + 4 ∧ a ≠ x + 1 + 5 ∧ a ≠ x + 1 + 6) ∧ (1 ≤ n ∧ n ≤ 8) ∧ pl ≤ 16 ∧ tf ≤ 8
section HI2
variable {G : z_G} {d x a n pl tf : Nat} {g : z_H} {al : Bool} {TL LI T P : Nat → Nat} {s f : Nat → Int32}
theorem d_lf_lt {p v r : Nat} : ∀ k x, x < 2 ^ 16 → it (d_lfF TL LI P p v r) x k < 2 ^ 16 := by
  intro k y hy
  induction k with
  | zero => exact hy
  | succ k ih =>
    rw [it_s]
    unfold d_lfF
    unfold d_lfF at ih
    split
    · exact Nat.lt_of_le_of_lt Nat.and_le_left ih
    · exact anot_16 ih
theorem d_l0_lt {lt v r x : Nat} (h : x < 2 ^ 16) : d_l0 lt v r x < 2 ^ 16 := by
  unfold d_l0
  split
  · exact anot_16 (anot_16 h)
  · exact anot_16 h
theorem d_nx_lt {p v r x : Nat} (h : x < 2 ^ 16) : d_nx TL LI T P tf p v r x < 2 ^ 16 := d_lf_lt p _ (d_l0_lt h)
theorem e2_leavesRoom (c : dcf g x a n pl tf al TL LI T) {p v : Nat} (hp : p < n) (hv : v < 16) (hs : ∀ q, q < p → s q = nI (P q) ∧ P q < 16) (R : Nat → Nat) (hR : ∀ r, p < r → r < n → R (p * 8 + r) < 2 ^ 16) : ∃ R' : Nat → Nat, z_Ev G (d + 1) k_X2_leavesRoom [.ref x, .int (nI p), .int (nI v)] (dw g x a s (fun i => nI (R i)) f) (.inl (some (.int (nI (d_ok TL LI T P tf n p v (fun r => R (p * 8 + r))).toNat))), dw g x a s (fun i => nI (R' i)) f) ∧ (∀ i, i < p * 8 + 8 → R' i = R i) ∧ (d_ok TL LI T P tf n p v (fun r => R (p * 8 + r)) = true → ∀ r, p < r → r < n → R' (p * 8 + 8 + r) = d_nx TL LI T P tf p v r (R (p * 8 + r))) := by
  obtain ⟨⟨ds, o4, o5, o8, o9⟩, ⟨li, i1, i2, i3, i4, i5, i6, i7⟩, ⟨tw, t1, t2, t3, t4, t5, t6, t7⟩, hTL, ⟨o13, -, -⟩, ⟨a4, a5, a6⟩, ⟨n1, n8⟩, hpl, htf⟩ := c
  obtain ⟨s0, -, -, -, -, ⟨q1, q2, q3⟩, ⟨u1, u2, u3⟩, ⟨w1, w2, w3⟩⟩ := ds
  have hp8 : p < 8 := by omega
  obtain ⟨lt, elt⟩ : ∃ lt, lt = d_lt T tf p := ⟨_, rfl⟩
  have ltb : lt < 256 := by
    rw [elt]
    unfold d_lt
    split
    · decide
    · exact (t4 p hp8).2
  obtain ⟨ok, eok⟩ : ∃ ok, ok = d_ok TL LI T P tf n p v (fun r => R (p * 8 + r)) := ⟨_, rfl⟩
  obtain ⟨N, eN⟩ : ∃ N : Nat → Nat, N = fun r => d_nx TL LI T P tf p v r (R (p * 8 + r)) := ⟨_, rfl⟩
  have eNr : ∀ r, N r = d_lf TL LI P p v r (d_l0 lt v r (R (p * 8 + r))) := fun r => by rw [eN, elt]; rfl
  rw [← eok]
  have loop : ∀ (k r : Nat) (R' : Nat → Nat), r + k = n → p < r → (∀ i, i < p * 8 + 8 → R' i = R i) → (∀ r', p < r' → r' < r → N r' ≠ 0 ∧ R' (p * 8 + 8 + r') = N r') → ∃ R2 : Nat → Nat, z_J G (d + 1) (m_X2_leavesRoom z_pu0) (.inl (some (.int (nI ok.toNat))), dw g x a s (fun i => nI (R2 i)) f) 24 [some (.ref x), some (.int (nI p)), some (.int (nI v)), some (.int (nI lt)), some (.int (nI r)), none, none, none] [] (dw g x a s (fun i => nI (R' i)) f) ∧ (∀ i, i < p * 8 + 8 → R2 i = R i) ∧ (ok = true → ∀ r, p < r → r < n → R2 (p * 8 + 8 + r) = N r) := by
    intro k
    induction k with
    | zero =>
      intro r R' hr hpr h1 h2
      refine ⟨R', b_X2_leavesRoom_24 (z_pu0V rfl) ⟨s0, ?_⟩, h1, fun _ r' h3 h4 => (h2 r' h3 (by omega)).2⟩
      rw [show z_oi (dw g x a s (fun i => nI (R' i)) f) x 5 = nI n from o5, if_neg (nI_nlt (by omega) (by omega))]
      have : ok = true := by
        rw [eok]
        unfold d_ok
        rw [any_f (fun i hi => ?_)]
        · rfl
        · have := (h2 (p + 1 + i) (by omega) (by omega)).1
          rw [eN] at this
          exact decide_eq_false this
      rw [this]
      exact ⟨Or.inr rfl, rfl⟩
    | succ k ih =>
      intro r R' hr hpr h1 h2
      have hr8 : r < 8 := by omega
      have hRr : R' (p * 8 + r) = R (p * 8 + r) := h1 _ (by omega)
      have hb := hR r hpr (by omega)
      have b0 := d_l0_lt (lt := lt) (v := v) (r := r) hb
      obtain ⟨H, eH⟩ : ∃ H, H = dw g x a s (fun i => nI (R' i)) f := ⟨_, rfl⟩
      have kx : z_kd H x = 18 := by rw [eH]; exact s0
      have x5 : z_oi H x 5 = nI n := by rw [eH]; exact o5
      have x12 : z_or H x 12 = some (x + 1 + 6) := by rw [eH]; exact w1
      have x11 : z_or H x 11 = some (x + 1 + 5) := by rw [eH]; exact u1
      have x10 : z_or H x 10 = some (x + 1 + 4) := by rw [eH]; exact q1
      have x6 : z_or H x 6 = some li := by rw [eH]; exact i1
      have r6 : z_kd H (x + 1 + 6) = 1 ∧ z_ln H (x + 1 + 6) = 72 ∧ z_ai H (x + 1 + 6) = fun i => nI (R' i) := by rw [eH]; exact ⟨w2, w3, dw_m _ _ _ _ _ _ a6⟩
      have r5 : z_kd H (x + 1 + 5) = 1 ∧ z_ln H (x + 1 + 5) = 8 ∧ z_ai H (x + 1 + 5) = s := by rw [eH]; exact ⟨u2, u3, dw_s _ _ _ _ _ _ a5⟩
      have r4 : z_kd H (x + 1 + 4) = 1 ∧ z_ln H (x + 1 + 4) = 64 ∧ z_ai H (x + 1 + 4) = z_ai g (x + 1 + 4) := by rw [eH]; exact ⟨q2, q3, dw_o _ _ _ _ _ _ (fun e => a4 e.symm) (by omega) (by omega)⟩
      have rl : z_kd H li = 1 ∧ z_ln H li = 256 ∧ z_ai H li = z_ai g li := by rw [eH]; exact ⟨i2, i3, dw_o _ _ _ _ _ _ i5 i6 i7⟩
      have r6v : z_ai H (x + 1 + 6) (p * 8 + r) = nI (R (p * 8 + r)) := by rw [r6.2.2, ← hRr]
      have pm : ∀ j w, z_pai H (x + 1 + 6) j (nI w) = dw g x a s (fun i => nI (z_u R' j w i)) f := fun j w => by rw [eH, dw_pm _ _ _ _ _ _ _ _ a6, nu]
      -- the loop over the earlier points, and what follows
      have inner : ∃ R2 : Nat → Nat, (∀ Y, Y = d_l0 lt v r (R (p * 8 + r)) → z_J G (d + 1) (m_X2_leavesRoom z_pu0) (.inl (some (.int (nI ok.toNat))), dw g x a s (fun i => nI (R2 i)) f) 74 [some (.ref x), some (.int (nI p)), some (.int (nI v)), some (.int (nI lt)), some (.int (nI r)), some (.int (nI Y)), some (.int (nI 0)), none] [] H) ∧ (∀ i, i < p * 8 + 8 → R2 i = R i) ∧ (ok = true → ∀ r, p < r → r < n → R2 (p * 8 + 8 + r) = N r) := by
        have step : ∀ R2 : Nat → Nat, z_J G (d + 1) (m_X2_leavesRoom z_pu0) (.inl (some (.int (nI ok.toNat))), dw g x a s (fun i => nI (R2 i)) f) 74 [some (.ref x), some (.int (nI p)), some (.int (nI v)), some (.int (nI lt)), some (.int (nI r)), some (.int (nI (N r))), some (.int (nI p)), none] [] H → ∀ Y, Y = d_l0 lt v r (R (p * 8 + r)) → z_J G (d + 1) (m_X2_leavesRoom z_pu0) (.inl (some (.int (nI ok.toNat))), dw g x a s (fun i => nI (R2 i)) f) 74 [some (.ref x), some (.int (nI p)), some (.int (nI v)), some (.int (nI lt)), some (.int (nI r)), some (.int (nI Y)), some (.int (nI 0)), none] [] H := by
          intro R2 hlast Y hY
          have key := z_for (G := G) (d := d + 1) (μ := m_X2_leavesRoom z_pu0) (h := H) (r := (.inl (some (.int (nI ok.toNat))), dw g x a s (fun i => nI (R2 i)) f)) (pc := 74) (fun q (y : Nat) => [some (.ref x), some (.int (nI p)), some (.int (nI v)), some (.int (nI lt)), some (.int (nI r)), some (.int (nI y)), some (.int (nI q)), none]) (d_lfF TL LI P p v r) Y p ?_ ?_
          · exact key
          · intro q hq hJ
            obtain ⟨y, ey⟩ : ∃ y, y = it (d_lfF TL LI P p v r) Y q := ⟨_, rfl⟩
            rw [← ey] at hJ ⊢
            obtain ⟨sq, pq⟩ := hs q hq
            obtain ⟨tl1, tl2⟩ := hTL (p * 8 + q) (by omega)
            obtain ⟨l1, l2⟩ := i4 (v * 16 + P q) (by omega)
            refine b_X2_leavesRoom_74 (z_pu0V rfl) ?_
            rw [if_pos (nI_lt hq (by omega)), x6, z_rcs, x11, z_rcs, x10, z_rcs, nI_clamp (show q < 2 ^ 31 by omega), r5.2.2, sq, n_mul, nI_add, n_mul, nI_add, nI_clamp (show v * 16 + P q < 2 ^ 31 by omega), nI_clamp (show p * 8 + q < 2 ^ 31 by omega), rl.2.2, l1, r4.2.2, tl1, show (nI (TL (p * 8 + q)) >>> (nI r &&& nI 31)) &&& nI 1 = nI ((TL (p * 8 + q)).testBit r).toNat from n_bit (by omega) (by omega), q_anot, fa_and, nI_add]
            refine ⟨kx, kx, r5.1, by rw [r5.2.1]; exact vp_in_nI (by omega) (by decide), rl.1, by rw [rl.2.1]; exact vp_in_nI (by omega) (by decide), kx, r4.1, by rw [r4.2.1]; exact vp_in_nI (by omega) (by decide), ?_⟩
            unfold d_lfF at hJ
            cases cb : (TL (p * 8 + q)).testBit r
            · rw [cb, if_neg (by decide)] at hJ
              rw [if_pos (by rfl)]
              exact hJ
            · rw [cb, if_pos rfl] at hJ
              rw [if_neg (by decide)]
              exact hJ
          · rw [hY, show it (d_lfF TL LI P p v r) (d_l0 lt v r (R (p * 8 + r))) p = N r from (eNr r).symm]
            exact hlast
        have nb : N r < 2 ^ 16 := by rw [eN]; exact d_nx_lt hb
        by_cases c0 : N r = 0
        · refine ⟨R', step R' (b_X2_leavesRoom_74 (z_pu0V rfl) ?_), h1, fun e => ?_⟩
          · have : ok = false := by
              rw [eok]
              unfold d_ok
              rw [any_t (k := r - (p + 1)) (by omega)]
              · rfl
              · show decide (d_nx TL LI T P tf p v (p + 1 + (r - (p + 1))) (R (p * 8 + (p + 1 + (r - (p + 1))))) = 0) = true
                rw [show p + 1 + (r - (p + 1)) = r by omega]
                rw [eN] at c0
                exact decide_eq_true c0
            rw [if_neg (nI_nlt (Nat.le_refl _) (by omega)), c0, if_pos rfl, this]
            exact ⟨Or.inl rfl, by rw [eH]; rfl⟩
          · exfalso
            have : ok = false := by
              rw [eok]
              unfold d_ok
              rw [any_t (k := r - (p + 1)) (by omega)]
              · rfl
              · show decide (d_nx TL LI T P tf p v (p + 1 + (r - (p + 1))) (R (p * 8 + (p + 1 + (r - (p + 1))))) = 0) = true
                rw [show p + 1 + (r - (p + 1)) = r by omega]
                rw [eN] at c0
                exact decide_eq_true c0
            rw [this] at e
            cases e
        · obtain ⟨R2, hJ, g1, g2⟩ := ih (r + 1) (z_u R' (p * 8 + 8 + r) (N r)) (by omega) (by omega) (fun i hi => by rw [u_ne _ _ (by omega)]; exact h1 i hi) (fun r' h3 h4 => by
            by_cases e : r' = r
            · rw [e, u_eq]; exact ⟨c0, rfl⟩
            · rw [u_ne _ _ (by omega)]; exact h2 r' h3 (by omega))
          refine ⟨R2, step R2 (b_X2_leavesRoom_74 (z_pu0V rfl) ?_), g1, g2⟩
          rw [if_neg (nI_nlt (Nat.le_refl _) (by omega)), if_neg (fun e => c0 ((nI_eq (by omega) (by decide)).mp e)), x12, z_rcs, nI_add, n_mul, nI_add, nI_clamp (show (p + 1) * 8 + r < 2 ^ 31 by omega), pm, nI_add, show (p + 1) * 8 + r = p * 8 + 8 + r by omega]
          exact ⟨kx, r6.1, by rw [r6.2.1]; exact vp_in_nI (by omega) (by decide), hJ⟩
      obtain ⟨R2, hJ, g1, g2⟩ := inner
      refine ⟨R2, ?_, g1, g2⟩
      rw [← eH]
      refine b_X2_leavesRoom_24 (z_pu0V rfl) ⟨kx, ?_⟩
      rw [x5, if_pos (nI_lt (by omega) (by omega)), x12, z_rcs, n_mul, nI_add, nI_clamp (show p * 8 + r < 2 ^ 31 by omega), r6v, show (nI lt >>> (nI r &&& nI 31)) &&& nI 1 = nI (lt.testBit r).toNat from n_bit (by omega) (by omega), show nI 1 <<< (nI v &&& nI 31) = nI (2 ^ v) from n_one (by omega), q_anot, n_neg2 v hv, q_anot]
      refine ⟨kx, r6.1, by rw [r6.2.1]; exact vp_in_nI (by omega) (by decide), ?_⟩
      cases cb : lt.testBit r
      · rw [if_pos (by rfl)]
        exact hJ _ (by unfold d_l0; rw [cb, if_neg (by decide)])
      · rw [if_neg (by decide)]
        exact hJ _ (by unfold d_l0; rw [cb, if_pos rfl])
  obtain ⟨R2, hJ, g1, g2⟩ := loop (n - (p + 1)) (p + 1) R (by omega) (by omega) (fun _ _ => rfl) (fun r' h1 h2 => by omega)
  refine ⟨R2, en_X2_leavesRoom (b_X2_leavesRoom_0 (z_pu0V rfl) ⟨s0, ?_⟩), g1, fun e r h1 h2 => by rw [g2 e r h1 h2, eN]⟩
  have x8 : z_oi (dw g x a s (fun i => nI (R i)) f) x 8 = nI tf := o8
  have x7 : z_or (dw g x a s (fun i => nI (R i)) f) x 7 = some tw := t1
  have rt : z_ai (dw g x a s (fun i => nI (R i)) f) tw = z_ai g tw := dw_o _ _ _ _ _ _ t5 t6 t7
  rw [x8, x7, z_rcs, nI_add, nI_clamp (show p < 2 ^ 31 by omega), rt, (t4 p hp8).1]
  by_cases c1 : p < tf
  · rw [if_pos (nI_lt c1 (by omega))]
    rw [elt] at hJ
    unfold d_lt at hJ
    rw [if_pos c1] at hJ
    exact hJ
  · rw [if_neg (nI_nlt (by omega) (by omega))]
    rw [elt] at hJ
    unfold d_lt at hJ
    rw [if_neg c1] at hJ
    exact ⟨s0, t2, by rw [show z_ln (dw g x a s (fun i => nI (R i)) f) tw = 8 from t3]; exact vp_in_nI hp8 (by decide), hJ⟩
end HI2
