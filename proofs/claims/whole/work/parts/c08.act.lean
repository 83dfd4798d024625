/-! THE LISTER: acts -/
def cY (L a : Nat) : Prop := a = L ∨ a = L + 1 ∨ a = L + 15
theorem cY_hl {L a : Nat} (h : cY L a) : hl L a := by unfold cY at h; unfold hl; omega
theorem cY_cX {L a : Nat} (h : cY L a) : cX L a := by unfold cY at h; unfold cX; omega
def kmin (w : Int32) : Int32 := if nI 40 < w then nI 40 else w
/-- an act kept -/
def rem (L : Nat) (h : z_H) (x : Int32) (o : Option Nat) : z_H := z_poi (z_por (z_por (z_poi (z_por (z_nwo h 0 3) (z_n h) 0 (z_or h L 5)) (z_n h) 1 x) (z_n h) 2 o) L 5 (some (z_n h))) L 6 (kmin (z_oi h L 6 + nI 1))
section C8
variable {V : CV} {G : z_G} {d L r c s : Nat} {h h' : z_H} {σ : RSt} {X : Nat → Prop}
theorem fr_wor {x k a : Nat} {w : Option Nat} (hx : z_kd h x ≠ 24) (ha : fr L h a) : fr L (z_por h x k w) a := ⟨ha.1, ha.2.1, fun q b hb => ha.2.2 q b ⟨hb.1, by
  have e : z_or (z_por h x k w) q = z_or h q := u_ne _ _ (fun e => hx (e ▸ hb.1))
  rw [← e]; exact hb.2⟩⟩
theorem liB_por {k : Nat} {o : Option Nat} (hk : k ≠ 0 ∧ k ≠ 4 ∧ k < 10) (hb : liB L h) : liB L (z_por h L k o) := by
  obtain ⟨b0, ⟨b1, b2, b3⟩, ⟨b4, b5, b6⟩, b7, b8, b9, b10, b11, b12, b13⟩ := hb
  have e : ∀ j, j ≠ k → z_or (z_por h L k o) L j = z_or h L j := fun j hj => by
    show z_u (z_or h) L (z_u (z_or h L) k o) L j = _
    rw [u_eq, u_ne _ _ hj]
  exact ⟨b0, ⟨(e 0 (by omega)).trans b1, b2, b3⟩, ⟨(e 4 (by omega)).trans b4, b5, b6⟩, (e 10 (by omega)).trans b7, (e 11 (by omega)).trans b8, (e 12 (by omega)).trans b9, (e 13 (by omega)).trans b10, (e 14 (by omega)).trans b11, (e 15 (by omega)).trans b12, (e 16 (by omega)).trans b13⟩
/-- the lister's own places written -/
theorem bs_w (hb : bs L r h) (t : xt (cY L) h h') (hl' : liB L h') (hc : z_c h' ≤ z_c h + c) (hs : z_s h' ≤ z_s h + s) : bs L r h' ∧ ex (cY L) c s h h' :=
  ⟨bs_ex hb (inv_xt hb.2.2.1 (fun _ q => cY_hl q) t) (xt_ex t hc hs) (fun a q => by unfold cY at q; omega) hl', xt_ex t hc hs⟩
theorem bs_poi (hb : bs L r h) (k : Nat) (v : Int32) : bs L r (z_poi h L k v) ∧ ex (cY L) 0 0 h (z_poi h L k v) := bs_w hb (xt_poi _ _ (Or.inl rfl)) hb.1 (Nat.le_refl _) (Nat.le_refl _)
theorem bs_por (hb : bs L r h) {k : Nat} (hk : k ≠ 0 ∧ k ≠ 4 ∧ k < 10) (o : Option Nat) : bs L r (z_por h L k o) ∧ ex (cY L) 0 0 h (z_por h L k o) := bs_w hb (xt_por _ _ (Or.inl rfl)) (liB_por hk hb.1) (Nat.le_refl _) (Nat.le_refl _)
theorem bs_par (hb : bs L r h) (k : Nat) (o : Option Nat) : bs L r (z_par h (L + 15) k o) ∧ ex (cY L) 0 0 h (z_par h (L + 15) k o) := bs_w hb (xt_par _ _ (Or.inr (Or.inr rfl))) hb.1 (Nat.le_refl _) (Nat.le_refl _)
theorem bs_pai (hb : bs L r h) (k : Nat) (v : Int32) : bs L r (z_pai h (L + 1) k v) ∧ ex (cY L) 0 0 h (z_pai h (L + 1) k v) := bs_w hb (xt_pai _ _ (Or.inr (Or.inl rfl))) hb.1 (Nat.le_refl _) (Nat.le_refl _)
theorem exY_t {h'' : z_H} {c' s' : Nat} (hb : bs L r h) (hb' : bs L r h') (e1 : ex (cY L) c s h h') (e2 : ex (cY L) c' s' h' h'') : ex (cY L) (c + c') (s + s') h h'' := ex_trans hb.2.2.1 hb'.2.2.1 (fun _ q => cY_hl q) e1 e2
theorem rem_ok (hb : bs L r h) (x : Int32) (o : Option Nat) : bs L r (rem L h x o) ∧ ex (cY L) 1 3 h (rem L h x o) ∧ (fr L (rem L h x o) (z_n h) ∧ z_kd (rem L h x o) (z_n h) = 16 ∧ z_oi (rem L h x o) (z_n h) 1 = x ∧ z_or (rem L h x o) (z_n h) 0 = z_or h L 5 ∧ z_or (rem L h x o) (z_n h) 2 = o) ∧ z_oi (rem L h x o) L = z_u (z_oi h L) 6 (kmin (z_oi h L 6 + nI 1)) ∧ z_or (rem L h x o) L = z_u (z_or h L) 5 (some (z_n h)) ∧ z_ai (rem L h x o) (L + 1) = z_ai h (L + 1) ∧ z_ar (rem L h x o) (L + 15) = z_ar h (L + 15) := by
  have hL := hb.2.2.2
  obtain ⟨I1, e1, f1, k1⟩ := nwo_k (ci := 0) (N := 3) hb.2.2.1 hL (by decide) (cY L)
  have nL : L ≠ z_n h := by omega
  obtain ⟨l1, l2, l3, l4, l5⟩ := liB_ex hb.2.2.1 hL (nwo_k (ci := 0) (N := 3) hb.2.2.1 hL (by decide) (fun _ => False)).2.1 (fun _ f => f.elim) hb.1
  have n24 : z_kd (z_nwo h 0 3) (z_n h) ≠ 24 := by rw [k1]; decide
  obtain ⟨g, eg⟩ : ∃ g, g = z_por (z_poi (z_por (z_nwo h 0 3) (z_n h) 0 (z_or h L 5)) (z_n h) 1 x) (z_n h) 2 o := ⟨_, rfl⟩
  have Ig : inv vV L g := by rw [eg]; exact inv_wor (inv_woi (inv_wor I1 n24) n24) n24
  have eX : ex (cY L) 1 3 h g := by rw [eg]; exact ex_wor (ex_woi (ex_wor e1 (Nat.le_refl _)) (Nat.le_refl _)) (Nat.le_refl _)
  have frg : fr L g (z_n h) := by rw [eg]; exact fr_wor n24 (fr_wor (h := z_nwo h 0 3) n24 f1)
  have kg : z_kd g (z_n h) = 16 := by rw [eg]; exact k1
  have og : z_oi g (z_n h) 1 = x := by
    rw [eg]
    show z_u (z_oi (z_nwo h 0 3)) (z_n h) (z_u (z_oi (z_nwo h 0 3) (z_n h)) 1 x) (z_n h) 1 = x
    rw [u_eq, u_eq]
  have rg : z_or g (z_n h) 0 = z_or h L 5 ∧ z_or g (z_n h) 2 = o := by
    rw [eg]
    refine ⟨?_, ?_⟩
    · show z_u (z_u (z_or (z_nwo h 0 3)) (z_n h) (z_u (z_or (z_nwo h 0 3) (z_n h)) 0 (z_or h L 5))) (z_n h) (z_u (z_u (z_or (z_nwo h 0 3)) (z_n h) (z_u (z_or (z_nwo h 0 3) (z_n h)) 0 (z_or h L 5)) (z_n h)) 2 o) (z_n h) 0 = _
      rw [u_eq, u_ne _ _ (by decide), u_eq, u_eq]
    · show z_u (z_u (z_or (z_nwo h 0 3)) (z_n h) (z_u (z_or (z_nwo h 0 3) (z_n h)) 0 (z_or h L 5))) (z_n h) (z_u (z_u (z_or (z_nwo h 0 3)) (z_n h) (z_u (z_or (z_nwo h 0 3) (z_n h)) 0 (z_or h L 5)) (z_n h)) 2 o) (z_n h) 2 = _
      rw [u_eq, u_eq]
  have lg : z_oi g L = z_oi h L ∧ z_or g L = z_or h L := by
    rw [eg]
    refine ⟨?_, ?_⟩
    · show z_u (z_oi (z_nwo h 0 3)) (z_n h) _ L = _
      rw [u_ne _ _ nL, l2]
    · show z_u (z_u (z_or (z_nwo h 0 3)) (z_n h) _) (z_n h) _ L = _
      rw [u_ne _ _ nL, u_ne _ _ nL, l3]
  have ag : z_ai g (L + 1) = z_ai h (L + 1) ∧ z_ar g (L + 15) = z_ar h (L + 15) := by rw [eg]; exact ⟨l4, l5⟩
  have lig : liB L g := by
    obtain ⟨b0, ⟨b1, b2, b3⟩, ⟨b4, b5, b6⟩, b7⟩ := l1
    rw [l3] at b1 b4 b7
    unfold liB
    rw [lg.2]
    have kk : z_kd g = z_kd (z_nwo h 0 3) ∧ z_ln g = z_ln (z_nwo h 0 3) := by rw [eg]; exact ⟨rfl, rfl⟩
    rw [kk.1, kk.2]
    exact ⟨b0, ⟨b1, b2, b3⟩, ⟨b4, b5, b6⟩, b7⟩
  have bg : bs L r g := bs_ex hb Ig eX (fun a q => by unfold cY at q; omega) lig
  obtain ⟨b5, e5⟩ := bs_por bg (k := 5) (by decide) (some (z_n h))
  obtain ⟨b6, e6⟩ := bs_poi b5 6 (kmin (z_oi h L 6 + nI 1))
  have hr : rem L h x o = z_poi (z_por g L 5 (some (z_n h))) L 6 (kmin (z_oi h L 6 + nI 1)) := by rw [eg]; rfl
  rw [hr]
  have nL' : z_n h ≠ L := fun e => nL e.symm
  refine ⟨b6, exY_t hb bg eX (exY_t bg b5 e5 e6), ⟨fr_wor (by rw [lig.1]; decide) frg, kg, ?_, ?_, ?_⟩, ?_, ?_, ag.1, ag.2⟩
  · show z_u (z_oi g) L _ (z_n h) 1 = x
    rw [u_ne _ _ nL']; exact og
  · show z_u (z_or g) L _ (z_n h) 0 = _
    rw [u_ne _ _ nL']; exact rg.1
  · show z_u (z_or g) L _ (z_n h) 2 = _
    rw [u_ne _ _ nL']; exact rg.2
  · show z_u (z_oi g) L (z_u (z_oi g L) 6 _) L = _
    rw [u_eq, lg.1]
  · show z_u (z_or g) L (z_u (z_or g L) 5 _) L = _
    rw [u_eq, lg.2]
theorem e0_init {a : Nat} (k1 : z_kd h a = 16) (o1 o2 : Option Nat) (x : Int32) : z_Ev G (d + 4) k_X0_init [.ref a, va_rf o1, .int x, va_rf o2] h (.inl none, z_por (z_poi (z_por h a 0 o1) a 1 x) a 2 o2) := by
  cases o1 with
  | none =>
    cases o2 with
    | none => exact en_X0_init_n_n (b_X0_init_0d (z_pu0V rfl) ⟨k1, k1, k1, rfl⟩)
    | some b => exact en_X0_init_n__ (b_X0_init_0b (z_pu0V rfl) ⟨k1, k1, k1, rfl⟩)
  | some c =>
    cases o2 with
    | none => exact en_X0_init___n (b_X0_init_0c (z_pu0V rfl) ⟨k1, k1, k1, rfl⟩)
    | some b => exact en_X0_init (b_X0_init_0 (z_pu0V rfl) ⟨k1, k1, k1, rfl⟩)
theorem e11_remember (hb : bs L r h) (x : Int32) (o : Option Nat) : z_Ev G (d + 5) k_X11_remember [.ref L, .int x, va_rf o] h (.inl none, rem L h x o) := by
  have hL := hb.2.2.2
  have nL : L ≠ z_n h := by omega
  have hk : z_kd (z_nwo h 0 3) L = 27 := by
    show z_u (z_kd h) (z_n h) 16 L = 27
    rw [u_ne _ _ nL]; exact hb.1.1
  have ho : z_or (z_nwo h 0 3) L 5 = z_or h L 5 := by
    show z_u (z_or h) (z_n h) _ L 5 = _
    rw [u_ne _ _ nL]
  have ka : z_kd (z_nwo h 0 3) (z_n h) = 16 := u_eq _ _ _
  have h6 : ∀ w o1 o2, z_oi (z_por (z_por (z_poi (z_por (z_nwo h 0 3) (z_n h) 0 o1) (z_n h) 1 w) (z_n h) 2 o2) L 5 (some (z_n h))) L 6 = z_oi h L 6 := fun w o1 o2 => by
    show z_u (z_u (z_oi h) (z_n h) _) (z_n h) _ L 6 = _
    rw [u_ne _ _ nL, u_ne _ _ nL]
  have key : ∀ o1 o2, z_or h L 5 = o1 → o = o2 → z_Ev G (d + 4) k_X0_init [.ref (z_n h), va_rf o1, .int x, va_rf o2] (z_nwo h 0 3) (.inl none, z_por (z_poi (z_por (z_nwo h 0 3) (z_n h) 0 o1) (z_n h) 1 x) (z_n h) 2 o2) := fun o1 o2 _ _ => e0_init ka o1 o2 x
  cases eo : o with
  | none =>
    refine en_X11_remember__n (b_X11_remember_0b (z_pu0V rfl) ⟨hk, ?_⟩)
    rw [ho]
    cases e5 : z_or h L 5 with
    | none =>
      rw [z_rcn]
      refine ⟨_, key _ _ e5 eo, hk, hk, _, _, e_min, hk, ?_⟩
      unfold rem
      rw [e5, h6]
      rfl
    | some p =>
      rw [z_rcs]
      refine ⟨_, key _ _ e5 eo, hk, hk, _, _, e_min, hk, ?_⟩
      unfold rem
      rw [e5, h6]
      rfl
  | some k =>
    refine en_X11_remember (b_X11_remember_0 (z_pu0V rfl) ⟨hk, ?_⟩)
    rw [ho]
    cases e5 : z_or h L 5 with
    | none =>
      rw [z_rcn]
      refine ⟨_, key _ _ e5 eo, hk, hk, _, _, e_min, hk, ?_⟩
      unfold rem
      rw [e5, h6]
      rfl
    | some p =>
      rw [z_rcs]
      refine ⟨_, key _ _ e5 eo, hk, hk, _, _, e_min, hk, ?_⟩
      unfold rem
      rw [e5, h6]
      rfl
theorem kmin_e {n : Nat} (hn : n ≤ 40) {st : Sta} {hs : List Sta} (e : hs.length = n) : kmin (nI n + nI 1) = nI ((st :: hs).take 40).length := by
  rw [List.length_take, List.length_cons, e, nI_add]
  unfold kmin
  by_cases c : 40 < n + 1
  · rw [if_pos (nI_lt c (by omega))]
    congr 1
    omega
  · rw [if_neg (nI_nlt (by omega) (by decide))]
    congr 1
    omega
/-- a change of the card -/
theorem e11_change (hc : cI L r h σ) (h40 : σ.2.2.1.length ≤ 40) {k : Nat} {cd : Cd} (hcd : cdk L h k cd) (hok : c_cok cd) : ∃ h', z_Ev G (d + 6) k_X11_change [.ref L, .ref k] h (.inl none, h') ∧ cI L r h' (sAct σ (cd, σ.2.1.2)) ∧ ex (cY L) 1 3 h h' ∧ z_or h' L 3 = some k := by
  obtain ⟨hb, hT⟩ := hc
  obtain ⟨t1, t2, t3, t4, t5, t6, t7, t8⟩ := hT
  obtain ⟨k0, k1, k2, k3⟩ := t3
  obtain ⟨b1, e1, ⟨f1, f2, f3, f4, f5⟩, v1, v2, v3, v4⟩ := rem_ok hb mI (some k0)
  have E := e11_remember (G := G) (d := d) hb mI (some k0)
  obtain ⟨g, eg⟩ : ∃ g, g = rem L h mI (some k0) := ⟨_, rfl⟩
  rw [← eg] at b1 e1 f1 f2 f3 f4 f5 v1 v2 v3 v4 E
  obtain ⟨b2, e2⟩ := bs_por b1 (k := 3) (by decide) (some k)
  have e12 := exY_t hb b1 e1 e2
  have hI := hb.2.2.1
  have Ig := b1.2.2.1
  have hX : ∀ a, cY L a → hl L a := fun _ q => cY_hl q
  have oL : z_or (z_por g L 3 (some k)) L = z_u (z_u (z_or h L) 5 (some (z_n h))) 3 (some k) := by
    show z_u (z_or g) L (z_u (z_or g L) 3 (some k)) L = _
    rw [u_eq, v2]
  obtain ⟨fa1, fa2, -, fa4, fa5, -⟩ := ex_fr Ig hX e2 f1
  have fa5 := fa5 (by rw [f2]; decide)
  refine ⟨z_por g L 3 (some k), en_X11_change (b_X11_change_0 (z_pu0V rfl) ⟨hb.1.1, ?_⟩), ⟨b2, ?_⟩, e12, by rw [oL]; exact u_eq _ _ _⟩
  · rw [k1, z_rcs]
    exact ⟨hb.1.1, g, E, b1.1.1, rfl⟩
  · show sV L (z_por g L 3 (some k)) (z_oi g L) (z_or (z_por g L 3 (some k)) L) (z_ai g (L + 1)) (z_ar g (L + 15)) _
    rw [v1, v3, v4, oL]
    refine ⟨⟨(u_ne _ _ (by decide)).trans t1.1, t1.2⟩, (u_ne _ _ (by decide)).trans t2, ⟨k, u_eq _ _ _, cdk_ex hI hX e12 hcd, hok⟩, fun s hs => oc_ex hI hX e12 (t4 s hs), ?_, ?_, ⟨(u_ne _ _ (by decide)).trans t7.1, (u_ne _ _ (by decide)).trans t7.2⟩, ?_⟩
    · rw [show z_u (z_u (z_or h L) 5 (some (z_n h))) 3 (some k) 5 = some (z_n h) by rw [u_ne _ _ (by decide), u_eq]]
      refine acR_take 0 40 _ _ _ ⟨z_n h, rfl, fa1, by rw [fa2]; exact f2, Or.inl ⟨by rw [fa4]; exact f3, ?_, rfl⟩, ?_⟩
      · rw [fa5, f5]
        exact ⟨k0, rfl, cdk_ex hI hX e12 k2, k3⟩
      · rw [fa5, f4]
        exact acR_ex hI hX e12 _ _ _ t5
    · rw [u_eq, t6]
      exact kmin_e h40 rfl
    · rw [show z_u (z_u (z_or h L) 5 (some (z_n h))) 3 (some k) 9 = z_or h L 9 by rw [u_ne _ _ (by decide), u_ne _ _ (by decide)]]
      exact imR_ex hI hX e12 t8
theorem e11_refuse (hc : cI L r h σ) : z_Ev G (d + 4) k_X11_refuse [.ref L] h (.inl (some (.int mI)), z_poi h L 8 (z_oi h L 8 + nI 1)) ∧ cI L r (z_poi h L 8 (z_oi h L 8 + nI 1)) (sRef σ) ∧ ex (cY L) 0 0 h (z_poi h L 8 (z_oi h L 8 + nI 1)) := by
  obtain ⟨hb, hT⟩ := hc
  obtain ⟨b1, e1⟩ := bs_poi hb 8 (z_oi h L 8 + nI 1)
  refine ⟨en_X11_refuse (b_X11_refuse_0 (z_pu0V rfl) ⟨hb.1.1, hb.1.1, rfl⟩), ⟨b1, ?_⟩, e1⟩
  obtain ⟨t1, t2, t3, t4, t5, t6, t7, t8⟩ := sV_ex hb.2.2.1 (fun _ q => cY_hl q) e1 hT
  show sV L _ (z_u (z_oi h) L (z_u (z_oi h L) 8 (z_oi h L 8 + nI 1)) L) (z_or h L) (z_ai h (L + 1)) (z_ar h (L + 15)) _
  rw [u_eq]
  refine ⟨⟨(u_ne _ _ (by decide)).trans t1.1, t1.2⟩, (u_ne _ _ (by decide)).trans t2, t3, t4, t5, (u_ne _ _ (by decide)).trans t6, ⟨(u_ne _ _ (by decide)).trans t7.1, ?_⟩, t8⟩
  rw [u_eq, t7.2, nI_add]
  rfl
theorem pub_rf {κ : z_Key} {As : List Value} {o : Option Value ⊕ String} (hc : cI L r h σ) (hE : z_Ev G (d + 4) k_X11_refuse [.ref L] h (.inl (some (.int mI)), z_poi h L 8 (z_oi h L 8 + nI 1)) → z_Ev G (d + 5) κ (.ref L :: As) h (o, z_poi h L 8 (z_oi h L 8 + nI 1))) : pubC G (d + 5) κ L r h As o (sRef σ) := by
  obtain ⟨E, c', e⟩ := e11_refuse (G := G) (d := d) hc
  exact pub_mk c' e (fun _ q => cY_cX q) (by decide) (by decide) (hE E)
end C8
