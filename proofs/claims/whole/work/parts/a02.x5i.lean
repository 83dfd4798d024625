/-! the matcher: measured -/
def uN (x : Int32) : Nat := x.toBitVec.toNat
theorem nI_uN (x : Int32) : nI (uN x) = x := by
  apply Int32.toBitVec_inj.mp
  show BitVec.ofNat 32 x.toBitVec.toNat = _
  exact BitVec.ofNat_toNat .. |>.trans (by simp)
theorem row_u (f : Nat → Int32) : f = fun i => nI (uN (f i)) := funext fun i => (nI_uN _).symm
theorem pax_self (h : z_H) (a : Nat) : z_pax h a (z_ai h a) = h := by
  unfold z_pax
  rw [u_self]
  rfl
theorem pai_ne (h : z_H) {a c : Nat} (g : Nat → Int32) (i : Nat) (v : Int32) (hac : a ≠ c) : z_pai (z_pax h c g) a i v = z_pax (z_pai h a i v) c g := by
  have e : z_uu (z_u (z_ai h) c g) a i v = z_u (z_uu (z_ai h) a i v) c g := by
    unfold z_uu
    rw [u_ne _ _ hac, u_comm _ _ _ (fun e => hac e.symm)]
  show (h.1, z_kd h, z_ln h, z_oi h, z_or h, z_uu (z_u (z_ai h) c g) a i v, z_al h, z_ar h) = (h.1, z_kd h, z_ln h, z_oi h, z_or h, z_u (z_uu (z_ai h) a i v) c g, z_al h, z_ar h)
  rw [e]
/-- no scheme keeps the row a -/
def unr (a : Nat) (h : z_H) : Prop := ∀ q b, bl h q b → (∀ s, s = 8 ∨ s = 10 ∨ s = 11 ∨ s = 13 → z_or h q s ≠ some a) ∧ ∀ i, i < 5 → z_ar h (b + 4) i ≠ some a
section GE
variable {V : CV} {G : z_G} {d L mt q b c s : Nat} {h h' h'' : z_H} {S F T : Sc} {X : Nat → Prop}
theorem inv_pxu {a : Nat} {f : Nat → Int32} (hI : inv V L h) (ha : ∀ q b, bl h q b → a < q ∨ b + 8 ≤ a) (hu : unr a h) : inv V L (z_pax h a f) := by
  have cak : ∀ {S : Sc} {k : Nat} {o : Option Nat}, ca V L h S k o → o ≠ some a → ca V L (z_pax h a f) S k o := fun hc hn x hx => by
    obtain ⟨c1, c2, c3, c4⟩ := hc x hx
    refine ⟨c1, c2, c3, fun i hi => ?_⟩
    rw [show z_ai (z_pax h a f) x = z_ai h x from u_ne _ _ (fun e => hn (e ▸ hx))]
    exact c4 i hi
  have scp : ∀ {q b : Nat} {S : Sc}, sc_at q b h S → sc_at q b (z_pax h a f) S := fun {q b S} hA => sc_px hA (fun j hj _ _ e => by
    have := ha q b (sc_b hA)
    have := (inv_k hI hA).2.1.1
    omega)
  intro q hq
  obtain ⟨b, S, hA, hb, hd, k1, k2, k3, k4⟩ := hI q hq
  obtain ⟨u1, u2⟩ := hu q b (sc_b hA)
  have hab := ha q b (sc_b hA)
  refine ⟨b, S, scp hA, hb, hd, fun k hk => cak (k1 k hk) (u1 k hk), fun i hi => cak (k2 i hi) (u2 i hi), fun hn p hp => ?_, fun q' hq' => ?_⟩
  · rw [show z_ai (z_pax h a f) (b + 3) = z_ai h (b + 3) from u_ne _ _ (by have := hb.1; omega)]
    exact k3 hn p hp
  · obtain ⟨b', t, ht, hA'⟩ := k4 q' hq'
    exact ⟨b', t, ht, scp hA'⟩
theorem ex_px {a : Nat} {f : Nat → Int32} (e : ex X c s h h') (ha : X a ∨ z_n h ≤ a ∨ ∃ q b, bl h q b ∧ (a = b + 3 ∨ a = b + 4)) : ex X c s h (z_pax h' a f) := by
  refine ⟨e.1, fun x hx => ⟨(e.2 x hx).1, (e.2 x hx).2.1, fun hX => ?_⟩⟩
  obtain ⟨f1, f2, f3, f4⟩ := (e.2 x hx).2.2 hX
  refine ⟨f1, f2, f3, ?_⟩
  by_cases c : x = a
  · rcases ha with h1 | h1 | h1
    · exact absurd (c ▸ h1) hX
    · omega
    · left; rw [c]; exact h1
  · rcases f4 with f4 | f4
    · exact Or.inl f4
    · right; exact ⟨(u_ne _ _ c).trans f4.1, f4.2⟩
def W0n : Nat → Nat := fun i => if i < 9 then 1 else 0
def meaR (S : Sc) : Nat → (Nat → Nat) → (Nat → Nat) → (Nat → Nat) → (Nat → Nat) × (Nat → Nat) × (Nat → Nat)
  | 0, W, N, O => (W, N, O)
  | k + 1, W, N, O => meaR S k (z_u W k (W (k + 1) * (g_mov S S true k N O).1)) (g_mov S S true k N O).2.1 (g_mov S S true k N O).2.2
/-- what a matcher keeps -/
def km (L : Nat) (h h' : z_H) : Prop := (∀ k, 6 ≤ k → z_or h' (L + 21) k = z_or h (L + 21) k) ∧ (∀ k, k ≠ 4 → z_oi h' (L + 21) k = z_oi h (L + 21) k) ∧ z_ai h' (L + 23) = z_ai h (L + 23) ∧ z_ai h' (L + 24) = z_ai h (L + 24)
theorem km_refl (h : z_H) : km L h h := ⟨fun _ _ => rfl, fun _ _ => rfl, rfl, rfl⟩
theorem km_trans (e1 : km L h h') (e2 : km L h' h'') : km L h h'' := ⟨fun k hk => (e2.1 k hk).trans (e1.1 k hk), fun k hk => (e2.2.1 k hk).trans (e1.2.1 k hk), e2.2.2.1.trans e1.2.2.1, e2.2.2.2.trans e1.2.2.2⟩
theorem km_tq (hL : L + 75 ≤ z_n h) (e : tq (L + 21) h h') : km L h h' := by
  refine ⟨fun k hk => ?_, fun k hk => ?_, (e.2 (L + 23) (by omega)).2.2.1, (e.2 (L + 24) (by omega)).2.2.1⟩
  · rcases (e.2 (L + 21) (by omega)).2.2.2.2.2.1 k with c | c | c
    · omega
    · exact absurd rfl c.1
    · exact c
  · rcases (e.2 (L + 21) (by omega)).2.2.2.2.2.2 k with c | c
    · exact absurd c.2 hk
    · exact c
theorem km_pax {a : Nat} {f : Nat → Int32} (h3 : a ≠ L + 23) (h4 : a ≠ L + 24) : km L h (z_pax h a f) := ⟨fun _ _ => rfl, fun _ _ => rfl, u_ne _ _ (fun e => h3 e.symm), u_ne _ _ (fun e => h4 e.symm)⟩
theorem ms_por {k : Nat} {v : Option Nat} (hq : q ≠ L + 21) (hm : ms L h) : ms L (z_por h q k v) := by
  have o : ∀ j, z_or (z_por h q k v) (L + 21) j = z_or h (L + 21) j := fun j => by
    show z_u (z_or h) q (z_u (z_or h q) k v) (L + 21) j = _
    rw [u_ne _ _ (fun e => hq e.symm)]
  obtain ⟨m0, ⟨m1, m2, m3⟩, ⟨m4, m5, m6⟩, m7, m8, m9⟩ := hm
  exact ⟨m0, ⟨by rw [o]; exact m1, m2, m3⟩, ⟨by rw [o]; exact m4, m5, m6⟩, by rw [o]; exact m7, m8, m9⟩
theorem mov_lt (hn : S.1 ≤ 8) {k : Nat} (hk : k < S.1) {N O : Nat → Nat} (hO : ∀ i, i < 8 → O i < 8) : ∀ i, i < 8 → (g_mov S S true k N O).2.2 i < 8 := by
  unfold g_mov
  exact movV_O (k := S.1 - (k + 1)) (by omega) hn hn _ _ _ _ _ (by omega) (by omega) (fun i hi => by unfold idN; rw [if_pos hi]; omega) hO
theorem e5_measured (hI : inv V L h) (hL : L + 75 ≤ z_n h) (hm : ms L h) (hV : ∀ p, p < 8 → V 13 S p = nI (g_twT S p)) (hV8 : ∀ N O, (∀ i, i < 8 → O i = i) → ∀ p, p < 9 → V 8 S p = nI ((meaR S S.1 W0n N O).1 p)) (hV9 : ∀ N O, (∀ i, i < 8 → O i = i) → ∀ p, p < 8 → V 9 S p = nI ((meaR S S.1 W0n N O).2.2 p)) (hA : sc_at q b h S) : ∃ h' a, z_Ev G (d + 16) k_X5_measured [.ref (L + 21), .ref q] h (.inl (some (va_rf (some a))), h') ∧ inv V L h' ∧ ex (mX L) 3 25 h h' ∧ ms L h' ∧ km L h h' ∧ z_or h' q 8 = some a := by
  have hX : ∀ a, mX L a → hl L a := fun _ hx => mX_hl hx
  have hn := y_n8 hA
  have hk := inv_k hI hA
  have hb1 := hk.2.1.1
  have hb2 := hk.2.1.2.1
  have hqm : q ≠ L + 21 := fun e => hk.2.1.2.2.2 q (Nat.le_refl _) (by omega) (by unfold hl; omega)
  cases h8 : z_or h q 8 with
  | some a =>
    refine ⟨h, a, en_X5_measured (b_X5_measured_0 (z_pu0V rfl) ?_), hI, ex_mono (ex_refl h) (by omega) (by omega), hm, km_refl h, h8⟩
    rw [h8, z_rcs, z_rcs]
    exact ⟨y_kd hA, y_kd hA, rfl⟩
  | none =>
    have L22 : hl L (L + 22) := by unfold hl; omega
    have L23 : hl L (L + 23) := by unfold hl; omega
    have L24 : hl L (L + 24) := by unfold hl; omega
    have nb : ∀ x, hl L x → x ≠ b + 3 := fun x hx e => hk.2.1.2.2.2 (b + 3) (by omega) (by omega) (e ▸ hx)
    -- the orders' row
    obtain ⟨g1, eg1⟩ : ∃ g, g = z_nwi h 1 9 (fun i => nI (W0n i)) := ⟨_, rfl⟩
    have I1 : inv V L g1 := by rw [eg1]; exact (nw_k hI 9 _ (mX L)).1
    have e1 : ex (mX L) 1 9 h g1 := by rw [eg1]; exact (nw_k hI 9 _ (mX L)).2
    have A1 := ex_sc hI hX e1 hA
    have n1 : z_n g1 = z_n h + 1 := by rw [eg1]; rfl
    have o1 : ∀ x, z_or g1 x = z_or h x := fun x => by rw [eg1]; rfl
    -- the orbits
    obtain ⟨O0, eO0⟩ : ∃ O : Nat → Nat, O = fun i => if i < 8 then i else uN (z_ai g1 (b + 3) i) := ⟨_, rfl⟩
    have hO0 : ∀ i, i < 8 → O0 i = i := fun i hi => by rw [eO0]; exact if_pos hi
    obtain ⟨g2, eg2⟩ : ∃ g, g = z_pax g1 (b + 3) (fun i => nI (O0 i)) := ⟨_, rfl⟩
    have io := inv_orb (X := mX L) I1 A1 (by rw [o1]; exact h8) (fun i => nI (O0 i))
    rw [← eg2] at io
    have A2 := ex_sc I1 hX io.2 A1
    have m2 : ms L g2 := by
      obtain ⟨m0, ⟨m1, m2, m3⟩, ⟨m4, m5, m6⟩, m7, m8, m9⟩ := hm
      have kk : ∀ x, x < z_n h → z_kd g2 x = z_kd h x ∧ z_ln g2 x = z_ln h x := fun x hx => by
        rw [eg2]; exact ⟨(e1.2 x hx).1, (e1.2 x hx).2.1⟩
      have oo : ∀ k, z_or g2 (L + 21) k = z_or h (L + 21) k := fun k => by rw [eg2]; show z_or g1 (L + 21) k = _; rw [o1]
      exact ⟨by rw [(kk (L + 21) (by omega)).1]; exact m0, ⟨by rw [oo]; exact m1, by rw [(kk (L + 22) (by omega)).1]; exact m2, by rw [(kk (L + 22) (by omega)).2]; exact m3⟩, ⟨by rw [oo]; exact m4, by rw [(kk (L + 23) (by omega)).1]; exact m5, by rw [(kk (L + 23) (by omega)).2]; exact m6⟩, by rw [oo]; exact m7, by rw [(kk (L + 24) (by omega)).1]; exact m8, by rw [(kk (L + 24) (by omega)).2]; exact m9⟩
    have n2 : z_n g2 = z_n h + 1 := by rw [eg2]; exact n1
    have km2 : km L h g2 := by
      have e0 : km L h g1 := ⟨fun k _ => by rw [o1], fun k _ => by rw [eg1]; rfl, by rw [eg1]; exact u_ne _ _ (by omega), by rw [eg1]; exact u_ne _ _ (by omega)⟩
      rw [eg2]
      exact km_trans e0 (km_pax (fun e => nb _ L23 e.symm) (fun e => nb _ L24 e.symm))
    -- the beginning
    obtain ⟨g3, af, at', evb, I3, e3, t3, w3, ffa, ffb⟩ := e5_begin (G := G) (d := d + 8) io.1 (by omega) m2 hV hV A2 A2 true
    have m3 := tq_ms (by omega) t3 m2
    have A3 := w3.2.1
    have E2 := ex_trans hI I1 hX e1 io.2
    have E3 := ex_trans hI io.1 hX E2 e3
    have n3 := t3.1.1
    have r3 : ∀ x, x < z_n h + 1 → z_ai g3 x = z_ai g2 x := fun x hx => (t3.2 x (by omega)).2.2.1
    have ra : z_ai g3 (z_n h) = fun i => nI (W0n i) := by
      rw [r3 _ (by omega), eg2, show z_ai (z_pax g1 (b + 3) (fun i => nI (O0 i))) (z_n h) = z_ai g1 (z_n h) from u_ne _ _ (by omega), eg1]
      exact nwi_ai _ _ _ _
    have rb : z_ai g3 (b + 3) = fun i => nI (O0 i) := by
      rw [r3 _ (by omega), eg2]; exact pax_ai _ _ _
    have ka : z_kd g3 (z_n h) = 1 := by rw [(t3.2 _ (by omega)).1, eg2]; show z_kd g1 _ = 1; rw [eg1]; exact nwi_kd _ _ _ _
    have la : z_ln g3 (z_n h) = 9 := by rw [(t3.2 _ (by omega)).2.1, eg2]; show z_ln g1 _ = 9; rw [eg1]; exact nwi_ln _ _ _ _
    have na1 : z_n h ≠ af := fun e => by have := w3.1.2.2.2.1.2.2.1; rw [← e, la] at this; omega
    have na2 : z_n h ≠ at' := fun e => by have := w3.1.2.2.2.2.1.2.2.1; rw [← e, la] at this; omega
    have hbl : ∀ q' b', bl g3 q' b' → bl h q' b' := fun q' b' hb => by
      rcases ex_bl hI hX E3 hb with c | c
      · exact c
      · have k1 : z_kd g3 q' = 24 := hb.1
        by_cases e : q' = z_n h
        · rw [e, ka] at k1; omega
        · have := t3.1.2 q' (by omega) k1
          rw [eg2] at this
          have k2 : z_kd g1 q' = 24 := this
          rw [eg1] at k2
          exact absurd (u_new (by decide) k2) (inv_n hI c)
    have s8 : z_or g3 q 8 = none := by
      rcases (t3.2 q (by omega)).2.2.2.2.2.1 8 with c | c | c
      · omega
      · omega
      · rw [c, eg2]; show z_or g1 q 8 = none; rw [o1]; exact h8
    have hu : unr (z_n h) g3 := fun q' b' hb => by
      have hb0 := hbl q' b' hb
      obtain ⟨S', k'⟩ := inv_b hI hb0
      have l1 := k'.2.1.1
      have l2 := k'.2.1.2.1
      refine ⟨fun s hs e => ?_, fun i hi e => ?_⟩
      · have e0 : z_or g2 q' s = z_or h q' s := by rw [eg2]; show z_or g1 q' s = _; rw [o1]
        rcases (t3.2 q' (by omega)).2.2.2.2.2.1 s with c | c | c
        · omega
        · obtain ⟨-, -, y, y1, y2⟩ := c
          rw [e] at y1; cases y1; omega
        · rw [c, e0] at e
          have := (k'.2.2.2.1 s hs _ e).1.1
          omega
      · have e0 : z_ar g3 (b' + 4) = z_ar h (b' + 4) := by
          rw [(t3.2 (b' + 4) (by omega)).2.2.2.2.1, eg2]; show z_ar g1 _ = _; rw [eg1]; rfl
        rw [e0] at e
        have := (k'.2.2.2.2.1 i hi _ e).1.1
        omega
    have hab : ∀ q' b', bl g3 q' b' → z_n h < q' ∨ b' + 8 ≤ z_n h := fun q' b' hb => by
      obtain ⟨S', k'⟩ := inv_b hI (hbl q' b' hb)
      right; exact k'.2.1.2.1
    -- any rows there
    have scH : ∀ (W N O : Nat → Nat), ∃ H, H = z_pax (z_pax (z_pax g3 (z_n h) (fun i => nI (W i))) (L + 22) (fun i => nI (N i))) (b + 3) (fun i => nI (O i)) ∧ inv V L H ∧ ex (mX L) 3 25 h H ∧ sc_at q b H S ∧ ms L H ∧ km L h H ∧ z_or H q 8 = none ∧ z_ai H (z_n h) = fun i => nI (W i) := by
      intro W N O
      have i1 : inv V L (z_pax g3 (z_n h) (fun i => nI (W i))) := inv_pxu I3 hab hu
      have i2 : inv V L (z_pax (z_pax g3 (z_n h) (fun i => nI (W i))) (L + 22) (fun i => nI (N i))) := inv_xt i1 hX (xt_pax _ ⟨by omega, by omega⟩)
      have a2 : sc_at q b (z_pax (z_pax g3 (z_n h) (fun i => nI (W i))) (L + 22) (fun i => nI (N i))) S := sc_px (sc_px A3 (fun j _ _ _ => by omega)) (fun j hj _ _ e => hk.2.1.2.2.2 (b + j) (by omega) (by omega) (e ▸ L22))
      have i3 := inv_orb (X := mX L) i2 a2 s8 (fun i => nI (O i))
      refine ⟨_, rfl, i3.1, ex_mono (ex_px (ex_px (ex_px E3 (Or.inr (Or.inl (Nat.le_refl _)))) (Or.inl ⟨by omega, by omega⟩)) (Or.inr (Or.inr ⟨q, b, sc_b hA, Or.inl rfl⟩))) (by omega) (by omega), sc_px a2 (fun j hj j3 j4 => by omega), m3, ?_, s8, ?_⟩
      · exact km_trans km2 (km_trans (km_tq (by omega) t3) (km_trans (km_pax (by omega) (by omega)) (km_trans (km_pax (by omega) (by omega)) (km_pax (fun e => nb _ L23 e.symm) (fun e => nb _ L24 e.symm)))))
      · rw [show z_ai (z_pax (z_pax (z_pax g3 (z_n h) (fun i => nI (W i))) (L + 22) (fun i => nI (N i))) (b + 3) (fun i => nI (O i))) (z_n h) = z_ai (z_pax (z_pax g3 (z_n h) (fun i => nI (W i))) (L + 22) (fun i => nI (N i))) (z_n h) from u_ne _ _ (by omega), show z_ai (z_pax (z_pax g3 (z_n h) (fun i => nI (W i))) (L + 22) (fun i => nI (N i))) (z_n h) = z_ai (z_pax g3 (z_n h) (fun i => nI (W i))) (z_n h) from u_ne _ _ (by omega)]
        exact pax_ai _ _ _
    have hst : ∀ (W : Nat → Nat), mw (L + 21) (L + 22) q b q b af at' true (z_pax g3 (z_n h) (fun i => nI (W i))) S S := fun W => mw_px w3 na1 na2 (fun j _ _ _ => by omega) (fun j _ _ _ => by omega)
    have hb0 : bl g3 q b := sc_b A3
    have hfa := ffa.2.2 q b hb0
    have hfb := ffb.2.2 q b hb0
    have ob : b + 3 ≠ af ∧ b + 3 ≠ at' ∧ (∀ j, j < 8 → j ≠ 3 → j ≠ 4 → b + 3 ≠ b + j) ∧ (∀ j, j < 8 → j ≠ 3 → j ≠ 4 → b + 3 ≠ b + j) := ⟨by omega, by omega, fun j _ _ _ => by omega, fun j _ _ _ => by omega⟩
    have main : ∀ k W N O (R : z_Res), k ≤ S.1 → (∀ i, i < 8 → O i < 8) → R = (.inl (some (va_rf (some (z_n h)))), z_por (z_pax (z_pax (z_pax g3 (z_n h) (fun i => nI ((meaR S k W N O).1 i))) (L + 22) (fun i => nI ((meaR S k W N O).2.1 i))) (b + 3) (fun i => nI ((meaR S k W N O).2.2 i))) q 8 (some (z_n h))) → z_J G (d + 16) (m_X5_measured z_pu0) R 52 [some (.ref (L + 21)), some (.ref q), some (.ref (z_n h)), some (.int (nI k - nI 1))] [] (z_pax (z_pax (z_pax g3 (z_n h) (fun i => nI (W i))) (L + 22) (fun i => nI (N i))) (b + 3) (fun i => nI (O i))) := by
      intro k
      induction k with
      | zero =>
        intro W N O R _ hO eR
        obtain ⟨H, eH, iH, exH, aH, mH, kH, oH, wH⟩ := scH W N O
        rw [← eH]
        have eR' : R = (.inl (some (va_rf (some (z_n h)))), z_por H q 8 (some (z_n h))) := by rw [eH]; exact eR
        refine b_X5_measured_52 (z_pu0V rfl) ?_
        rw [if_pos (show nI 0 - nI 1 < nI 0 by decide)]
        refine ⟨y_kd aH, (show z_kd H q = 24 from y_kd aH), ?_⟩
        have eo : z_or (z_por H q 8 (some (z_n h))) q 8 = some (z_n h) := by
          show z_u (z_or H) q (z_u (z_or H q) 8 (some (z_n h))) q 8 = _
          rw [u_eq, u_eq]
        rw [eo, z_rcs]
        exact eR'
      | succ k ih =>
        intro W N O R hk8 hO eR
        obtain ⟨H, eH, iH, exH, aH, mH, kH, oH, wH⟩ := scH W N O
        have mv := e5_moves (G := G) (d := d) (N := N) (hst W) rfl ob (nb _ L22) (y_orb A3).2.1 (y_orb A3).2.2 hO (p := k) (by omega)
        have kH2 : z_kd H (z_n h) = 1 := by rw [eH]; exact ka
        have lH2 : z_ln H (z_n h) = 9 := by rw [eH]; exact la
        refine b_X5_measured_52 (z_pu0V rfl) ?_
        rw [← eH] at mv ⊢
        rw [q_sub (show 1 ≤ k + 1 by omega), show k + 1 - 1 = k from rfl, if_neg (nI_nlt (Nat.zero_le _) (by omega)), (y_orb aH).1, z_rcs, nI_add, nI_clamp (show k < 2 ^ 31 by omega), nI_clamp (show k + 1 < 2 ^ 31 by omega), lH2, wH]
        refine ⟨kH2, vp_in_nI (by omega) (by decide), y_kd aH, mH.1, _, _, mv, ?_⟩
        obtain ⟨H', eH', iH', exH', aH', mH', kH', oH', wH'⟩ := scH W (g_mov S S true k N O).2.1 (g_mov S S true k N O).2.2
        rw [← eH']
        have kH3 : z_kd H' (z_n h) = 1 := by rw [eH']; exact ka
        have lH3 : z_ln H' (z_n h) = 9 := by rw [eH']; exact la
        refine ⟨kH3, by rw [lH3]; exact vp_in_nI (by omega) (by decide), ?_⟩
        rw [n_mul, eH', pai_ne _ _ _ _ (show z_n h ≠ b + 3 by omega), pai_ne _ _ _ _ (show z_n h ≠ L + 22 by omega), pax_pai, nu]
        have := ih (z_u W k (W (k + 1) * (g_mov S S true k N O).1)) (g_mov S S true k N O).2.1 (g_mov S S true k N O).2.2 R (by omega) (mov_lt hn.2 (by omega) hO) eR
        rw [show nI k - nI 1 = nI k + mI from by rw [← lm1]; exact Int32.sub_eq_add_neg _ _] at this
        exact this
    obtain ⟨N0, eN0⟩ : ∃ N : Nat → Nat, N = fun i => uN (z_ai g3 (L + 22) i) := ⟨_, rfl⟩
    have hstart : z_pax (z_pax (z_pax g3 (z_n h) (fun i => nI (W0n i))) (L + 22) (fun i => nI (N0 i))) (b + 3) (fun i => nI (O0 i)) = g3 := by
      rw [← ra, pax_self, show (fun i => nI (N0 i)) = z_ai g3 (L + 22) by rw [eN0]; exact (row_u _).symm, pax_self, ← rb, pax_self]
    obtain ⟨H, eH, iH, exH, aH, mH, kH, oH, wH⟩ := scH (meaR S S.1 W0n N0 O0).1 (meaR S S.1 W0n N0 O0).2.1 (meaR S S.1 W0n N0 O0).2.2
    have hca : ca V L H S 8 (some (z_n h)) := by
      intro a ha
      cases ha
      refine ⟨⟨?_, fun hh => by unfold hl at hh; omega, fun q' b' hb => ?_⟩, by rw [eH]; exact ka, by rw [eH]; exact la, fun i hi => ?_⟩
      · rw [eH]; show z_n h < z_n g3; omega
      · rw [eH] at hb; exact hab q' b' hb
      · rw [wH]; exact (hV8 N0 O0 hO0 i hi).symm
    have fin := inv_por (X := mX L) iH aH (k := 8) (a := z_n h) (by omega) hca (fun _ p hp => by
      rw [eH, show z_ai (z_pax (z_pax (z_pax g3 (z_n h) (fun i => nI ((meaR S S.1 W0n N0 O0).1 i))) (L + 22) (fun i => nI ((meaR S S.1 W0n N0 O0).2.1 i))) (b + 3) (fun i => nI ((meaR S S.1 W0n N0 O0).2.2 i))) (b + 3) = fun i => nI ((meaR S S.1 W0n N0 O0).2.2 i) from pax_ai _ _ _]
      exact (hV9 N0 O0 hO0 p hp).symm)
    refine ⟨z_por H q 8 (some (z_n h)), z_n h, en_X5_measured (b_X5_measured_0 (z_pu0V rfl) ?_), fin.1, ex_mono (ex_trans hI iH hX exH fin.2) (by omega) (by omega), ?_, ?_, ?_⟩
    · rw [h8, z_rcn, nI_clamp (by decide)]
      refine ⟨y_kd hA, by decide, by decide, _, e_fill (d := d + 14) (nwi_kd _ _ _ _) (by rw [nwi_ln]; decide), ?_⟩
      have ef : z_pax (z_nwi h 1 9 (fun _ => 0)) (z_n h) (fa_fill (fun _ => nI 1) (z_ai (z_nwi h 1 9 (fun _ => 0)) (z_n h)) (z_ln (z_nwi h 1 9 (fun _ => 0)) (z_n h))) = g1 := by
        rw [nwi_pax, nwi_ai, nwi_ln, eg1]
        congr 1
        funext i
        unfold fa_fill W0n
        by_cases c : i < 9
        · rw [if_pos c, if_pos c]
        · rw [if_neg c, if_neg c]; rfl
      rw [ef]
      have key := z_forH (G := G) (d := d + 16) (μ := m_X5_measured z_pu0) (r := (.inl (some (va_rf (some (z_n h)))), z_por H q 8 (some (z_n h)))) (pc := 19) (fun k (_ : Unit) => [some (.ref (L + 21)), some (.ref q), some (.ref (z_n h)), some (.int (nI k))]) (fun k _ => z_pax g1 (b + 3) (fun i => if i < k then nI i else z_ai g1 (b + 3) i)) (fun _ u => u) () 8 ?_ ?_
      · rw [show (fun i => if i < 0 then nI i else z_ai g1 (b + 3) i) = z_ai g1 (b + 3) from funext fun i => if_neg (Nat.not_lt_zero _), pax_self] at key
        exact key
      · intro p hp hJ
        have Ap : sc_at q b (z_pax g1 (b + 3) (fun i => if i < p then nI i else z_ai g1 (b + 3) i)) S := sc_px A1 (fun j hj j3 j4 => by omega)
        refine b_X5_measured_19 (z_pu0V rfl) ?_
        rw [if_pos (nI_lt hp (by decide)), (y_orb Ap).1, z_rcs, nI_clamp (by omega), pax_pai, nI_add]
        refine ⟨y_kd Ap, (y_orb Ap).2.1, by rw [(y_orb Ap).2.2]; exact vp_in_nI hp (by decide), ?_⟩
        rw [show z_u (fun i => if i < p then nI i else z_ai g1 (b + 3) i) p (nI p) = fun i => if i < p + 1 then nI i else z_ai g1 (b + 3) i from funext fun i => by
          by_cases e : i = p
          · subst e; rw [u_eq, if_pos (by omega)]
          · rw [u_ne _ _ e]
            by_cases c : i < p
            · rw [if_pos c, if_pos (by omega)]
            · rw [if_neg c, if_neg (by omega)]]
        exact hJ
      · refine b_X5_measured_19 (z_pu0V rfl) ?_
        rw [if_neg (nI_nlt (Nat.le_refl _) (by decide)), show z_pax g1 (b + 3) (fun i => if i < 8 then nI i else z_ai g1 (b + 3) i) = g2 by
          rw [eg2]
          congr 1
          funext i
          rw [eO0]
          by_cases c : i < 8
          · rw [if_pos c]; show nI i = nI (if i < 8 then i else _); rw [if_pos c]
          · rw [if_neg c]; show _ = nI (if i < 8 then i else _); rw [if_neg c, nI_uN]]
        refine ⟨m2.1, _, evb, y_kd A3, ?_⟩
        rw [y_n A3]
        have := main S.1 W0n N0 O0 _ (Nat.le_refl _) (fun i hi => by rw [hO0 i hi]; exact hi) rfl
        rw [hstart, ← eH] at this
        exact this
    · exact ms_por hqm mH
    · refine km_trans kH ⟨fun k _ => ?_, fun _ _ => rfl, rfl, rfl⟩
      show z_u (z_or H) q (z_u (z_or H q) 8 (some (z_n h))) (L + 21) k = _
      rw [u_ne _ _ (fun e => hqm e.symm)]
    · show z_u (z_or H) q (z_u (z_or H q) 8 (some (z_n h))) q 8 = _
      rw [u_eq, u_eq]
end GE
