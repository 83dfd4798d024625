/-! a row of one's own: nobody keeps it, so that it may be written -/
def own (L : Nat) (h : z_H) (a : Nat) : Prop := fr L h a ∧ (∀ q k, z_kd h q = 24 → mu k → z_or h q k ≠ some a) ∧ ∀ q b i, bl h q b → i < 5 → z_ar h (b + 4) i ≠ some a
section HW
variable {V : CV} {L a q b c s : Nat} {h h' : z_H} {S : Sc} {X : Nat → Prop} {G : z_G} {d : Nat}
theorem own_sc (ho : fr L h a) (hb : bl h q b) (hqb : q < b) (f : Nat → Int32) (hA : sc_at q b h S) : sc_at q b (z_pax h a f) S := sc_at_of hA (fun _ _ => ⟨rfl, rfl⟩) rfl (fun _ _ => rfl) (fun j hj _ _ => u_ne _ _ (by have := ho.2.2 q b hb; omega))
theorem inv_own (hI : inv V L h) (ho : own L h a) (f : Nat → Int32) : inv V L (z_pax h a f) := by
  intro q hq
  obtain ⟨b, S, hk⟩ := hI q hq
  obtain ⟨hA, l, dr, k1, k2, k3, k4⟩ := hk
  have hb := sc_b hA
  have hf := ho.1.2.2 q b hb
  have cc : ∀ s o, ca V L h S s o → o ≠ some a → ca V L (z_pax h a f) S s o := fun s o hc hn y hy => by
    obtain ⟨c1, c2, c3, c4⟩ := hc y hy
    have ny : y ≠ a := fun e => hn (by rw [hy, e])
    exact ⟨c1, c2, c3, fun i hi => by rw [show z_ai (z_pax h a f) y = z_ai h y from u_ne _ _ ny]; exact c4 i hi⟩
  refine ⟨b, S, own_sc ho.1 hb l.1 f hA, l, dr, fun s hs => cc s _ (k1 s hs) (ho.2.1 q s hq (by unfold mu; omega)), fun i hi => cc _ _ (k2 i hi) (ho.2.2 q b i hb hi), fun h8 p hp => ?_, fun q' hq' => ?_⟩
  · rw [show z_ai (z_pax h a f) (b + 3) = z_ai h (b + 3) from u_ne _ _ (by have := l.1; omega)]
    exact k3 h8 p hp
  · obtain ⟨b', t, ht, hA'⟩ := k4 q' hq'
    exact ⟨b', t, ht, own_sc ho.1 (sc_b hA') (inv_k hI hA').2.1.1 f hA'⟩
theorem own_pax (ho : own L h a) (c : Nat) (f : Nat → Int32) : own L (z_pax h c f) a := ho
theorem own_nk (hI : inv V L h) (hX : ∀ a, X a → hl L a) (e : ex X c s h h') (hn : nkr h h') (hb : ∀ q b, bl h' q b → bl h q b) (ho : own L h a) : own L h' a := by
  refine ⟨(ex_fr hI hX e ho.1).1, fun q k hq hk hy => ?_, fun q b i hq hi => ?_⟩
  · obtain ⟨n1, n2⟩ := hn.2 q hq
    rcases n2 k a hy with c | c
    · exact ho.2.1 q k n1 hk c
    · exact absurd ho.1.1 (by omega)
  · rw [hn.1]; exact ho.2.2 q b i (hb q b hq) hi
theorem nk_bl (hI : inv V L h) (hX : ∀ a, X a → hl L a) (e : ex X c s h h') (hn : nkr h h') : ∀ q b, bl h' q b → bl h q b := fun q b hb => by
  rcases ex_bl hI hX e hb with cc | cc
  · exact cc
  · exact absurd (hn.2 q hb.1).1 (inv_n hI cc)
/-- a new row is one's own -/
theorem own_new (hI : inv V L h) (hL : L + 75 ≤ z_n h) (m : Nat) (f : Nat → Int32) : own L (z_nwi h 1 m f) (z_n h) := by
  have nb : ∀ q, z_kd (z_nwi h 1 m f) q = 24 → z_kd h q = 24 := fun q hq => u_new (by decide) hq
  refine ⟨nw_fr hI hL m f, fun q k hq hk hy => ?_, fun q b i hb hi hy => ?_⟩
  · obtain ⟨b, S, hk'⟩ := hI q (nb q hq)
    have hy' : z_or h q k = some (z_n h) := hy
    unfold mu at hk
    by_cases e : k = 14
    · rw [e] at hy'
      obtain ⟨b', t, -, hA'⟩ := hk'.2.2.2.2.2.2 _ hy'
      have l := (inv_k hI hA').2.1
      have := l.1
      have := l.2.1
      omega
    · have := (hk'.2.2.2.1 k (by omega) _ hy').1.1
      omega
  · have hb' : bl h q b := ⟨nb q hb.1, hb.2⟩
    obtain ⟨S, hk'⟩ := inv_b hI hb'
    have hy' : z_ar h (b + 4) i = some (z_n h) := hy
    have := (hk'.2.2.2.2.1 i hi _ hy').1.1
    omega
/-- a row made stays one's own when another is made -/
theorem own_nwi (hI : inv V L h) (ho : own L h a) (m : Nat) (f : Nat → Int32) : own L (z_nwi h 1 m f) a := by
  have nb : ∀ q, z_kd (z_nwi h 1 m f) q = 24 → z_kd h q = 24 := fun q hq => u_new (by decide) hq
  exact ⟨(ex_fr (X := fun _ => False) hI (fun _ f => f.elim) (nw_k hI m f _).2 ho.1).1, fun q k hq hk => ho.2.1 q k (nb q hq) hk, fun q b i hb hi => ho.2.2 q b i ⟨nb q hb.1, hb.2⟩ hi⟩
/-- new Scheme(..) beside a row of one's own -/
theorem mk_own (hI : inv V L h) (hL : L + 75 ≤ z_n h) (hS : c_sok S) {La : Nat} (ho : own L h a) (k1 : z_kd h a = 1) (k2 : z_ln h a = La) (hLa : La < 2 ^ 31) (hL2 : S.2.1 ≤ La) (hrow : ∀ l, l < S.2.1 → z_ai h a l = nI (S.2.2 l)) : ∃ h1, z_Ev G (d + 5) k_X8_init [.ref (z_n h), .int (nI S.1), .ref a, .int (nI S.2.1)] (z_nwo h 8 15) (.inl none, h1) ∧ inv V L h1 ∧ (∀ X, ex X 9 144 h h1) ∧ sc_at (z_n h) (z_n h + 1) h1 S ∧ own L h1 a := by
  have hm := hS.2.1
  have ha := ho.1.1
  have f := nwo_sm (h := h) (ci := 8) (N := 15) ha
  obtain ⟨h1, ev, hn, hc, hs, hA, hN, hf⟩ := e8_init (G := G) (d := d) (h0 := z_nwo h 8 15) (q := z_n h) (b := z_n h + 1) (a := a) (La := La) hS rfl (u_eq _ _ _) (by omega) (by omega) (by omega) (by rw [f.1]; exact k1) (by rw [f.2.1]; exact k2) hLa hL2 (fun l hl => by rw [f.2.2.2.2.1]; exact hrow l hl)
  have iv := fun X => inv_new (X := X) (c := 9) (s := 144) (q := z_n h) (b := z_n h + 1) (h0 := z_nwo h 8 15) hI hL (Nat.le_refl _) (by omega) (fun a ha => nwo_sm ha) (fun a ha hq => by
    show z_u (z_kd h) (z_n h) 24 a ≠ 24
    rw [u_ne _ _ hq]; exact inv_n hI ha) hn (by rw [hc]; show z_c h + 1 + 8 ≤ _; omega) (by rw [hs]; show z_s h + 15 + _ ≤ _; omega) hA hN hf
  have I1 := (iv (fun _ => False)).1
  have e1 := (iv (fun _ => False)).2
  have hFl : ∀ a, (fun _ : Nat => False) a → hl L a := fun _ f => f.elim
  have sm : ∀ y, y < z_n h → z_kd h1 y = z_kd h y ∧ z_or h1 y = z_or h y ∧ z_ar h1 y = z_ar h y := fun y hy => by
    obtain ⟨x1, x2, x3, x4, x5, x6, x7⟩ := nwo_sm (h := h) (ci := 8) (N := 15) hy
    obtain ⟨y1, y2, y3, y4, y5, y6, y7⟩ := hf y (by omega) (by omega)
    exact ⟨y1.trans x1, y4.trans x4, y7.trans x7⟩
  have old : ∀ q, z_kd h1 q = 24 → q < z_n h ∨ q = z_n h := fun q hq => by
    rcases Nat.lt_or_ge q (z_n h) with cc | cc
    · exact Or.inl cc
    · right
      apply Classical.byContradiction
      intro ne
      have l := (inv_k I1 hA).2.1
      rcases Nat.lt_or_ge q (z_n h + 1 + 8) with c2 | c2
      · exact l.2.2.1 q (by omega) c2 hq
      · exact inv_n I1 (by omega) hq
  refine ⟨h1, ev, I1, fun X => (iv X).2, hA, (ex_fr hI hFl e1 ho.1).1, fun q k hq hk hy => ?_, fun q b i hb hi hy => ?_⟩
  · rcases old q hq with cc | cc
    · have s := sm q cc
      rw [s.2.1] at hy
      rw [s.1] at hq
      exact ho.2.1 q k hq hk hy
    · rw [cc] at hy
      obtain ⟨n1, n2, n3, n4, n5⟩ := hN.1
      unfold mu at hk
      rcases hk with rfl | rfl | rfl | rfl | rfl
      · rw [n1] at hy; cases hy
      · rw [n2] at hy; cases hy
      · rw [n3] at hy; cases hy
      · rw [n4] at hy; cases hy
      · rw [n5] at hy; cases hy
  · rcases ex_bl hI hFl e1 hb with cc | cc
    · obtain ⟨S', k'⟩ := inv_b hI cc
      have l := k'.2.1
      rw [(sm (b + 4) (by have := l.2.1; omega)).2.2] at hy
      exact ho.2.2 q b i cc hi hy
    · have e : q = z_n h := by
        rcases old q hb.1 with c2 | c2
        · omega
        · exact c2
      have eb : b = z_n h + 1 := by
        have := hb.2
        rw [e, (y_deg hA).1] at this
        exact (Option.some.inj this).symm
      rw [eb, hN.2.2.2.2] at hy
      cases hy
end HW
