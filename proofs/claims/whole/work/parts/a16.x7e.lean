/-! THE READER: a text read, a card told -/
def rsh0 (x tp : Nat) (h : z_H) : Prop := z_kd h x = 23 ∧ z_kd h tp = 1 ∧ z_ln h tp = 400 ∧ (z_or h x 9 = some (x + 2) ∧ z_kd h (x + 2) = 1 ∧ z_ln h (x + 2) = 12) ∧ (z_or h x 10 = some (x + 3) ∧ z_kd h (x + 3) = 1 ∧ z_ln h (x + 3) = 8) ∧ (z_or h x 11 = some (x + 4) ∧ z_kd h (x + 4) = 1 ∧ z_ln h (x + 4) = 8) ∧ (tp < x + 1 ∨ x + 1 + 4 ≤ tp)
section HK
variable {V : CV} {G : z_G} {d x tp n L : Nat} {h : z_H} {T : Nat → Nat} {X : Nat → Prop}
theorem rsh_of (hs : rsh0 x tp h) : rsh x tp (z_por h x 0 (some tp)) := by
  obtain ⟨s1, s2, s3, ⟨s4, s5⟩, ⟨s6, s7⟩, ⟨s8, s9⟩, s10⟩ := hs
  have o : ∀ k, k ≠ 0 → z_or (z_por h x 0 (some tp)) x k = z_or h x k := fun k hk => by
    show z_u (z_or h) x (z_u (z_or h x) 0 (some tp)) x k = _
    rw [u_eq, u_ne _ _ hk]
  refine ⟨s1, ?_, s2, s3, ⟨by rw [o 9 (by decide)]; exact s4, s5⟩, ⟨by rw [o 10 (by decide)]; exact s6, s7⟩, ⟨by rw [o 11 (by decide)]; exact s8, s9⟩, s10⟩
  show z_u (z_or h) x (z_u (z_or h x) 0 (some tp)) x 0 = _
  rw [u_eq, u_eq]
theorem e7_loop (hs : rsh x tp h) (ht : rtx tp T n h) : ∀ f i cl c F A, n < i + f → cl ≤ i → rdC F A c → rS n i F → F 6 = nI (if cl = 0 then 0 else 1) → F 12 = nI 0 → (cl = 0 → c = c_c0) → ∃ F' A' v, z_J G (d + 10) (m_X7_read z_pu0) (.inl (some (.int v)), z_hb h x 4 F' A') 54 [some (.ref x), none, none, some (.int (nI cl))] [] (z_hb h x 4 F A) ∧ match p_cls T n f i cl c with
      | .inl c' => v = nI 0 ∧ rdC F' A' c'
      | .inr e => v = nI e.1 ∧ F' 13 = nI e.2 := by
  have hn := ht.1
  intro f
  induction f with
  | zero => intro i cl c F A hf hcl hc hr _ _ _; have := hr.2.2; omega
  | succ f ih =>
    intro i cl c F A hf hcl hc hr h6 h12 h0
    have hi := hr.2.2
    obtain ⟨F1, e1, tc, ag⟩ := e7_step (G := G) (d := d + 3) (A := A) hs ht hr.1 hi hr.2.1
    have hc1 := rdC_ag hc ag (by decide) (by decide)
    have h12' : F1 12 = nI 0 := by rw [ag 12 (by decide)]; exact h12
    have h6' : F1 6 = nI (if cl = 0 then 0 else 1) := by rw [ag 6 (by decide)]; exact h6
    have es : p_cls T n (f + 1) i cl c = if tk_k T n i = 0 then .inl c else match p_cl T n i cl c with
        | .inl v => p_cls T n f v.2 (cl + 1) v.1
        | .inr e => .inr e := rfl
    rw [es]
    by_cases k0 : tk_k T n i = 0
    · rw [if_pos k0]
      refine ⟨F1, A, nI 0, b_X7_read_54 (z_pu0V rfl) ?_, rfl, hc1⟩
      rw [if_neg (nI_nlt (by omega) (by omega))]
      refine ⟨hs.1, _, e1, hs.1, ?_⟩
      rw [hb_oi, tc.2.2.1, if_pos ((kdI (by decide)).mpr (kd0.mpr k0)), h12']
      exact ⟨hs.1, rfl⟩
    · rw [if_neg k0]
      have rc := e7_readClause (G := G) (d := d) (A := A) hs ht hi hc1 tc h6' h0
      cases hp : p_cl T n i cl c with
      | inr e =>
        rw [hp] at rc
        obtain ⟨F2, A2, ev, q12, q13⟩ := rc
        refine ⟨F2, A2, nI e.1, b_X7_read_54 (z_pu0V rfl) ?_, rfl, q13⟩
        rw [if_neg (nI_nlt (by omega) (by omega))]
        refine ⟨hs.1, _, e1, hs.1, ?_⟩
        rw [hb_oi, tc.2.2.1, if_neg (fun e => k0 (kd0.mp ((kdI (by decide)).mp e)))]
        refine ⟨hs.1, _, _, ev, ?_⟩
        rw [if_pos rfl, hb_oi, q12]
        exact ⟨hs.1, rfl⟩
      | inl v =>
        rw [hp] at rc
        obtain ⟨F2, A2, ev, hc2, hr2, ag2⟩ := rc
        have gt := p_cl_gt hi hp
        dsimp only
        obtain ⟨F', A', w, hJ, hm⟩ := ih v.2 (cl + 1) v.1 (z_u F2 6 (nI 1)) A2 (by omega) (by omega) (rdC_ag hc2 (agF_u (K := [6]) (agr_0 _ F2) (by decide)) (by decide) (by decide)) ⟨by rw [u_ne _ _ (by decide)]; exact hr2.1, by rw [u_ne _ _ (by decide)]; exact hr2.2.1, hr2.2.2⟩ (by rw [u_eq, if_neg (by omega)]) (by rw [u_ne _ _ (by decide), ag2 12 (by decide)]; exact h12') (fun e => by omega)
        refine ⟨F', A', w, b_X7_read_54 (z_pu0V rfl) ?_, hm⟩
        rw [if_neg (nI_nlt (by omega) (by omega))]
        refine ⟨hs.1, _, e1, hs.1, ?_⟩
        rw [hb_oi, tc.2.2.1, if_neg (fun e => k0 (kd0.mp ((kdI (by decide)).mp e)))]
        refine ⟨hs.1, _, _, ev, ?_⟩
        rw [if_neg (by decide), hb_poi, nI_add]
        exact ⟨hs.1, Or.inr rfl, hJ⟩
theorem e7_read (hs0 : rsh0 x tp h) (ht0 : rtx tp T n h) : ∃ F' A' v, z_Ev G (d + 10) k_X7_read [.ref x, .ref tp, .int (nI n)] h (.inl (some (.int v)), z_hb (z_por h x 0 (some tp)) x 4 F' A') ∧ match p_text T n with
      | .inl c' => v = nI 0 ∧ rdC F' A' c'
      | .inr e => v = nI e.1 ∧ F' 13 = nI e.2 := by
  have hs := rsh_of hs0
  obtain ⟨h1, eh1⟩ : ∃ h1, h1 = z_por h x 0 (some tp) := ⟨_, rfl⟩
  rw [← eh1] at hs
  have ht : rtx tp T n h1 := by rw [eh1]; exact ht0
  obtain ⟨F0, eF0⟩ : ∃ F, F = z_oi h1 x := ⟨_, rfl⟩
  obtain ⟨A0, eA0⟩ : ∃ A : Nat → Nat → Int32, A = fun j => z_ai h1 (x + 1 + j) := ⟨_, rfl⟩
  have hh : z_hb h1 x 4 F0 A0 = h1 := by rw [eF0, eA0]; exact hb_self h1 x 4
  obtain ⟨F1, eF1⟩ : ∃ F, F = z_u (z_u (z_u (z_u (z_u (z_u F0 1 (nI n)) 2 (nI 0)) 6 (nI 0)) 7 (nI 7)) 8 (nI 0)) 12 (nI 0) := ⟨_, rfl⟩
  obtain ⟨A1, eA1⟩ : ∃ A, A = z_u (z_u A0 2 (fa_fill (fun _ => nI 0) (A0 2) 8)) 3 (fa_fill (fun _ => nI 0) (A0 3) 8) := ⟨_, rfl⟩
  have hc : rdC F1 A1 c_c0 := by
    refine ⟨by rw [eF1, u_ne _ _ (by decide), u_ne _ _ (by decide), u_eq]; rfl, by rw [eF1, u_ne _ _ (by decide), u_eq]; rfl, fun l hl => absurd hl (Nat.not_lt_zero _), fun p hp => ⟨?_, ?_⟩, cok_0⟩
    · rw [eA1, u_ne _ _ (by decide), u_eq, fa_fill_in hp]; rfl
    · rw [eA1, u_eq, fa_fill_in hp]; rfl
  have hr : rS n 0 F1 := ⟨by rw [eF1]; repeat (first | rw [u_eq] | rw [u_ne _ _ (by decide)]), by rw [eF1]; repeat (first | rw [u_eq] | rw [u_ne _ _ (by decide)]), Nat.zero_le _⟩
  obtain ⟨F', A', v, hJ, hm⟩ := e7_loop (G := G) (d := d) hs ht (n + 1) 0 0 c_c0 F1 A1 (by omega) (Nat.le_refl _) hc hr (by rw [eF1]; repeat (first | rw [u_eq] | rw [u_ne _ _ (by decide)]); rfl) (by rw [eF1, u_eq]) (fun _ => rfl)
  refine ⟨F', A', v, en_X7_read (b_X7_read_0 (z_pu0V rfl) ⟨hs0.1, ?_⟩), hm⟩
  rw [← eh1]
  have e2 : ∀ F k w, z_poi (z_hb h1 x 4 F A0) x k w = z_hb h1 x 4 (z_u F k w) A0 := fun F k w => hb_poi h1 x 4 F A0 k w
  refine b_X7_read_5 (z_pu0V rfl) ⟨hs.1, ?_⟩
  rw [show z_poi h1 x 1 (nI n) = z_hb h1 x 4 (z_u F0 1 (nI n)) A0 by rw [← e2, hh]]
  refine b_X7_read_10 (z_pu0V rfl) ⟨hs.1, ?_⟩
  rw [e2]
  refine b_X7_read_15 (z_pu0V rfl) ⟨hs.1, Or.inl rfl, ?_⟩
  rw [e2]
  refine b_X7_read_20 (z_pu0V rfl) ⟨hs.1, ?_⟩
  rw [e2]
  refine b_X7_read_26 (z_pu0V rfl) ⟨hs.1, ?_⟩
  rw [e2]
  refine b_X7_read_31 (z_pu0V rfl) ⟨hs.1, ?_⟩
  rw [e2, ← eF1]
  refine b_X7_read_36 (z_pu0V rfl) ⟨hs.1, ?_⟩
  have r3 : ∀ A, z_ai (z_hb h1 x 4 F1 A) (x + 3) = A 2 := fun A => hb_ai h1 x 4 F1 A (j := 2) (by decide)
  have r4 : ∀ A, z_ai (z_hb h1 x 4 F1 A) (x + 4) = A 3 := fun A => hb_ai h1 x 4 F1 A (j := 3) (by decide)
  have x3 : ∀ A f, z_pax (z_hb h1 x 4 F1 A) (x + 3) f = z_hb h1 x 4 F1 (z_u A 2 f) := fun A f => hb_pax h1 x 4 F1 A (j := 2) (by decide) f
  have x4 : ∀ A f, z_pax (z_hb h1 x 4 F1 A) (x + 4) f = z_hb h1 x 4 F1 (z_u A 3 f) := fun A f => hb_pax h1 x 4 F1 A (j := 3) (by decide) f
  rw [hb_or, hs.2.2.2.2.2.1.1, z_rcs]
  have f1 := e_fill (G := G) (d := d + 8) (h := z_hb h1 x 4 F1 A0) (a := x + 3) (v := nI 0) hs.2.2.2.2.2.1.2.1 (by rw [hb_ln, hs.2.2.2.2.2.1.2.2]; decide)
  rw [hb_ln, hs.2.2.2.2.2.1.2.2, r3, x3] at f1
  refine ⟨_, f1, hs.1, ?_⟩
  rw [hb_or, hs.2.2.2.2.2.2.1.1, z_rcs]
  have f2 := e_fill (G := G) (d := d + 8) (h := z_hb h1 x 4 F1 (z_u A0 2 (fa_fill (fun _ => nI 0) (A0 2) 8))) (a := x + 4) (v := nI 0) hs.2.2.2.2.2.2.1.2.1 (by rw [hb_ln, hs.2.2.2.2.2.2.1.2.2]; decide)
  rw [hb_ln, hs.2.2.2.2.2.2.1.2.2, r4, x4, u_ne _ _ (by decide), ← eA1] at f2
  exact ⟨_, f2, hJ⟩
/-- the card of what was read (the reader at L + 16) -/
theorem e7_told (hXm : ∀ a, X a → hl L a) (hI : inv V L h) (hL : L + 75 ≤ z_n h) (hk : z_kd h (L + 16) = 23) (o9 : z_or h (L + 16) 9 = some (L + 18) ∧ z_kd h (L + 18) = 1 ∧ z_ln h (L + 18) = 12) (o10 : z_or h (L + 16) 10 = some (L + 19) ∧ z_kd h (L + 19) = 1 ∧ z_ln h (L + 19) = 8) (o11 : z_or h (L + 16) 11 = some (L + 20) ∧ z_kd h (L + 20) = 1 ∧ z_ln h (L + 20) = 8) {c : Cd} (hc : rdC (z_oi h (L + 16)) (fun j => z_ai h (L + 16 + 1 + j)) c) : ∃ h' k, z_Ev G (d + 6) k_X7_told [.ref (L + 16)] h (.inl (some (va_rf (some k))), h') ∧ inv V L h' ∧ ex X 12 163 h h' ∧ cdk L h' k c := by
  have hX : ∀ a, (fun _ : Nat => False) a → hl L a := fun _ f => f.elim
  have hm := hc.2.2.2.2.1.2.1
  obtain ⟨I1, e1, f1, k1⟩ := nwo_k (ci := 1) (N := 3) hI hL (by decide) (fun _ => False)
  obtain ⟨h1, eh1⟩ : ∃ h1, h1 = z_nwo h 1 3 := ⟨_, rfl⟩
  rw [← eh1] at I1 e1 f1 k1
  have L1 : L + 75 ≤ z_n h1 := Nat.le_trans hL e1.1.1
  have hlx : ∀ j, 16 ≤ j → j < 21 → hl L (L + j) := fun j h1 h2 => by unfold hl; omega
  have x18 := ex_hl hI hL e1 (hlx 18 (by omega) (by omega)) (fun f => f) (by rw [o9.2.1]; decide)
  have x16 := ex_hl hI hL e1 (hlx 16 (by omega) (by omega)) (fun f => f) (by rw [hk]; decide)
  have row18 : ∀ l, z_ai h (L + 18) l = (fun j => z_ai h (L + 16 + 1 + j)) 1 l := fun l => rfl
  obtain ⟨h2, ev2, I2, e2, A2, N2⟩ := mk_sc (G := G) (d := d) (X := fun _ => False) (S := c.1) I1 L1 hc.2.2.2.2.1 (a := L + 18) (La := 12) (by omega) (by rw [x18.1]; exact o9.2.1) (by rw [x18.2.1]; exact o9.2.2) (by decide) (by omega) (fun l hl => by rw [x18.2.2.2.2.1]; exact hc.2.2.1 l hl)
  have L2 : L + 75 ≤ z_n h2 := Nat.le_trans L1 e2.1.1
  have E2 := ex_trans hI I1 hX e1 e2
  have y16 := ex_hl hI hL E2 (hlx 16 (by omega) (by omega)) (fun f => f) (by rw [hk]; decide)
  have y19 := ex_hl hI hL E2 (hlx 19 (by omega) (by omega)) (fun f => f) (by rw [o10.2.1]; decide)
  obtain ⟨I3, e3⟩ := nw_k I2 8 (z_ai h (L + 19)) (fun _ => False)
  have f3 := nw_fr I2 L2 8 (z_ai h (L + 19))
  obtain ⟨h3, eh3⟩ : ∃ h3, h3 = z_nwi h2 1 8 (z_ai h (L + 19)) := ⟨_, rfl⟩
  rw [← eh3] at I3 e3 f3
  have L3 : L + 75 ≤ z_n h3 := Nat.le_trans L2 e3.1.1
  have E3 := ex_trans hI I2 hX E2 e3
  have z16 := ex_hl hI hL E3 (hlx 16 (by omega) (by omega)) (fun f => f) (by rw [hk]; decide)
  have z20 := ex_hl hI hL E3 (hlx 20 (by omega) (by omega)) (fun f => f) (by rw [o11.2.1]; decide)
  obtain ⟨I4, e4⟩ := nw_k I3 8 (z_ai h (L + 20)) (fun _ => False)
  have f4 := nw_fr I3 L3 8 (z_ai h (L + 20))
  obtain ⟨h4, eh4⟩ : ∃ h4, h4 = z_nwi h3 1 8 (z_ai h (L + 20)) := ⟨_, rfl⟩
  rw [← eh4] at I4 e4 f4
  have E4 := ex_trans hI I3 hX E3 e4
  have E14 := ex_trans I1 I3 hX (ex_trans I1 I2 hX e2 e3) e4
  have fc := ex_fr I1 hX E14 f1
  have fu := ex_fr I3 hX e4 f3
  have A4 := ex_sc I2 hX (ex_trans I2 I3 hX e3 e4) A2
  have fin := crd_k (cd := c) I4 (by rw [fc.2.1]; exact k1) fc.1 fu.1 f4 ⟨by rw [fu.2.1, eh3]; exact nwi_kd _ _ _ _, by rw [fu.2.2.1, eh3]; exact nwi_ln _ _ _ _⟩ ⟨by rw [eh4]; exact nwi_kd _ _ _ _, by rw [eh4]; exact nwi_ln _ _ _ _⟩ A4 (fun p hp => by
    have r4 : z_ai h4 (z_n h3) = z_ai h (L + 20) := by rw [eh4]; exact nwi_ai _ _ _ _
    rw [r4, fu.2.2.2.2.2.1, eh3, nwi_ai]
    exact hc.2.2.2.1 p hp)
  have ns := nwo_sm (h := h1) (ci := 8) (N := 15) (a := L + 16) (by omega)
  refine ⟨_, z_n h, en_X7_told (b_X7_told_0 (z_pu0V rfl) ?_), fin.1, ex_mono (ex_X (crd_ex E4 (Nat.le_refl _)) (fun _ f => f.elim)) (by omega) (by omega), fin.2⟩
  rw [← eh1, ns.1, ns.2.2.2.1, ns.2.2.1, x16.1, x16.2.2.2.1, x16.2.2.1, o9.1, z_rcs, hc.1, hc.2.1]
  refine ⟨hk, hk, hk, _, ev2, ?_⟩
  rw [y16.1, y16.2.2.2.1, o10.1, z_rcs, y19.2.1, o10.2.2, y19.2.2.2.2.1, ← eh3, z16.1, z16.2.2.2.1, o11.1, z_rcs, z20.2.1, o11.2.2, z20.2.2.2.2.1, ← eh4]
  refine ⟨hk, by rw [y19.1]; exact o10.2.1, by rw [eh3]; exact nwi_kd _ _ _ _, hk, by rw [z20.1]; exact o11.2.1, by rw [eh4]; exact nwi_kd _ _ _ _, _, e1_init (by rw [fc.2.1]; exact k1), rfl⟩
end HK
