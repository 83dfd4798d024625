/-! THE DRAWER: a drawing found and kept, on whatever board -/
def d_gg (hp : z_H) (x : Nat) (v8 v9 : Int32) (m0 : Nat → Int32) : z_H := z_pax (z_poi (z_poi hp x 8 v8) x 9 v9) (x + 1 + 6) m0
section HM1
variable {V : CV} {G : z_G} {d L q b i li a tw : Nat} {h hp : z_H} {S : Sc}
theorem gg_oi (hp : z_H) (x : Nat) (v8 v9 : Int32) (m0 : Nat → Int32) (k : Nat) : z_oi (d_gg hp x v8 v9 m0) x k = if k = 9 then v9 else if k = 8 then v8 else z_oi hp x k := by
  show z_u (z_u (z_oi hp) x (z_u (z_oi hp x) 8 v8)) x (z_u (z_u (z_oi hp) x (z_u (z_oi hp x) 8 v8) x) 9 v9) x k = _
  rw [u_eq, u_eq]
  rfl
theorem gg_ai (hp : z_H) (x : Nat) (v8 v9 : Int32) (m0 : Nat → Int32) {y : Nat} (hy : y ≠ x + 1 + 6) : z_ai (d_gg hp x v8 v9 m0) y = z_ai hp y := u_ne _ _ hy
theorem gg_m (hp : z_H) (x : Nat) (v8 v9 : Int32) (m0 : Nat → Int32) : z_ai (d_gg hp x v8 v9 m0) (x + 1 + 6) = m0 := u_eq _ _ _
theorem fr_ne {y : Nat} (hf : fr L h y) {j : Nat} (hj : j < 15) : y ≠ L + 33 + j := fun e => hf.2.1 (by unfold hl; omega)
theorem d_dcf (hI : inv V L h) (hk : dk L h) (hi : i < 5) (o4 : z_oi h (L + 33) 4 = nI (d_pl i)) (hA : sc_at q b h S) (har : z_ar h (L + 33 + 1 + 0) i = some li) (xp : ex (dX L) 12 173 h hp) (D : dpr L (d_pl i) li S h hp a tw) {tf : Nat} (htf : tf ≤ 8) (al : Bool) (m0 : Nat → Int32) : dcf (d_gg hp (L + 33) (nI tf) (nI al.toNat) m0) (L + 33) a S.1 (d_pl i) tf al (d_TL (wpS S)) (d_LI i) (g_twT (wpS S)) := by
  have hX : ∀ a, dX L a → hl L a := fun _ hx => dX_hl hx
  obtain ⟨d1, ⟨d2, d3⟩, ⟨d4, d5, d6⟩, ⟨d7, d8, d9, d10⟩, ⟨d11, d12, d13, d14⟩, d15, d16, d17, d18⟩ := D
  obtain ⟨l1, l2, l3, l4⟩ := hk.2 i hi li har
  have fl := ex_fr hI hX xp l1
  have hS := hA.2.1
  have ne6 : ∀ y, fr L hp y → y ≠ L + 33 + 1 + 6 ∧ y ≠ L + 33 + 1 + 5 ∧ y ≠ L + 33 + 1 + 4 := fun y hy => ⟨fr_ne hy (j := 7) (by decide), fr_ne hy (j := 6) (by decide), fr_ne hy (j := 5) (by decide)⟩
  have nl := ne6 li fl.1
  have nt := ne6 tw d7
  have na := ne6 a d11.1
  have nla : li ≠ a := fun e => by have := l1.1; omega
  have pl := d_pl16 i hi
  refine ⟨⟨d1, ?_, ?_, ?_, ?_⟩, ⟨li, d4, by show z_kd hp li = 1; rw [fl.2.1]; exact l2, by show z_ln hp li = 256; rw [fl.2.2.1]; exact l3, fun k hk => ⟨?_, d_LI_lt hi k⟩, nla, nl.2.1, nl.1⟩, ⟨tw, d5, d8, d9, fun p hp => ⟨?_, tw_lt (wp_sok hS).1.2 p⟩, d18, nt.2.1, nt.1⟩, fun k hk => ⟨?_, d_TL_lt (wp_sok hS) k⟩, ⟨d6, d12, d13⟩, ⟨na.2.2, na.2.1, na.1⟩, hS.1, pl.2, htf⟩
  · rw [gg_oi, if_neg (by decide), if_neg (by decide), d2, u_ne _ _ (by decide)]; exact o4
  · rw [gg_oi, if_neg (by decide), if_neg (by decide), d2, u_eq]
  · rw [gg_oi, if_neg (by decide), if_pos rfl]
  · rw [gg_oi, if_pos rfl]
  · rw [gg_ai _ _ _ _ _ nl.1, fl.2.2.2.2.2.1]; exact l4 k hk
  · rw [gg_ai _ _ _ _ _ nt.1]; exact d10 p hp
  · rw [gg_ai _ _ _ _ _ (by omega)]; exact d15 k hk
theorem d_seat {TL LI T : Nat → Nat} {n pl tf x : Nat} {gg : z_H} {al : Bool} {R0 : Nat → Nat} (c : dcf gg x a n pl tf al TL LI T) (h0 : ∀ r, r < 8 → R0 r < 2 ^ 16) (hm : ∀ r, r < 8 → z_ai gg (x + 1 + 6) r = nI (R0 r)) (hf : ∀ j, j < 9 → z_ai gg a j = mI) : ∃ (s' m' fd : Nat → Int32), z_Ev G (d + 10) k_X2_seatFrom [.ref x, .int (nI 0)] gg (.inl (some (.int (nI (d_gs TL LI T tf n pl al R0 n 0 (fun _ => 0) none).1))), dw gg x a s' m' fd) ∧ fdk n (d_gs TL LI T tf n pl al R0 n 0 (fun _ => 0) none).2 fd := by
  obtain ⟨R, eR⟩ : ∃ R : Nat → Nat, R = fun r => uN (z_ai gg (x + 1 + 6) r) := ⟨_, rfl⟩
  have eg : gg = dw gg x a (z_ai gg (x + 1 + 5)) (fun r => nI (R r)) (z_ai gg a) := by
    rw [eR, ← row_u (z_ai gg (x + 1 + 6))]
    exact (dw_self gg x a).symm
  have n8 := c.2.2.2.2.2.2.1
  obtain ⟨s', R', fd, ev, -, -, hfd⟩ := e2_seatFrom (G := G) (d := d + (8 - n)) c h0 n 0 (fun _ => 0) none (z_ai gg (x + 1 + 5)) R (z_ai gg a) (by omega) (fun q hq => absurd hq (Nat.not_lt_zero _)) (fun r _ hr => by
    rw [Nat.zero_mul, Nat.zero_add, eR]
    show uN (z_ai gg (x + 1 + 6) r) = R0 r
    rw [hm r (by omega)]
    exact uN_nI (Nat.lt_trans (h0 r (by omega)) (by decide))) ⟨fun j hj => hf j hj, fun Q hQ => by cases hQ⟩
  rw [← eg, show d + (8 - n) + n + 2 = d + 10 by omega] at ev
  exact ⟨s', fun j => nI (R' j), fd, ev, hfd⟩
theorem d_fin (hI : inv V L h) (hL : L + 75 ≤ z_n h) (hk : dk L h) (hi : i < 5) (hA : sc_at q b h S) (Ip : inv V L hp) (xp : ex (dX L) 12 173 h hp) (D : dpr L (d_pl i) li S h hp a tw) (v8 v9 : Int32) (m0 s' m' fd : Nat → Int32) (hfd : ∀ j, j < 9 → fd j = V (20 + i) S j) {hz : z_H} (ez : hz = dw (d_gg hp (L + 33) v8 v9 m0) (L + 33) a s' m' fd) : sc_at q b hz S ∧ drs q b hz ∧ z_kd hz a = 1 ∧ z_or hz (L + 33) 13 = some a ∧ z_kd hz (L + 33) = 18 ∧ inv V L (z_par hz (b + 4) i (some a)) ∧ ex (dX L) 12 173 h (z_par hz (b + 4) i (some a)) ∧ dk L (z_par hz (b + 4) i (some a)) ∧ fr L (z_par hz (b + 4) i (some a)) a ∧ z_ln hz a = 9 ∧ ∀ j, j < 9 → z_ai (z_par hz (b + 4) i (some a)) a j = V (20 + i) S j := by
  have hX : ∀ a, dX L a → hl L a := fun _ hx => dX_hl hx
  obtain ⟨d1, ⟨d2, d3⟩, ⟨d4, d5, d6⟩, ⟨d7, d8, d9, d10⟩, ⟨d11, d12, d13, d14⟩, d15, d16, d17, d18⟩ := D
  obtain ⟨gg, egg⟩ : ∃ gg, gg = d_gg hp (L + 33) v8 v9 m0 := ⟨_, rfl⟩
  rw [← egg] at ez
  have tg : xt (dX L) hp gg := by
    rw [egg]
    exact xt_trans (xt_poi _ _ ⟨by omega, by omega⟩) (xt_trans (xt_poi _ _ ⟨by omega, by omega⟩) (xt_pax _ ⟨by omega, by omega⟩))
  have Ig : inv V L gg := inv_xt Ip hX tg
  have xg : ex (dX L) 12 173 h gg := by
    have := ex_trans hI Ip hX xp (xt_ex (c := 0) (s := 0) tg (by rw [egg]; exact Nat.le_refl _) (by rw [egg]; exact Nat.le_refl _))
    exact this
  have og : own L gg a := by rw [egg]; exact d11
  obtain ⟨g2, eg2⟩ : ∃ g2, g2 = z_pax (z_pax gg (L + 33 + 1 + 5) s') (L + 33 + 1 + 6) m' := ⟨_, rfl⟩
  have t2 : xt (dX L) gg g2 := by rw [eg2]; exact xt_trans (xt_pax _ ⟨by omega, by omega⟩) (xt_pax _ ⟨by omega, by omega⟩)
  have I2 : inv V L g2 := inv_xt Ig hX t2
  have o2 : own L g2 a := by rw [eg2]; exact og
  have ez2 : hz = z_pax g2 a fd := by rw [ez, eg2]; rfl
  have Iz : inv V L hz := by rw [ez2]; exact inv_own I2 o2 fd
  have xz : ex (dX L) 12 173 h hz := by
    rw [ez]
    exact ex_px (ex_px (ex_px xg (Or.inl ⟨by omega, by omega⟩)) (Or.inl ⟨by omega, by omega⟩)) (Or.inr (Or.inl d17))
  have Az : sc_at q b hz S := ex_sc hI hX xz hA
  have oz : own L hz a := by rw [ez2]; exact o2
  have kz : z_kd hz a = 1 := by rw [ez, egg]; exact d12
  have lz : z_ln hz a = 9 := by rw [ez, egg]; exact d13
  have az : z_ai hz a = fd := by rw [ez]; exact dw_f _ _ _ _ _ _
  have hca : ca V L hz S (20 + i) (some a) := by
    intro y hy
    cases hy
    have ecl : cl (20 + i) S = 9 := by
      unfold cl
      rw [if_neg (by omega), if_neg (by omega), if_neg (by omega), if_neg (by omega)]
    exact ⟨oz.1, kz, by rw [ecl]; exact lz, fun j hj => by rw [ecl] at hj; rw [az]; exact hfd j hj⟩
  have pf := inv_par (X := dX L) Iz Az hi hca
  obtain ⟨hf, ehf⟩ : ∃ hf, hf = z_par hz (b + 4) i (some a) := ⟨_, rfl⟩
  rw [← ehf] at pf ⊢
  have xf : ex (dX L) 12 173 h hf := ex_trans hI Iz hX xz pf.2
  have bq := mq_ne Iz Az (x := L + 33 + 1) (by unfold hl; omega)
  have bb := (inv_k Iz Az).2.1.1
  have arf : z_ar hf (L + 33 + 1 + 0) = z_ar h (L + 33 + 1 + 0) := by
    rw [ehf]
    show z_u (z_ar hz) (b + 4) _ (L + 33 + 1 + 0) = _
    rw [u_ne _ _ (by omega), show z_ar hz = z_ar hp by rw [ez, egg]; rfl]
    exact d3
  have dz : dsh (L + 33) hf := by rw [ehf, ez, egg]; exact d1
  refine ⟨Az, (inv_k Iz Az).2.2.1, kz, by rw [ez, egg]; exact d6, by rw [ez, egg]; exact d1.1, pf.1, xf, ⟨dz, dk_rows hI hX xf hk arf⟩, (ex_fr Iz (X := dX L) hX pf.2 oz.1).1, lz, fun j hj => ?_⟩
  rw [show z_ai hf = z_ai hz by rw [ehf]; rfl, az]
  exact hfd j hj
end HM1
