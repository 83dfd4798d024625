/-! THE LISTS: one longer -/
def lnZ (il : Sc → Bool) (W : Nat → Nat → Nat) (m : Nat) : Nat → Nat → (Nat → Nat) × Nat → (Nat → Nat) × Nat
  | 0, _, st => st
  | t + 1, k, st => lnZ il W m t (k + 1) (lnQ il W m k st)
theorem lnZ_le (il : Sc → Bool) (W : Nat → Nat → Nat) (m : Nat) : ∀ t k st, st.2 ≤ (lnZ il W m t k st).2 := by
  intro t
  induction t with
  | zero => intro k st; exact Nat.le_refl _
  | succ t ih => intro k st; exact Nat.le_trans (lnU_le il m _ _ _ st) (ih (k + 1) _)
/-- what the lists must be -/
def vW (il : Sc → Bool) (N : Nat → Nat) (W : Nat → Nat → Nat) : Prop := N 0 = 1 ∧ (∀ m, m < 8 → ∀ k, k < N m → c_sok (c_rw (rwk W m k) m)) ∧ ∀ m, 1 ≤ m → m ≤ 7 → (lnZ il W m (N (m - 1)) 0 (fun _ => 0, 0)).2 = m * N m ∧ ∀ i, i < m * N m → (lnZ il W m (N (m - 1)) 0 (fun _ => 0, 0)).1 i = W m i
/-- the lists but for how many are ready -/
def lsq (N : Nat → Nat) (W : Nat → Nat → Nat) (L r : Nat) (h : z_H) : Prop := ∀ m, m < r → z_ai h (L + 25 + 7) m = nI (N m) ∧ ∃ a, z_ar h (L + 25 + 6) m = some a ∧ fr L h a ∧ z_kd h a = 1 ∧ z_ln h a = m * N m ∧ ∀ i, i < m * N m → z_ai h a i = nI (W m i)
section HZ
variable {V : CV} {G : z_G} {d L r c s : Nat} {h0 h : z_H} {N : Nat → Nat} {W : Nat → Nat → Nat} {il : Sc → Bool}
theorem ln_all (hv : vI V il) (hN : vN N W) (hW : vW il N W) (hI0 : inv V L h0) (hL : L + 75 ≤ z_n h0) (hl0 : lst N W L r h0) {ra m : Nat} (h1 : 1 ≤ m) (h7 : m ≤ 7) (hmr : m ≤ r) : ∀ t k h fa st row c s, k + t = N (m - 1) → (lnZ il W m t k st).2 ≤ 448 → lnI V L h0 ra m row h fa st c s → ∃ h' fa' row', lnI V L h0 ra m row' h' fa' (lnZ il W m t k st) (c + 1408 * t) (s + 76800 * t) ∧ ∀ R, z_J G (d + 24) (m_X4_lengthen z_pu0) R 14 [some (.ref (L + 25)), some (.int (nI m)), some (.ref ra), some (.ref fa'), some (.int (nI (lnZ il W m t k st).2)), some (.int (nI (N (m - 1)))), none, none] [] h' → z_J G (d + 24) (m_X4_lengthen z_pu0) R 14 [some (.ref (L + 25)), some (.int (nI m)), some (.ref ra), some (.ref fa), some (.int (nI st.2)), some (.int (nI k)), none, none] [] h := by
  intro t
  induction t with
  | zero =>
    intro k h fa st row c s hk hz hi
    refine ⟨h, fa, row, hi, fun R hR => ?_⟩
    rw [show k = N (m - 1) by omega]
    exact hR
  | succ t ih =>
    intro k h fa st row c s hk hz hi
    obtain ⟨g, fg, ig, jg⟩ := ln_k (G := G) (d := d) hv hN hI0 hL hl0 h1 h7 hmr (show k < N (m - 1) by omega) (hW.2.1 (m - 1) (by omega) k (by omega)) (Nat.le_trans (lnZ_le il W m t (k + 1) _) hz) hi
    obtain ⟨h', fa', row', i', j'⟩ := ih (k + 1) g fg _ _ _ _ (by omega) hz ig
    refine ⟨h', fa', row', ?_, fun R hR => jg R (j' R hR)⟩
    have e1 : c + 1408 + 1408 * t = c + 1408 * (t + 1) := by omega
    have e2 : s + 76800 + 76800 * t = s + 76800 * (t + 1) := by omega
    rw [e1, e2] at i'
    exact i'
theorem e4_lengthen (hv : vI V il) (hN : vN N W) (hW : vW il N W) (hI : inv V L h) (hL : L + 75 ≤ z_n h) (hk : lk L h) {m : Nat} (h1 : 1 ≤ m) (h7 : m ≤ 7) (hli : lst N W L m h) : ∃ h', z_Ev G (d + 24) k_X4_lengthen [.ref (L + 25), .int (nI m)] h (.inl none, h') ∧ inv V L h' ∧ ex (lX L) (2 + 1408 * N (m - 1)) (m + 76800 * N (m - 1)) h h' ∧ lk L h' ∧ z_oi h' (L + 25) 11 = z_oi h (L + 25) 11 ∧ lsq N W L (m + 1) h' := by
  have hX : ∀ a, lX L a → hl L a := fun _ hx => lX_hl hx
  obtain ⟨w1, w2⟩ := hW.2.2 m h1 h7
  have h64 := (hN m (by omega)).1
  have h64' := (hN (m - 1) (by omega)).1
  have hmN : m * N m ≤ 448 := Nat.mul_le_mul h7 h64
  obtain ⟨ha, eha⟩ : ∃ ha, ha = z_nwi h 1 m (fun _ => 0) := ⟨_, rfl⟩
  obtain ⟨hb, ehb⟩ : ∃ hb, hb = z_nwi ha 1 0 (fun _ => 0) := ⟨_, rfl⟩
  have na : z_n ha = z_n h + 1 := by rw [eha]; rfl
  have ka := nw_k hI m (fun _ => 0) (lX L)
  have kaF := nw_k hI m (fun _ => 0) (fun _ => False)
  have oa := own_new hI hL m (fun _ => 0)
  have ea1 : z_kd ha (z_n h) = 1 ∧ z_ln ha (z_n h) = m := by rw [eha]; exact ⟨nwi_kd _ _ _ _, nwi_ln _ _ _ _⟩
  rw [← eha] at ka kaF oa
  have lka := lk_ex hI hL kaF.2 (fun _ _ f => f) hk
  have kb := nw_k ka.1 0 (fun _ => 0) (lX L)
  have kbF := nw_k ka.1 0 (fun _ => 0) (fun _ => False)
  have ob := own_nwi ka.1 oa 0 (fun _ => 0)
  have fb := nw_fr ka.1 (by omega) 0 (fun _ => 0)
  have eb1 : z_kd hb (z_n ha) = 1 ∧ z_ln hb (z_n ha) = 0 ∧ z_kd hb (z_n h) = z_kd ha (z_n h) ∧ z_ln hb (z_n h) = z_ln ha (z_n h) := by rw [ehb]; exact ⟨nwi_kd _ _ _ _, nwi_ln _ _ _ _, u_ne _ _ (by omega), u_ne _ _ (by omega)⟩
  rw [← ehb] at kb kbF ob fb
  have lkb := lk_ex ka.1 (by omega) kbF.2 (fun _ _ f => f) lka.1
  have start : lnI V L h (z_n h) m (fun l => uN (z_ai hb (z_n h) l)) hb (z_n ha) (fun _ => 0, 0) (1 + 1) (m + 0) := ⟨⟨kb.1, lkb.1, ex_trans hI ka.1 hX ka.2 kb.2, lkm_t lka.2 lkb.2⟩, ⟨ob, by rw [eb1.2.2.1]; exact ea1.1, by rw [eb1.2.2.2]; exact ea1.2, Nat.le_refl _, fun l _ => (nI_uN _).symm⟩, fb, by omega, eb1.1, eb1.2.1, fun i hi => absurd hi (Nat.not_lt_zero _)⟩
  obtain ⟨g, fa, row', ig, jg⟩ := ln_all (G := G) (d := d) hv hN hW hI hL hli h1 h7 (Nat.le_refl _) (N (m - 1)) 0 hb (z_n ha) (fun _ => 0, 0) _ _ _ (by omega) (by rw [w1]; exact hmN) start
  rw [w1] at jg
  obtain ⟨⟨Ig, lkg, exg, kmg⟩, -, p1, p2, p3, p4, p5⟩ := ig
  rw [w1] at p4 p5
  have ls := lkg.1
  have lg := lst_km hI hX exg kmg hli
  obtain ⟨g2, eg2⟩ : ∃ g2, g2 = z_pai (z_par g (L + 25 + 6) m (some fa)) (L + 25 + 7) m (nI (N m)) := ⟨_, rfl⟩
  have t2 : xt (lX L) g g2 := by rw [eg2]; exact xt_trans (xt_par _ _ ⟨by omega, by omega⟩) (xt_pai _ _ ⟨by omega, by omega⟩)
  have ex2 : ex (lX L) 0 0 g g2 := xt_ex t2 (by rw [eg2]; exact Nat.le_refl _) (by rw [eg2]; exact Nat.le_refl _)
  have dv : nI (m * N m) / nI m = nI (N m) := by
    rw [pk_div (by omega) (by omega) (by omega), Nat.mul_div_cancel_left _ (by omega)]
  have ai7 : ∀ j, z_ai g2 (L + 25 + 7) j = if j = m then nI (N m) else z_ai g (L + 25 + 7) j := fun j => by
    rw [eg2]
    show z_u (z_ai g) (L + 25 + 7) (z_u (z_ai g (L + 25 + 7)) m (nI (N m))) (L + 25 + 7) j = _
    rw [u_eq]; rfl
  have ar6 : ∀ j, z_ar g2 (L + 25 + 6) j = if j = m then some fa else z_ar g (L + 25 + 6) j := fun j => by
    rw [eg2]
    show z_u (z_ar g) (L + 25 + 6) (z_u (z_ar g (L + 25 + 6)) m (some fa)) (L + 25 + 6) j = _
    rw [u_eq]; rfl
  refine ⟨g2, en_X4_lengthen (b_X4_lengthen_0 (z_pu0V rfl) ?_), inv_xt Ig hX t2, ex_mono (ex_trans hI Ig hX exg ex2) (by omega) (by omega), ?_, ?_, fun m' hm' => ?_⟩
  · rw [nI_clamp (show m < 2 ^ 31 by omega), nI_clamp (show 0 < 2 ^ 31 by decide), ← eha, ← ehb]
    refine ⟨nI_nlt (Nat.zero_le _) (by omega), by omega, by decide, by decide, jg _ (b_X4_lengthen_14 (z_pu0V rfl) ⟨ls.1, ?_⟩)⟩
    rw [ls.2.2.2.2.2.2.2.1, z_rcs, q_sub h1, nI_clamp (show m - 1 < 2 ^ 31 by omega), nI_clamp (show m < 2 ^ 31 by omega), (lg.2.2 (m - 1) (by omega)).1, if_neg (nI_nlt (Nat.le_refl _) (by omega)), ls.2.2.2.2.2.2.1.1, z_rcs]
    have vm : ∀ n, n = 8 → vp_in (nI m) n := fun n hn => by rw [hn]; exact vp_in_nI (by omega) (by decide)
    refine ⟨ls.2.2.2.2.2.2.2.2.1, by rw [ls.2.2.2.2.2.2.2.2.2]; exact vp_in_nI (by omega) (by decide), ls.1, Or.inr ⟨ls.2.2.2.2.2.2.1.2.1, p3⟩, vm _ ls.2.2.2.2.2.2.1.2.2, ls.1, ?_⟩
    rw [show z_or (z_par g (L + 25 + 6) m (some fa)) (L + 25) 10 = some (L + 25 + 7) from ls.2.2.2.2.2.2.2.1, z_rcs, if_neg (fun e => by have := (nI_eq (by omega) (by decide)).mp e; omega), dv, ← eg2]
    exact ⟨fun e => by have := (nI_eq (by omega) (by decide)).mp e; omega, ls.2.2.2.2.2.2.2.2.1, vm _ ls.2.2.2.2.2.2.2.2.2, rfl⟩
  · obtain ⟨ls', ⟨E, e1, e2⟩, m1, b1⟩ := lkg
    rw [eg2]
    refine ⟨ls', ⟨E, ?_, e2⟩, m1, b1⟩
    show z_u (z_ai g) (L + 25 + 7) _ (L + 25 + 5) = _
    rw [u_ne _ _ (by omega)]; exact e1
  · rw [eg2]; exact kmg.2.2
  · rw [ai7, ar6]
    by_cases e : m' = m
    · rw [if_pos e, if_pos e, e]
      obtain ⟨f1, f2, f3, -, -, f4, -⟩ := ex_fr Ig hX ex2 p1
      exact ⟨rfl, fa, rfl, f1, by rw [f2]; exact p3, by rw [f3]; exact p4, fun i hi => by rw [f4, p5 i hi, w2 i hi]⟩
    · rw [if_neg e, if_neg e]
      obtain ⟨a1, a, a2, a3, a4, a5, a6⟩ := lg.2.2 m' (by omega)
      obtain ⟨f1, f2, f3, -, -, f4, -⟩ := ex_fr Ig hX ex2 a3
      exact ⟨a1, a, a2, f1, by rw [f2]; exact a4, by rw [f3]; exact a5, fun i hi => by rw [f4]; exact a6 i hi⟩
end HZ
