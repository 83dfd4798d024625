/-! THE LISTS: prepared -/
def pcC (N : Nat → Nat) : Nat → Nat → Nat
  | 0, _ => 0
  | t + 1, r => (2 + 1408 * N (r - 1)) + pcC N t (r + 1)
def pcS (N : Nat → Nat) : Nat → Nat → Nat
  | 0, _ => 0
  | t + 1, r => (7 + 76800 * N (r - 1)) + pcS N t (r + 1)
section HA1
variable {V : CV} {G : z_G} {d L r c s : Nat} {h : z_H} {N : Nat → Nat} {W : Nat → Nat → Nat} {il : Sc → Bool}
theorem pr_ready (hI : inv V L h) (hk : lk L h) (hr : r ≤ 7) (hq : lsq N W L (r + 1) h) : inv V L (z_poi h (L + 25) 11 (nI r)) ∧ ex (lX L) 0 0 h (z_poi h (L + 25) 11 (nI r)) ∧ lk L (z_poi h (L + 25) 11 (nI r)) ∧ lst N W L (r + 1) (z_poi h (L + 25) 11 (nI r)) := by
  have hX : ∀ a, lX L a → hl L a := fun _ hx => lX_hl hx
  have t : xt (lX L) h (z_poi h (L + 25) 11 (nI r)) := xt_poi _ _ ⟨by omega, by omega⟩
  have e : ex (lX L) 0 0 h (z_poi h (L + 25) 11 (nI r)) := xt_ex t (Nat.le_refl _) (Nat.le_refl _)
  refine ⟨inv_xt hI hX t, e, hk, by omega, ?_, fun m hm => ?_⟩
  · have e1 : z_oi (z_poi h (L + 25) 11 (nI r)) (L + 25) 11 = nI r := by
      show z_u (z_oi h) (L + 25) (z_u (z_oi h (L + 25)) 11 (nI r)) (L + 25) 11 = _
      rw [u_eq, u_eq]
    rw [e1, nI_add]
  · obtain ⟨a1, a, a2, a3, a4, a5, a6⟩ := hq m hm
    exact ⟨a1, a, a2, (ex_fr hI hX e a3).1, a4, a5, a6⟩
theorem e4_prepare (hv : vI V il) (hN : vN N W) (hW : vW il N W) (hI : inv V L h) (hL : L + 75 ≤ z_n h) (hk : lk L h) (hli : lst N W L r h) {n : Nat} (hn : n ≤ 7) : ∃ h' r', z_Ev G (d + 25) k_X4_prepare [.ref (L + 25), .int (nI n)] h (.inl none, h') ∧ inv V L h' ∧ ex (lX L) (pcC N (n + 1 - r) r) (pcS N (n + 1 - r) r) h h' ∧ lk L h' ∧ n < r' ∧ lst N W L r' h' := by
  have hX : ∀ a, lX L a → hl L a := fun _ hx => lX_hl hx
  have loop : ∀ t r h, r + t = n + 1 → inv V L h → L + 75 ≤ z_n h → lk L h → lst N W L r h → ∃ h', z_J G (d + 25) (m_X4_prepare z_pu0) (.inl none, h') 7 [some (.ref (L + 25)), some (.int (nI n)), some (.int (nI r))] [] h ∧ inv V L h' ∧ ex (lX L) (pcC N t r) (pcS N t r) h h' ∧ lk L h' ∧ lst N W L (n + 1) h' := by
    intro t
    induction t with
    | zero =>
      intro r h hr hI hL hk hl
      refine ⟨h, b_X4_prepare_7 (z_pu0V rfl) ?_, hI, ex_refl h, hk, by rw [← hr]; exact hl⟩
      rw [if_pos (nI_lt (by omega) (by omega))]
    | succ t ih =>
      intro r h hr hI hL hk hl
      by_cases c0 : r = 0
      · subst c0
        have ls := hk.1
        obtain ⟨h1, eh1⟩ : ∃ h1, h1 = z_nwi h 1 0 (fun _ => 0) := ⟨_, rfl⟩
        have k1 := nw_k hI 0 (fun _ => 0) (lX L)
        have k1F := nw_k hI 0 (fun _ => 0) (fun _ => False)
        have f1 := nw_fr hI hL 0 (fun _ => 0)
        have v1 : z_kd h1 (z_n h) = 1 ∧ z_ln h1 (z_n h) = 0 := by rw [eh1]; exact ⟨nwi_kd _ _ _ _, nwi_ln _ _ _ _⟩
        rw [← eh1] at k1 k1F f1
        have lk1 := lk_ex hI hL k1F.2 (fun _ _ f => f) hk
        have ls1 := lk1.1.1
        obtain ⟨h2, eh2⟩ : ∃ h2, h2 = z_pai (z_par h1 (L + 25 + 6) 0 (some (z_n h))) (L + 25 + 7) 0 (nI 1) := ⟨_, rfl⟩
        have t2 : xt (lX L) h1 h2 := by rw [eh2]; exact xt_trans (xt_par _ _ ⟨by omega, by omega⟩) (xt_pai _ _ ⟨by omega, by omega⟩)
        have ex2 : ex (lX L) 0 0 h1 h2 := xt_ex t2 (by rw [eh2]; exact Nat.le_refl _) (by rw [eh2]; exact Nat.le_refl _)
        have I2 : inv V L h2 := inv_xt k1.1 hX t2
        have lk2 : lk L h2 := by
          obtain ⟨ls', ⟨E, e1, e2⟩, m1, b1⟩ := lk1.1
          rw [eh2]
          refine ⟨ls', ⟨E, ?_, e2⟩, m1, b1⟩
          show z_u (z_ai h1) (L + 25 + 7) _ (L + 25 + 5) = _
          rw [u_ne _ _ (by omega)]; exact e1
        have q2 : lsq N W L (0 + 1) h2 := by
          intro m hm
          have em : m = 0 := by omega
          subst em
          obtain ⟨g1, g2, g3, -, -, g4, -⟩ := ex_fr k1.1 hX ex2 f1
          refine ⟨?_, z_n h, ?_, g1, by rw [g2]; exact v1.1, by rw [g3, Nat.zero_mul]; exact v1.2, fun i hi => by rw [Nat.zero_mul] at hi; exact absurd hi (Nat.not_lt_zero _)⟩
          · rw [eh2, hW.1]
            show z_u (z_ai h1) (L + 25 + 7) (z_u (z_ai h1 (L + 25 + 7)) 0 (nI 1)) (L + 25 + 7) 0 = _
            rw [u_eq, u_eq]
          · rw [eh2]
            show z_u (z_ar h1) (L + 25 + 6) (z_u (z_ar h1 (L + 25 + 6)) 0 (some (z_n h))) (L + 25 + 6) 0 = _
            rw [u_eq, u_eq]
        obtain ⟨I3, ex3, lk3, l3⟩ := pr_ready (r := 0) I2 lk2 (by omega) q2
        have n1 := k1.2.1.1
        have n2 := ex2.1.1
        have n3 := ex3.1.1
        obtain ⟨h', jj, I', ex', lk', l'⟩ := ih (0 + 1) _ (by omega) I3 (by omega) lk3 l3
        refine ⟨h', b_X4_prepare_7 (z_pu0V rfl) ?_, I', ?_, lk', l'⟩
        · rw [if_neg (nI_nlt (Nat.zero_le _) (by omega)), if_pos rfl, ls.2.2.2.2.2.2.1.1, z_rcs, nI_clamp (show 0 < 2 ^ 31 by decide), ← eh1]
          refine ⟨ls.1, by decide, by decide, Or.inr ⟨ls1.2.2.2.2.2.2.1.2.1, v1.1⟩, by rw [ls1.2.2.2.2.2.2.1.2.2]; exact vp_in_nI (by decide) (by decide), ls1.1, ?_⟩
          rw [show z_or (z_par h1 (L + 25 + 6) 0 (some (z_n h))) (L + 25) 10 = some (L + 25 + 7) from ls1.2.2.2.2.2.2.2.1, z_rcs, ← eh2, nI_add]
          exact ⟨ls1.2.2.2.2.2.2.2.2.1, by rw [show z_ln (z_par h1 (L + 25 + 6) 0 (some (z_n h))) (L + 25 + 7) = 8 from ls1.2.2.2.2.2.2.2.2.2]; exact vp_in_nI (by decide) (by decide), lk2.1.1, jj⟩
        · refine ex_mono (ex_trans hI I3 hX (ex_trans hI I2 hX (ex_trans hI k1.1 hX k1.2 ex2) ex3) ex') ?_ ?_
          · show _ ≤ (2 + 1408 * N (0 - 1)) + pcC N t (0 + 1); omega
          · show _ ≤ (7 + 76800 * N (0 - 1)) + pcS N t (0 + 1); omega
      · obtain ⟨h1, ev, I1, e1, lk1, -, q1⟩ := e4_lengthen (G := G) (d := d) hv hN hW hI hL hk (m := r) (by omega) (by omega) hl
        obtain ⟨I3, ex3, lk3, l3⟩ := pr_ready (r := r) I1 lk1 (by omega) q1
        have n1 := e1.1.1
        have n3 := ex3.1.1
        obtain ⟨h', jj, I', ex', lk', l'⟩ := ih (r + 1) _ (by omega) I3 (by omega) lk3 l3
        refine ⟨h', b_X4_prepare_7 (z_pu0V rfl) ?_, I', ?_, lk', l'⟩
        · rw [if_neg (nI_nlt (by omega) (by omega)), if_neg (fun e => c0 ((nI_eq (by omega) (by decide)).mp e)), nI_add]
          exact ⟨hk.1.1, _, ev, lk1.1.1, jj⟩
        · refine ex_mono (ex_trans hI I3 hX (ex_trans hI I1 hX e1 ex3) ex') ?_ ?_
          · show _ ≤ (2 + 1408 * N (r - 1)) + pcC N t (r + 1); omega
          · show _ ≤ (7 + 76800 * N (r - 1)) + pcS N t (r + 1); omega
  by_cases cr : n < r
  · refine ⟨h, r, en_X4_prepare (b_X4_prepare_0 (z_pu0V rfl) ⟨hk.1.1, b_X4_prepare_7 (z_pu0V rfl) ?_⟩), hI, ?_, hk, cr, hli⟩
    · rw [hli.2.1, if_pos (nI_lt cr (by have := hli.1; omega))]
    · rw [show n + 1 - r = 0 by omega]; exact ex_refl h
  · obtain ⟨h', jj, I', ex', lk', l'⟩ := loop (n + 1 - r) r h (by omega) hI hL hk hli
    refine ⟨h', n + 1, en_X4_prepare (b_X4_prepare_0 (z_pu0V rfl) ⟨hk.1.1, ?_⟩), I', ex', lk', by omega, l'⟩
    rw [hli.2.1]
    exact jj
end HA1
