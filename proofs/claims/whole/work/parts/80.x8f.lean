/-! addFlag -/
def flA (l p x : Nat) (A : Nat → Nat → Int32) : Nat → Nat → Int32 := fun j => if j = 7 then (if A 6 l = nI 0 then z_u (A 7) l (nI p) else A 7) else if j = 6 then z_u (A 6) l (A 6 l + nI 1) else if j = 0 then z_u (A 0) p (A 0 p + nI 1) else if j = 1 then z_u (A 1) p (A 1 p ||| nI (2 ^ l)) else if j = 2 then fl_j l p x (A 2) p else A j
section EI
variable {G : z_G} {d q b m : Nat} {h : z_H}
theorem e8_addFlag (hs : sc_sh q b m h) {A : Nat → Nat → Int32} {l p x : Nat} (hl : l < m) (hm : m ≤ 12) (hp : p < 8) (hx : x < 256) (hr : A 5 l = nI x) : z_Ev G (d + 4) k_X8_addFlag [.ref q, .int (nI l), .int (nI p)] (z_bk h b 8 A) (.inl none, z_bk h b 8 (flA l p x A)) := by
  have hs' := hs
  obtain ⟨s0, s5, s6, s7, s9, s2, s3, s4⟩ := hs'
  refine en_X8_addFlag (b_X8_addFlag_0 (z_pu0V rfl) ?_)
  have one : nI 1 <<< (nI l &&& nI 31) = nI (2 ^ l) := n_one (by omega)
  by_cases c : A 6 l = nI 0
  · simp (disch := omega) only [z_rcs, nI_clamp, bk_kd, bk_ln, bk_oi, bk_or, bk_ai, bk_ai0, bk_pai, bk_pai0, u_eq, u_ne, u_u, s0, s5.1, s5.2.1, s5.2.2, s6.1, s6.2.1, s6.2.2, s7.1, s7.2.1, s7.2.2, s2.1, s2.2.1, s2.2.2, s3.1, s3.2.1, s3.2.2, s4.1, s4.2.1, s4.2.2, q_in, true_and, one, c, if_true]
    have key := l_flag (G := G) (d := d) hs (A := z_u (z_u (z_u (z_u A 7 (z_u (A 7) l (nI p))) 6 (z_u (A 6) l (nI 0 + nI 1))) 0 (z_u (A 0) p (A 0 p + nI 1))) 1 (z_u (A 1) p (A 1 p ||| nI (2 ^ l)))) hl hm hp hx (by rw [u_ne _ _ (by decide), u_ne _ _ (by decide), u_ne _ _ (by decide), u_ne _ _ (by decide)]; exact hr)
    have e : z_u (z_u (z_u (z_u (z_u A 7 (z_u (A 7) l (nI p))) 6 (z_u (A 6) l (nI 0 + nI 1))) 0 (z_u (A 0) p (A 0 p + nI 1))) 1 (z_u (A 1) p (A 1 p ||| nI (2 ^ l)))) 2 (fl_j l p x (A 2) p) = flA l p x A := by
      funext j
      unfold flA
      rw [c, if_pos rfl]
      unfold z_u
      by_cases j2 : j = 2
      · subst j2; rfl
      by_cases j1 : j = 1
      · subst j1; rfl
      by_cases j0 : j = 0
      · subst j0; rfl
      by_cases j6 : j = 6
      · subst j6; rfl
      by_cases j7 : j = 7
      · subst j7; rfl
      rw [if_neg j2, if_neg j1, if_neg j0, if_neg j6, if_neg j7, if_neg j7, if_neg j6, if_neg j0, if_neg j1, if_neg j2]
    rw [show z_u (z_u (z_u (z_u A 7 (z_u (A 7) l (nI p))) 6 (z_u (A 6) l (nI 0 + nI 1))) 0 (z_u (A 0) p (A 0 p + nI 1))) 1 (z_u (A 1) p (A 1 p ||| nI (2 ^ l))) 2 = A 2 by rw [u_ne _ _ (by decide), u_ne _ _ (by decide), u_ne _ _ (by decide), u_ne _ _ (by decide)], e] at key
    exact key
  · simp (disch := omega) only [z_rcs, nI_clamp, bk_kd, bk_ln, bk_oi, bk_or, bk_ai, bk_ai0, bk_pai, bk_pai0, u_eq, u_ne, u_u, s0, s5.1, s5.2.1, s5.2.2, s6.1, s6.2.1, s6.2.2, s7.1, s7.2.1, s7.2.2, s2.1, s2.2.1, s2.2.2, s3.1, s3.2.1, s3.2.2, s4.1, s4.2.1, s4.2.2, q_in, true_and, one, c, if_false]
    have key := l_flag (G := G) (d := d) hs (A := z_u (z_u (z_u A 6 (z_u (A 6) l (A 6 l + nI 1))) 0 (z_u (A 0) p (A 0 p + nI 1))) 1 (z_u (A 1) p (A 1 p ||| nI (2 ^ l)))) hl hm hp hx (by rw [u_ne _ _ (by decide), u_ne _ _ (by decide), u_ne _ _ (by decide)]; exact hr)
    have e : z_u (z_u (z_u (z_u A 6 (z_u (A 6) l (A 6 l + nI 1))) 0 (z_u (A 0) p (A 0 p + nI 1))) 1 (z_u (A 1) p (A 1 p ||| nI (2 ^ l)))) 2 (fl_j l p x (A 2) p) = flA l p x A := by
      funext j
      unfold flA
      rw [if_neg c]
      unfold z_u
      by_cases j2 : j = 2
      · subst j2; rfl
      by_cases j1 : j = 1
      · subst j1; rfl
      by_cases j0 : j = 0
      · subst j0; rfl
      by_cases j6 : j = 6
      · subst j6; rfl
      by_cases j7 : j = 7
      · subst j7; rfl
      rw [if_neg j2, if_neg j1, if_neg j0, if_neg j6, if_neg j7, if_neg j6, if_neg j0, if_neg j1, if_neg j2]
    rw [show z_u (z_u (z_u A 6 (z_u (A 6) l (A 6 l + nI 1))) 0 (z_u (A 0) p (A 0 p + nI 1))) 1 (z_u (A 1) p (A 1 p ||| nI (2 ^ l))) 2 = A 2 by rw [u_ne _ _ (by decide), u_ne _ _ (by decide), u_ne _ _ (by decide)], e] at key
    exact key
end EI
