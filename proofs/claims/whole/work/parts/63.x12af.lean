/-! clauses of a text -/
def p_tail (T : Nat → Nat) (n : Nat) (c : Cd) (j : Nat) : (Cd × Nat) ⊕ pE := if tk_k T n j = 3 ∧ T (tk_b T n j) = 59 then .inl (c, tk_e T n j) else .inr (1, tk_b T n j)
def p_at (T : Nat → Nat) (n i : Nat) (c : Cd) : (Cd × Nat) ⊕ pE := match p_pt T n i c.1.1 with
  | .inr k => .inr (k, tk_b T n i)
  | .inl v => match p_sg T n v.2 with
    | .inr e => .inr e
    | .inl a => match p_sg T n a.2 with
      | .inr e => .inr e
      | .inl b => p_tail T n (op_place c v.1 a.1 b.1) b.2
def p_pts (T : Nat → Nat) (n i : Nat) (c : Cd) : (Cd × Nat) ⊕ pE := match p_num T n i 1 8 with
  | .inr k => .inr (k, tk_b T n i)
  | .inl v => p_tail T n ((v.1, c.1.2), c.2) v.2
def p_lnC (T : Nat → Nat) (n i : Nat) (c : Cd) : (Cd × Nat) ⊕ pE := match p_line T n i c with
  | .inr e => .inr e
  | .inl v => p_tail T n (op_add c v.1) v.2
def p_cl (T : Nat → Nat) (n i cl : Nat) (c : Cd) : (Cd × Nat) ⊕ pE := if c_isw T n i 3 then (if 0 < cl then .inr (4, tk_b T n i) else p_pts T n (tk_e T n i) c)
  else if c_isw T n i 4 then p_lnC T n i c
  else if c_isw T n i 5 then p_at T n (tk_e T n i) c
  else .inr (1, tk_b T n i)
def c_c0 : Cd := ((7, 0, fun _ => 0), fun _ => nI 0, fun _ => nI 0)
def errC (F F' : Nat → Int32) (c pl : Nat) : Prop := F' 12 = nI c ∧ F' 13 = nI pl ∧ agrF [6, 8, 9, 10, 11, 12, 13, 15] F F'
section DF
variable {G : z_G} {d : Nat} {h : z_H} {M : Nat} {A : Nat → Nat → Int32} {T : Nat → Nat} {n : Nat} {F : Nat → Int32} {cl : Nat}
theorem t_177 (hM : z_sh M h) (h15 : F 15 = nI cl) : z_J G (d + 8) (m_X12_readClause z_puC) (.inl none, z_rs h M (z_u F 15 (nI (cl + 1))) A) 177 [some (.ref M), none, none, none] [] (z_rs h M F A) := by
  refine b_X12_readClause_177 z_puCV ⟨sh_kd hM, sh_kd hM, ?_⟩
  rw [rs_oi, h15, nI_add, rs_poi]
/-- behind an error -/
theorem t_145B (hM : z_sh M h) (h15 : F 15 = nI cl) (h12 : ¬ F 12 = nI 0) : z_J G (d + 8) (m_X12_readClause z_puC) (.inl none, z_rs h M (z_u F 15 (nI (cl + 1))) A) 145 [some (.ref M), none, none, none] [] (z_rs h M F A) := by
  refine b_X12_readClause_145 z_puCV ⟨sh_kd hM, ?_⟩
  rw [rs_oi, if_neg h12]
  refine b_X12_readClause_166 z_puCV ⟨sh_kd hM, ?_⟩
  rw [rs_oi, if_neg h12]
  exact t_177 hM h15
theorem t_err (hM : z_sh M h) {F0 : Nat → Int32} {k pl : Nat} (h15 : F0 15 = nI cl) (hk : 0 < k ∧ k < 6) (he : errR F0 F k pl) : errC F0 (z_u F 15 (nI (cl + 1))) k pl ∧ z_J G (d + 8) (m_X12_readClause z_puC) (.inl none, z_rs h M (z_u F 15 (nI (cl + 1))) A) 145 [some (.ref M), none, none, none] [] (z_rs h M F A) := by
  refine ⟨⟨?_, ?_, fun q hq => ?_⟩, t_145B hM ((he.2.2 15 (by decide)).trans h15) (fun q => by rw [he.1] at q; have := (nI_eq (by omega) (by omega)).mp q; omega)⟩
  · rw [u_ne _ _ (by decide)]; exact he.1
  · rw [u_ne _ _ (by decide)]; exact he.2.1
  · have q15 : 15 ≠ q := fun e => hq (by rw [← e]; decide)
    rw [u_ne _ _ (fun e => q15 e.symm)]
    exact he.2.2 q (fun q2 => hq (by revert q2; simp; omega))
theorem t_145 (hM : z_sh M h) {F0 : Nat → Int32} (h0 : agrF [6, 8, 9, 10, 11] F0 F) (h15 : F0 15 = nI cl) (h12 : F0 12 = nI 0) {j : Nat} (hj : j ≤ n) (ht : txt T n F A) (hF : tokF T n F j) (c : Cd) : match p_tail T n c j with
    | .inl v => v.1 = c ∧ v.2 ≤ n ∧ ∃ F', agrF [6, 8, 9, 10, 11, 15] F0 F' ∧ F' 15 = nI (cl + 1) ∧ tokF T n F' v.2 ∧ z_J G (d + 8) (m_X12_readClause z_puC) (.inl none, z_rs h M F' A) 145 [some (.ref M), none, none, none] [] (z_rs h M F A)
    | .inr e => (0 < e.1 ∧ e.1 < 6) ∧ ∃ F', errC F0 F' e.1 e.2 ∧ z_J G (d + 8) (m_X12_readClause z_puC) (.inl none, z_rs h M F' A) 145 [some (.ref M), none, none, none] [] (z_rs h M F A) := by
  have g12 : F 12 = nI 0 := (h0 12 (by decide)).trans h12
  have g15 : F 15 = nI cl := (h0 15 (by decide)).trans h15
  obtain ⟨m1, m2⟩ := e_mark hM ht hj hF g12 (show 59 < 256 by decide)
  unfold p_tail
  by_cases q : tk_k T n j = 3 ∧ T (tk_b T n j) = 59
  · rw [if_pos q]
    obtain ⟨F1, g1, g2, g3⟩ := e_stepOn (G := G) (d := d + 3) (A := A) hM ht (i := tk_e T n j) (tk_en hj).2 hF.2.2.1
    refine ⟨rfl, (tk_en hj).2, z_u F1 15 (nI (cl + 1)), fun k hk => ?_, u_eq _ _ _, ?_, ?_⟩
    · rw [u_ne _ _ (fun e => hk (by rw [e]; decide))]
      have hk2 : k ∉ [6, 8, 9, 10, 11] := fun q2 => hk (by revert q2; simp; omega)
      exact (g1 k hk2).trans (h0 k hk2)
    · exact ⟨by rw [u_ne _ _ (by decide)]; exact g2.1, by rw [u_ne _ _ (by decide)]; exact g2.2.1, by rw [u_ne _ _ (by decide)]; exact g2.2.2.1, by rw [u_ne _ _ (by decide)]; exact g2.2.2.2.1, by rw [u_ne _ _ (by decide)]; exact g2.2.2.2.2⟩
    · refine b_X12_readClause_145 z_puCV ⟨sh_kd hM, ?_⟩
      rw [rs_oi, if_pos g12, m2, decide_eq_true q, if_neg (by decide)]
      refine ⟨sh_kd hM, m1, b_X12_readClause_166 z_puCV ⟨sh_kd hM, ?_⟩⟩
      rw [rs_oi, if_pos g12]
      exact ⟨sh_kd hM, _, g3, t_177 hM ((g1 15 (by decide)).trans g15)⟩
  · rw [if_neg q]
    have er := errF_R (c := 1) hF
    refine ⟨⟨by show 0 < 1; decide, by show 1 < 6; decide⟩, z_u (errF F 1) 15 (nI (cl + 1)), ⟨?_, ?_, fun k hk => ?_⟩, ?_⟩
    · rw [u_ne _ _ (by decide)]; exact er.1
    · rw [u_ne _ _ (by decide)]; exact er.2.1
    · rw [u_ne _ _ (fun e => hk (by rw [e]; decide))]
      exact (er.2.2 k (fun q2 => hk (by revert q2; simp; omega))).trans (h0 k (fun q2 => hk (by revert q2; simp; omega)))
    · refine b_X12_readClause_145 z_puCV ⟨sh_kd hM, ?_⟩
      rw [rs_oi, if_pos g12, m2, decide_eq_false q, if_pos (by decide)]
      refine ⟨sh_kd hM, m1, sh_kd hM, _, e_wrong hM g12 1, b_X12_readClause_166 z_puCV ⟨sh_kd hM, ?_⟩⟩
      rw [rs_oi, if_neg (errF_12 (by decide) (by decide))]
      exact t_177 hM ((er.2.2 15 (by decide)).trans g15)
end DF
