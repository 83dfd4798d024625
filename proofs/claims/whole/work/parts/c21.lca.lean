/-! THE LAW: its cases -/
theorem la_feed {G : z_G} {d L i : Nat} {h : z_H} (hi : 6 * i + 6 ≤ z_sL G) (hs : z_sL G ≤ 3072) (hl : LI L i h) : ∃ h', LI L (i + 1) h' ∧ ∀ r, z_J G (d + 28) (m_L_law z_pu0) r 1719 [some (.ref (z_sb G)), some (.ref L), some (.ref (L + 48)), some (.ref (L + 74)), some (.int (nI (6 * i))), none, none] [] h' → z_J G (d + 28) (m_L_law z_pu0) r 180 [some (.ref (z_sb G)), some (.ref L), some (.ref (L + 48)), some (.ref (L + 74)), some (.int (nI (6 * i))), none, none] [] h := by
  obtain ⟨σ, F, A, r, D, hI, hL, hC⟩ := hl
  have h40 := hI.2.2.2.2.2.1.1
  have hk := D.1.1.1.1
  have vi : ∀ k, k < 6 → vp_in (nI (6 * i) + nI k) (z_sL G) := fun k hk => by rw [nI_add]; exact vp_in_nI (by omega) (by omega)
  obtain ⟨h1, h3, E1, k1, E3, le⟩ := st_act D hC (e11_feed (d := d + 22) D.1 (z_sx G (Int32.toNatClampNeg (nI (6 * i) + nI 1))) (z_sx G (Int32.toNatClampNeg (nI (6 * i) + nI 2))) (z_sx G (Int32.toNatClampNeg (nI (6 * i) + nI 3))) (z_sx G (Int32.toNatClampNeg (nI (6 * i) + nI 4))) (z_sx G (Int32.toNatClampNeg (nI (6 * i) + nI 5)))) (fun h2 hM => rr_P hL (e_feedP (d := d + 23) hM hI (z_sx G (Int32.toNatClampNeg (nI (6 * i) + nI 1))) (z_sx G (Int32.toNatClampNeg (nI (6 * i) + nI 2))) (z_sx G (Int32.toNatClampNeg (nI (6 * i) + nI 3))) (z_sx G (Int32.toNatClampNeg (nI (6 * i) + nI 4))) (z_sx G (Int32.toNatClampNeg (nI (6 * i) + nI 5)))))
  refine ⟨h3, li_E le, fun r hJ => b_L_law_180 (z_pu0V rfl) ⟨rfl, vi 1 (by decide), rfl, vi 2 (by decide), rfl, vi 3 (by decide), rfl, vi 4 (by decide), rfl, vi 5 (by decide), hk, _, h1, E1, rfl, vi 1 (by decide), rfl, vi 2 (by decide), rfl, vi 3 (by decide), rfl, vi 4 (by decide), rfl, vi 5 (by decide), k1, _, h3, E3, ?_⟩⟩
  rw [if_pos rfl]
  exact hJ
theorem la_scheme {G : z_G} {d L i : Nat} {h : z_H} (hi : 6 * i + 6 ≤ z_sL G) (hs : z_sL G ≤ 3072) (hl : LI L i h) : ∃ h', LI L (i + 1) h' ∧ ∀ r, z_J G (d + 28) (m_L_law z_pu0) r 1719 [some (.ref (z_sb G)), some (.ref L), some (.ref (L + 48)), some (.ref (L + 74)), some (.int (nI (6 * i))), none, none] [] h' → z_J G (d + 28) (m_L_law z_pu0) r 253 [some (.ref (z_sb G)), some (.ref L), some (.ref (L + 48)), some (.ref (L + 74)), some (.int (nI (6 * i))), none, none] [] h := by
  obtain ⟨σ, F, A, r, D, hI, hL, hC⟩ := hl
  have h40 := hI.2.2.2.2.2.1.1
  have hk := D.1.1.1.1
  have vi : ∀ k, k < 6 → vp_in (nI (6 * i) + nI k) (z_sL G) := fun k hk => by rw [nI_add]; exact vp_in_nI (by omega) (by omega)
  have hok := hI.2.2.2.1.1.1
  obtain ⟨h1, h3, EW, k1, E3, k3, Et, hv, ⟨o1, o2⟩, le⟩ := st_qst (κW := k_L_scheme) (d := d + 26) D hC (e11_scheme (d := d + 15) D.1 (z_sx G (Int32.toNatClampNeg (nI (6 * i) + nI 1)))) (cd_scheme.elim Or.inl (fun q => Or.inr (Or.inl q))) (fun h1 E q1 q2 => eL_scheme_k hk E q1 q2) (fun _ h1 E => eL_scheme_t1 hk E) (fun q => by rcases (cd_scheme) with e | e <;> (rw [q] at e; cases e)) (fun h2 hM => rr_P hL (e_schemeP (d := d + 18) hM hI (z_sx G (Int32.toNatClampNeg (nI (6 * i) + nI 1))))) ⟨d + 23, rfl⟩
  refine ⟨h3, li_E le, fun r hJ => b_L_law_253 (z_pu0V rfl) ⟨rfl, vi 1 (by decide), _, h1, EW, rfl, vi 1 (by decide), k1, _, h3, E3, k3, _, h3, Et, st_fin o1 o2 hv hJ⟩⟩
theorem la_fault {G : z_G} {d L i : Nat} {h : z_H} (hi : 6 * i + 6 ≤ z_sL G) (hs : z_sL G ≤ 3072) (hl : LI L i h) : ∃ h', LI L (i + 1) h' ∧ ∀ r, z_J G (d + 28) (m_L_law z_pu0) r 1719 [some (.ref (z_sb G)), some (.ref L), some (.ref (L + 48)), some (.ref (L + 74)), some (.int (nI (6 * i))), none, none] [] h' → z_J G (d + 28) (m_L_law z_pu0) r 309 [some (.ref (z_sb G)), some (.ref L), some (.ref (L + 48)), some (.ref (L + 74)), some (.int (nI (6 * i))), none, none] [] h := by
  obtain ⟨σ, F, A, r, D, hI, hL, hC⟩ := hl
  have h40 := hI.2.2.2.2.2.1.1
  have hk := D.1.1.1.1
  have vi : ∀ k, k < 6 → vp_in (nI (6 * i) + nI k) (z_sL G) := fun k hk => by rw [nI_add]; exact vp_in_nI (by omega) (by omega)
  obtain ⟨h1, h3, E1, k1, E3, le⟩ := st_act D hC (e11_fault (d := d + 23) D.1) (fun h2 hM => rr_P hL (qR_p hI (e_faultQ (d := d + 23) hM hI)))
  refine ⟨h3, li_E le, fun r hJ => b_L_law_309 (z_pu0V rfl) ⟨hk, _, h1, E1, k1, _, h3, E3, ?_⟩⟩
  rw [if_pos rfl]
  exact hJ
theorem la_count {G : z_G} {d L i : Nat} {h : z_H} (hi : 6 * i + 6 ≤ z_sL G) (hs : z_sL G ≤ 3072) (hl : LI L i h) : ∃ h', LI L (i + 1) h' ∧ ∀ r, z_J G (d + 28) (m_L_law z_pu0) r 1719 [some (.ref (z_sb G)), some (.ref L), some (.ref (L + 48)), some (.ref (L + 74)), some (.int (nI (6 * i))), none, none] [] h' → z_J G (d + 28) (m_L_law z_pu0) r 322 [some (.ref (z_sb G)), some (.ref L), some (.ref (L + 48)), some (.ref (L + 74)), some (.int (nI (6 * i))), none, none] [] h := by
  obtain ⟨σ, F, A, r, D, hI, hL, hC⟩ := hl
  have h40 := hI.2.2.2.2.2.1.1
  have hk := D.1.1.1.1
  have vi : ∀ k, k < 6 → vp_in (nI (6 * i) + nI k) (z_sL G) := fun k hk => by rw [nI_add]; exact vp_in_nI (by omega) (by omega)
  have hok := hI.2.2.2.1.1.1
  obtain ⟨h1, h3, EW, k1, E3, k3, Et, hv, ⟨o1, o2⟩, le⟩ := st_qst (κW := k_L_count) (d := d + 26) D hC (e11_count (d := d + 7) D.1 hI.2.2.2.1 (z_sx G (Int32.toNatClampNeg (nI (6 * i) + nI 1)))) (cd_count.elim Or.inl (fun q => Or.inr (Or.inl q))) (fun h1 E q1 q2 => eL_count_k hk E q1 q2) (fun _ h1 E => eL_count_t1 hk E) (fun q => by rcases (cd_count) with e | e <;> (rw [q] at e; cases e)) (fun h2 hM => rr_P hL (qR_p hI (e_countP (d := d + 9) hM hI (z_sx G (Int32.toNatClampNeg (nI (6 * i) + nI 1)))))) ⟨d + 23, rfl⟩
  refine ⟨h3, li_E le, fun r hJ => b_L_law_322 (z_pu0V rfl) ⟨rfl, vi 1 (by decide), _, h1, EW, rfl, vi 1 (by decide), k1, _, h3, E3, k3, _, h3, Et, st_fin o1 o2 hv hJ⟩⟩
theorem la_line {G : z_G} {d L i : Nat} {h : z_H} (hi : 6 * i + 6 ≤ z_sL G) (hs : z_sL G ≤ 3072) (hl : LI L i h) : ∃ h', LI L (i + 1) h' ∧ ∀ r, z_J G (d + 28) (m_L_law z_pu0) r 1719 [some (.ref (z_sb G)), some (.ref L), some (.ref (L + 48)), some (.ref (L + 74)), some (.int (nI (6 * i))), none, none] [] h' → z_J G (d + 28) (m_L_law z_pu0) r 378 [some (.ref (z_sb G)), some (.ref L), some (.ref (L + 48)), some (.ref (L + 74)), some (.int (nI (6 * i))), none, none] [] h := by
  obtain ⟨σ, F, A, r, D, hI, hL, hC⟩ := hl
  have h40 := hI.2.2.2.2.2.1.1
  have hk := D.1.1.1.1
  have vi : ∀ k, k < 6 → vp_in (nI (6 * i) + nI k) (z_sL G) := fun k hk => by rw [nI_add]; exact vp_in_nI (by omega) (by omega)
  have hok := hI.2.2.2.1.1.1
  obtain ⟨h1, h3, EW, k1, E3, k3, Et, hv, ⟨o1, o2⟩, le⟩ := st_qst (κW := k_L_line) (d := d + 26) D hC (e11_line (d := d + 20) D.1 (z_sx G (Int32.toNatClampNeg (nI (6 * i) + nI 1)))) (cd_line.elim Or.inl (fun q => Or.inr (Or.inl q))) (fun h1 E q1 q2 => eL_line_k hk E q1 q2) (fun _ h1 E => eL_line_t1 hk E) (fun q => by rcases (cd_line) with e | e <;> (rw [q] at e; cases e)) (fun h2 hM => rr_P hL (qR_p hI (e_lineQ (d := d + 22) hM hI (z_sx G (Int32.toNatClampNeg (nI (6 * i) + nI 1)))))) ⟨d + 23, rfl⟩
  refine ⟨h3, li_E le, fun r hJ => b_L_law_378 (z_pu0V rfl) ⟨rfl, vi 1 (by decide), _, h1, EW, rfl, vi 1 (by decide), k1, _, h3, E3, k3, _, h3, Et, st_fin o1 o2 hv hJ⟩⟩
theorem la_point {G : z_G} {d L i : Nat} {h : z_H} (hi : 6 * i + 6 ≤ z_sL G) (hs : z_sL G ≤ 3072) (hl : LI L i h) : ∃ h', LI L (i + 1) h' ∧ ∀ r, z_J G (d + 28) (m_L_law z_pu0) r 1719 [some (.ref (z_sb G)), some (.ref L), some (.ref (L + 48)), some (.ref (L + 74)), some (.int (nI (6 * i))), none, none] [] h' → z_J G (d + 28) (m_L_law z_pu0) r 434 [some (.ref (z_sb G)), some (.ref L), some (.ref (L + 48)), some (.ref (L + 74)), some (.int (nI (6 * i))), none, none] [] h := by
  obtain ⟨σ, F, A, r, D, hI, hL, hC⟩ := hl
  have h40 := hI.2.2.2.2.2.1.1
  have hk := D.1.1.1.1
  have vi : ∀ k, k < 6 → vp_in (nI (6 * i) + nI k) (z_sL G) := fun k hk => by rw [nI_add]; exact vp_in_nI (by omega) (by omega)
  have hok := hI.2.2.2.1.1.1
  obtain ⟨h1, h3, EW, k1, E3, k3, Et, hv, ⟨o1, o2⟩, le⟩ := st_qst (κW := k_L_point) (d := d + 26) D hC (e11_point (d := d + 8) D.1 hI.2.2.2.1 (z_sx G (Int32.toNatClampNeg (nI (6 * i) + nI 1))) (z_sx G (Int32.toNatClampNeg (nI (6 * i) + nI 2)))) (cd_point.elim Or.inl (fun q => Or.inr (Or.inl q))) (fun h1 E q1 q2 => eL_point_k hk E q1 q2) (fun _ h1 E => eL_point_t1 hk E) (fun q => by rcases (cd_point) with e | e <;> (rw [q] at e; cases e)) (fun h2 hM => rr_P hL (qR_p hI (e_pointQ (d := d + 20) hM hI (z_sx G (Int32.toNatClampNeg (nI (6 * i) + nI 1))) (z_sx G (Int32.toNatClampNeg (nI (6 * i) + nI 2)))))) ⟨d + 23, rfl⟩
  refine ⟨h3, li_E le, fun r hJ => b_L_law_434 (z_pu0V rfl) ⟨rfl, vi 1 (by decide), rfl, vi 2 (by decide), _, h1, EW, rfl, vi 1 (by decide), rfl, vi 2 (by decide), k1, _, h3, E3, k3, _, h3, Et, st_fin o1 o2 hv hJ⟩⟩
theorem la_joined {G : z_G} {d L i : Nat} {h : z_H} (hi : 6 * i + 6 ≤ z_sL G) (hs : z_sL G ≤ 3072) (hl : LI L i h) : ∃ h', LI L (i + 1) h' ∧ ∀ r, z_J G (d + 28) (m_L_law z_pu0) r 1719 [some (.ref (z_sb G)), some (.ref L), some (.ref (L + 48)), some (.ref (L + 74)), some (.int (nI (6 * i))), none, none] [] h' → z_J G (d + 28) (m_L_law z_pu0) r 502 [some (.ref (z_sb G)), some (.ref L), some (.ref (L + 48)), some (.ref (L + 74)), some (.int (nI (6 * i))), none, none] [] h := by
  obtain ⟨σ, F, A, r, D, hI, hL, hC⟩ := hl
  have h40 := hI.2.2.2.2.2.1.1
  have hk := D.1.1.1.1
  have vi : ∀ k, k < 6 → vp_in (nI (6 * i) + nI k) (z_sL G) := fun k hk => by rw [nI_add]; exact vp_in_nI (by omega) (by omega)
  have hok := hI.2.2.2.1.1.1
  obtain ⟨h1, h3, EW, k1, E3, k3, Et, hv, ⟨o1, o2⟩, le⟩ := st_qst (κW := k_L_joined) (d := d + 26) D hC (e11_joined (d := d + 20) D.1 (z_sx G (Int32.toNatClampNeg (nI (6 * i) + nI 1))) (z_sx G (Int32.toNatClampNeg (nI (6 * i) + nI 2)))) cd_joined (fun h1 E q1 q2 => eL_joined_k hk E q1 q2) (fun _ h1 E => eL_joined_t1 hk E) (fun _ h1 E => eL_joined_t2 hk E) (fun h2 hM => rr_P hL (qR_p hI (e_joinedQ (d := d + 22) hM hI (z_sx G (Int32.toNatClampNeg (nI (6 * i) + nI 1))) (z_sx G (Int32.toNatClampNeg (nI (6 * i) + nI 2)))))) ⟨d + 23, rfl⟩
  refine ⟨h3, li_E le, fun r hJ => b_L_law_502 (z_pu0V rfl) ⟨rfl, vi 1 (by decide), rfl, vi 2 (by decide), _, h1, EW, rfl, vi 1 (by decide), rfl, vi 2 (by decide), k1, _, h3, E3, k3, _, h3, Et, st_fin o1 o2 hv hJ⟩⟩
theorem la_meet {G : z_G} {d L i : Nat} {h : z_H} (hi : 6 * i + 6 ≤ z_sL G) (hs : z_sL G ≤ 3072) (hl : LI L i h) : ∃ h', LI L (i + 1) h' ∧ ∀ r, z_J G (d + 28) (m_L_law z_pu0) r 1719 [some (.ref (z_sb G)), some (.ref L), some (.ref (L + 48)), some (.ref (L + 74)), some (.int (nI (6 * i))), none, none] [] h' → z_J G (d + 28) (m_L_law z_pu0) r 570 [some (.ref (z_sb G)), some (.ref L), some (.ref (L + 48)), some (.ref (L + 74)), some (.int (nI (6 * i))), none, none] [] h := by
  obtain ⟨σ, F, A, r, D, hI, hL, hC⟩ := hl
  have h40 := hI.2.2.2.2.2.1.1
  have hk := D.1.1.1.1
  have vi : ∀ k, k < 6 → vp_in (nI (6 * i) + nI k) (z_sL G) := fun k hk => by rw [nI_add]; exact vp_in_nI (by omega) (by omega)
  have hok := hI.2.2.2.1.1.1
  obtain ⟨h1, h3, EW, k1, E3, k3, Et, hv, ⟨o1, o2⟩, le⟩ := st_qst (κW := k_L_meet) (d := d + 26) D hC (e11_meet (d := d + 20) D.1 (z_sx G (Int32.toNatClampNeg (nI (6 * i) + nI 1))) (z_sx G (Int32.toNatClampNeg (nI (6 * i) + nI 2)))) cd_meet (fun h1 E q1 q2 => eL_meet_k hk E q1 q2) (fun _ h1 E => eL_meet_t1 hk E) (fun _ h1 E => eL_meet_t2 hk E) (fun h2 hM => rr_P hL (qR_p hI (e_meetQ (d := d + 22) hM hI (z_sx G (Int32.toNatClampNeg (nI (6 * i) + nI 1))) (z_sx G (Int32.toNatClampNeg (nI (6 * i) + nI 2)))))) ⟨d + 23, rfl⟩
  refine ⟨h3, li_E le, fun r hJ => b_L_law_570 (z_pu0V rfl) ⟨rfl, vi 1 (by decide), rfl, vi 2 (by decide), _, h1, EW, rfl, vi 1 (by decide), rfl, vi 2 (by decide), k1, _, h3, E3, k3, _, h3, Et, st_fin o1 o2 hv hJ⟩⟩
theorem la_symmetry {G : z_G} {d L i : Nat} {h : z_H} (hi : 6 * i + 6 ≤ z_sL G) (hs : z_sL G ≤ 3072) (hl : LI L i h) : ∃ h', LI L (i + 1) h' ∧ ∀ r, z_J G (d + 28) (m_L_law z_pu0) r 1719 [some (.ref (z_sb G)), some (.ref L), some (.ref (L + 48)), some (.ref (L + 74)), some (.int (nI (6 * i))), none, none] [] h' → z_J G (d + 28) (m_L_law z_pu0) r 638 [some (.ref (z_sb G)), some (.ref L), some (.ref (L + 48)), some (.ref (L + 74)), some (.int (nI (6 * i))), none, none] [] h := by
  obtain ⟨σ, F, A, r, D, hI, hL, hC⟩ := hl
  have h40 := hI.2.2.2.2.2.1.1
  have hk := D.1.1.1.1
  have vi : ∀ k, k < 6 → vp_in (nI (6 * i) + nI k) (z_sL G) := fun k hk => by rw [nI_add]; exact vp_in_nI (by omega) (by omega)
  have hok := hI.2.2.2.1.1.1
  obtain ⟨h1, h3, EW, k1, E3, k3, Et, hv, ⟨o1, o2⟩, le⟩ := st_qst (κW := k_L_symmetry) (d := d + 26) D hC (e11_symmetry (d := d + 8) D.1 (z_sx G (Int32.toNatClampNeg (nI (6 * i) + nI 1))) (z_sx G (Int32.toNatClampNeg (nI (6 * i) + nI 2)))) (cd_symmetry.elim Or.inl (fun q => Or.inr (Or.inl q))) (fun h1 E q1 q2 => eL_symmetry_k hk E q1 q2) (fun _ h1 E => eL_symmetry_t1 hk E) (fun q => by rcases (cd_symmetry) with e | e <;> (rw [q] at e; cases e)) (fun h2 hM => rr_P hL (qR_p hI (e_symmetryQ (d := d + 21) hM hI (z_sx G (Int32.toNatClampNeg (nI (6 * i) + nI 1))) (z_sx G (Int32.toNatClampNeg (nI (6 * i) + nI 2)))))) ⟨d + 23, rfl⟩
  refine ⟨h3, li_E le, fun r hJ => b_L_law_638 (z_pu0V rfl) ⟨rfl, vi 1 (by decide), rfl, vi 2 (by decide), _, h1, EW, rfl, vi 1 (by decide), rfl, vi 2 (by decide), k1, _, h3, E3, k3, _, h3, Et, st_fin o1 o2 hv hJ⟩⟩
theorem la_normal {G : z_G} {d L i : Nat} {h : z_H} (hi : 6 * i + 6 ≤ z_sL G) (hs : z_sL G ≤ 3072) (hl : LI L i h) : ∃ h', LI L (i + 1) h' ∧ ∀ r, z_J G (d + 28) (m_L_law z_pu0) r 1719 [some (.ref (z_sb G)), some (.ref L), some (.ref (L + 48)), some (.ref (L + 74)), some (.int (nI (6 * i))), none, none] [] h' → z_J G (d + 28) (m_L_law z_pu0) r 706 [some (.ref (z_sb G)), some (.ref L), some (.ref (L + 48)), some (.ref (L + 74)), some (.int (nI (6 * i))), none, none] [] h := by
  obtain ⟨σ, F, A, r, D, hI, hL, hC⟩ := hl
  have h40 := hI.2.2.2.2.2.1.1
  have hk := D.1.1.1.1
  have vi : ∀ k, k < 6 → vp_in (nI (6 * i) + nI k) (z_sL G) := fun k hk => by rw [nI_add]; exact vp_in_nI (by omega) (by omega)
  have hok := hI.2.2.2.1.1.1
  obtain ⟨h1, h3, EW, k1, E3, k3, Et, hv, ⟨o1, o2⟩, le⟩ := st_qst (κW := k_L_normal) (d := d + 26) D hC (e11_normal (d := d + 2) D.1 (A 10) (A 11) (z_sx G (Int32.toNatClampNeg (nI (6 * i) + nI 1)))) (cd_normal.elim Or.inl (fun q => Or.inr (Or.inl q))) (fun h1 E q1 q2 => eL_normal_k hk E q1 q2) (fun _ h1 E => eL_normal_t1 hk E) (fun q => by rcases (cd_normal) with e | e <;> (rw [q] at e; cases e)) (fun h2 hM => rr_P hL (qR_p hI (e_normalQ (d := d + 20) hM hI (z_sx G (Int32.toNatClampNeg (nI (6 * i) + nI 1)))))) ⟨d + 23, rfl⟩
  refine ⟨h3, li_E le, fun r hJ => b_L_law_706 (z_pu0V rfl) ⟨rfl, vi 1 (by decide), _, h1, EW, rfl, vi 1 (by decide), k1, _, h3, E3, k3, _, h3, Et, st_fin o1 o2 hv hJ⟩⟩
theorem la_dual {G : z_G} {d L i : Nat} {h : z_H} (hi : 6 * i + 6 ≤ z_sL G) (hs : z_sL G ≤ 3072) (hl : LI L i h) : ∃ h', LI L (i + 1) h' ∧ ∀ r, z_J G (d + 28) (m_L_law z_pu0) r 1719 [some (.ref (z_sb G)), some (.ref L), some (.ref (L + 48)), some (.ref (L + 74)), some (.int (nI (6 * i))), none, none] [] h' → z_J G (d + 28) (m_L_law z_pu0) r 762 [some (.ref (z_sb G)), some (.ref L), some (.ref (L + 48)), some (.ref (L + 74)), some (.int (nI (6 * i))), none, none] [] h := by
  obtain ⟨σ, F, A, r, D, hI, hL, hC⟩ := hl
  have h40 := hI.2.2.2.2.2.1.1
  have hk := D.1.1.1.1
  have vi : ∀ k, k < 6 → vp_in (nI (6 * i) + nI k) (z_sL G) := fun k hk => by rw [nI_add]; exact vp_in_nI (by omega) (by omega)
  have hok := hI.2.2.2.1.1.1
  obtain ⟨h1, h3, EW, k1, E3, k3, Et, hv, ⟨o1, o2⟩, le⟩ := st_qst (κW := k_L_dual) (d := d + 26) D hC (e11_dual (d := d + 18) D.1 (z_sx G (Int32.toNatClampNeg (nI (6 * i) + nI 1)))) (cd_dual.elim Or.inl (fun q => Or.inr (Or.inl q))) (fun h1 E q1 q2 => eL_dual_k hk E q1 q2) (fun _ h1 E => eL_dual_t1 hk E) (fun q => by rcases (cd_dual) with e | e <;> (rw [q] at e; cases e)) (fun h2 hM => rr_P hL (qR_p hI (e_dualQ (d := d + 22) hM hI (z_sx G (Int32.toNatClampNeg (nI (6 * i) + nI 1)))))) ⟨d + 23, rfl⟩
  refine ⟨h3, li_E le, fun r hJ => b_L_law_762 (z_pu0V rfl) ⟨rfl, vi 1 (by decide), _, h1, EW, rfl, vi 1 (by decide), k1, _, h3, E3, k3, _, h3, Et, st_fin o1 o2 hv hJ⟩⟩
theorem la_shelf {G : z_G} {d L i : Nat} {h : z_H} (hi : 6 * i + 6 ≤ z_sL G) (hs : z_sL G ≤ 3072) (hl : LI L i h) : ∃ h', LI L (i + 1) h' ∧ ∀ r, z_J G (d + 28) (m_L_law z_pu0) r 1719 [some (.ref (z_sb G)), some (.ref L), some (.ref (L + 48)), some (.ref (L + 74)), some (.int (nI (6 * i))), none, none] [] h' → z_J G (d + 28) (m_L_law z_pu0) r 818 [some (.ref (z_sb G)), some (.ref L), some (.ref (L + 48)), some (.ref (L + 74)), some (.int (nI (6 * i))), none, none] [] h := by
  obtain ⟨σ, F, A, r, D, hI, hL, hC⟩ := hl
  have h40 := hI.2.2.2.2.2.1.1
  have hk := D.1.1.1.1
  have vi : ∀ k, k < 6 → vp_in (nI (6 * i) + nI k) (z_sL G) := fun k hk => by rw [nI_add]; exact vp_in_nI (by omega) (by omega)
  have hok := hI.2.2.2.1.1.1
  obtain ⟨h1, h3, EW, k1, E3, k3, Et, hv, ⟨o1, o2⟩, le⟩ := st_qst (κW := k_L_shelf) (d := d + 26) D hC (e11_shelf (d := d + 8) D.1 hI.2.2.2.1 (A 12) (A 5) (z_sx G (Int32.toNatClampNeg (nI (6 * i) + nI 1))) (z_sx G (Int32.toNatClampNeg (nI (6 * i) + nI 2)))) (cd_shelf.elim Or.inl (fun q => Or.inr (Or.inl q))) (fun h1 E q1 q2 => eL_shelf_k hk E q1 q2) (fun _ h1 E => eL_shelf_t1 hk E) (fun q => by rcases (cd_shelf) with e | e <;> (rw [q] at e; cases e)) (fun h2 hM => rr_P hL (qR_p hI (e_shelfQ (d := d + 11) hM hI (z_sx G (Int32.toNatClampNeg (nI (6 * i) + nI 1))) (z_sx G (Int32.toNatClampNeg (nI (6 * i) + nI 2)))))) ⟨d + 23, rfl⟩
  refine ⟨h3, li_E le, fun r hJ => b_L_law_818 (z_pu0V rfl) ⟨rfl, vi 1 (by decide), rfl, vi 2 (by decide), _, h1, EW, rfl, vi 1 (by decide), rfl, vi 2 (by decide), k1, _, h3, E3, k3, _, h3, Et, st_fin o1 o2 hv hJ⟩⟩
theorem la_way {G : z_G} {d L i : Nat} {h : z_H} (hi : 6 * i + 6 ≤ z_sL G) (hs : z_sL G ≤ 3072) (hl : LI L i h) : ∃ h', LI L (i + 1) h' ∧ ∀ r, z_J G (d + 28) (m_L_law z_pu0) r 1719 [some (.ref (z_sb G)), some (.ref L), some (.ref (L + 48)), some (.ref (L + 74)), some (.int (nI (6 * i))), none, none] [] h' → z_J G (d + 28) (m_L_law z_pu0) r 886 [some (.ref (z_sb G)), some (.ref L), some (.ref (L + 48)), some (.ref (L + 74)), some (.int (nI (6 * i))), none, none] [] h := by
  obtain ⟨σ, F, A, r, D, hI, hL, hC⟩ := hl
  have h40 := hI.2.2.2.2.2.1.1
  have hk := D.1.1.1.1
  have vi : ∀ k, k < 6 → vp_in (nI (6 * i) + nI k) (z_sL G) := fun k hk => by rw [nI_add]; exact vp_in_nI (by omega) (by omega)
  have hok := hI.2.2.2.1.1.1
  obtain ⟨h1, h3, EW, k1, E3, k3, Et, hv, ⟨o1, o2⟩, le⟩ := st_qst (κW := k_L_way) (d := d + 26) D hC (e11_way (d := d + 7) D.1 hI.2.2.2.1 (A 12) (A 5) (z_sx G (Int32.toNatClampNeg (nI (6 * i) + nI 1))) (z_sx G (Int32.toNatClampNeg (nI (6 * i) + nI 2)))) (cd_way.elim Or.inl (fun q => Or.inr (Or.inl q))) (fun h1 E q1 q2 => eL_way_k hk E q1 q2) (fun _ h1 E => eL_way_t1 hk E) (fun q => by rcases (cd_way) with e | e <;> (rw [q] at e; cases e)) (fun h2 hM => rr_P hL (qR_p hI (e_wayQ (d := d + 11) hM hI (z_sx G (Int32.toNatClampNeg (nI (6 * i) + nI 1))) (z_sx G (Int32.toNatClampNeg (nI (6 * i) + nI 2)))))) ⟨d + 23, rfl⟩
  refine ⟨h3, li_E le, fun r hJ => b_L_law_886 (z_pu0V rfl) ⟨rfl, vi 1 (by decide), rfl, vi 2 (by decide), _, h1, EW, rfl, vi 1 (by decide), rfl, vi 2 (by decide), k1, _, h3, E3, k3, _, h3, Et, st_fin o1 o2 hv hJ⟩⟩
theorem la_add {G : z_G} {d L i : Nat} {h : z_H} (hi : 6 * i + 6 ≤ z_sL G) (hs : z_sL G ≤ 3072) (hl : LI L i h) : ∃ h', LI L (i + 1) h' ∧ ∀ r, z_J G (d + 28) (m_L_law z_pu0) r 1719 [some (.ref (z_sb G)), some (.ref L), some (.ref (L + 48)), some (.ref (L + 74)), some (.int (nI (6 * i))), none, none] [] h' → z_J G (d + 28) (m_L_law z_pu0) r 954 [some (.ref (z_sb G)), some (.ref L), some (.ref (L + 48)), some (.ref (L + 74)), some (.int (nI (6 * i))), none, none] [] h := by
  obtain ⟨σ, F, A, r, D, hI, hL, hC⟩ := hl
  have h40 := hI.2.2.2.2.2.1.1
  have hk := D.1.1.1.1
  have vi : ∀ k, k < 6 → vp_in (nI (6 * i) + nI k) (z_sL G) := fun k hk => by rw [nI_add]; exact vp_in_nI (by omega) (by omega)
  obtain ⟨h1, h3, E1, k1, E3, le⟩ := st_act D hC (e11_add (d := d + 20) D.1 h40 (z_sx G (Int32.toNatClampNeg (nI (6 * i) + nI 1)))) (fun h2 hM => rr_P hL (e_addP (d := d + 22) hM hI (z_sx G (Int32.toNatClampNeg (nI (6 * i) + nI 1)))))
  refine ⟨h3, li_E le, fun r hJ => b_L_law_954 (z_pu0V rfl) ⟨rfl, vi 1 (by decide), hk, _, h1, E1, rfl, vi 1 (by decide), k1, _, h3, E3, ?_⟩⟩
  rw [if_pos rfl]
  exact hJ
theorem la_drop {G : z_G} {d L i : Nat} {h : z_H} (hi : 6 * i + 6 ≤ z_sL G) (hs : z_sL G ≤ 3072) (hl : LI L i h) : ∃ h', LI L (i + 1) h' ∧ ∀ r, z_J G (d + 28) (m_L_law z_pu0) r 1719 [some (.ref (z_sb G)), some (.ref L), some (.ref (L + 48)), some (.ref (L + 74)), some (.int (nI (6 * i))), none, none] [] h' → z_J G (d + 28) (m_L_law z_pu0) r 979 [some (.ref (z_sb G)), some (.ref L), some (.ref (L + 48)), some (.ref (L + 74)), some (.int (nI (6 * i))), none, none] [] h := by
  obtain ⟨σ, F, A, r, D, hI, hL, hC⟩ := hl
  have h40 := hI.2.2.2.2.2.1.1
  have hk := D.1.1.1.1
  have vi : ∀ k, k < 6 → vp_in (nI (6 * i) + nI k) (z_sL G) := fun k hk => by rw [nI_add]; exact vp_in_nI (by omega) (by omega)
  obtain ⟨h1, h3, E1, k1, E3, le⟩ := st_act D hC (e11_drop (d := d + 20) D.1 h40 (z_sx G (Int32.toNatClampNeg (nI (6 * i) + nI 1)))) (fun h2 hM => rr_P hL (e_dropP (d := d + 22) hM hI (z_sx G (Int32.toNatClampNeg (nI (6 * i) + nI 1)))))
  refine ⟨h3, li_E le, fun r hJ => b_L_law_979 (z_pu0V rfl) ⟨rfl, vi 1 (by decide), hk, _, h1, E1, rfl, vi 1 (by decide), k1, _, h3, E3, ?_⟩⟩
  rw [if_pos rfl]
  exact hJ
theorem la_swap {G : z_G} {d L i : Nat} {h : z_H} (hi : 6 * i + 6 ≤ z_sL G) (hs : z_sL G ≤ 3072) (hl : LI L i h) : ∃ h', LI L (i + 1) h' ∧ ∀ r, z_J G (d + 28) (m_L_law z_pu0) r 1719 [some (.ref (z_sb G)), some (.ref L), some (.ref (L + 48)), some (.ref (L + 74)), some (.int (nI (6 * i))), none, none] [] h' → z_J G (d + 28) (m_L_law z_pu0) r 1004 [some (.ref (z_sb G)), some (.ref L), some (.ref (L + 48)), some (.ref (L + 74)), some (.int (nI (6 * i))), none, none] [] h := by
  obtain ⟨σ, F, A, r, D, hI, hL, hC⟩ := hl
  have h40 := hI.2.2.2.2.2.1.1
  have hk := D.1.1.1.1
  have vi : ∀ k, k < 6 → vp_in (nI (6 * i) + nI k) (z_sL G) := fun k hk => by rw [nI_add]; exact vp_in_nI (by omega) (by omega)
  obtain ⟨h1, h3, E1, k1, E3, le⟩ := st_act D hC (e11_swap (d := d + 20) D.1 h40 (z_sx G (Int32.toNatClampNeg (nI (6 * i) + nI 1))) (z_sx G (Int32.toNatClampNeg (nI (6 * i) + nI 2)))) (fun h2 hM => rr_P hL (e_swapP (d := d + 21) hM hI (z_sx G (Int32.toNatClampNeg (nI (6 * i) + nI 1))) (z_sx G (Int32.toNatClampNeg (nI (6 * i) + nI 2)))))
  refine ⟨h3, li_E le, fun r hJ => b_L_law_1004 (z_pu0V rfl) ⟨rfl, vi 1 (by decide), rfl, vi 2 (by decide), hk, _, h1, E1, rfl, vi 1 (by decide), rfl, vi 2 (by decide), k1, _, h3, E3, ?_⟩⟩
  rw [if_pos rfl]
  exact hJ
theorem la_turn {G : z_G} {d L i : Nat} {h : z_H} (hi : 6 * i + 6 ≤ z_sL G) (hs : z_sL G ≤ 3072) (hl : LI L i h) : ∃ h', LI L (i + 1) h' ∧ ∀ r, z_J G (d + 28) (m_L_law z_pu0) r 1719 [some (.ref (z_sb G)), some (.ref L), some (.ref (L + 48)), some (.ref (L + 74)), some (.int (nI (6 * i))), none, none] [] h' → z_J G (d + 28) (m_L_law z_pu0) r 1041 [some (.ref (z_sb G)), some (.ref L), some (.ref (L + 48)), some (.ref (L + 74)), some (.int (nI (6 * i))), none, none] [] h := by
  obtain ⟨σ, F, A, r, D, hI, hL, hC⟩ := hl
  have h40 := hI.2.2.2.2.2.1.1
  have hk := D.1.1.1.1
  have vi : ∀ k, k < 6 → vp_in (nI (6 * i) + nI k) (z_sL G) := fun k hk => by rw [nI_add]; exact vp_in_nI (by omega) (by omega)
  obtain ⟨h1, h3, E1, k1, E3, le⟩ := st_act D hC (e11_turn (d := d + 19) D.1 h40) (fun h2 hM => rr_P hL (e_turnP (d := d + 22) hM hI))
  refine ⟨h3, li_E le, fun r hJ => b_L_law_1041 (z_pu0V rfl) ⟨hk, _, h1, E1, k1, _, h3, E3, ?_⟩⟩
  rw [if_pos rfl]
  exact hJ
theorem la_grow {G : z_G} {d L i : Nat} {h : z_H} (hi : 6 * i + 6 ≤ z_sL G) (hs : z_sL G ≤ 3072) (hl : LI L i h) : ∃ h', LI L (i + 1) h' ∧ ∀ r, z_J G (d + 28) (m_L_law z_pu0) r 1719 [some (.ref (z_sb G)), some (.ref L), some (.ref (L + 48)), some (.ref (L + 74)), some (.int (nI (6 * i))), none, none] [] h' → z_J G (d + 28) (m_L_law z_pu0) r 1054 [some (.ref (z_sb G)), some (.ref L), some (.ref (L + 48)), some (.ref (L + 74)), some (.int (nI (6 * i))), none, none] [] h := by
  obtain ⟨σ, F, A, r, D, hI, hL, hC⟩ := hl
  have h40 := hI.2.2.2.2.2.1.1
  have hk := D.1.1.1.1
  have vi : ∀ k, k < 6 → vp_in (nI (6 * i) + nI k) (z_sL G) := fun k hk => by rw [nI_add]; exact vp_in_nI (by omega) (by omega)
  by_cases c0 : (z_sx G (Int32.toNatClampNeg (nI (6 * i) + nI 1))) = nI 0
  · obtain ⟨h1, h3, E1, k1, E3, le⟩ := st_act D hC (e11_grow (d := d + 20) D.1 h40 false) (fun h2 hM => rr_P hL (e_growP (d := d + 22) hM hI false))
    refine ⟨h3, li_E le, fun r hJ => b_L_law_1054 (z_pu0V rfl) ⟨rfl, vi 1 (by decide), ?_⟩⟩
    rw [if_pos c0]
    refine ⟨hk, _, h1, E1, rfl, vi 1 (by decide), ?_⟩
    rw [if_pos c0]
    refine ⟨k1, _, h3, E3, ?_⟩
    rw [if_pos rfl]
    exact hJ
  · obtain ⟨h1, h3, E1, k1, E3, le⟩ := st_act D hC (e11_grow (d := d + 20) D.1 h40 true) (fun h2 hM => rr_P hL (e_growP (d := d + 22) hM hI true))
    refine ⟨h3, li_E le, fun r hJ => b_L_law_1054 (z_pu0V rfl) ⟨rfl, vi 1 (by decide), ?_⟩⟩
    rw [if_neg c0]
    refine ⟨hk, _, h1, E1, rfl, vi 1 (by decide), ?_⟩
    rw [if_neg c0]
    refine ⟨k1, _, h3, E3, ?_⟩
    rw [if_pos rfl]
    exact hJ
theorem la_place {G : z_G} {d L i : Nat} {h : z_H} (hi : 6 * i + 6 ≤ z_sL G) (hs : z_sL G ≤ 3072) (hl : LI L i h) : ∃ h', LI L (i + 1) h' ∧ ∀ r, z_J G (d + 28) (m_L_law z_pu0) r 1719 [some (.ref (z_sb G)), some (.ref L), some (.ref (L + 48)), some (.ref (L + 74)), some (.int (nI (6 * i))), none, none] [] h' → z_J G (d + 28) (m_L_law z_pu0) r 1095 [some (.ref (z_sb G)), some (.ref L), some (.ref (L + 48)), some (.ref (L + 74)), some (.int (nI (6 * i))), none, none] [] h := by
  obtain ⟨σ, F, A, r, D, hI, hL, hC⟩ := hl
  have h40 := hI.2.2.2.2.2.1.1
  have hk := D.1.1.1.1
  have vi : ∀ k, k < 6 → vp_in (nI (6 * i) + nI k) (z_sL G) := fun k hk => by rw [nI_add]; exact vp_in_nI (by omega) (by omega)
  obtain ⟨h1, h3, E1, k1, E3, le⟩ := st_act D hC (e11_place (d := d + 20) D.1 h40 (z_sx G (Int32.toNatClampNeg (nI (6 * i) + nI 1))) (z_sx G (Int32.toNatClampNeg (nI (6 * i) + nI 2))) (z_sx G (Int32.toNatClampNeg (nI (6 * i) + nI 3)))) (fun h2 hM => rr_P hL (e_placeP (d := d + 21) hM hI (z_sx G (Int32.toNatClampNeg (nI (6 * i) + nI 1))) (z_sx G (Int32.toNatClampNeg (nI (6 * i) + nI 2))) (z_sx G (Int32.toNatClampNeg (nI (6 * i) + nI 3)))))
  refine ⟨h3, li_E le, fun r hJ => b_L_law_1095 (z_pu0V rfl) ⟨rfl, vi 1 (by decide), rfl, vi 2 (by decide), rfl, vi 3 (by decide), hk, _, h1, E1, rfl, vi 1 (by decide), rfl, vi 2 (by decide), rfl, vi 3 (by decide), k1, _, h3, E3, ?_⟩⟩
  rw [if_pos rfl]
  exact hJ
theorem la_put {G : z_G} {d L i : Nat} {h : z_H} (hi : 6 * i + 6 ≤ z_sL G) (hs : z_sL G ≤ 3072) (hl : LI L i h) : ∃ h', LI L (i + 1) h' ∧ ∀ r, z_J G (d + 28) (m_L_law z_pu0) r 1719 [some (.ref (z_sb G)), some (.ref L), some (.ref (L + 48)), some (.ref (L + 74)), some (.int (nI (6 * i))), none, none] [] h' → z_J G (d + 28) (m_L_law z_pu0) r 1144 [some (.ref (z_sb G)), some (.ref L), some (.ref (L + 48)), some (.ref (L + 74)), some (.int (nI (6 * i))), none, none] [] h := by
  obtain ⟨σ, F, A, r, D, hI, hL, hC⟩ := hl
  have h40 := hI.2.2.2.2.2.1.1
  have hk := D.1.1.1.1
  have vi : ∀ k, k < 6 → vp_in (nI (6 * i) + nI k) (z_sL G) := fun k hk => by rw [nI_add]; exact vp_in_nI (by omega) (by omega)
  obtain ⟨h1, h3, E1, k1, E3, le⟩ := st_act D hC (e11_put (d := d + 20) D.1 h40 (z_sx G (Int32.toNatClampNeg (nI (6 * i) + nI 1)))) (fun h2 hM => rr_P hL (e_putP (d := d + 22) hM hI (z_sx G (Int32.toNatClampNeg (nI (6 * i) + nI 1)))))
  refine ⟨h3, li_E le, fun r hJ => b_L_law_1144 (z_pu0V rfl) ⟨rfl, vi 1 (by decide), hk, _, h1, E1, rfl, vi 1 (by decide), k1, _, h3, E3, ?_⟩⟩
  rw [if_pos rfl]
  exact hJ
theorem la_take {G : z_G} {d L i : Nat} {h : z_H} (hi : 6 * i + 6 ≤ z_sL G) (hs : z_sL G ≤ 3072) (hl : LI L i h) : ∃ h', LI L (i + 1) h' ∧ ∀ r, z_J G (d + 28) (m_L_law z_pu0) r 1719 [some (.ref (z_sb G)), some (.ref L), some (.ref (L + 48)), some (.ref (L + 74)), some (.int (nI (6 * i))), none, none] [] h' → z_J G (d + 28) (m_L_law z_pu0) r 1169 [some (.ref (z_sb G)), some (.ref L), some (.ref (L + 48)), some (.ref (L + 74)), some (.int (nI (6 * i))), none, none] [] h := by
  obtain ⟨σ, F, A, r, D, hI, hL, hC⟩ := hl
  have h40 := hI.2.2.2.2.2.1.1
  have hk := D.1.1.1.1
  have vi : ∀ k, k < 6 → vp_in (nI (6 * i) + nI k) (z_sL G) := fun k hk => by rw [nI_add]; exact vp_in_nI (by omega) (by omega)
  obtain ⟨h1, h3, E1, k1, E3, le⟩ := st_act D hC (e11_take (d := d + 20) D.1 h40 (z_sx G (Int32.toNatClampNeg (nI (6 * i) + nI 1)))) (fun h2 hM => rr_P hL (e_takeP (d := d + 22) hM hI (z_sx G (Int32.toNatClampNeg (nI (6 * i) + nI 1)))))
  refine ⟨h3, li_E le, fun r hJ => b_L_law_1169 (z_pu0V rfl) ⟨rfl, vi 1 (by decide), hk, _, h1, E1, rfl, vi 1 (by decide), k1, _, h3, E3, ?_⟩⟩
  rw [if_pos rfl]
  exact hJ
theorem la_undo {G : z_G} {d L i : Nat} {h : z_H} (hi : 6 * i + 6 ≤ z_sL G) (hs : z_sL G ≤ 3072) (hl : LI L i h) : ∃ h', LI L (i + 1) h' ∧ ∀ r, z_J G (d + 28) (m_L_law z_pu0) r 1719 [some (.ref (z_sb G)), some (.ref L), some (.ref (L + 48)), some (.ref (L + 74)), some (.int (nI (6 * i))), none, none] [] h' → z_J G (d + 28) (m_L_law z_pu0) r 1194 [some (.ref (z_sb G)), some (.ref L), some (.ref (L + 48)), some (.ref (L + 74)), some (.int (nI (6 * i))), none, none] [] h := by
  obtain ⟨σ, F, A, r, D, hI, hL, hC⟩ := hl
  have h40 := hI.2.2.2.2.2.1.1
  have hk := D.1.1.1.1
  have vi : ∀ k, k < 6 → vp_in (nI (6 * i) + nI k) (z_sL G) := fun k hk => by rw [nI_add]; exact vp_in_nI (by omega) (by omega)
  obtain ⟨h1, h3, E1, k1, E3, le⟩ := st_act D hC (e11_undo (d := d + 23) D.1 h40) (fun h2 hM => rr_P hL (e_undoP (d := d + 23) hM hI))
  refine ⟨h3, li_E le, fun r hJ => b_L_law_1194 (z_pu0V rfl) ⟨hk, _, h1, E1, k1, _, h3, E3, ?_⟩⟩
  rw [if_pos rfl]
  exact hJ
theorem la_list {G : z_G} {d L i : Nat} {h : z_H} (hi : 6 * i + 6 ≤ z_sL G) (hs : z_sL G ≤ 3072) (hl : LI L i h) : ∃ h', LI L (i + 1) h' ∧ ∀ r, z_J G (d + 28) (m_L_law z_pu0) r 1719 [some (.ref (z_sb G)), some (.ref L), some (.ref (L + 48)), some (.ref (L + 74)), some (.int (nI (6 * i))), none, none] [] h' → z_J G (d + 28) (m_L_law z_pu0) r 1207 [some (.ref (z_sb G)), some (.ref L), some (.ref (L + 48)), some (.ref (L + 74)), some (.int (nI (6 * i))), none, none] [] h := by
  obtain ⟨σ, F, A, r, D, hI, hL, hC⟩ := hl
  have h40 := hI.2.2.2.2.2.1.1
  have hk := D.1.1.1.1
  have vi : ∀ k, k < 6 → vp_in (nI (6 * i) + nI k) (z_sL G) := fun k hk => by rw [nI_add]; exact vp_in_nI (by omega) (by omega)
  have hok := hI.2.2.2.1.1.1
  obtain ⟨h1, h3, EW, k1, E3, k3, Et, hv, ⟨o1, o2⟩, le⟩ := st_qst (κW := k_L_list) (d := d + 26) D hC (e11_list (d := d) D.1 (z_sx G (Int32.toNatClampNeg (nI (6 * i) + nI 1))) (z_sx G (Int32.toNatClampNeg (nI (6 * i) + nI 2))) (z_sx G (Int32.toNatClampNeg (nI (6 * i) + nI 3))) (z_sx G (Int32.toNatClampNeg (nI (6 * i) + nI 4)))) cd_list (fun h1 E q1 q2 => eL_list_k hk E q1 q2) (fun _ h1 E => eL_list_t1 hk E) (fun _ h1 E => eL_list_t2 hk E) (fun h2 hM => e_listP (d := d + 12) hM hI hL (fun n m q1 q2 q3 => Nat.le_trans (lst_hB n m q1 q2 q3) (by decide)) (z_sx G (Int32.toNatClampNeg (nI (6 * i) + nI 1))) (z_sx G (Int32.toNatClampNeg (nI (6 * i) + nI 2))) (z_sx G (Int32.toNatClampNeg (nI (6 * i) + nI 3))) (z_sx G (Int32.toNatClampNeg (nI (6 * i) + nI 4)))) ⟨d + 23, rfl⟩
  refine ⟨h3, li_E le, fun r hJ => b_L_law_1207 (z_pu0V rfl) ⟨rfl, vi 1 (by decide), rfl, vi 2 (by decide), rfl, vi 3 (by decide), rfl, vi 4 (by decide), _, h1, EW, rfl, vi 1 (by decide), rfl, vi 2 (by decide), rfl, vi 3 (by decide), rfl, vi 4 (by decide), k1, _, h3, E3, k3, _, h3, Et, st_fin o1 o2 hv hJ⟩⟩
theorem la_square {G : z_G} {d L i : Nat} {h : z_H} (hi : 6 * i + 6 ≤ z_sL G) (hs : z_sL G ≤ 3072) (hl : LI L i h) : ∃ h', LI L (i + 1) h' ∧ ∀ r, z_J G (d + 28) (m_L_law z_pu0) r 1719 [some (.ref (z_sb G)), some (.ref L), some (.ref (L + 48)), some (.ref (L + 74)), some (.int (nI (6 * i))), none, none] [] h' → z_J G (d + 28) (m_L_law z_pu0) r 1299 [some (.ref (z_sb G)), some (.ref L), some (.ref (L + 48)), some (.ref (L + 74)), some (.int (nI (6 * i))), none, none] [] h := by
  obtain ⟨σ, F, A, r, D, hI, hL, hC⟩ := hl
  have h40 := hI.2.2.2.2.2.1.1
  have hk := D.1.1.1.1
  have vi : ∀ k, k < 6 → vp_in (nI (6 * i) + nI k) (z_sL G) := fun k hk => by rw [nI_add]; exact vp_in_nI (by omega) (by omega)
  have hok := hI.2.2.2.1.1.1
  obtain ⟨h1, h3, EW, k1, E3, k3, Et, hv, ⟨o1, o2⟩, le⟩ := st_qst (κW := k_L_square) (d := d + 26) D hC (e11_square (d := d + 14) D.1 (A 17) (A 16) (z_sx G (Int32.toNatClampNeg (nI (6 * i) + nI 1))) (z_sx G (Int32.toNatClampNeg (nI (6 * i) + nI 2)))) cd_square (fun h1 E q1 q2 => eL_square_k hk E q1 q2) (fun _ h1 E => eL_square_t1 hk E) (fun _ h1 E => eL_square_t2 hk E) (fun h2 hM => rr_P hL (qR_p hI (e_squareQ (d := d + 12) hM hI (z_sx G (Int32.toNatClampNeg (nI (6 * i) + nI 1))) (z_sx G (Int32.toNatClampNeg (nI (6 * i) + nI 2)))))) ⟨d + 23, rfl⟩
  refine ⟨h3, li_E le, fun r hJ => b_L_law_1299 (z_pu0V rfl) ⟨rfl, vi 1 (by decide), rfl, vi 2 (by decide), _, h1, EW, rfl, vi 1 (by decide), rfl, vi 2 (by decide), k1, _, h3, E3, k3, _, h3, Et, st_fin o1 o2 hv hJ⟩⟩
theorem la_plane {G : z_G} {d L i : Nat} {h : z_H} (hi : 6 * i + 6 ≤ z_sL G) (hs : z_sL G ≤ 3072) (hl : LI L i h) : ∃ h', LI L (i + 1) h' ∧ ∀ r, z_J G (d + 28) (m_L_law z_pu0) r 1719 [some (.ref (z_sb G)), some (.ref L), some (.ref (L + 48)), some (.ref (L + 74)), some (.int (nI (6 * i))), none, none] [] h' → z_J G (d + 28) (m_L_law z_pu0) r 1367 [some (.ref (z_sb G)), some (.ref L), some (.ref (L + 48)), some (.ref (L + 74)), some (.int (nI (6 * i))), none, none] [] h := by
  obtain ⟨σ, F, A, r, D, hI, hL, hC⟩ := hl
  have h40 := hI.2.2.2.2.2.1.1
  have hk := D.1.1.1.1
  have vi : ∀ k, k < 6 → vp_in (nI (6 * i) + nI k) (z_sL G) := fun k hk => by rw [nI_add]; exact vp_in_nI (by omega) (by omega)
  have hok := hI.2.2.2.1.1.1
  obtain ⟨h1, h3, EW, k1, E3, k3, Et, hv, ⟨o1, o2⟩, le⟩ := st_qst (κW := k_L_plane) (d := d + 26) D hC (e11_plane (d := d + 14) D.1 (A 17) (A 16) (z_sx G (Int32.toNatClampNeg (nI (6 * i) + nI 1))) (z_sx G (Int32.toNatClampNeg (nI (6 * i) + nI 2)))) cd_plane (fun h1 E q1 q2 => eL_plane_k hk E q1 q2) (fun _ h1 E => eL_plane_t1 hk E) (fun _ h1 E => eL_plane_t2 hk E) (fun h2 hM => rr_P hL (qR_p hI (e_planeQ (d := d + 12) hM hI (z_sx G (Int32.toNatClampNeg (nI (6 * i) + nI 1))) (z_sx G (Int32.toNatClampNeg (nI (6 * i) + nI 2)))))) ⟨d + 23, rfl⟩
  refine ⟨h3, li_E le, fun r hJ => b_L_law_1367 (z_pu0V rfl) ⟨rfl, vi 1 (by decide), rfl, vi 2 (by decide), _, h1, EW, rfl, vi 1 (by decide), rfl, vi 2 (by decide), k1, _, h3, E3, k3, _, h3, Et, st_fin o1 o2 hv hJ⟩⟩
theorem la_set {G : z_G} {d L i : Nat} {h : z_H} (hi : 6 * i + 6 ≤ z_sL G) (hs : z_sL G ≤ 3072) (hl : LI L i h) : ∃ h', LI L (i + 1) h' ∧ ∀ r, z_J G (d + 28) (m_L_law z_pu0) r 1719 [some (.ref (z_sb G)), some (.ref L), some (.ref (L + 48)), some (.ref (L + 74)), some (.int (nI (6 * i))), none, none] [] h' → z_J G (d + 28) (m_L_law z_pu0) r 1435 [some (.ref (z_sb G)), some (.ref L), some (.ref (L + 48)), some (.ref (L + 74)), some (.int (nI (6 * i))), none, none] [] h := by
  obtain ⟨σ, F, A, r, D, hI, hL, hC⟩ := hl
  have h40 := hI.2.2.2.2.2.1.1
  have hk := D.1.1.1.1
  have vi : ∀ k, k < 6 → vp_in (nI (6 * i) + nI k) (z_sL G) := fun k hk => by rw [nI_add]; exact vp_in_nI (by omega) (by omega)
  have hok := hI.2.2.2.1.1.1
  obtain ⟨h1, h3, EW, k1, E3, k3, Et, hv, ⟨o1, o2⟩, le⟩ := st_qst (κW := k_L_set) (d := d + 26) D hC (e11_set (d := d + 10) D.1 (z_sx G (Int32.toNatClampNeg (nI (6 * i) + nI 1)))) (cd_set.elim Or.inl (fun q => Or.inr (Or.inl q))) (fun h1 E q1 q2 => eL_set_k hk E q1 q2) (fun _ h1 E => eL_set_t1 hk E) (fun q => by rcases (cd_set) with e | e <;> (rw [q] at e; cases e)) (fun h2 hM => rr_P hL (qR_p hI (e_setQ (d := d + 22) hM hI (z_sx G (Int32.toNatClampNeg (nI (6 * i) + nI 1)))))) ⟨d + 23, rfl⟩
  refine ⟨h3, li_E le, fun r hJ => b_L_law_1435 (z_pu0V rfl) ⟨rfl, vi 1 (by decide), _, h1, EW, rfl, vi 1 (by decide), k1, _, h3, E3, k3, _, h3, Et, st_fin o1 o2 hv hJ⟩⟩
theorem la_far {G : z_G} {d L i : Nat} {h : z_H} (hi : 6 * i + 6 ≤ z_sL G) (hs : z_sL G ≤ 3072) (hl : LI L i h) : ∃ h', LI L (i + 1) h' ∧ ∀ r, z_J G (d + 28) (m_L_law z_pu0) r 1719 [some (.ref (z_sb G)), some (.ref L), some (.ref (L + 48)), some (.ref (L + 74)), some (.int (nI (6 * i))), none, none] [] h' → z_J G (d + 28) (m_L_law z_pu0) r 1491 [some (.ref (z_sb G)), some (.ref L), some (.ref (L + 48)), some (.ref (L + 74)), some (.int (nI (6 * i))), none, none] [] h := by
  obtain ⟨σ, F, A, r, D, hI, hL, hC⟩ := hl
  have h40 := hI.2.2.2.2.2.1.1
  have hk := D.1.1.1.1
  have vi : ∀ k, k < 6 → vp_in (nI (6 * i) + nI k) (z_sL G) := fun k hk => by rw [nI_add]; exact vp_in_nI (by omega) (by omega)
  have hok := hI.2.2.2.1.1.1
  obtain ⟨h1, h3, EW, k1, E3, k3, Et, hv, ⟨o1, o2⟩, le⟩ := st_qst (κW := k_L_far) (d := d + 26) D hC (e11_far (d := d + 20) D.1 (z_sx G (Int32.toNatClampNeg (nI (6 * i) + nI 1))) (z_sx G (Int32.toNatClampNeg (nI (6 * i) + nI 2)))) (cd_far.elim Or.inl (fun q => Or.inr (Or.inl q))) (fun h1 E q1 q2 => eL_far_k hk E q1 q2) (fun _ h1 E => eL_far_t1 hk E) (fun q => by rcases (cd_far) with e | e <;> (rw [q] at e; cases e)) (fun h2 hM => rr_P hL (qR_p hI (e_farQ (d := d + 22) hM hI (z_sx G (Int32.toNatClampNeg (nI (6 * i) + nI 1))) (z_sx G (Int32.toNatClampNeg (nI (6 * i) + nI 2)))))) ⟨d + 23, rfl⟩
  refine ⟨h3, li_E le, fun r hJ => b_L_law_1491 (z_pu0V rfl) ⟨rfl, vi 1 (by decide), rfl, vi 2 (by decide), _, h1, EW, rfl, vi 1 (by decide), rfl, vi 2 (by decide), k1, _, h3, E3, k3, _, h3, Et, st_fin o1 o2 hv hJ⟩⟩
theorem la_game {G : z_G} {d L i : Nat} {h : z_H} (hi : 6 * i + 6 ≤ z_sL G) (hs : z_sL G ≤ 3072) (hl : LI L i h) : ∃ h', LI L (i + 1) h' ∧ ∀ r, z_J G (d + 28) (m_L_law z_pu0) r 1719 [some (.ref (z_sb G)), some (.ref L), some (.ref (L + 48)), some (.ref (L + 74)), some (.int (nI (6 * i))), none, none] [] h' → z_J G (d + 28) (m_L_law z_pu0) r 1559 [some (.ref (z_sb G)), some (.ref L), some (.ref (L + 48)), some (.ref (L + 74)), some (.int (nI (6 * i))), none, none] [] h := by
  obtain ⟨σ, F, A, r, D, hI, hL, hC⟩ := hl
  have h40 := hI.2.2.2.2.2.1.1
  have hk := D.1.1.1.1
  have vi : ∀ k, k < 6 → vp_in (nI (6 * i) + nI k) (z_sL G) := fun k hk => by rw [nI_add]; exact vp_in_nI (by omega) (by omega)
  have hok := hI.2.2.2.1.1.1
  obtain ⟨h1, h3, EW, k1, E3, k3, Et, hv, ⟨o1, o2⟩, le⟩ := st_qst (κW := k_L_game) (d := d + 26) D hC (e11_game (d := d + 5) D.1 (A 21) (z_sx G (Int32.toNatClampNeg (nI (6 * i) + nI 1)))) (cd_game.elim Or.inl (fun q => Or.inr (Or.inl q))) (fun h1 E q1 q2 => eL_game_k hk E q1 q2) (fun _ h1 E => eL_game_t1 hk E) (fun q => by rcases (cd_game) with e | e <;> (rw [q] at e; cases e)) (fun h2 hM => rr_P hL (qR_p hI (e_gameQ (d := d + 20) hM hI (game_eq hok (A 21)).2.2 (z_sx G (Int32.toNatClampNeg (nI (6 * i) + nI 1)))))) ⟨d + 23, rfl⟩
  refine ⟨h3, li_E le, fun r hJ => b_L_law_1559 (z_pu0V rfl) ⟨rfl, vi 1 (by decide), _, h1, EW, rfl, vi 1 (by decide), k1, _, h3, E3, k3, _, h3, Et, st_fin o1 o2 hv hJ⟩⟩
theorem la_years {G : z_G} {d L i : Nat} {h : z_H} (hi : 6 * i + 6 ≤ z_sL G) (hs : z_sL G ≤ 3072) (hl : LI L i h) : ∃ h', LI L (i + 1) h' ∧ ∀ r, z_J G (d + 28) (m_L_law z_pu0) r 1719 [some (.ref (z_sb G)), some (.ref L), some (.ref (L + 48)), some (.ref (L + 74)), some (.int (nI (6 * i))), none, none] [] h' → z_J G (d + 28) (m_L_law z_pu0) r 1615 [some (.ref (z_sb G)), some (.ref L), some (.ref (L + 48)), some (.ref (L + 74)), some (.int (nI (6 * i))), none, none] [] h := by
  obtain ⟨σ, F, A, r, D, hI, hL, hC⟩ := hl
  have h40 := hI.2.2.2.2.2.1.1
  have hk := D.1.1.1.1
  have vi : ∀ k, k < 6 → vp_in (nI (6 * i) + nI k) (z_sL G) := fun k hk => by rw [nI_add]; exact vp_in_nI (by omega) (by omega)
  have hok := hI.2.2.2.1.1.1
  obtain ⟨h1, h3, EW, k1, E3, k3, Et, hv, ⟨o1, o2⟩, le⟩ := st_qst (κW := k_L_years) (d := d + 26) D hC (e11_years (d := d + 19) D.1 (z_sx G (Int32.toNatClampNeg (nI (6 * i) + nI 1))) (z_sx G (Int32.toNatClampNeg (nI (6 * i) + nI 2))) (z_sx G (Int32.toNatClampNeg (nI (6 * i) + nI 3)))) cd_years (fun h1 E q1 q2 => eL_years_k hk E q1 q2) (fun _ h1 E => eL_years_t1 hk E) (fun _ h1 E => eL_years_t2 hk E) (fun h2 hM => rr_P hL (qR_p hI (e_yearsQ (d := d + 21) hM hI (z_sx G (Int32.toNatClampNeg (nI (6 * i) + nI 1))) (z_sx G (Int32.toNatClampNeg (nI (6 * i) + nI 2))) (z_sx G (Int32.toNatClampNeg (nI (6 * i) + nI 3)))))) ⟨d + 23, rfl⟩
  refine ⟨h3, li_E le, fun r hJ => b_L_law_1615 (z_pu0V rfl) ⟨rfl, vi 1 (by decide), rfl, vi 2 (by decide), rfl, vi 3 (by decide), _, h1, EW, rfl, vi 1 (by decide), rfl, vi 2 (by decide), rfl, vi 3 (by decide), k1, _, h3, E3, k3, _, h3, Et, st_fin o1 o2 hv hJ⟩⟩
theorem la_image {G : z_G} {d L i : Nat} {h : z_H} (hi : 6 * i + 6 ≤ z_sL G) (hs : z_sL G ≤ 3072) (hl : LI L i h) : ∃ h', LI L (i + 1) h' ∧ ∀ r, z_J G (d + 28) (m_L_law z_pu0) r 1719 [some (.ref (z_sb G)), some (.ref L), some (.ref (L + 48)), some (.ref (L + 74)), some (.int (nI (6 * i))), none, none] [] h' → z_J G (d + 28) (m_L_law z_pu0) r 1695 [some (.ref (z_sb G)), some (.ref L), some (.ref (L + 48)), some (.ref (L + 74)), some (.int (nI (6 * i))), none, none] [] h := by
  obtain ⟨σ, F, A, r, D, hI, hL, hC⟩ := hl
  have h40 := hI.2.2.2.2.2.1.1
  have hk := D.1.1.1.1
  have vi : ∀ k, k < 6 → vp_in (nI (6 * i) + nI k) (z_sL G) := fun k hk => by rw [nI_add]; exact vp_in_nI (by omega) (by omega)
  obtain ⟨h1, r1, c1, ct, e1, E1⟩ := e11_image (G := G) (d := d + 22) D.1
  have D1 := ld_cls D c1 e1
  obtain ⟨F', A', q1, q2, q3, q4⟩ := e_imageP (G := G) (d := d + 22) D1.2.1 hI
  rw [← D1.2.2.1] at q4
  obtain ⟨t1, t2, t3⟩ := ct
  obtain ⟨g1, g2⟩ := hC
  refine ⟨z_rs h1 (L + 48) F' A', li_E ⟨F', A', r1, ld_ref D1 F' A', q1, rL_k hL q2, by show z_c h1 + _ ≤ _; omega, by show z_s h1 + _ ≤ _; omega⟩, fun r hJ => b_L_law_1695 (z_pu0V rfl) ⟨hk, h1, E1, sh_kd D1.2.1, _, q4, hJ⟩⟩
theorem la_restore {G : z_G} {d L i : Nat} {h : z_H} (hi : 6 * i + 6 ≤ z_sL G) (hs : z_sL G ≤ 3072) (hl : LI L i h) : ∃ h', LI L (i + 1) h' ∧ ∀ r, z_J G (d + 28) (m_L_law z_pu0) r 1719 [some (.ref (z_sb G)), some (.ref L), some (.ref (L + 48)), some (.ref (L + 74)), some (.int (nI (6 * i))), none, none] [] h' → z_J G (d + 28) (m_L_law z_pu0) r 1706 [some (.ref (z_sb G)), some (.ref L), some (.ref (L + 48)), some (.ref (L + 74)), some (.int (nI (6 * i))), none, none] [] h := by
  obtain ⟨σ, F, A, r, D, hI, hL, hC⟩ := hl
  have h40 := hI.2.2.2.2.2.1.1
  have hk := D.1.1.1.1
  have vi : ∀ k, k < 6 → vp_in (nI (6 * i) + nI k) (z_sL G) := fun k hk => by rw [nI_add]; exact vp_in_nI (by omega) (by omega)
  obtain ⟨h1, h3, E1, k1, E3, le⟩ := st_act D hC (e11_restore (d := d + 23) D.1) (fun h2 hM => rr_P hL (e_restoreP (d := d + 22) hM hI))
  refine ⟨h3, li_E le, fun r hJ => b_L_law_1706 (z_pu0V rfl) ⟨hk, _, h1, E1, k1, _, h3, E3, ?_⟩⟩
  rw [if_pos rfl]
  exact hJ
