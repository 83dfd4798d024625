/-! THE LAW from its entry to its end -/
theorem ll_all {G : z_G} {d : Nat} (hs : z_sL G ≤ 3072) : ∃ hf, z_c hf ≤ 601024 ∧ z_s hf ≤ 7293034 ∧ z_J G (d + 28) (m_L_law z_pu0) (.inl (some (.int (nI 1))), hf) 0 [some (.ref (z_sb G)), none, none, none, none, none, none] [] (z_h0 (z_B G)) := by
  obtain ⟨h_1, h_2, E1, n1, E2, n2, hI⟩ := ll_start (G := G) (d := d) (L := z_B G)
  obtain ⟨hf, f1, f2, hJ⟩ := ll_loop (G := G) (d := d) (L := z_B G) hs (z_sL G) 0 (z_nwl h_2 1) (by omega) (by omega) hI
  refine ⟨hf, f1, f2, b_L_law_0 (z_pu0V rfl) ⟨h_1, E1, h_2, ?_, ?_, ?_, ?_⟩⟩
  · rw [n1]; exact E2
  · decide
  · decide
  · rw [n1, n2, nI_clamp (show 1 < 2 ^ 31 by decide)]
    exact hJ
