/-! a scheme's object made: up to the filling of its rows -/
def yK (j : Nat) : Nat := if j = 4 then 6 else 1
def yL (m j : Nat) : Nat := ([8, 8, 64, 8, 5, m, m, m][j]?).getD 0
section EL
variable {G : z_G} {d q b a m np La : Nat} {h0 : z_H}
theorem y_init0 (hn : z_n h0 = b) (hk : z_kd h0 q = 24) (hq : q < b) (ha : a < b) (haq : a ≠ q) (k1 : z_kd h0 a = 1) (k2 : z_ln h0 a = La) (hLa : La < 2 ^ 31) (hm : m ≤ 12) : ∃ h t O F f, yI h0 q b 8 t yK (yL m) (fun j => if j = 5 then f else fun _ => 0) O F h ∧ t = 93 + 3 * m ∧ (∀ i, i < La → i < m → f i = z_ai h0 a i) ∧ (∀ i, La ≤ i → i < m → f i = 0) ∧ (O 5 = some b ∧ O 6 = some (b + 1) ∧ O 7 = some (b + 2) ∧ O 9 = some (b + 3) ∧ O 12 = some (b + 4) ∧ O 2 = some (b + 5) ∧ O 3 = some (b + 6) ∧ O 4 = some (b + 7)) ∧ (O 8 = none ∧ O 10 = none ∧ O 11 = none ∧ O 13 = none ∧ O 14 = none) ∧ (F 0 = nI np ∧ F 1 = nI m) ∧ ∀ r, z_J G (d + 4) (m_X8_init z_pu0) r 102 [some (.ref q), some (.int (nI np)), none, some (.int (nI m)), none, none] [] h → z_Ev G (d + 4) k_X8_init [.ref q, .int (nI np), .ref a, .int (nI m)] h0 r := by
  have I0 : yI h0 q b 0 0 yK (yL m) (fun _ _ => 0) (z_or h0 q) (z_oi h0 q) h0 := ⟨⟨hn, fun _ _ => rfl⟩, rfl, rfl, hk, rfl, rfl, fun j hj => absurd hj (Nat.not_lt_zero _), fun _ _ _ => ⟨rfl, rfl, rfl, rfl, rfl, rfl, rfl⟩⟩
  obtain ⟨g1, eg1, N1⟩ : ∃ g, g = z_nwi h0 1 8 (fun _ => 0) ∧ yI h0 q b 1 _ yK (yL m) (fun _ _ => 0) _ _ g := ⟨_, rfl, y_nwi I0 hq (by rfl) (by rfl) (by rfl)⟩
  obtain ⟨h1, eh1, I1⟩ : ∃ g, g = z_por g1 q 5 (some (z_n h0)) ∧ yI h0 q b 1 _ yK (yL m) (fun _ _ => 0) _ _ g := ⟨_, rfl, y_por N1 hq 5 _⟩
  obtain ⟨g2, eg2, N2⟩ : ∃ g, g = z_nwi h1 1 8 (fun _ => 0) ∧ yI h0 q b 2 _ yK (yL m) (fun _ _ => 0) _ _ g := ⟨_, rfl, y_nwi I1 hq (by rfl) (by rfl) (by rfl)⟩
  obtain ⟨h2, eh2, I2⟩ : ∃ g, g = z_por g2 q 6 (some (z_n h1)) ∧ yI h0 q b 2 _ yK (yL m) (fun _ _ => 0) _ _ g := ⟨_, rfl, y_por N2 hq 6 _⟩
  obtain ⟨g3, eg3, N3⟩ : ∃ g, g = z_nwi h2 1 64 (fun _ => 0) ∧ yI h0 q b 3 _ yK (yL m) (fun _ _ => 0) _ _ g := ⟨_, rfl, y_nwi I2 hq (by rfl) (by rfl) (by rfl)⟩
  obtain ⟨h3, eh3, I3⟩ : ∃ g, g = z_por g3 q 7 (some (z_n h2)) ∧ yI h0 q b 3 _ yK (yL m) (fun _ _ => 0) _ _ g := ⟨_, rfl, y_por N3 hq 7 _⟩
  obtain ⟨h4, eh4, I4⟩ : ∃ g, g = z_por h3 q 8 none ∧ yI h0 q b 3 _ yK (yL m) (fun _ _ => 0) _ _ g := ⟨_, rfl, y_por I3 hq 8 none⟩
  obtain ⟨g5, eg5, N5⟩ : ∃ g, g = z_nwi h4 1 8 (fun _ => 0) ∧ yI h0 q b 4 _ yK (yL m) (fun _ _ => 0) _ _ g := ⟨_, rfl, y_nwi I4 hq (by rfl) (by rfl) (by rfl)⟩
  obtain ⟨h5, eh5, I5⟩ : ∃ g, g = z_por g5 q 9 (some (z_n h4)) ∧ yI h0 q b 4 _ yK (yL m) (fun _ _ => 0) _ _ g := ⟨_, rfl, y_por N5 hq 9 _⟩
  obtain ⟨h6, eh6, I6⟩ : ∃ g, g = z_por h5 q 10 none ∧ yI h0 q b 4 _ yK (yL m) (fun _ _ => 0) _ _ g := ⟨_, rfl, y_por I5 hq 10 none⟩
  obtain ⟨h7, eh7, I7⟩ : ∃ g, g = z_por h6 q 11 none ∧ yI h0 q b 4 _ yK (yL m) (fun _ _ => 0) _ _ g := ⟨_, rfl, y_por I6 hq 11 none⟩
  obtain ⟨g8, eg8, N8⟩ : ∃ g, g = z_nwr h7 6 5 ∧ yI h0 q b 5 _ yK (yL m) (fun _ _ => 0) _ _ g := ⟨_, rfl, y_nwr I7 hq (by rfl) (by rfl)⟩
  obtain ⟨h8, eh8, I8⟩ : ∃ g, g = z_por g8 q 12 (some (z_n h7)) ∧ yI h0 q b 5 _ yK (yL m) (fun _ _ => 0) _ _ g := ⟨_, rfl, y_por N8 hq 12 _⟩
  obtain ⟨h9, eh9, I9⟩ : ∃ g, g = z_por h8 q 13 none ∧ yI h0 q b 5 _ yK (yL m) (fun _ _ => 0) _ _ g := ⟨_, rfl, y_por I8 hq 13 none⟩
  obtain ⟨h10, eh10, I10⟩ : ∃ g, g = z_por h9 q 14 none ∧ yI h0 q b 5 _ yK (yL m) (fun _ _ => 0) _ _ g := ⟨_, rfl, y_por I9 hq 14 none⟩
  obtain ⟨h11, eh11, I11⟩ : ∃ g, g = z_poi h10 q 0 (nI np) ∧ yI h0 q b 5 _ yK (yL m) (fun _ _ => 0) _ _ g := ⟨_, rfl, y_poi I10 0 _⟩
  obtain ⟨h12, eh12, I12⟩ : ∃ g, g = z_poi h11 q 1 (nI m) ∧ yI h0 q b 5 _ yK (yL m) (fun _ _ => 0) _ _ g := ⟨_, rfl, y_poi I11 1 _⟩
  obtain ⟨f, f1, f2, ec⟩ := e_copyOf (G := G) (d := d) (a := a) (L := La) (m := m) (h := h12) (by rw [(I12.2.2.2.2.2.2.2 a ha haq).1]; exact k1) (by rw [(I12.2.2.2.2.2.2.2 a ha haq).2.1]; exact k2) hLa (by omega) (by rw [I12.1.1]; omega)
  rw [(I12.2.2.2.2.2.2.2 a ha haq).2.2.2.2.1] at f1
  have Iw : yI h0 q b 5 _ yK (yL m) (fun j => if j = 5 then f else fun _ => 0) _ _ h12 := y_W I12 (fun j hj => by rw [if_neg (by omega)])
  obtain ⟨g13, eg13, N13⟩ : ∃ g, g = z_nwi h12 1 m f ∧ yI h0 q b 6 _ yK (yL m) (fun j => if j = 5 then f else fun _ => 0) _ _ g := ⟨_, rfl, y_nwi Iw hq (by rfl) (by rfl) (by rfl)⟩
  obtain ⟨h13, eh13, I13⟩ : ∃ g, g = z_por g13 q 2 (some (z_n h12)) ∧ yI h0 q b 6 _ yK (yL m) (fun j => if j = 5 then f else fun _ => 0) _ _ g := ⟨_, rfl, y_por N13 hq 2 _⟩
  obtain ⟨g14, eg14, N14⟩ : ∃ g, g = z_nwi h13 1 m (fun _ => 0) ∧ yI h0 q b 7 _ yK (yL m) (fun j => if j = 5 then f else fun _ => 0) _ _ g := ⟨_, rfl, y_nwi I13 hq (by rfl) (by rfl) (by rfl)⟩
  obtain ⟨h14, eh14, I14⟩ : ∃ g, g = z_por g14 q 3 (some (z_n h13)) ∧ yI h0 q b 7 _ yK (yL m) (fun j => if j = 5 then f else fun _ => 0) _ _ g := ⟨_, rfl, y_por N14 hq 3 _⟩
  obtain ⟨g15, eg15, N15⟩ : ∃ g, g = z_nwi h14 1 m (fun _ => 0) ∧ yI h0 q b 8 _ yK (yL m) (fun j => if j = 5 then f else fun _ => 0) _ _ g := ⟨_, rfl, y_nwi I14 hq (by rfl) (by rfl) (by rfl)⟩
  obtain ⟨h15, eh15, I15⟩ : ∃ g, g = z_por g15 q 4 (some (z_n h14)) ∧ yI h0 q b 8 _ yK (yL m) (fun j => if j = 5 then f else fun _ => 0) _ _ g := ⟨_, rfl, y_por N15 hq 4 _⟩
  refine ⟨h15, _, _, _, f, I15, by omega, f1, f2, ⟨by repeat (first | rw [u_eq] | rw [u_ne _ _ (by decide)]); exact congrArg some (by have := I0.1.1; omega), by repeat (first | rw [u_eq] | rw [u_ne _ _ (by decide)]); exact congrArg some (by have := I1.1.1; omega), by repeat (first | rw [u_eq] | rw [u_ne _ _ (by decide)]); exact congrArg some (by have := I2.1.1; omega), by repeat (first | rw [u_eq] | rw [u_ne _ _ (by decide)]); exact congrArg some (by have := I4.1.1; omega), by repeat (first | rw [u_eq] | rw [u_ne _ _ (by decide)]); exact congrArg some (by have := I7.1.1; omega), by repeat (first | rw [u_eq] | rw [u_ne _ _ (by decide)]); exact congrArg some (by have := I12.1.1; omega), by repeat (first | rw [u_eq] | rw [u_ne _ _ (by decide)]); exact congrArg some (by have := I13.1.1; omega), by repeat (first | rw [u_eq] | rw [u_ne _ _ (by decide)]); exact congrArg some (by have := I14.1.1; omega)⟩, ⟨by repeat (first | rw [u_eq] | rw [u_ne _ _ (by decide)]), by repeat (first | rw [u_eq] | rw [u_ne _ _ (by decide)]), by repeat (first | rw [u_eq] | rw [u_ne _ _ (by decide)]), by repeat (first | rw [u_eq] | rw [u_ne _ _ (by decide)]), by repeat (first | rw [u_eq] | rw [u_ne _ _ (by decide)])⟩, ⟨by repeat (first | rw [u_eq] | rw [u_ne _ _ (by decide)]), by repeat (first | rw [u_eq] | rw [u_ne _ _ (by decide)])⟩, fun r hJ => en_X8_init (b_X8_init_0 (z_pu0V rfl) ?_)⟩
  refine b_X8_init_4 (z_pu0V rfl) ⟨nI_nlt (Nat.zero_le _) (by omega), ?_⟩
  rw [nI_clamp (show 8 < 2 ^ 31 by omega), ← eg1, ← eh1]
  refine ⟨by omega, N1.2.2.2.1, ?_⟩
  refine b_X8_init_12 (z_pu0V rfl) ⟨nI_nlt (Nat.zero_le _) (by omega), ?_⟩
  rw [nI_clamp (show 8 < 2 ^ 31 by omega), ← eg2, ← eh2]
  refine ⟨by omega, N2.2.2.2.1, ?_⟩
  refine b_X8_init_20 (z_pu0V rfl) ⟨nI_nlt (Nat.zero_le _) (by omega), ?_⟩
  rw [nI_clamp (show 64 < 2 ^ 31 by omega), ← eg3, ← eh3]
  refine ⟨by omega, N3.2.2.2.1, ?_⟩
  refine b_X8_init_28 (z_pu0V rfl) ⟨I3.2.2.2.1, ?_⟩
  rw [← eh4]
  refine b_X8_init_33 (z_pu0V rfl) ⟨nI_nlt (Nat.zero_le _) (by omega), ?_⟩
  rw [nI_clamp (show 8 < 2 ^ 31 by omega), ← eg5, ← eh5]
  refine ⟨by omega, N5.2.2.2.1, ?_⟩
  refine b_X8_init_41 (z_pu0V rfl) ⟨I5.2.2.2.1, ?_⟩
  rw [← eh6]
  refine b_X8_init_46 (z_pu0V rfl) ⟨I6.2.2.2.1, ?_⟩
  rw [← eh7]
  refine b_X8_init_51 (z_pu0V rfl) ⟨nI_nlt (Nat.zero_le _) (by omega), ?_⟩
  rw [nI_clamp (show 5 < 2 ^ 31 by omega), ← eg8, ← eh8]
  refine ⟨by omega, N8.2.2.2.1, ?_⟩
  refine b_X8_init_59 (z_pu0V rfl) ⟨I8.2.2.2.1, ?_⟩
  rw [← eh9]
  refine b_X8_init_64 (z_pu0V rfl) ⟨I9.2.2.2.1, ?_⟩
  rw [← eh10]
  refine b_X8_init_69 (z_pu0V rfl) ⟨I10.2.2.2.1, ?_⟩
  rw [← eh11]
  refine b_X8_init_74 (z_pu0V rfl) ⟨I11.2.2.2.1, ?_⟩
  rw [← eh12]
  refine b_X8_init_79 (z_pu0V rfl) ⟨_, _, ec, ?_⟩
  rw [z_rcs, ← eg13, ← eh13]
  refine ⟨N13.2.2.2.1, ?_⟩
  refine b_X8_init_88 (z_pu0V rfl) ⟨nI_nlt (Nat.zero_le _) (by omega), ?_⟩
  rw [nI_clamp (show m < 2 ^ 31 by omega), ← eg14, ← eh14]
  refine ⟨by omega, N14.2.2.2.1, ?_⟩
  refine b_X8_init_95 (z_pu0V rfl) ⟨nI_nlt (Nat.zero_le _) (by omega), ?_⟩
  rw [nI_clamp (show m < 2 ^ 31 by omega), ← eg15, ← eh15]
  refine ⟨by omega, N15.2.2.2.1, ?_⟩
  exact hJ
end EL
