/-! THE DRAWER: a plane marked -/
def plL (q i : Nat) : Nat := if (i + 1) / (q * q) = 0 then (if (i + 1) / q % q = 0 then (i + 1) % q else (i + 1) / q % q) else (i + 1) / (q * q)
def plS (q i : Nat) (st : Nat × (Nat → Nat → Int32)) : Nat × (Nat → Nat → Int32) := if plL q i = 1 then (st.1 + 1, mkA st.2 st.1 (nI ((i + 1) / (q * q))) (nI ((i + 1) / q % q)) (nI ((i + 1) % q))) else st
def plN (q : Nat) : Nat → Nat := fun i => it (fun i n => if plL q i = 1 then n + 1 else n) 0 i
def g_mkP (q : Nat) (A : Nat → Nat → Int32) : Nat → Nat → Int32 := (it (plS q) (0, A) (q * q * q - 1)).2
theorem pl_n (q : Nat) (A : Nat → Nat → Int32) : ∀ i, (it (plS q) (0, A) i).1 = plN q i := by
  intro i
  induction i with
  | zero => rfl
  | succ i ih =>
    unfold plN
    rw [it_s, it_s]
    unfold plN at ih
    rw [← ih]
    unfold plS
    split <;> rfl
theorem pl_lt : ∀ q, q < 4 → ∀ i, i < 27 → plN q i < 16 := by decide +kernel
section HD1
variable {G : z_G} {d x : Nat} {h : z_H} {F : Nat → Int32} {A : Nat → Nat → Int32}
theorem e2_markPlane (ds : dsh x h) {q : Nat} (h2 : 2 ≤ q) (hq : q ≤ 3) : z_Ev G (d + 2) k_X2_markPlane [.ref x, .int (nI q)] (z_hb h x 7 F A) (.inl none, z_hb h x 7 F (g_mkP q A)) := by
  have qq : q * q ≤ 9 := Nat.mul_le_mul hq hq
  have qqq : q * q * q ≤ 27 := Nat.mul_le_mul qq hq
  have q1 : 4 ≤ q * q := Nat.mul_le_mul h2 h2
  have q8 : 8 ≤ q * q * q := Nat.mul_le_mul q1 h2
  refine en_X2_markPlane (b_X2_markPlane_0 (z_pu0V rfl) ?_)
  have key := z_forH (G := G) (d := d + 2) (μ := m_X2_markPlane z_pu0) (r := (.inl none, z_hb h x 7 F (g_mkP q A))) (pc := 4) (fun i (st : Nat × (Nat → Nat → Int32)) => [some (.ref x), some (.int (nI q)), some (.int (nI st.1)), some (.int (nI (i + 1))), none, none, none]) (fun _ st => z_hb h x 7 F st.2) (plS q) (0, A) (q * q * q - 1) ?_ ?_
  · exact key
  · intro i hi hJ
    have hlt := pl_lt q (by omega) i (by omega)
    rw [← pl_n q A i] at hlt
    obtain ⟨st, est⟩ : ∃ st, st = it (plS q) (0, A) i := ⟨_, rfl⟩
    rw [← est] at hlt hJ ⊢
    have dl : (i + 1) / q < 2 ^ 31 := Nat.lt_of_le_of_lt (Nat.div_le_self _ _) (by omega)
    have dl2 : (i + 1) / (q * q) < 2 ^ 31 := Nat.lt_of_le_of_lt (Nat.div_le_self _ _) (by omega)
    have dl3 : (i + 1) / q % q < 2 ^ 31 := Nat.lt_of_le_of_lt (Nat.mod_le _ _) dl
    have dl4 : (i + 1) % q < 2 ^ 31 := Nat.lt_of_le_of_lt (Nat.mod_le _ _) (by omega)
    refine b_X2_markPlane_4 (z_pu0V rfl) ?_
    rw [n_mul, n_mul, if_pos (nI_lt (by omega) (by omega)), pk_rem (show i + 1 < 2 ^ 31 by omega) (show 0 < q by omega) (show q < 2 ^ 31 by omega), pk_div (show i + 1 < 2 ^ 31 by omega) (show 0 < q by omega) (show q < 2 ^ 31 by omega), pk_rem dl (show 0 < q by omega) (show q < 2 ^ 31 by omega), pk_div (show i + 1 < 2 ^ 31 by omega) (show 0 < q * q by omega) (show q * q < 2 ^ 31 by omega), nI_add, nI_add]
    have nz : ¬ nI q = nI 0 := fun e => by have := (nI_eq (by omega) (by decide)).mp e; omega
    have nz2 : ¬ nI (q * q) = nI 0 := fun e => by have := (nI_eq (by omega) (by decide)).mp e; omega
    refine ⟨nz2, nz, nz, nz, ?_⟩
    have em := e2_mark (G := G) (d := d) (F := F) (A := st.2) ds hlt (nI ((i + 1) / (q * q))) (nI ((i + 1) / q % q)) (nI ((i + 1) % q))
    unfold plS plL at hJ
    by_cases c1 : (i + 1) / (q * q) = 0
    · rw [if_pos c1] at hJ
      rw [if_pos ((nI_eq dl2 (by decide)).mpr c1)]
      by_cases c2 : (i + 1) / q % q = 0
      · rw [if_pos c2] at hJ
        rw [if_pos ((nI_eq dl3 (by decide)).mpr c2)]
        by_cases c3 : (i + 1) % q = 1
        · rw [if_pos c3] at hJ
          rw [if_pos ((nI_eq dl4 (by decide)).mpr c3)]
          exact ⟨ds.1, _, em, hJ⟩
        · rw [if_neg c3] at hJ
          rw [if_neg (fun e => c3 ((nI_eq dl4 (by decide)).mp e))]
          exact hJ
      · rw [if_neg c2] at hJ
        rw [if_neg (fun e => c2 ((nI_eq dl3 (by decide)).mp e))]
        by_cases c3 : (i + 1) / q % q = 1
        · rw [if_pos c3] at hJ
          rw [if_pos ((nI_eq dl3 (by decide)).mpr c3)]
          exact ⟨ds.1, _, em, hJ⟩
        · rw [if_neg c3] at hJ
          rw [if_neg (fun e => c3 ((nI_eq dl3 (by decide)).mp e))]
          exact hJ
    · rw [if_neg c1] at hJ
      rw [if_neg (fun e => c1 ((nI_eq dl2 (by decide)).mp e))]
      by_cases c3 : (i + 1) / (q * q) = 1
      · rw [if_pos c3] at hJ
        rw [if_pos ((nI_eq dl2 (by decide)).mpr c3)]
        exact ⟨ds.1, _, em, hJ⟩
      · rw [if_neg c3] at hJ
        rw [if_neg (fun e => c3 ((nI_eq dl2 (by decide)).mp e))]
        exact hJ
  · refine b_X2_markPlane_4 (z_pu0V rfl) ?_
    rw [n_mul, n_mul, if_neg (nI_nlt (by omega) (by omega))]
    rfl
end HD1
