/-! THE LEAST ROW: the search -/
/-- beaten; names so far, best row, lines that end, keys, best keys -/
abbrev lS : Type := Bool × (Nat → Nat) × (Nat → Nat) × (Nat → Nat) × (Nat → Nat) × (Nat → Nat)
def lP (s : lS) : Nat → Nat := s.2.1
def lC (s : lS) : Nat → Nat := s.2.2.1
def lE (s : lS) : Nat → Nat := s.2.2.2.1
def lM (s : lS) : Nat → Nat := s.2.2.2.2.1
def lB (s : lS) : Nat → Nat := s.2.2.2.2.2
def topS (S : Sc) (P : Nat → Nat) (us dp : Nat) (p : Nat) (a : Nat × Nat × (Nat → Nat)) : Nat × Nat × (Nat → Nat) := if g_ft S us p then (if a.1 < (g_key S P p us dp a.2.2).1 then ((g_key S P p us dp a.2.2).1, 2 ^ p, (g_key S P p us dp a.2.2).2) else if (g_key S P p us dp a.2.2).1 = a.1 then (a.1, a.2.1 ||| 2 ^ p, (g_key S P p us dp a.2.2).2) else (a.1, a.2.1, (g_key S P p us dp a.2.2).2)) else a
def g_top (S : Sc) (P : Nat → Nat) (us dp : Nat) (E : Nat → Nat) : Nat × Nat × (Nat → Nat) := it (topS S P us dp) (0, 0, E) S.1
def folV (go : Nat → Bool → lS → lS) (S : Sc) (u : Bool) (dp us eq : Nat) : Nat → Nat → Bool → lS → lS
  | 0, _, _, s => s
  | r + 1, p, ah, s => if s.1 = true ∧ u = true then s else if eq.testBit p then folV go S u dp us eq r (p + 1) false (go (us ||| 2 ^ p) ah (s.1, g_ren S p dp (lP s), lC s, lE s, lM s, lB s)) else folV go S u dp us eq r (p + 1) ah s
def g_fol (go : Nat → Bool → lS → lS) (S : Sc) (u : Bool) (dp us eq top : Nat) (ah : Bool) (s : lS) : lS := if ah = true ∧ u = true then (true, lP s, lC s, lE s, lM s, lB s) else folV go S u dp us eq S.1 0 ah (s.1, lP s, lC s, lE s, z_u (lM s) dp top, lB s)
def g_des (S : Sc) (u : Bool) : Nat → Nat → Nat → Bool → lS → lS
  | 0, _, _, ah, s => if ah then (s.1, lP s, g_kbC S (lP s) (lC s), lE s, lM s, g_kbB (lM s) (lB s)) else s
  | k + 1, dp, us, ah, s => if ah = false ∧ (g_top S (lP s) us dp (lE s)).1 < lB s dp then (s.1, lP s, lC s, (g_top S (lP s) us dp (lE s)).2.2, lM s, lB s) else g_fol (fun us' ah' s' => g_des S u k (dp + 1) us' ah' s') S u dp us (g_top S (lP s) us dp (lE s)).2.1 (g_top S (lP s) us dp (lE s)).1 (ah || decide (lB s dp < (g_top S (lP s) us dp (lE s)).1)) (s.1, lP s, lC s, (g_top S (lP s) us dp (lE s)).2.2, lM s, lB s)
def lI (S : Sc) (dp : Nat) (s : lS) : Prop := (∀ j i, 1 ≤ j → j ≤ dp → i < S.2.1 → lP s (12 * j + i) < 2 ^ j) ∧ (∀ i, i < 12 → lE s i < 128) ∧ ∀ i, lM s i < 2 ^ 62 ∧ lB s i < 2 ^ 62
def lHs (h : z_H) (x : Nat) (A : Nat → Nat → Int32) (F : Nat → Int32) (s : lS) : z_H := lH h x A (z_u F 4 (nI s.1.toNat)) (lP s) (lC s) (lE s) (lM s) (lB s)
section HR
variable {G : z_G} {d x q b tw : Nat} {h : z_H} {S : Sc} {A : Nat → Nat → Int32} {F : Nat → Int32}
theorem ren_out (p dp : Nat) (P : Nat → Nat) (hm : S.2.1 ≤ 12) {j : Nat} (hj : j < 12 * dp + 12) : ∀ k, it (renS S p dp) P k j = P j := by
  intro k
  induction k with
  | zero => rfl
  | succ k ih =>
    rw [it_s]
    unfold renS
    rw [u_ne _ _ (by omega)]
    unfold renS at ih
    exact ih
theorem ren_in (p dp : Nat) (P : Nat → Nat) (hm : S.2.1 ≤ 12) : ∀ k, k ≤ 12 → ∀ i, i < k → it (renS S p dp) P k (12 * dp + 12 + i) = if dp = 0 then ((S.2.2 i).testBit p).toNat <<< dp else P (12 * dp + i) ||| ((S.2.2 i).testBit p).toNat <<< dp := by
  intro k
  induction k with
  | zero => intro _ i hi; exact absurd hi (Nat.not_lt_zero _)
  | succ k ih =>
    intro hk i hi
    have ro := ren_out (S := S) p dp P hm (j := 12 * dp + i) (by omega) k
    rw [it_s]
    obtain ⟨Q, eQ⟩ : ∃ Q, Q = it (renS S p dp) P k := ⟨_, rfl⟩
    rw [← eQ] at ro ⊢
    show z_u Q (12 * dp + 12 + k) (if dp = 0 then ((S.2.2 k).testBit p).toNat <<< dp else Q (12 * dp + k) ||| ((S.2.2 k).testBit p).toNat <<< dp) (12 * dp + 12 + i) = _
    by_cases e : i = k
    · subst e
      rw [u_eq, ro]
    · rw [u_ne _ _ (by omega), eQ]
      exact ih (by omega) i (by omega)
theorem ren_I {dp p : Nat} {s : lS} (hm : S.2.1 ≤ 12) (hI : lI S dp s) (t : Bool × (Nat → Nat) × (Nat → Nat) × (Nat → Nat) × (Nat → Nat)) (ht : t = (s.1, lC s, lE s, lM s, lB s)) : lI S (dp + 1) (s.1, g_ren S p dp (lP s), lC s, lE s, lM s, lB s) := by
  refine ⟨fun j i h1 h2 hi => ?_, hI.2.1, hI.2.2⟩
  show it (renS S p dp) (lP s) S.2.1 (12 * j + i) < 2 ^ j
  by_cases e : j = dp + 1
  · subst e
    rw [show 12 * (dp + 1) + i = 12 * dp + 12 + i by omega, ren_in p dp (lP s) hm S.2.1 hm i hi]
    have hb : ((S.2.2 i).testBit p).toNat <<< dp < 2 ^ (dp + 1) := by
      cases (S.2.2 i).testBit p
      · rw [Bool.toNat_false, Nat.zero_shiftLeft]; exact Nat.two_pow_pos _
      · rw [Bool.toNat_true, q_1s]; exact Nat.pow_lt_pow_right (by decide) (by omega)
    split
    · exact hb
    · rename_i h0
      exact Nat.or_lt_two_pow (Nat.lt_of_lt_of_le (hI.1 dp i (by omega) (Nat.le_refl _) hi) (Nat.pow_le_pow_right (by decide) (by omega))) hb
  · rw [ren_out p dp (lP s) hm (by omega)]
    exact hI.1 j i h1 (by omega) hi
/-- what a search at a depth keeps -/
def lKp (S : Sc) (dp : Nat) (s s' : lS) : Prop := lI S dp s' ∧ ∀ j, j < 12 * dp + 12 → lP s' j = lP s j
theorem anot_0 (a : Nat) : anot a 0 = a := by unfold anot; rw [Nat.and_zero, Nat.xor_zero]
theorem pc_pow : ∀ p, p < 8 → n_pc (2 ^ p) = 1 := by decide
theorem top_P {dp us : Nat} {s : lS} (hS : c_sok S) (hd : dp < 8) (h0 : dp = 0 → us = 0) (hI : lI S dp s) {p : Nat} (hp : p < 8) : ∀ i, i < S.2.1 → anot (S.2.2 i) us = 2 ^ p → lP s (12 * dp + i) < 128 := fun i hi e => by
  by_cases c : dp = 0
  · exfalso
    rw [h0 c, anot_0] at e
    have := (hS.2.2.1 i hi).2.1
    rw [e, pc_pow p hp] at this
    omega
  · exact Nat.lt_of_lt_of_le (hI.1 dp i (by omega) (Nat.le_refl _) hi) (show 2 ^ dp ≤ 2 ^ 7 from Nat.pow_le_pow_right (by decide) (by omega))
theorem top_ok {dp us : Nat} {s : lS} (hS : c_sok S) (hd : dp < 8) (h0 : dp = 0 → us = 0) (hI : lI S dp s) : ∀ k, k ≤ S.1 → (it (topS S (lP s) us dp) (0, 0, lE s) k).1 < 2 ^ 62 ∧ (it (topS S (lP s) us dp) (0, 0, lE s) k).2.1 < 256 ∧ ∀ i, i < 12 → (it (topS S (lP s) us dp) (0, 0, lE s) k).2.2 i < 128 := by
  have hn := hS.1
  intro k
  induction k with
  | zero => intro _; exact ⟨(show 0 < 2 ^ 62 by decide), (show 0 < 256 by decide), hI.2.1⟩
  | succ k ih =>
    intro hk
    obtain ⟨i1, i2, i3⟩ := ih (by omega)
    rw [it_s]
    obtain ⟨a, ea⟩ : ∃ a, a = it (topS S (lP s) us dp) (0, 0, lE s) k := ⟨_, rfl⟩
    rw [← ea] at i1 i2 i3 ⊢
    have kl := key_lt S (lP s) k us dp a.2.2
    have kE := key_E (P := lP s) (E := a.2.2) (p := k) (us := us) (dp := dp) hS.2.1 (top_P hS hd h0 hI (by omega)) i3
    have pk := t_pow (show k < 8 by omega)
    unfold topS
    split
    · split
      · exact ⟨kl, pk, kE⟩
      · split
        · exact ⟨i1, or_lt256 i2 pk, kE⟩
        · exact ⟨i1, i2, kE⟩
    · exact ⟨i1, i2, i3⟩
theorem e4_descend (hw : lw x q b tw h S) {u : Bool} (hu : F 5 = nI u.toNat) : ∀ k dp us ah s, dp + k = S.1 → us < 256 → (dp = 0 → us = 0) → lI S dp s → z_Ev G (d + 2 * k + 6) k_X4_descend [.ref x, .int (nI dp), .int (nI us), .int (nI ah.toNat)] (lHs h x A F s) (.inl none, lHs h x A F (g_des S u k dp us ah s)) ∧ lKp S dp s (g_des S u k dp us ah s) := by
  have hS := hw.2.2.1.2.1
  have hn := hS.1
  have hm := hS.2.1
  have hw' := hw
  obtain ⟨ls, o0, _⟩ := hw'
  have hAs : ∀ s, sc_at q b (lHs h x A F s) S := fun s => lw_sc hw
  have o0s : ∀ s, z_or (lHs h x A F s) x 0 = some q := fun s => o0
  have kds : ∀ s, z_kd (lHs h x A F s) x = 20 := fun s => ls.1
  have f5 : ∀ s, z_oi (lHs h x A F s) x 5 = nI u.toNat := fun s => by unfold lHs; rw [lH_oi, u_ne _ _ (by decide)]; exact hu
  have f4 : ∀ s, z_oi (lHs h x A F s) x 4 = nI s.1.toNat := fun s => by unfold lHs; rw [lH_oi, u_eq]
  have o3 : ∀ s, z_or (lHs h x A F s) x 3 = some (x + 2) := fun s => ls.2.2.1.1
  have alB : ∀ s dp, z_al (lHs h x A F s) (x + 2) dp = k64 (lB s dp) := fun s dp => by unfold lHs; rw [lH_B]
  have vB : ∀ s dp, dp < 8 → vp_in (nI dp) (z_ln (lHs h x A F s) (x + 2)) := fun s dp hd => by
    show vp_in (nI dp) (z_ln h (x + 2)); rw [ls.2.2.1.2.2]; exact vp_in_nI hd (by decide)
  have kB : ∀ s, z_kd (lHs h x A F s) (x + 2) = 2 := fun s => ls.2.2.1.2.1
  intro k
  induction k with
  | zero =>
    intro dp us ah s hk hus h0 hI
    cases ah
    · refine ⟨en_X4_descend (b_X4_descend_0 (z_pu0V rfl) ⟨kds s, ?_⟩), hI, fun j _ => rfl⟩
      rw [o0s, z_rcs, y_n (hAs s), if_neg (nI_nlt (by omega) (by omega)), if_pos (by rfl)]
      exact ⟨y_kd (hAs s), rfl⟩
    · refine ⟨en_X4_descend (b_X4_descend_0 (z_pu0V rfl) ⟨kds s, ?_⟩), ⟨hI.1, hI.2.1, fun i => ⟨(hI.2.2 i).1, ?_⟩⟩, fun j _ => rfl⟩
      · rw [o0s, z_rcs, y_n (hAs s), if_neg (nI_nlt (by omega) (by omega)), if_neg (by decide)]
        exact ⟨y_kd (hAs s), kds s, _, e4_keepBest hw, rfl⟩
      · show va_cpy (lM s) (lB s) 0 0 8 i < _
        unfold va_cpy
        split
        · exact (hI.2.2 _).1
        · exact (hI.2.2 i).2
  | succ k ih =>
    intro dp us ah s hk hus h0 hI
    have hd : dp < 8 := by omega
    obtain ⟨t1, t2, t3⟩ := top_ok (S := S) (us := us) hS hd h0 hI S.1 (Nat.le_refl _)
    obtain ⟨t, et⟩ : ∃ t, t = g_top S (lP s) us dp (lE s) := ⟨_, rfl⟩
    have et' : it (topS S (lP s) us dp) (0, 0, lE s) S.1 = t := et.symm
    rw [et'] at t1 t2 t3
    obtain ⟨s1, es1⟩ : ∃ s1 : lS, s1 = (s.1, lP s, lC s, t.2.2, lM s, lB s) := ⟨_, rfl⟩
    have I1 : lI S dp s1 := by rw [es1]; exact ⟨hI.1, t3, hI.2.2⟩
    have P1 : lP s1 = lP s := by rw [es1]; rfl
    -- follow
    have fol : ∀ (ah' : Bool), z_Ev G (d + 2 * k + 7) k_X4_follow [.ref x, .int (nI dp), .int (nI us), .int (nI t.2.1), .long (k64 t.1), .int (nI ah'.toNat)] (lHs h x A F s1) (.inl none, lHs h x A F (g_fol (fun us' ah' s' => g_des S u k (dp + 1) us' ah' s') S u dp us t.2.1 t.1 ah' s1)) ∧ lKp S dp s1 (g_fol (fun us' ah' s' => g_des S u k (dp + 1) us' ah' s') S u dp us t.2.1 t.1 ah' s1) := by
      intro ah'
      obtain ⟨s2, es2⟩ : ∃ s2 : lS, s2 = (s1.1, lP s1, lC s1, lE s1, z_u (lM s1) dp t.1, lB s1) := ⟨_, rfl⟩
      have I2 : lI S dp s2 := by
        rw [es2]
        refine ⟨I1.1, I1.2.1, fun i => ⟨?_, (I1.2.2 i).2⟩⟩
        show z_u (lM s1) dp t.1 i < _
        by_cases e : i = dp
        · rw [e, u_eq]; exact t1
        · rw [u_ne _ _ e]; exact (I1.2.2 i).1
      have loop : ∀ r p stl s3, p + r = S.1 → lI S dp s3 → z_J G (d + 2 * k + 7) (m_X4_follow z_pu0) (.inl none, lHs h x A F (folV (fun us' ah' s' => g_des S u k (dp + 1) us' ah' s') S u dp us t.2.1 r p stl s3)) 33 [some (.ref x), some (.int (nI dp)), some (.int (nI us)), some (.int (nI t.2.1)), none, none, none, some (.int (nI stl.toNat)), some (.int (nI p))] [] (lHs h x A F s3) ∧ lKp S dp s3 (folV (fun us' ah' s' => g_des S u k (dp + 1) us' ah' s') S u dp us t.2.1 r p stl s3) := by
        intro r
        induction r with
        | zero =>
          intro p stl s3 hp hI3
          refine ⟨b_X4_follow_33 (z_pu0V rfl) ⟨kds s3, ?_⟩, hI3, fun j _ => rfl⟩
          rw [o0s, z_rcs, y_n (hAs s3), if_neg (nI_nlt (by omega) (by omega))]
          exact ⟨y_kd (hAs s3), rfl⟩
        | succ r ihr =>
          intro p stl s3 hp hI3
          have pl : p < 8 := by omega
          have bit : (nI t.2.1 >>> (nI p &&& nI 31)) &&& nI 1 = nI (t.2.1.testBit p).toNat := n_bit (by omega) (by omega)
          have one : nI 1 <<< (nI p &&& nI 31) = nI (2 ^ p) := n_one (by omega)
          unfold folV
          by_cases cb : s3.1 = true ∧ u = true
          · rw [if_pos cb]
            refine ⟨b_X4_follow_33 (z_pu0V rfl) ⟨kds s3, ?_⟩, hI3, fun j _ => rfl⟩
            rw [o0s, z_rcs, y_n (hAs s3), if_pos (nI_lt (by omega) (by omega)), f4, cb.1, if_neg (show ¬ nI (Bool.toNat true) = nI 0 by decide), f5, cb.2, if_neg (show ¬ nI (Bool.toNat true) = nI 0 by decide)]
            exact ⟨y_kd (hAs s3), kds s3, kds s3, rfl⟩
          · rw [if_neg cb]
            -- the body
            have body : ∀ (R : z_Res), (if nI (t.2.1.testBit p).toNat = nI 0 then z_J G (d + 2 * k + 7) (m_X4_follow z_pu0) R 33 [some (.ref x), some (.int (nI dp)), some (.int (nI us)), some (.int (nI t.2.1)), none, none, none, some (.int (nI stl.toNat)), some (.int (nI p + nI 1))] [] (lHs h x A F s3) else (z_kd (lHs h x A F s3) x = 20 ∧ ∃ h_2, z_Ev G (d + 2 * k + 6) k_X4_rename [.ref x, .int (nI p), .int (nI dp)] (lHs h x A F s3) (.inl none, h_2) ∧ (z_kd h_2 x = 20 ∧ ∃ h_3, z_Ev G (d + 2 * k + 6) k_X4_descend [.ref x, .int (nI dp + nI 1), .int (nI us ||| nI (2 ^ p)), .int (nI stl.toNat)] h_2 (.inl none, h_3) ∧ z_J G (d + 2 * k + 7) (m_X4_follow z_pu0) R 33 [some (.ref x), some (.int (nI dp)), some (.int (nI us)), some (.int (nI t.2.1)), none, none, none, some (.int (nI 0)), some (.int (nI p + nI 1))] [] h_3))) → z_J G (d + 2 * k + 7) (m_X4_follow z_pu0) R 33 [some (.ref x), some (.int (nI dp)), some (.int (nI us)), some (.int (nI t.2.1)), none, none, none, some (.int (nI stl.toNat)), some (.int (nI p))] [] (lHs h x A F s3) := by
              intro R hb
              refine b_X4_follow_33 (z_pu0V rfl) ⟨kds s3, ?_⟩
              rw [o0s, z_rcs, y_n (hAs s3), if_pos (nI_lt (by omega) (by omega)), f4, f5, bit, one]
              refine ⟨y_kd (hAs s3), kds s3, ?_⟩
              cases c1 : s3.1
              · rw [if_pos (by rfl)]; exact hb
              · rw [if_neg (by decide)]
                refine ⟨kds s3, ?_⟩
                cases c2 : u
                · rw [if_pos (by rfl)]; exact hb
                · exact absurd ⟨c1, c2⟩ cb
            cases ce : t.2.1.testBit p
            · rw [if_neg (by decide)]
              obtain ⟨j1, j2⟩ := ihr (p + 1) stl s3 (by omega) hI3
              refine ⟨body _ ?_, j2⟩
              rw [ce, if_pos (by rfl), nI_add]
              exact j1
            · rw [if_pos rfl]
              obtain ⟨s4, es4⟩ : ∃ s4 : lS, s4 = (s3.1, g_ren S p dp (lP s3), lC s3, lE s3, lM s3, lB s3) := ⟨_, rfl⟩
              have I4 : lI S (dp + 1) s4 := by rw [es4]; exact ren_I hm hI3 _ rfl
              obtain ⟨ev4, kp4⟩ := ih (dp + 1) (us ||| 2 ^ p) stl s4 (by omega) (or_lt256 hus (t_pow pl)) (fun e => by omega) I4
              obtain ⟨s5, es5⟩ : ∃ s5, s5 = g_des S u k (dp + 1) (us ||| 2 ^ p) stl s4 := ⟨_, rfl⟩
              rw [← es5] at ev4 kp4
              have low : ∀ j, j < 12 * dp + 12 → lP s5 j = lP s3 j := fun j hj => by
                rw [kp4.2 j (by omega), es4]
                exact ren_out p dp (lP s3) hm hj S.2.1
              have I5 : lI S dp s5 := ⟨fun j i h1 h2 hi => kp4.1.1 j i h1 (by omega) hi, kp4.1.2.1, kp4.1.2.2⟩
              obtain ⟨j1, j2, j3⟩ := ihr (p + 1) false s5 (by omega) I5
              rw [← es4, ← es5]
              refine ⟨body _ ?_, j2, fun j hj => by rw [j3 j hj]; exact low j hj⟩
              rw [ce, if_neg (by decide)]
              have er := e4_rename (G := G) (d := d + 2 * k + 2) (A := A) (F := z_u F 4 (nI s3.1.toNat)) (P := lP s3) (C := lC s3) (E := lE s3) (M := lM s3) (B := lB s3) hw (p := p) (dp := dp) pl hd
              have e4' : lH h x A (z_u F 4 (nI s3.1.toNat)) (g_ren S p dp (lP s3)) (lC s3) (lE s3) (lM s3) (lB s3) = lHs h x A F s4 := by rw [es4]; rfl
              rw [e4'] at er
              refine ⟨kds s3, _, er, kds s4, ?_⟩
              rw [nI_add, fa_or, nI_add]
              exact ⟨_, ev4, j1⟩
      unfold g_fol
      by_cases ca : ah' = true ∧ u = true
      · rw [if_pos ca]
        refine ⟨en_X4_follow (b_X4_follow_0 (z_pu0V rfl) ?_), ⟨I1.1, I1.2.1, I1.2.2⟩, fun j _ => rfl⟩
        rw [ca.1, if_neg (show ¬ nI (Bool.toNat true) = nI 0 by decide), f5, ca.2, if_neg (show ¬ nI (Bool.toNat true) = nI 0 by decide)]
        refine ⟨kds s1, kds s1, Or.inr rfl, ?_⟩
        unfold lHs
        rw [lH_poi, u_u]
        rfl
      · rw [if_neg ca]
        obtain ⟨j1, j2, j3⟩ := loop S.1 0 ah' s2 (by omega) I2
        rw [← es2]
        have pm : z_pal (lHs h x A F s1) (x + 1) dp (k64 t.1) = lHs h x A F s2 := by
          unfold lHs
          rw [lH_pM, es2]
          rfl
        have vM : vp_in (nI dp) (z_ln (lHs h x A F s1) (x + 1)) := by
          show vp_in (nI dp) (z_ln h (x + 1)); rw [ls.2.1.2.2]; exact vp_in_nI hd (by decide)
        have oM : z_or (lHs h x A F s1) x 2 = some (x + 1) := ls.2.1.1
        refine ⟨en_X4_follow (b_X4_follow_0 (z_pu0V rfl) ?_), j2, fun j hj => by rw [j3 j hj, es2]; rfl⟩
        rw [oM, z_rcs, nI_clamp (show dp < 2 ^ 31 by omega), pm, f5]
        cases c1 : ah'
        · rw [c1] at j1
          rw [if_pos (by rfl)]
          exact ⟨kds s1, ls.2.1.2.1, vM, j1⟩
        · rw [c1] at j1
          rw [if_neg (by decide)]
          refine ⟨kds s1, ?_⟩
          cases c2 : u
          · rw [if_pos (by rfl)]
            rw [c2] at j1
            exact ⟨kds s1, ls.2.1.2.1, vM, j1⟩
          · exact absurd ⟨c1, c2⟩ ca
    -- the loop for the top
    have start : ∀ R, z_J G (d + 2 * (k + 1) + 6) (m_X4_descend z_pu0) R 101 [some (.ref x), some (.int (nI dp)), some (.int (nI us)), some (.int (nI ah.toNat)), some (.long (k64 t.1)), none, some (.int (nI t.2.1)), none, none, none] [] (lHs h x A F s1) → z_Ev G (d + 2 * (k + 1) + 6) k_X4_descend [.ref x, .int (nI dp), .int (nI us), .int (nI ah.toNat)] (lHs h x A F s) R := by
      intro R hJ
      refine en_X4_descend (b_X4_descend_0 (z_pu0V rfl) ⟨kds s, ?_⟩)
      rw [o0s, z_rcs, y_n (hAs s), if_pos (nI_lt (by omega) (by omega))]
      refine ⟨y_kd (hAs s), ?_⟩
      have key := z_forH (G := G) (d := d + 2 * (k + 1) + 6) (μ := m_X4_descend z_pu0) (r := R) (pc := 31) (fun p (a : Nat × Nat × (Nat → Nat)) => [some (.ref x), some (.int (nI dp)), some (.int (nI us)), some (.int (nI ah.toNat)), some (.long (k64 a.1)), none, some (.int (nI a.2.1)), some (.int (nI p)), none, none]) (fun _ a => lHs h x A F (s.1, lP s, lC s, a.2.2, lM s, lB s)) (topS S (lP s) us dp) (0, 0, lE s) S.1 ?_ ?_
      · exact key
      · intro p hp hJ2
        obtain ⟨i1, i2, i3⟩ := top_ok (S := S) (us := us) hS hd h0 hI p (by omega)
        obtain ⟨a, ea⟩ : ∃ a, a = it (topS S (lP s) us dp) (0, 0, lE s) p := ⟨_, rfl⟩
        rw [← ea] at i1 i2 i3 hJ2 ⊢
        have kl := key_lt S (lP s) p us dp a.2.2
        have one : nI 1 <<< (nI p &&& nI 31) = nI (2 ^ p) := n_one (by omega)
        have hft := e4_isFirstTwin (G := G) (d := d + 2 * (k + 1) + 1) (A := A) (F := z_u F 4 (nI s.1.toNat)) (P := lP s) (C := lC s) (E := a.2.2) (M := lM s) (B := lB s) hw (p := p) (us := us) (by omega) hus
        have hky := e4_keyOf (G := G) (d := d + 2 * (k + 1)) (A := A) (F := z_u F 4 (nI s.1.toNat)) (P := lP s) (C := lC s) (E := a.2.2) (M := lM s) (B := lB s) hw (p := p) (us := us) (dp := dp) (by omega) hus hd (top_P hS hd h0 hI (by omega)) i3
        refine b_X4_descend_31 (z_pu0V rfl) ⟨kds _, ?_⟩
        rw [o0s, z_rcs, y_n (hAs _), if_pos (nI_lt hp (by omega)), nI_add]
        refine ⟨y_kd (hAs _), kds _, _, _, hft, ?_⟩
        unfold topS at hJ2
        cases c1 : g_ft S us p
        · rw [c1, if_neg (by decide)] at hJ2
          rw [if_pos (by rfl)]
          exact hJ2
        · rw [c1, if_pos rfl] at hJ2
          rw [if_neg (by decide)]
          refine ⟨kds _, _, _, hky, ?_⟩
          by_cases c2 : a.1 < (g_key S (lP s) p us dp a.2.2).1
          · rw [if_pos c2] at hJ2
            rw [if_pos ((cmp_gt kl i1).mpr c2)]
            refine b_X4_descend_78 (z_pu0V rfl) ?_
            rw [if_pos ((cmp_eq kl kl).mpr rfl), one, fa_or, Nat.zero_or, nI_add]
            exact hJ2
          · rw [if_neg c2] at hJ2
            rw [if_neg (fun e => c2 ((cmp_gt kl i1).mp e))]
            refine b_X4_descend_78 (z_pu0V rfl) ?_
            by_cases c3 : (g_key S (lP s) p us dp a.2.2).1 = a.1
            · rw [if_pos c3] at hJ2
              rw [if_pos ((cmp_eq kl i1).mpr c3), one, fa_or, nI_add]
              exact hJ2
            · rw [if_neg c3] at hJ2
              rw [if_neg (fun e => c3 ((cmp_eq kl i1).mp e)), nI_add]
              exact hJ2
      · refine b_X4_descend_31 (z_pu0V rfl) ⟨kds _, ?_⟩
        rw [o0s, z_rcs, y_n (hAs _), if_neg (nI_nlt (Nat.le_refl _) (by omega))]
        refine ⟨y_kd (hAs _), ?_⟩
        rw [et', ← es1]
        exact hJ
    have B1 : lB s1 = lB s := by rw [es1]; rfl
    have hBd := (hI.2.2 dp).2
    unfold g_des
    rw [← et, ← es1]
    by_cases cc : ah = false ∧ t.1 < lB s dp
    · rw [if_pos cc]
      refine ⟨start _ (b_X4_descend_101 (z_pu0V rfl) ?_), I1, fun j _ => by rw [P1]⟩
      rw [cc.1, if_pos (by rfl), o3, z_rcs, nI_clamp (by omega), alB, B1, if_pos ((cmp_lt t1 hBd).mpr cc.2)]
      exact ⟨kds s1, kB s1, vB s1 dp hd, rfl⟩
    · rw [if_neg cc]
      have fa := fol (ah || decide (lB s dp < t.1))
      refine ⟨start _ ?_, fa.2.1, fun j hj => by rw [fa.2.2 j hj, P1]⟩
      have j118 : z_J G (d + 2 * (k + 1) + 6) (m_X4_descend z_pu0) (.inl none, lHs h x A F (g_fol (fun us' ah' s' => g_des S u k (dp + 1) us' ah' s') S u dp us t.2.1 t.1 (ah || decide (lB s dp < t.1)) s1)) 118 [some (.ref x), some (.int (nI dp)), some (.int (nI us)), some (.int (nI ah.toNat)), some (.long (k64 t.1)), none, some (.int (nI t.2.1)), none, none, none] [] (lHs h x A F s1) := by
        refine b_X4_descend_118 (z_pu0V rfl) ?_
        have ev := fa.1
        cases ca : ah
        · rw [ca] at ev
          rw [if_pos (by rfl), o3, z_rcs, nI_clamp (by omega), alB, B1]
          refine ⟨kds s1, kB s1, vB s1 dp hd, ?_⟩
          by_cases cg : lB s dp < t.1
          · rw [decide_eq_true cg] at ev
            rw [if_pos ((cmp_gt t1 hBd).mpr cg), decide_eq_true cg]
            exact ⟨kds s1, _, ev, rfl⟩
          · rw [decide_eq_false cg] at ev
            rw [if_neg (fun e => cg ((cmp_gt t1 hBd).mp e)), decide_eq_false cg]
            exact ⟨kds s1, _, ev, rfl⟩
        · rw [ca] at ev
          rw [if_neg (by decide)]
          exact ⟨kds s1, _, ev, rfl⟩
      refine b_X4_descend_101 (z_pu0V rfl) ?_
      cases ca : ah
      · rw [ca] at j118
        rw [if_pos (by rfl), o3, z_rcs, nI_clamp (by omega), alB, B1, if_neg (fun e => cc ⟨ca, (cmp_lt t1 hBd).mp e⟩)]
        exact ⟨kds s1, kB s1, vB s1 dp hd, j118⟩
      · rw [ca] at j118
        rw [if_neg (by decide)]
        exact j118
end HR
