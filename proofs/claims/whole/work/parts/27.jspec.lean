/-! the JDK's own, on the numbers that occur -/
def n_pc (a : Nat) : Nat := (List.range 12).countP (fun i => a.testBit i)
def n_tz (a : Nat) : Nat := ((List.range 12).find? (fun i => a.testBit i)).getD 32
def n_bcI (x0 : Int32) : Int32 :=
  let a := x0 - (z_ush x0 1 &&& 1431655765)
  let b := (a &&& 858993459) + (z_ush a 2 &&& 858993459)
  let c := (b + z_ush b 4) &&& 252645135
  let e := c + z_ush c 8
  (e + z_ush e 16) &&& 63
theorem n_64 {P : Nat → Prop} (h : ∀ q, q < 64 → ∀ r, r < 64 → P (64 * q + r)) : ∀ a, a < 4096 → P a := fun a ha => by
  have := h (a / 64) (by omega) (a % 64) (by omega)
  rwa [Nat.div_add_mod] at this
theorem n_bc : ∀ a, a < 4096 → n_bcI (nI a) = nI (n_pc a) := n_64 (by decide +kernel)
theorem e_bits {G : z_G} {d : Nat} {h : z_H} {a : Nat} (ha : a < 4096) : z_Ev G (d + 1) k_J6_bitCount_0f7a4 [.int (nI a)] h (.inl (some (.int (nI (n_pc a)))), h) :=
  en_J6_bitCount_0f7a4 (b_J6_bitCount_0f7a4_0 (z_pu0V rfl) (show ((.inl (some (.int (nI (n_pc a)))), h) : z_Res) = (.inl (some (.int (n_bcI (nI a)))), h) by rw [n_bc a ha]))
def n_tzY (x : Int32) : Int32 := (x ^^^ (-1)) &&& (x - 1)
theorem n_tzK : ∀ a, a < 4096 → ¬ 65536 < n_tzY (nI a) := n_64 (by decide +kernel)
def n_tzI (x : Int32) : Int32 :=
  let y := n_tzY x
  if 0 < y then
    (if 256 < y then (if 16 < z_ush y 8 then (if 4 < z_ush (z_ush y 8) 4 then 1 + 8 + 4 + 2 + z_ush (z_ush (z_ush (z_ush y 8) 4) 2) 1 else 1 + 8 + 4 + z_ush (z_ush (z_ush y 8) 4) 1) else (if 4 < z_ush y 8 then 1 + 8 + 2 + z_ush (z_ush (z_ush y 8) 2) 1 else 1 + 8 + z_ush (z_ush y 8) 1))
     else (if 16 < y then (if 4 < z_ush y 4 then 1 + 4 + 2 + z_ush (z_ush (z_ush y 4) 2) 1 else 1 + 4 + z_ush (z_ush y 4) 1) else (if 4 < y then 1 + 2 + z_ush (z_ush y 2) 1 else 1 + z_ush y 1)))
  else y &&& 32
theorem n_tzv : ∀ a, a < 4096 → n_tzI (nI a) = nI (n_tz a) := n_64 (by decide +kernel)
theorem e_bitsI {G : z_G} {d : Nat} {h : z_H} {x : Int32} : z_Ev G (d + 1) k_J6_bitCount_0f7a4 [.int x] h (.inl (some (.int (n_bcI x))), h) :=
  en_J6_bitCount_0f7a4 (b_J6_bitCount_0f7a4_0 (z_pu0V rfl) rfl)
set_option maxHeartbeats 1000000 in
theorem e_ntzI {G : z_G} {d : Nat} {h : z_H} {x : Int32} (hK : ¬ 65536 < n_tzY x) : z_Ev G (d + 1) k_J6_numberOfTrailingZeros_0f7a4 [.int x] h (.inl (some (.int (n_tzI x))), h) := by
  refine en_J6_numberOfTrailingZeros_0f7a4 (b_J6_numberOfTrailingZeros_0f7a4_0 (z_pu0V rfl) ?_)
  unfold n_tzY at hK
  unfold n_tzI n_tzY
  by_cases h1 : 0 < ((x ^^^ (-1)) &&& (x - 1))
  · simp only [h1, if_true, hK, if_false]
    by_cases h2 : 256 < ((x ^^^ (-1)) &&& (x - 1))
    · simp only [h2, if_true]
      by_cases h3 : 16 < z_ush ((x ^^^ (-1)) &&& (x - 1)) 8
      · simp only [h3, if_true]
        by_cases h4 : 4 < z_ush (z_ush ((x ^^^ (-1)) &&& (x - 1)) 8) 4
        · simp only [h4, if_true]
        · simp only [h4, if_false]
      · simp only [h3, if_false]
        by_cases h4 : 4 < z_ush ((x ^^^ (-1)) &&& (x - 1)) 8
        · simp only [h4, if_true]
        · simp only [h4, if_false]
    · simp only [h2, if_false]
      by_cases h3 : 16 < ((x ^^^ (-1)) &&& (x - 1))
      · simp only [h3, if_true]
        by_cases h4 : 4 < z_ush ((x ^^^ (-1)) &&& (x - 1)) 4
        · simp only [h4, if_true]
        · simp only [h4, if_false]
      · simp only [h3, if_false]
        by_cases h4 : 4 < ((x ^^^ (-1)) &&& (x - 1))
        · simp only [h4, if_true]
        · simp only [h4, if_false]
  · simp only [h1, if_false]
theorem e_ntz {G : z_G} {d : Nat} {h : z_H} {a : Nat} (ha : a < 4096) : z_Ev G (d + 1) k_J6_numberOfTrailingZeros_0f7a4 [.int (nI a)] h (.inl (some (.int (nI (n_tz a)))), h) := by
  rw [← n_tzv a ha]
  exact e_ntzI (n_tzK a ha)
theorem e_max {G : z_G} {d : Nat} {h : z_H} {a b : Int32} : z_Ev G (d + 1) k_J9_max_7cf53 [.int a, .int b] h (.inl (some (.int (if a < b then b else a))), h) := by
  refine en_J9_max_7cf53 (b_J9_max_7cf53_0 (z_pu0V rfl) ?_)
  split <;> rfl
theorem e_min {G : z_G} {d : Nat} {h : z_H} {a b : Int32} : z_Ev G (d + 1) k_J9_min_7cf53 [.int a, .int b] h (.inl (some (.int (if b < a then b else a))), h) := by
  refine en_J9_min_7cf53 (b_J9_min_7cf53_0 (z_pu0V rfl) ?_)
  split <;> rfl
/-- rows -/
theorem h_pax_pax (h : z_H) (a : Nat) (f g : Nat → Int32) : z_pax (z_pax h a f) a g = z_pax h a g := by
  unfold z_pax
  show (_, _, _, _, _, z_u (z_u (z_ai h) a f) a g, _) = _
  rw [z_u_u]
  rfl
theorem h_pax_self (h : z_H) (a : Nat) : z_pax h a (z_ai h a) = h := by
  unfold z_pax
  have e1 : z_u (z_ai h) a (z_ai h a) = z_ai h := by
    funext x; unfold z_u; split
    · rename_i e; rw [e]
    · rfl
  rw [e1]
  rfl
theorem h_pax_ai (h : z_H) (a : Nat) (f : Nat → Int32) : z_ai (z_pax h a f) a = f := z_u_eq _ _ _
theorem h_pai (h : z_H) (a k : Nat) (v : Int32) : z_pai h a k v = z_pax h a (z_u (z_ai h a) k v) := rfl
theorem h_fill_u (f g : Nat → Int32) (i : Nat) : z_u (fa_fill f g i) i (f i) = fa_fill f g (i + 1) := fa_fill_succ f g i
theorem e_fill_loop {G : z_G} {d : Nat} {h : z_H} {a : Nat} {v : Int32} (ha : z_kd h a = 1) (hl : z_ln h a < 2 ^ 31) : ∀ k i, i + k = z_ln h a → z_J G (d + 1) (m_J7_fill_53178 z_pu0) (.inl none, z_pax h a (fa_fill (fun _ => v) (z_ai h a) (z_ln h a))) 5 [some (.ref a), some (.int v), some (.int (nI i)), some (.int (nI (z_ln h a)))] [] (z_pax h a (fa_fill (fun _ => v) (z_ai h a) i)) := by
  intro k
  induction k with
  | zero =>
    intro i hi
    refine b_J7_fill_53178_5 (z_pu0V rfl) ?_
    rw [if_neg (nI_nlt (by omega) (by omega)), show i = z_ln h a by omega]
  | succ k ih =>
    intro i hi
    refine b_J7_fill_53178_5 (z_pu0V rfl) ?_
    rw [if_pos (nI_lt (by omega) (by omega))]
    refine ⟨ha, vp_in_nI (by show i < z_ln h a; omega) (by show z_ln h a < 2 ^ 31; omega), ?_⟩
    have := ih (i + 1) (by omega)
    rw [nI_1, nI_clamp (by omega), h_pai, h_pax_pax, h_pax_ai, h_fill_u (fun _ => v)]
    exact this
theorem e_fill {G : z_G} {d : Nat} {h : z_H} {a : Nat} {v : Int32} (ha : z_kd h a = 1) (hl : z_ln h a < 2 ^ 31) : z_Ev G (d + 1) k_J7_fill_53178 [.ref a, .int v] h (.inl none, z_pax h a (fa_fill (fun _ => v) (z_ai h a) (z_ln h a))) := by
  refine en_J7_fill_53178 (b_J7_fill_53178_0 (z_pu0V rfl) ⟨⟨by omega, by omega⟩, ?_⟩)
  have := e_fill_loop (G := G) (d := d) (v := v) ha hl (z_ln h a) 0 (by omega)
  rw [fa_fill_0, h_pax_self] at this
  exact this
