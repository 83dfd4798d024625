/-! THE LISTER: feed, scheme -/
section C12
variable {T : Nat → Nat} {n : Nat}
theorem num_er {i lo hi c : Nat} (h : p_num T n i lo hi = .inr c) : 0 < c ∧ c < 6 := by
  unfold p_num at h
  by_cases c1 : tk_k T n i = 2
  · rw [if_pos c1] at h
    by_cases c2 : tk_e T n i = tk_b T n i + 1 ∧ lo ≤ T (tk_b T n i) - 48 ∧ T (tk_b T n i) - 48 ≤ hi
    · rw [if_pos c2] at h; cases h
    · rw [if_neg c2] at h; cases h; decide
  · rw [if_neg c1] at h; cases h; decide
theorem pt_er {i np c : Nat} (h : p_pt T n i np = .inr c) : 0 < c ∧ c < 6 := by
  unfold p_pt at h
  cases e : p_num T n i 0 9 with
  | inl v =>
    rw [e] at h
    have h : (if v.1 < np then Sum.inl v else .inr 3) = (.inr c : (Nat × Nat) ⊕ Nat) := h
    by_cases c1 : v.1 < np
    · rw [if_pos c1] at h; cases h
    · rw [if_neg c1] at h; cases h; decide
  | inr k =>
    rw [e] at h
    cases h
    exact num_er e
theorem sg_er {i : Nat} {c : Nat × Nat} (h : p_sg T n i = .inr c) : 0 < c.1 ∧ c.1 < 6 := by
  unfold p_sg at h
  by_cases c1 : tk_k T n i = 3 ∧ T (tk_b T n i) = 45
  · rw [if_pos c1] at h
    cases e : p_num T n (tk_e T n i) 0 9 with
    | inl v => rw [e] at h; cases h
    | inr k => rw [e] at h; cases h; exact num_er e
  · rw [if_neg c1] at h
    cases e : p_num T n i 0 9 with
    | inl v => rw [e] at h; cases h
    | inr k => rw [e] at h; cases h; exact num_er e
theorem lnL_er {np : Nat} : ∀ f k j x e, p_lnL T n np f k j x = .inr e → 0 < e.1 ∧ e.1 < 6 := by
  intro f
  induction f with
  | zero => intro k j x e h; cases h
  | succ f ih =>
    intro k j x e h
    have h : (if k < 2 ∨ tk_k T n j = 2 then (match p_pt T n j np with
      | .inl v => if x.testBit v.1 then .inr (5, tk_b T n j) else p_lnL T n np f (k + 1) v.2 (x ||| 2 ^ v.1)
      | .inr c => .inr (c, tk_b T n j)) else .inl (x, j)) = (.inr e : (Nat × Nat) ⊕ pE) := h
    by_cases c1 : k < 2 ∨ tk_k T n j = 2
    · rw [if_pos c1] at h
      cases ep : p_pt T n j np with
      | inl v =>
        rw [ep] at h
        have h : (if x.testBit v.1 then .inr (5, tk_b T n j) else p_lnL T n np f (k + 1) v.2 (x ||| 2 ^ v.1)) = (.inr e : (Nat × Nat) ⊕ pE) := h
        by_cases c2 : x.testBit v.1 = true
        · rw [if_pos c2] at h; cases h; exact ⟨(by decide : 0 < 5), (by decide : 5 < 6)⟩
        · rw [if_neg c2] at h; exact ih _ _ _ _ h
      | inr c => rw [ep] at h; cases h; exact pt_er ep
    · rw [if_neg c1] at h; cases h
theorem tail_er {c : Cd} {j : Nat} {e : pE} (h : p_tail T n c j = .inr e) : 0 < e.1 ∧ e.1 < 6 := by
  unfold p_tail at h
  by_cases c1 : tk_k T n j = 3 ∧ T (tk_b T n j) = 59
  · rw [if_pos c1] at h; cases h
  · rw [if_neg c1] at h; cases h; exact ⟨(by decide : 0 < 1), (by decide : 1 < 6)⟩
theorem line_er {i : Nat} {c : Cd} {e : pE} (h : p_line T n i c = .inr e) : 0 < e.1 ∧ e.1 < 6 := by
  unfold p_line at h
  by_cases c1 : c.1.2.1 = 12
  · rw [if_pos c1] at h; cases h; exact ⟨(by decide : 0 < 2), (by decide : 2 < 6)⟩
  · rw [if_neg c1] at h
    cases el : p_lnL T n c.1.1 4 0 (tk_e T n i) 0 with
    | inr e' => rw [el] at h; cases h; exact lnL_er _ _ _ _ _ el
    | inl v =>
      rw [el] at h
      have h : (if (tk_k T n v.2 = 3 ∧ T (tk_b T n v.2) = 59) ∧ c_two c.1 v.1 = true then .inr (5, tk_b T n v.2) else .inl v) = (.inr e : (Nat × Nat) ⊕ pE) := h
      by_cases c2 : (tk_k T n v.2 = 3 ∧ T (tk_b T n v.2) = 59) ∧ c_two c.1 v.1 = true
      · rw [if_pos c2] at h; cases h; exact ⟨(by decide : 0 < 5), (by decide : 5 < 6)⟩
      · rw [if_neg c2] at h; cases h
theorem at_er {i : Nat} {c : Cd} {e : pE} (h : p_at T n i c = .inr e) : 0 < e.1 ∧ e.1 < 6 := by
  unfold p_at at h
  cases e1 : p_pt T n i c.1.1 with
  | inr k => rw [e1] at h; cases h; exact pt_er e1
  | inl v =>
    rw [e1] at h
    have h : (match p_sg T n v.2 with
      | .inr e => .inr e
      | .inl a => match p_sg T n a.2 with
        | .inr e => .inr e
        | .inl b => p_tail T n (op_place c v.1 a.1 b.1) b.2) = (.inr e : (Cd × Nat) ⊕ pE) := h
    cases e2 : p_sg T n v.2 with
    | inr k => rw [e2] at h; cases h; exact sg_er e2
    | inl a =>
      rw [e2] at h
      have h : (match p_sg T n a.2 with
        | .inr e => .inr e
        | .inl b => p_tail T n (op_place c v.1 a.1 b.1) b.2) = (.inr e : (Cd × Nat) ⊕ pE) := h
      cases e3 : p_sg T n a.2 with
      | inr k => rw [e3] at h; cases h; exact sg_er e3
      | inl b => rw [e3] at h; exact tail_er h
theorem cl_er {i cl : Nat} {c : Cd} {e : pE} (h : p_cl T n i cl c = .inr e) : 0 < e.1 ∧ e.1 < 6 := by
  unfold p_cl at h
  by_cases c1 : c_isw T n i 3 = true
  · rw [if_pos c1] at h
    by_cases c2 : 0 < cl
    · rw [if_pos c2] at h; cases h; exact ⟨(by decide : 0 < 4), (by decide : 4 < 6)⟩
    · rw [if_neg c2] at h
      unfold p_pts at h
      cases e1 : p_num T n (tk_e T n i) 1 8 with
      | inr k => rw [e1] at h; cases h; exact num_er e1
      | inl v => rw [e1] at h; exact tail_er h
  · rw [if_neg c1] at h
    by_cases c2 : c_isw T n i 4 = true
    · rw [if_pos c2] at h
      unfold p_lnC at h
      cases e1 : p_line T n i c with
      | inr k => rw [e1] at h; cases h; exact line_er e1
      | inl v => rw [e1] at h; exact tail_er h
    · rw [if_neg c2] at h
      by_cases c3 : c_isw T n i 5 = true
      · rw [if_pos c3] at h; exact at_er h
      · rw [if_neg c3] at h; cases h; exact ⟨(by decide : 0 < 1), (by decide : 1 < 6)⟩
theorem cls_er : ∀ f i cl c e, p_cls T n f i cl c = .inr e → 0 < e.1 ∧ e.1 < 6 := by
  intro f
  induction f with
  | zero => intro i cl c e h; cases h
  | succ f ih =>
    intro i cl c e h
    have h : (if tk_k T n i = 0 then .inl c else match p_cl T n i cl c with
      | .inl v => p_cls T n f v.2 (cl + 1) v.1
      | .inr e => .inr e) = (.inr e : Cd ⊕ pE) := h
    by_cases c1 : tk_k T n i = 0
    · rw [if_pos c1] at h; cases h
    · rw [if_neg c1] at h
      cases e1 : p_cl T n i cl c with
      | inr k => rw [e1] at h; cases h; exact cl_er e1
      | inl v => rw [e1] at h; exact ih _ _ _ _ h
theorem text_er {e : pE} (h : p_text T n = .inr e) : 0 < e.1 ∧ e.1 < 6 := cls_er _ _ _ _ _ h
end C12
theorem ush_wB (x : Int32) (l : Nat) : z_ush x (nI (24 - 8 * (l % 4))) &&& nI 255 = nI (wB x l) := by
  have e : nI (wB x l) = (x >>> (nI (24 - 8 * (l % 4)) &&& nI 31)) &&& nI 255 := (and_8 _).symm
  rw [e]
  apply b_ext
  intro i hi
  have h5 : bt (nI 255) i = decide (i < 8) := b_255 i
  rw [b_and, b_and, h5]
  by_cases c : i < 8
  · have hn : 24 - 8 * (l % 4) < 32 := by omega
    have e1 : bt (z_ush x (nI (24 - 8 * (l % 4)))) i = bt x (24 - 8 * (l % 4) + i) := b_ushr _ hn x i
    have e2 : bt (x >>> (nI (24 - 8 * (l % 4)) &&& nI 31)) i = if 24 - 8 * (l % 4) + i < 32 then bt x (24 - 8 * (l % 4) + i) else bt x 31 := b_sshr _ hn x hi
    rw [e1, e2, if_pos (by omega)]
  · rw [decide_eq_false c, Bool.and_false, Bool.and_false]
/-- four bytes laid behind -/
def spl (L t : Nat) (x : Int32) (h : z_H) (n : Nat) : z_H := it (fun l g => z_poi (z_pai g (L + 1) (t + l) (nI (wB x l))) L 1 (nI (t + l + 1))) h n
def sft (l : Nat) : Int32 := if l < 4 then nI (24 - 8 * l) else -(nI 8)
theorem sft_s : ∀ l, l < 4 → sft l + -(nI 8) = sft (l + 1) ∧ ¬ sft l < nI 0 ∧ sft l = nI (24 - 8 * (l % 4)) := by decide +kernel
section C12b
variable {G : z_G} {d L r c s t : Nat} {h h1 : z_H} {σ : RSt}
theorem spl_ok (hb : bs L r h) (h1 : z_oi h L 1 = nI t) (x : Int32) : ∀ n, bs L r (spl L t x h n) ∧ ex (cY L) 0 0 h (spl L t x h n) ∧ z_oi (spl L t x h n) L = z_u (z_oi h L) 1 (nI (t + n)) ∧ z_or (spl L t x h n) = z_or h ∧ z_ar (spl L t x h n) = z_ar h ∧ ∀ i, z_ai (spl L t x h n) (L + 1) i = if t ≤ i ∧ i < t + n then nI (wB x (i - t)) else z_ai h (L + 1) i := by
  intro n
  induction n with
  | zero =>
    refine ⟨hb, ex_refl h, ?_, rfl, rfl, fun i => by rw [if_neg (by omega)]; rfl⟩
    show z_oi h L = z_u (z_oi h L) 1 (nI (t + 0))
    rw [Nat.add_zero, ← h1, u_self]
  | succ n ih =>
    obtain ⟨i1, i2, i3, i4, i5, i6⟩ := ih
    obtain ⟨b1, e1⟩ := bs_pai i1 (t + n) (nI (wB x n))
    obtain ⟨b2, e2⟩ := bs_poi b1 1 (nI (t + n + 1))
    have e : spl L t x h (n + 1) = z_poi (z_pai (spl L t x h n) (L + 1) (t + n) (nI (wB x n))) L 1 (nI (t + n + 1)) := rfl
    rw [e]
    refine ⟨b2, exY_t hb b1 (exY_t hb i1 i2 e1) e2, ?_, i4, i5, fun i => ?_⟩
    · show z_u (z_oi (spl L t x h n)) L (z_u (z_oi (spl L t x h n) L) 1 (nI (t + n + 1))) L = _
      rw [u_eq, i3, u_u]
      rfl
    · show z_u (z_ai (spl L t x h n)) (L + 1) (z_u (z_ai (spl L t x h n) (L + 1)) (t + n) (nI (wB x n))) (L + 1) i = _
      rw [u_eq]
      by_cases c : i = t + n
      · rw [c, u_eq, if_pos (by omega), Nat.add_sub_cancel_left]
      · rw [u_ne _ _ c, i6]
        by_cases c1 : t ≤ i ∧ i < t + n
        · rw [if_pos c1, if_pos (by omega)]
        · rw [if_neg c1, if_neg (by omega)]
theorem e11_spool (hb : bs L r h) (h1 : z_oi h L 1 = nI t) (ht : t + 4 ≤ 400) (x : Int32) : z_Ev G (d + 4) k_X11_spool [.ref L, .int x] h (.inl none, spl L t x h 4) := by
  refine en_X11_spool (b_X11_spool_0 (z_pu0V rfl) ?_)
  refine z_forI (fun l g => [some (.ref L), some (.int x), some (.int (sft l))]) (fun l g => g) (fun l g => g = spl L t x h l) (fun l g => z_poi (z_pai g (L + 1) (t + l) (nI (wB x l))) L 1 (nI (t + l + 1))) h 4 rfl (fun l g hl hg => ⟨by rw [hg]; rfl, fun hJ => b_X11_spool_3 (z_pu0V rfl) ?_⟩) (fun hg => b_X11_spool_3 (z_pu0V rfl) ?_)
  · obtain ⟨i1, i2, i3, i4, i5, i6⟩ := spl_ok hb h1 x l
    rw [← hg] at i1 i2 i3 i4 i5 i6
    obtain ⟨q1, q2, q3⟩ := sft_s l hl
    obtain ⟨b1, b2, b3⟩ := i1.1.2.1
    have hk := i1.1.1
    have o1 : z_oi g L 1 = nI (t + l) := by rw [i3, u_eq]
    have o1' : ∀ v, z_oi (z_pai g (L + 1) (t + l) v) L 1 = nI (t + l) := fun v => o1
    rw [if_neg q2, b1, z_rcs, o1, nI_clamp (show t + l < 2 ^ 31 by omega), o1', nI_add, q1, q3, ush_wB]
    exact ⟨hk, hk, b2, by rw [b3]; exact vp_in_nI (by omega) (by decide), hk, hk, hJ⟩
  · rw [if_pos (show sft 4 < nI 0 by decide), hg]
theorem e11_feed (hc : cI L r h σ) (x1 x2 x3 x4 x5 : Int32) : pubC G (d + 5) k_X11_feed L r h [.int x1, .int x2, .int x3, .int x4, .int x5] (.inl (some (.int (s_feed σ x1 x2 x3 x4 x5).1))) (s_feed σ x1 x2 x3 x4 x5).2 := by
  obtain ⟨hb, hT⟩ := hc
  have hk := hb.1.1
  have hT' := hT
  obtain ⟨⟨t1, t1b, t1c⟩, t2, t3, t4, t5, t6, t7, t8⟩ := hT'
  have hI := hb.2.2.1
  have hX : ∀ a, cY L a → hl L a := fun _ q => cY_hl q
  unfold s_feed
  by_cases c : 400 < σ.1.2.1 + 20
  · rw [if_pos c]
    refine pub_id ⟨hb, hT⟩ (en_X11_feed (b_X11_feed_0 (z_pu0V rfl) ⟨hk, ?_⟩))
    rw [t1, nI_add, if_pos (nI_lt c (by omega))]
  · rw [if_neg c]
    obtain ⟨m, em⟩ : ∃ m, m = σ.1.2.1 := ⟨_, rfl⟩
    rw [← em] at t1 t1b t1c c ⊢
    obtain ⟨b1, e1, o1, r1, a1, v1⟩ := spl_ok hb t1 x1 4
    have E1 := e11_spool (G := G) (d := d) hb t1 (by omega) x1
    obtain ⟨g1, eg1⟩ : ∃ g, g = spl L m x1 h 4 := ⟨_, rfl⟩
    rw [← eg1] at b1 e1 o1 r1 a1 v1 E1
    have s1 : z_oi g1 L 1 = nI (m + 4) := by rw [o1, u_eq]
    obtain ⟨b2, e2, o2, r2, a2, v2⟩ := spl_ok b1 s1 x2 4
    have E2 := e11_spool (G := G) (d := d) b1 s1 (by omega) x2
    obtain ⟨g2, eg2⟩ : ∃ g, g = spl L (m + 4) x2 g1 4 := ⟨_, rfl⟩
    rw [← eg2] at b2 e2 o2 r2 a2 v2 E2
    have s2 : z_oi g2 L 1 = nI (m + 4 + 4) := by rw [o2, u_eq]
    obtain ⟨b3, e3, o3, r3, a3, v3⟩ := spl_ok b2 s2 x3 4
    have E3 := e11_spool (G := G) (d := d) b2 s2 (by omega) x3
    obtain ⟨g3, eg3⟩ : ∃ g, g = spl L (m + 4 + 4) x3 g2 4 := ⟨_, rfl⟩
    rw [← eg3] at b3 e3 o3 r3 a3 v3 E3
    have s3 : z_oi g3 L 1 = nI (m + 4 + 4 + 4) := by rw [o3, u_eq]
    obtain ⟨b4, e4, o4, r4, a4, v4⟩ := spl_ok b3 s3 x4 4
    have E4 := e11_spool (G := G) (d := d) b3 s3 (by omega) x4
    obtain ⟨g4, eg4⟩ : ∃ g, g = spl L (m + 4 + 4 + 4) x4 g3 4 := ⟨_, rfl⟩
    rw [← eg4] at b4 e4 o4 r4 a4 v4 E4
    have s4 : z_oi g4 L 1 = nI (m + 4 + 4 + 4 + 4) := by rw [o4, u_eq]
    obtain ⟨b5, e5, o5, r5, a5, v5⟩ := spl_ok b4 s4 x5 4
    have E5 := e11_spool (G := G) (d := d) b4 s4 (by omega) x5
    obtain ⟨g5, eg5⟩ : ∃ g, g = spl L (m + 4 + 4 + 4 + 4) x5 g4 4 := ⟨_, rfl⟩
    rw [← eg5] at b5 e5 o5 r5 a5 v5 E5
    have s5 : z_oi g5 L 1 = nI (m + 20) := by rw [o5, u_eq]
    have e15 := exY_t hb b4 (exY_t hb b3 (exY_t hb b2 (exY_t hb b1 e1 e2) e3) e4) e5
    have oi5 : ∀ k, k ≠ 1 → z_oi g5 L k = z_oi h L k := fun k hk => by rw [o5, u_ne _ _ hk, o4, u_ne _ _ hk, o3, u_ne _ _ hk, o2, u_ne _ _ hk, o1, u_ne _ _ hk]
    have or5 : z_or g5 = z_or h := by rw [r5, r4, r3, r2, r1]
    have ar5 : z_ar g5 = z_ar h := by rw [a5, a4, a3, a2, a1]
    have wm : ∀ x a b, a % 4 = b % 4 → wB x a = wB x b := fun x a b e => by unfold wB; rw [e]
    have c' : cI L r g5 ((fdT σ.1.1 m x1 x2 x3 x4 x5, m + 20, σ.1.2.2), σ.2) := by
      refine ⟨b5, ?_⟩
      unfold sT
      rw [or5, ar5]
      refine ⟨⟨s5, by show m + 20 ≤ 400; omega, fun i hi => ?_⟩, (oi5 2 (by decide)).trans t2, oc_ex hI hX e15 t3, fun s hs => oc_ex hI hX e15 (t4 s hs), acR_ex hI hX e15 _ _ _ t5, (oi5 6 (by decide)).trans t6, ⟨(oi5 7 (by decide)).trans t7.1, (oi5 8 (by decide)).trans t7.2⟩, imR_ex hI hX e15 t8⟩
      have hi : i < m + 20 := hi
      have w256 : ∀ x l, wB x l < 256 := fun x l => Nat.mod_lt _ (by decide)
      show z_ai g5 (L + 1) i = nI (fdT σ.1.1 m x1 x2 x3 x4 x5 i) ∧ fdT σ.1.1 m x1 x2 x3 x4 x5 i < 256
      unfold fdT
      rw [v5, v4, v3, v2, v1]
      by_cases c1 : i < m
      · rw [if_neg (by omega), if_neg (by omega), if_neg (by omega), if_neg (by omega), if_neg (by omega), if_neg (by omega)]
        exact t1c i c1
      · rw [if_pos (show m ≤ i ∧ i < m + 20 by omega)]
        refine ⟨?_, w256 _ _⟩
        unfold wsel
        by_cases d1 : i < m + 4
        · rw [if_neg (by omega), if_neg (by omega), if_neg (by omega), if_neg (by omega), if_pos (by omega), if_pos (by omega)]
        · by_cases d2 : i < m + 8
          · rw [if_neg (by omega), if_neg (by omega), if_neg (by omega), if_pos (by omega), if_neg (by omega), if_pos (by omega), wm x2 (i - (m + 4)) (i - m) (by omega)]
          · by_cases d3 : i < m + 12
            · rw [if_neg (by omega), if_neg (by omega), if_pos (by omega), if_neg (by omega), if_neg (by omega), if_pos (by omega), wm x3 (i - (m + 4 + 4)) (i - m) (by omega)]
            · by_cases d4 : i < m + 16
              · rw [if_neg (by omega), if_pos (by omega), if_neg (by omega), if_neg (by omega), if_neg (by omega), if_pos (by omega), wm x4 (i - (m + 4 + 4 + 4)) (i - m) (by omega)]
              · rw [if_pos (by omega), if_neg (by omega), if_neg (by omega), if_neg (by omega), if_neg (by omega), wm x5 (i - (m + 4 + 4 + 4 + 4)) (i - m) (by omega)]
    refine pub_mk c' e15 (fun _ q => cY_cX q) (by decide) (by decide) (en_X11_feed (b_X11_feed_0 (z_pu0V rfl) ⟨hk, ?_⟩))
    rw [t1, nI_add, if_neg (nI_nlt (by omega) (by decide))]
    refine ⟨hk, g1, E1, b1.1.1, g2, E2, b2.1.1, g3, E3, b3.1.1, g4, E4, b4.1.1, g5, E5, b5.1.1, ?_⟩
    rw [s5]
end C12b
