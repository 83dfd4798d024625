/-! a scheme's object made -/
/-- nothing found out yet -/
def sc_no (q b : Nat) (h : z_H) : Prop := (z_or h q 8 = none ∧ z_or h q 10 = none ∧ z_or h q 11 = none ∧ z_or h q 13 = none ∧ z_or h q 14 = none) ∧ z_or h q 12 = some (b + 4) ∧ z_kd h (b + 4) = 6 ∧ z_ln h (b + 4) = 5 ∧ z_ar h (b + 4) = fun _ => none
section EQ
variable {G : z_G} {d q b a La : Nat} {h0 : z_H} {S : Sc}
theorem e8_init (hS : c_sok S) (hn : z_n h0 = b) (hk : z_kd h0 q = 24) (hq : q < b) (ha : a < b) (haq : a ≠ q) (k1 : z_kd h0 a = 1) (k2 : z_ln h0 a = La) (hLa : La < 2 ^ 31) (hL2 : S.2.1 ≤ La) (hrow : ∀ l, l < S.2.1 → z_ai h0 a l = nI (S.2.2 l)) : ∃ h, z_Ev G (d + 5) k_X8_init [.ref q, .int (nI S.1), .ref a, .int (nI S.2.1)] h0 (.inl none, h) ∧ (z_n h = b + 8 ∧ ∀ a, b + 8 ≤ a → z_kd h a = z_kd h0 a) ∧ z_c h = z_c h0 + 8 ∧ z_s h = z_s h0 + (93 + 3 * S.2.1) ∧ sc_at q b h S ∧ sc_no q b h ∧ frq q b h0 h := by
  obtain ⟨h, t, O, F, A, ⟨i1, i2, i3, i4, i5, i6, i7, i8⟩, et, sh, ⟨o12, o8, o10, o11, o13, o14⟩, ⟨f0, f1⟩, a5, a0, a1, a2, a3, a6, a7, ev⟩ := e8_init0 (G := G) (d := d) hS hn hk hq ha haq k1 k2 hLa hL2 hrow
  refine ⟨_, ev, i1, i2, by show z_s h = _; rw [i3, et], ⟨sh, hS, by show z_oi h q 0 = _; rw [i6]; exact f0, by show z_oi h q 1 = _; rw [i6]; exact f1, fun l hl => ⟨?_, ?_, ?_⟩, fun p hp => ⟨?_, ?_⟩, fun p r hp hr => ?_⟩, ⟨⟨by show z_or h q 8 = _; rw [i5]; exact o8, by show z_or h q 10 = _; rw [i5]; exact o10, by show z_or h q 11 = _; rw [i5]; exact o11, by show z_or h q 13 = _; rw [i5]; exact o13, by show z_or h q 14 = _; rw [i5]; exact o14⟩, by show z_or h q 12 = _; rw [i5]; exact o12, (i7 4 (by decide)).1, (i7 4 (by decide)).2.1, (i7 4 (by decide)).2.2.2 (by rfl)⟩, fun x hx hxq => ?_⟩
  · rw [bk_ai h b 8 _ (show 5 < 8 by decide), flAll_st S A (Or.inr (Or.inr rfl))]; exact a5 l hl
  · rw [bk_ai h b 8 _ (show 6 < 8 by decide)]
    show flM S A S.2.1 6 l = _
    rw [flM_6 hS a6 _ (Nat.le_refl _), if_pos hl]
  · rw [bk_ai h b 8 _ (show 7 < 8 by decide)]
    exact flM_7 hS a6 _ (Nat.le_refl _) l hl
  · rw [bk_ai0 h b 8 _ (by decide)]
    exact flM_0 hS a0 p _ (Nat.le_refl _)
  · rw [bk_ai h b 8 _ (show 1 < 8 by decide)]
    exact flM_1 hS a1 p _ (Nat.le_refl _)
  · rw [bk_ai h b 8 _ (show 2 < 8 by decide)]
    exact flM_2 hS a2 hp hr _ (Nat.le_refl _)
  · obtain ⟨q1, q2, q3, q4, q5, q6, q7⟩ := i8 x hx hxq
    exact ⟨q1, q2, q3, q4, by rw [bk_out h b 8 _ (Or.inl hx)]; exact q5, q6, q7⟩
end EQ
