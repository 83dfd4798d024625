/-! THE CLASS'S HEAP: what stays, what is found out and kept -/
/-- the lister's own places and its helpers' (L: the lister) -/
def hl (L a : Nat) : Prop := a = L ∨ a = L + 1 ∨ (L + 15 ≤ a ∧ a < L + 75)
/-- the slots of a scheme in which something found out is kept -/
def mu (s : Nat) : Prop := s = 8 ∨ s = 10 ∨ s = 11 ∨ s = 13 ∨ s = 14
def bl (h : z_H) (q b : Nat) : Prop := z_kd h q = 24 ∧ z_or h q 5 = some b
/-- a place that is nobody's: never written again -/
def fr (L : Nat) (h : z_H) (a : Nat) : Prop := a < z_n h ∧ ¬ hl L a ∧ ∀ q b, bl h q b → a < q ∨ b + 8 ≤ a
def cl (s : Nat) (S : Sc) : Nat := if s = 8 then 9 else if s = 10 then S.2.1 else if s = 11 then 2 else if s = 13 then 8 else 9
/-- what is kept in a slot, of a scheme; the dual -/
abbrev CV : Type := Nat → Sc → Nat → Int32
def dS (S : Sc) (t : Nat × (Nat → Nat)) : Sc := (S.2.1, t.1, fun l => if l < t.1 then t.2 l else 0)
/-- a kept row -/
def ca (V : CV) (L : Nat) (h : z_H) (S : Sc) (s : Nat) (o : Option Nat) : Prop := ∀ a, o = some a → fr L h a ∧ z_kd h a = 1 ∧ z_ln h a = cl s S ∧ ∀ i, i < cl s S → z_ai h a i = V s S i
def blk (L q b : Nat) (h : z_H) : Prop := q < b ∧ b + 8 ≤ z_n h ∧ (∀ a, q < a → a < b + 8 → z_kd h a ≠ 24) ∧ ∀ a, q ≤ a → a < b + 8 → ¬ hl L a
def drs (q b : Nat) (h : z_H) : Prop := z_or h q 12 = some (b + 4) ∧ z_kd h (b + 4) = 6 ∧ z_ln h (b + 4) = 5
def cs (V : CV) (L q b : Nat) (h : z_H) (S : Sc) : Prop := (∀ s, s = 8 ∨ s = 10 ∨ s = 11 ∨ s = 13 → ca V L h S s (z_or h q s)) ∧ (∀ i, i < 5 → ca V L h S (20 + i) (z_ar h (b + 4) i)) ∧ (z_or h q 8 ≠ none → ∀ p, p < 8 → z_ai h (b + 3) p = V 9 S p) ∧ ∀ q', z_or h q 14 = some q' → ∃ b' t, c_td S = some t ∧ sc_at q' b' h (dS S t)
def sc_k (V : CV) (L q b : Nat) (h : z_H) (S : Sc) : Prop := sc_at q b h S ∧ blk L q b h ∧ drs q b h ∧ cs V L q b h S
def inv (V : CV) (L : Nat) (h : z_H) : Prop := ∀ q, z_kd h q = 24 → ∃ b S, sc_k V L q b h S
/-- what an act leaves: all but the helper's places X and what is kept in schemes -/
def ex (X : Nat → Prop) (c s : Nat) (h h' : z_H) : Prop := (z_n h ≤ z_n h' ∧ z_c h' ≤ z_c h + c ∧ z_s h' ≤ z_s h + s) ∧ ∀ a, a < z_n h → z_kd h' a = z_kd h a ∧ z_ln h' a = z_ln h a ∧ (¬ X a → z_oi h' a = z_oi h a ∧ z_al h' a = z_al h a ∧ (∀ k, (z_kd h a = 24 ∧ mu k) ∨ z_or h' a k = z_or h a k) ∧ ((∃ q b, bl h q b ∧ (a = b + 3 ∨ a = b + 4)) ∨ z_ai h' a = z_ai h a ∧ z_ar h' a = z_ar h a))
section FR
variable {V : CV} {L q b c s c' s' : Nat} {h h' h'' : z_H} {S : Sc} {X : Nat → Prop}
theorem sc_b (hA : sc_at q b h S) : bl h q b := ⟨y_kd hA, (y_deg hA).1⟩
theorem sc_u {b' : Nat} {S' : Sc} (hA : sc_at q b h S) (hB : sc_at q b' h S') : b = b' ∧ S = S' := by
  have e : b = b' := Option.some.inj ((y_deg hA).1.symm.trans (y_deg hB).1)
  subst e
  have n1 := y_n8 hA
  have n2 := y_n8 hB
  have m1 := y_m12 hA
  have m2 := y_m12 hB
  have e1 : S.1 = S'.1 := (nI_eq (by omega) (by omega)).mp ((y_n hA).symm.trans (y_n hB))
  have e2 : S.2.1 = S'.2.1 := (nI_eq (by omega) (by omega)).mp ((y_m hA).symm.trans (y_m hB))
  refine ⟨rfl, Prod.ext e1 (Prod.ext e2 (funext fun l => ?_))⟩
  by_cases hl : l < S.2.1
  · have := y_256 hA l
    have := y_256 hB l
    exact (nI_eq (by omega) (by omega)).mp ((y_Ln hA hl).symm.trans (y_Ln hB (by omega)))
  · rw [hA.2.1.2.2.2.1 l (by omega), hB.2.1.2.2.2.1 l (by omega)]
theorem sc_at_of (hA : sc_at q b h S) (k : ∀ a, (a = q ∨ (b ≤ a ∧ a < b + 8)) → z_kd h' a = z_kd h a ∧ z_ln h' a = z_ln h a) (o : z_oi h' q = z_oi h q) (r : ∀ k, ¬ mu k → z_or h' q k = z_or h q k) (ai : ∀ j, j < 8 → j ≠ 3 → j ≠ 4 → z_ai h' (b + j) = z_ai h (b + j)) : sc_at q b h' S := by
  obtain ⟨⟨s0, s5, s6, s7, s9, s2, s3, s4⟩, hS, f0, f1, a5, a0, a2⟩ := hA
  have kk : ∀ j, j < 8 → z_kd h' (b + j) = z_kd h (b + j) ∧ z_ln h' (b + j) = z_ln h (b + j) := fun j hj => k (b + j) (Or.inr ⟨by omega, by omega⟩)
  refine ⟨⟨by rw [(k q (Or.inl rfl)).1]; exact s0, ⟨by rw [r 5 (by unfold mu; omega)]; exact s5.1, by rw [(k b (Or.inr ⟨by omega, by omega⟩)).1]; exact s5.2.1, by rw [(k b (Or.inr ⟨by omega, by omega⟩)).2]; exact s5.2.2⟩, ⟨by rw [r 6 (by unfold mu; omega)]; exact s6.1, by rw [(kk 1 (by omega)).1]; exact s6.2.1, by rw [(kk 1 (by omega)).2]; exact s6.2.2⟩, ⟨by rw [r 7 (by unfold mu; omega)]; exact s7.1, by rw [(kk 2 (by omega)).1]; exact s7.2.1, by rw [(kk 2 (by omega)).2]; exact s7.2.2⟩, ⟨by rw [r 9 (by unfold mu; omega)]; exact s9.1, by rw [(kk 3 (by omega)).1]; exact s9.2.1, by rw [(kk 3 (by omega)).2]; exact s9.2.2⟩, ⟨by rw [r 2 (by unfold mu; omega)]; exact s2.1, by rw [(kk 5 (by omega)).1]; exact s2.2.1, by rw [(kk 5 (by omega)).2]; exact s2.2.2⟩, ⟨by rw [r 3 (by unfold mu; omega)]; exact s3.1, by rw [(kk 6 (by omega)).1]; exact s3.2.1, by rw [(kk 6 (by omega)).2]; exact s3.2.2⟩, ⟨by rw [r 4 (by unfold mu; omega)]; exact s4.1, by rw [(kk 7 (by omega)).1]; exact s4.2.1, by rw [(kk 7 (by omega)).2]; exact s4.2.2⟩⟩, hS, by rw [o]; exact f0, by rw [o]; exact f1, fun l hl => ?_, fun p hp => ?_, fun p r' hp hr => ?_⟩
  · rw [ai 5 (by omega) (by omega) (by omega), ai 6 (by omega) (by omega) (by omega), ai 7 (by omega) (by omega) (by omega)]; exact a5 l hl
  · have e0 : z_ai h' b = z_ai h b := ai 0 (by omega) (by omega) (by omega)
    rw [e0, ai 1 (by omega) (by omega) (by omega)]; exact a0 p hp
  · rw [ai 2 (by omega) (by omega) (by omega)]; exact a2 p r' hp hr
theorem inv_b (hI : inv V L h) (hb : bl h q b) : ∃ S, sc_k V L q b h S := by
  obtain ⟨b', S, hk⟩ := hI q hb.1
  have e : b' = b := Option.some.inj ((y_deg hk.1).1.symm.trans hb.2)
  subst e
  exact ⟨S, hk⟩
theorem inv_k (hI : inv V L h) (hA : sc_at q b h S) : sc_k V L q b h S := by
  obtain ⟨S', hk⟩ := inv_b hI (sc_b hA)
  rw [(sc_u hA hk.1).2]
  exact hk
theorem blk_ne {q' b' : Nat} (hI : inv V L h) (h1 : bl h q b) (h2 : bl h q' b') (hn : q ≠ q') : b + 8 ≤ q' ∨ b' + 8 ≤ q := by
  obtain ⟨S, k1⟩ := inv_b hI h1
  obtain ⟨S', k2⟩ := inv_b hI h2
  rcases Nat.lt_or_ge q q' with c | c
  · left
    apply Classical.byContradiction
    intro n
    exact k1.2.1.2.2.1 q' c (by omega) h2.1
  · right
    apply Classical.byContradiction
    intro n
    exact k2.2.1.2.2.1 q (by omega) (by omega) h1.1
/-- a scheme's rows that stay aren't another one's that change -/
theorem blk_st {q' b' j : Nat} (hI : inv V L h) (h1 : bl h q b) (h2 : bl h q' b') (hj : j < 8) (j3 : j ≠ 3) (j4 : j ≠ 4) : ¬ (b + j = b' + 3 ∨ b + j = b' + 4) := by
  by_cases e : q = q'
  · subst e
    have e2 : b = b' := Option.some.inj (h1.2.symm.trans h2.2)
    omega
  · obtain ⟨S, k1⟩ := inv_b hI h1
    obtain ⟨S', k2⟩ := inv_b hI h2
    have l1 := k1.2.1.1
    have l2 := k2.2.1.1
    rcases blk_ne hI h1 h2 e with c | c <;> omega
theorem ex_sc (hI : inv V L h) (hX : ∀ a, X a → hl L a) (e : ex X c s h h') (hA : sc_at q b h S) : sc_at q b h' S := by
  have hk := inv_k hI hA
  obtain ⟨l1, l2, l3, l4⟩ := hk.2.1
  have nX : ∀ a, q ≤ a → a < b + 8 → ¬ X a := fun a h1 h2 hx => l4 a h1 h2 (hX a hx)
  refine sc_at_of hA (fun a ha => ?_) ?_ (fun k hk => ?_) (fun j hj j3 j4 => ?_)
  · have := e.2 a (by omega)
    exact ⟨this.1, this.2.1⟩
  · exact ((e.2 q (by omega)).2.2 (nX q (by omega) (by omega))).1
  · rcases ((e.2 q (by omega)).2.2 (nX q (by omega) (by omega))).2.2.1 k with c | c
    · exact absurd c.2 hk
    · exact c
  · rcases ((e.2 (b + j) (by omega)).2.2 (nX (b + j) (by omega) (by omega))).2.2.2 with ⟨q', b', hb, hc⟩ | c
    · exact absurd hc (blk_st hI (sc_b hA) hb hj j3 j4)
    · exact c.1
/-- a block of the later heap: an old one, or wholly new -/
theorem ex_bl (hI : inv V L h) (hX : ∀ a, X a → hl L a) (e : ex X c s h h') (hb : bl h' q b) : bl h q b ∨ z_n h ≤ q := by
  rcases Nat.lt_or_ge q (z_n h) with c | c
  · left
    obtain ⟨e1, -, e2⟩ := e.2 q c
    obtain ⟨b', S, k⟩ := hI q (e1 ▸ hb.1)
    have hn : ¬ X q := fun hx => k.2.1.2.2.2 q (Nat.le_refl _) (by have := k.2.1.1; omega) (hX q hx)
    refine ⟨e1 ▸ hb.1, ?_⟩
    rcases (e2 hn).2.2.1 5 with c | c
    · exact absurd c.2 (by unfold mu; omega)
    · rw [← c]; exact hb.2
  · exact Or.inr c
theorem ex_fr {a : Nat} (hI : inv V L h) (hX : ∀ a, X a → hl L a) (e : ex X c s h h') (ha : fr L h a) : fr L h' a ∧ z_kd h' a = z_kd h a ∧ z_ln h' a = z_ln h a ∧ z_oi h' a = z_oi h a ∧ (z_kd h a ≠ 24 → z_or h' a = z_or h a) ∧ z_ai h' a = z_ai h a ∧ z_al h' a = z_al h a ∧ z_ar h' a = z_ar h a := by
  obtain ⟨a1, a2, a3⟩ := ha
  obtain ⟨e1, e2, e3⟩ := e.2 a a1
  obtain ⟨f1, f2, f3, f4⟩ := e3 (fun hx => a2 (hX a hx))
  have f5 : z_ai h' a = z_ai h a ∧ z_ar h' a = z_ar h a := by
    rcases f4 with ⟨q, b, hb, hc⟩ | f
    · have := a3 q b hb
      obtain ⟨S, kk⟩ := inv_b hI hb
      have := kk.2.1.1
      omega
    · exact f
  refine ⟨⟨Nat.lt_of_lt_of_le a1 e.1.1, a2, fun q b hb => ?_⟩, e1, e2, f1, fun hk => funext fun k => ?_, f5.1, f2, f5.2⟩
  · rcases ex_bl hI hX e hb with c | c
    · exact a3 q b c
    · left; omega
  · rcases f3 k with c | c
    · exact absurd c.1 hk
    · exact c
theorem ex_refl (h : z_H) : ex X 0 0 h h := ⟨⟨Nat.le_refl _, Nat.le_refl _, Nat.le_refl _⟩, fun a _ => ⟨rfl, rfl, fun _ => ⟨rfl, rfl, fun _ => Or.inr rfl, Or.inr ⟨rfl, rfl⟩⟩⟩⟩
theorem ex_trans (hI : inv V L h) (hI' : inv V L h') (hX : ∀ a, X a → hl L a) (e1 : ex X c s h h') (e2 : ex X c' s' h' h'') : ex X (c + c') (s + s') h h'' := by
  obtain ⟨⟨n1, c1, s1⟩, d1⟩ := e1
  obtain ⟨⟨n2, c2, s2⟩, d2⟩ := e2
  refine ⟨⟨by omega, by omega, by omega⟩, fun a ha => ?_⟩
  obtain ⟨k1, l1, f1⟩ := d1 a ha
  obtain ⟨k2, l2, f2⟩ := d2 a (by omega)
  refine ⟨k2.trans k1, l2.trans l1, fun hx => ?_⟩
  obtain ⟨o1, p1, r1, t1⟩ := f1 hx
  obtain ⟨o2, p2, r2, t2⟩ := f2 hx
  refine ⟨o2.trans o1, p2.trans p1, fun k => ?_, ?_⟩
  · rcases r1 k with c | c
    · exact Or.inl c
    · rcases r2 k with c' | c'
      · exact Or.inl ⟨k1 ▸ c'.1, c'.2⟩
      · exact Or.inr (c'.trans c)
  · rcases t1 with c | c
    · exact Or.inl c
    · rcases t2 with ⟨q', b', hb, hc⟩ | c'
      · rcases ex_bl hI hX ⟨⟨n1, c1, s1⟩, d1⟩ hb with c'' | c''
        · exact Or.inl ⟨q', b', c'', hc⟩
        · obtain ⟨S, kk⟩ := inv_b hI' hb
          have := kk.2.1.1
          omega
      · exact Or.inr ⟨c'.1.trans c.1, c'.2.trans c.2⟩
theorem ex_mono (e : ex X c s h h') (hc : c ≤ c') (hs : s ≤ s') : ex X c' s' h h' := ⟨⟨e.1.1, by have := e.1.2.1; omega, by have := e.1.2.2; omega⟩, e.2⟩
theorem ex_X {Y : Nat → Prop} (e : ex X c s h h') (hY : ∀ a, X a → Y a) : ex Y c s h h' := ⟨e.1, fun a ha => ⟨(e.2 a ha).1, (e.2 a ha).2.1, fun hy => (e.2 a ha).2.2 (fun hx => hy (hY a hx))⟩⟩
end FR
