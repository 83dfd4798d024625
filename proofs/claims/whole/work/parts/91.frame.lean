/-! the class's heap: that it stays well -/
section FS
variable {V : CV} {L q b c s c' s' : Nat} {h h' h'' : z_H} {S : Sc} {X : Nat → Prop}
theorem inv_g (hI : inv V L h) (hX : ∀ a, X a → hl L a) (e : ex X c s h h') (hnew : ∀ q, z_n h ≤ q → z_kd h' q = 24 → ∃ b S, sc_k V L q b h' S) (hold : ∀ q b S, sc_k V L q b h S → cs V L q b h' S) : inv V L h' := by
  intro q hq
  rcases Nat.lt_or_ge q (z_n h) with c | c
  · obtain ⟨b, S, hk⟩ := hI q ((e.2 q c).1 ▸ hq)
    have hk' := hk
    obtain ⟨hA, ⟨l1, l2, l3, l4⟩, ⟨d1, d2, d3⟩, -⟩ := hk'
    have en := e.1.1
    refine ⟨b, S, ex_sc hI hX e hA, ⟨l1, by omega, fun a ha hb => by rw [(e.2 a (by omega)).1]; exact l3 a ha hb, l4⟩, ⟨?_, by rw [(e.2 (b + 4) (by omega)).1]; exact d2, by rw [(e.2 (b + 4) (by omega)).2.1]; exact d3⟩, hold q b S hk⟩
    rcases ((e.2 q c).2.2 (fun hx => l4 q (Nat.le_refl _) (by omega) (hX q hx))).2.2.1 12 with c | c
    · exact absurd c.2 (by unfold mu; omega)
    · rw [c]; exact d1
  · exact hnew q c hq
theorem ca_ex (hI : inv V L h) (hX : ∀ a, X a → hl L a) (e : ex X c s h h') {k : Nat} {o : Option Nat} (hc : ca V L h S k o) : ca V L h' S k o := by
  intro a ha
  obtain ⟨c1, c2, c3, c4⟩ := hc a ha
  obtain ⟨f1, f2, f3, -, -, f4, -⟩ := ex_fr hI hX e c1
  exact ⟨f1, by rw [f2]; exact c2, by rw [f3]; exact c3, fun i hi => by rw [f4]; exact c4 i hi⟩
theorem cs_of (hI : inv V L h) (hX : ∀ a, X a → hl L a) (e : ex X c s h h') (hk : sc_k V L q b h S) (r : ∀ k, mu k → z_or h' q k = z_or h q k) (a3 : z_ai h' (b + 3) = z_ai h (b + 3)) (a4 : z_ar h' (b + 4) = z_ar h (b + 4)) : cs V L q b h' S := by
  obtain ⟨-, -, -, k1, k2, k3, k4⟩ := hk
  refine ⟨fun k hk => ?_, fun i hi => ?_, fun hn => ?_, fun q' hq' => ?_⟩
  · rw [r k (by unfold mu; omega)]; exact ca_ex hI hX e (k1 k hk)
  · rw [a4]; exact ca_ex hI hX e (k2 i hi)
  · rw [a3]; rw [r 8 (Or.inl rfl)] at hn; exact k3 hn
  · rw [r 14 (by unfold mu; omega)] at hq'
    obtain ⟨b', t, ht, hA⟩ := k4 q' hq'
    exact ⟨b', t, ht, ex_sc hI hX e hA⟩
/-- helper's places written, rows made -/
def xt (X : Nat → Prop) (h h' : z_H) : Prop := z_n h ≤ z_n h' ∧ (∀ a, a < z_n h → z_kd h' a = z_kd h a ∧ z_ln h' a = z_ln h a ∧ (¬ X a → z_oi h' a = z_oi h a ∧ z_or h' a = z_or h a ∧ z_ai h' a = z_ai h a ∧ z_al h' a = z_al h a ∧ z_ar h' a = z_ar h a)) ∧ ∀ a, z_n h ≤ a → z_kd h' a = 24 → z_kd h a = 24
theorem xt_ex (e : xt X h h') (hc : z_c h' ≤ z_c h + c) (hs : z_s h' ≤ z_s h + s) : ex X c s h h' := ⟨⟨e.1, hc, hs⟩, fun a ha => ⟨(e.2.1 a ha).1, (e.2.1 a ha).2.1, fun hx => ⟨((e.2.1 a ha).2.2 hx).1, ((e.2.1 a ha).2.2 hx).2.2.2.1, fun k => Or.inr (by rw [((e.2.1 a ha).2.2 hx).2.1]), Or.inr ⟨((e.2.1 a ha).2.2 hx).2.2.1, ((e.2.1 a ha).2.2 hx).2.2.2.2⟩⟩⟩⟩
theorem inv_n (hI : inv V L h) {a : Nat} (ha : z_n h ≤ a) : z_kd h a ≠ 24 := fun e => by
  obtain ⟨b, S, k⟩ := hI a e
  have := k.2.1.1
  have := k.2.1.2.1
  omega
theorem inv_xt (hI : inv V L h) (hX : ∀ a, X a → hl L a) (e : xt X h h') : inv V L h' := by
  have e' : ex X (z_c h') (z_s h') h h' := xt_ex e (by omega) (by omega)
  refine inv_g hI hX e' (fun q hq hk => absurd (e.2.2 q hq hk) (inv_n hI hq)) (fun q b S hk => ?_)
  have l := hk.2.1
  have f : ∀ a, q ≤ a → a < b + 8 → z_oi h' a = z_oi h a ∧ z_or h' a = z_or h a ∧ z_ai h' a = z_ai h a ∧ z_al h' a = z_al h a ∧ z_ar h' a = z_ar h a := fun a h1 h2 => (e.2.1 a (by have := l.2.1; omega)).2.2 (fun hx => l.2.2.2 a h1 h2 (hX a hx))
  exact cs_of hI hX e' hk (fun k _ => by rw [(f q (Nat.le_refl _) (by have := l.1; omega)).2.1]) (f (b + 3) (by have := l.1; omega) (by omega)).2.2.1 (f (b + 4) (by have := l.1; omega) (by omega)).2.2.2.2
theorem xt_refl (h : z_H) : xt X h h := ⟨Nat.le_refl _, fun a _ => ⟨rfl, rfl, fun _ => ⟨rfl, rfl, rfl, rfl, rfl⟩⟩, fun _ _ e => e⟩
theorem xt_trans (e1 : xt X h h') (e2 : xt X h' h'') : xt X h h'' := by
  obtain ⟨n1, d1, k1⟩ := e1
  obtain ⟨n2, d2, k2⟩ := e2
  refine ⟨by omega, fun a ha => ?_, fun a ha hk => ?_⟩
  · obtain ⟨x1, x2, x3⟩ := d1 a ha
    obtain ⟨y1, y2, y3⟩ := d2 a (by omega)
    exact ⟨y1.trans x1, y2.trans x2, fun hx => ⟨(y3 hx).1.trans (x3 hx).1, (y3 hx).2.1.trans (x3 hx).2.1, (y3 hx).2.2.1.trans (x3 hx).2.2.1, (y3 hx).2.2.2.1.trans (x3 hx).2.2.2.1, (y3 hx).2.2.2.2.trans (x3 hx).2.2.2.2⟩⟩
  · rcases Nat.lt_or_ge a (z_n h') with c | c
    · exact k1 a ha ((d2 a c).1 ▸ hk)
    · exact k1 a ha (k2 a c hk)
theorem xt_X {Y : Nat → Prop} (e : xt X h h') (hY : ∀ a, X a → Y a) : xt Y h h' := ⟨e.1, fun a ha => ⟨(e.2.1 a ha).1, (e.2.1 a ha).2.1, fun hy => (e.2.1 a ha).2.2 (fun hx => hy (hY a hx))⟩, e.2.2⟩
theorem xt_pax {a : Nat} (f : Nat → Int32) (ha : X a) : xt X h (z_pax h a f) := ⟨Nat.le_refl _, fun x _ => ⟨rfl, rfl, fun hx => ⟨rfl, rfl, u_ne _ _ (fun e => hx (e ▸ ha)), rfl, rfl⟩⟩, fun _ _ e => e⟩
theorem xt_plx {a : Nat} (f : Nat → Int64) (ha : X a) : xt X h (z_plx h a f) := ⟨Nat.le_refl _, fun x _ => ⟨rfl, rfl, fun hx => ⟨rfl, rfl, rfl, u_ne _ _ (fun e => hx (e ▸ ha)), rfl⟩⟩, fun _ _ e => e⟩
theorem xt_pai {a : Nat} (k : Nat) (v : Int32) (ha : X a) : xt X h (z_pai h a k v) := ⟨Nat.le_refl _, fun x _ => ⟨rfl, rfl, fun hx => ⟨rfl, rfl, u_ne _ _ (fun e => hx (e ▸ ha)), rfl, rfl⟩⟩, fun _ _ e => e⟩
theorem xt_pal {a : Nat} (k : Nat) (v : Int64) (ha : X a) : xt X h (z_pal h a k v) := ⟨Nat.le_refl _, fun x _ => ⟨rfl, rfl, fun hx => ⟨rfl, rfl, rfl, u_ne _ _ (fun e => hx (e ▸ ha)), rfl⟩⟩, fun _ _ e => e⟩
theorem xt_poi {a : Nat} (k : Nat) (v : Int32) (ha : X a) : xt X h (z_poi h a k v) := ⟨Nat.le_refl _, fun x _ => ⟨rfl, rfl, fun hx => ⟨u_ne _ _ (fun e => hx (e ▸ ha)), rfl, rfl, rfl, rfl⟩⟩, fun _ _ e => e⟩
theorem xt_por {a : Nat} (k : Nat) (v : Option Nat) (ha : X a) : xt X h (z_por h a k v) := ⟨Nat.le_refl _, fun x _ => ⟨rfl, rfl, fun hx => ⟨rfl, u_ne _ _ (fun e => hx (e ▸ ha)), rfl, rfl, rfl⟩⟩, fun _ _ e => e⟩
theorem xt_par {a : Nat} (k : Nat) (v : Option Nat) (ha : X a) : xt X h (z_par h a k v) := ⟨Nat.le_refl _, fun x _ => ⟨rfl, rfl, fun hx => ⟨rfl, rfl, rfl, rfl, u_ne _ _ (fun e => hx (e ▸ ha))⟩⟩, fun _ _ e => e⟩
theorem u_new {k tag : Nat} {f : Nat → Nat} {a : Nat} (ht : tag ≠ 24) (e : z_u f k tag a = 24) : f a = 24 := by
  by_cases c : a = k
  · subst c; rw [u_eq] at e; exact absurd e ht
  · rw [u_ne _ _ c] at e; exact e
theorem xt_nwi (tag m : Nat) (f : Nat → Int32) (ht : tag ≠ 24) : xt X h (z_nwi h tag m f) := ⟨Nat.le_succ _, fun x hx => ⟨u_ne _ _ (by omega), u_ne _ _ (by omega), fun _ => ⟨rfl, rfl, u_ne _ _ (by omega), rfl, rfl⟩⟩, fun _ _ e => u_new ht e⟩
theorem xt_nwr (tag m : Nat) (ht : tag ≠ 24) : xt X h (z_nwr h tag m) := ⟨Nat.le_succ _, fun x hx => ⟨u_ne _ _ (by omega), u_ne _ _ (by omega), fun _ => ⟨rfl, rfl, rfl, rfl, u_ne _ _ (by omega)⟩⟩, fun _ _ e => u_new ht e⟩
theorem xt_nwo (ci N : Nat) (ht : ci ≠ 8) : xt X h (z_nwo h ci N) := ⟨Nat.le_succ _, fun x hx => ⟨u_ne _ _ (by omega), rfl, fun _ => ⟨u_ne _ _ (by omega), u_ne _ _ (by omega), rfl, rfl, rfl⟩⟩, fun _ _ e => u_new (by omega) e⟩
/-- something found out is kept -/
theorem inv_por (hI : inv V L h) (hA : sc_at q b h S) {k a : Nat} (hk : k = 8 ∨ k = 10 ∨ k = 11 ∨ k = 13) (hc : ca V L h S k (some a)) (h8 : k = 8 → ∀ p, p < 8 → z_ai h (b + 3) p = V 9 S p) : inv V L (z_por h q k (some a)) ∧ ex X 0 0 h (z_por h q k (some a)) := by
  have e0 : ∀ X, ex X 0 0 h (z_por h q k (some a)) := fun X => ⟨⟨Nat.le_refl _, Nat.le_refl _, Nat.le_refl _⟩, fun x _ => ⟨rfl, rfl, fun _ => ⟨rfl, rfl, fun j => by
    by_cases c : x = q
    · subst c
      by_cases d : j = k
      · left; exact ⟨y_kd hA, by subst d; unfold mu; omega⟩
      · right
        show z_u (z_or h) x (z_u (z_or h x) k (some a)) x j = _
        rw [u_eq, u_ne _ _ d]
    · right
      show z_u (z_or h) q (z_u (z_or h q) k (some a)) x j = _
      rw [u_ne _ _ c], Or.inr ⟨rfl, rfl⟩⟩⟩⟩
  have e := e0 (fun _ => False)
  have hX : ∀ a, (fun _ : Nat => False) a → hl L a := fun _ f => f.elim
  refine ⟨inv_g hI hX e (fun q' hq' hk' => absurd hk' (inv_n hI hq')) (fun q' b' S' hk' => ?_), e0 X⟩
  by_cases c : q' = q
  · subst c
    obtain ⟨eb, eS⟩ := sc_u hA hk'.1
    subst eb; subst eS
    obtain ⟨-, -, -, k1, k2, k3, k4⟩ := hk'
    have r : ∀ j, z_or (z_por h q' k (some a)) q' j = if j = k then some a else z_or h q' j := fun j => by
      show z_u (z_or h) q' (z_u (z_or h q') k (some a)) q' j = _
      rw [u_eq]; rfl
    refine ⟨fun j hj => ?_, fun i hi => ca_ex hI hX e (k2 i hi), fun hn => ?_, fun q2 hq2 => ?_⟩
    · rw [r]
      by_cases d : j = k
      · rw [if_pos d, d]; exact ca_ex hI hX e hc
      · rw [if_neg d]; exact ca_ex hI hX e (k1 j hj)
    · rw [r] at hn
      by_cases d : 8 = k
      · exact h8 d.symm
      · rw [if_neg d] at hn; exact k3 hn
    · rw [r, if_neg (by omega)] at hq2
      obtain ⟨b2, t, ht, hA2⟩ := k4 q2 hq2
      exact ⟨b2, t, ht, ex_sc hI hX e hA2⟩
  · exact cs_of hI hX e hk' (fun j _ => by
      show z_u (z_or h) q (z_u (z_or h q) k (some a)) q' j = _
      rw [u_ne _ _ c]) rfl rfl
theorem inv_por14 (hI : inv V L h) (hA : sc_at q b h S) {q1 b1 : Nat} {t : Nat × (Nat → Nat)} (ht : c_td S = some t) (h1 : sc_at q1 b1 h (dS S t)) : inv V L (z_por h q 14 (some q1)) ∧ ex X 0 0 h (z_por h q 14 (some q1)) := by
  have e0 : ∀ X, ex X 0 0 h (z_por h q 14 (some q1)) := fun X => ⟨⟨Nat.le_refl _, Nat.le_refl _, Nat.le_refl _⟩, fun x _ => ⟨rfl, rfl, fun _ => ⟨rfl, rfl, fun j => by
    by_cases c : x = q
    · subst c
      by_cases d : j = 14
      · left; exact ⟨y_kd hA, by subst d; unfold mu; omega⟩
      · right
        show z_u (z_or h) x (z_u (z_or h x) 14 (some q1)) x j = _
        rw [u_eq, u_ne _ _ d]
    · right
      show z_u (z_or h) q (z_u (z_or h q) 14 (some q1)) x j = _
      rw [u_ne _ _ c], Or.inr ⟨rfl, rfl⟩⟩⟩⟩
  have e := e0 (fun _ => False)
  have hX : ∀ a, (fun _ : Nat => False) a → hl L a := fun _ f => f.elim
  refine ⟨inv_g hI hX e (fun q' hq' hk' => absurd hk' (inv_n hI hq')) (fun q' b' S' hk' => ?_), e0 X⟩
  by_cases c : q' = q
  · subst c
    obtain ⟨eb, eS⟩ := sc_u hA hk'.1
    subst eb; subst eS
    obtain ⟨-, -, -, k1, k2, k3, k4⟩ := hk'
    have r : ∀ j, z_or (z_por h q' 14 (some q1)) q' j = if j = 14 then some q1 else z_or h q' j := fun j => by
      show z_u (z_or h) q' (z_u (z_or h q') 14 (some q1)) q' j = _
      rw [u_eq]; rfl
    refine ⟨fun j hj => ?_, fun i hi => ca_ex hI hX e (k2 i hi), fun hn => ?_, fun q2 hq2 => ?_⟩
    · rw [r, if_neg (by omega)]; exact ca_ex hI hX e (k1 j hj)
    · rw [r, if_neg (by omega)] at hn; exact k3 hn
    · rw [r, if_pos rfl] at hq2
      cases hq2
      exact ⟨b1, t, ht, ex_sc hI hX e h1⟩
  · exact cs_of hI hX e hk' (fun j _ => by
      show z_u (z_or h) q (z_u (z_or h q) 14 (some q1)) q' j = _
      rw [u_ne _ _ c]) rfl rfl
theorem inv_par (hI : inv V L h) (hA : sc_at q b h S) {i a : Nat} (hi : i < 5) (hc : ca V L h S (20 + i) (some a)) : inv V L (z_par h (b + 4) i (some a)) ∧ ex X 0 0 h (z_par h (b + 4) i (some a)) := by
  have e0 : ∀ X, ex X 0 0 h (z_par h (b + 4) i (some a)) := fun X => ⟨⟨Nat.le_refl _, Nat.le_refl _, Nat.le_refl _⟩, fun x _ => ⟨rfl, rfl, fun _ => ⟨rfl, rfl, fun j => Or.inr rfl, by
    by_cases c : x = b + 4
    · left; exact ⟨q, b, sc_b hA, Or.inr c⟩
    · right; exact ⟨rfl, u_ne _ _ c⟩⟩⟩⟩
  have e := e0 (fun _ => False)
  have hX : ∀ a, (fun _ : Nat => False) a → hl L a := fun _ f => f.elim
  refine ⟨inv_g hI hX e (fun q' hq' hk' => absurd hk' (inv_n hI hq')) (fun q' b' S' hk' => ?_), e0 X⟩
  by_cases c : q' = q
  · subst c
    obtain ⟨eb, eS⟩ := sc_u hA hk'.1
    subst eb; subst eS
    obtain ⟨-, -, -, k1, k2, k3, k4⟩ := hk'
    have r : ∀ j, z_ar (z_par h (b + 4) i (some a)) (b + 4) j = if j = i then some a else z_ar h (b + 4) j := fun j => by
      show z_u (z_ar h) (b + 4) (z_u (z_ar h (b + 4)) i (some a)) (b + 4) j = _
      rw [u_eq]; rfl
    refine ⟨fun j hj => ca_ex hI hX e (k1 j hj), fun j hj => ?_, k3, fun q2 hq2 => ?_⟩
    · rw [r]
      by_cases d : j = i
      · rw [if_pos d, d]; exact ca_ex hI hX e hc
      · rw [if_neg d]; exact ca_ex hI hX e (k2 j hj)
    · obtain ⟨b2, t, ht, hA2⟩ := k4 q2 hq2
      exact ⟨b2, t, ht, ex_sc hI hX e hA2⟩
  · refine cs_of hI hX e hk' (fun j _ => rfl) rfl (u_ne _ _ ?_)
    have l1 := hk'.2.1.1
    have l2 := (inv_k hI hA).2.1.1
    rcases blk_ne hI (sc_b hA) (sc_b hk'.1) (fun f => c f.symm) with d | d <;> omega
/-- the orbits' row is written while nothing is kept of it -/
theorem inv_orb (hI : inv V L h) (hA : sc_at q b h S) (h8 : z_or h q 8 = none) (f : Nat → Int32) : inv V L (z_pax h (b + 3) f) ∧ ex X 0 0 h (z_pax h (b + 3) f) := by
  have e0 : ∀ X, ex X 0 0 h (z_pax h (b + 3) f) := fun X => ⟨⟨Nat.le_refl _, Nat.le_refl _, Nat.le_refl _⟩, fun x _ => ⟨rfl, rfl, fun _ => ⟨rfl, rfl, fun j => Or.inr rfl, by
    by_cases c : x = b + 3
    · left; exact ⟨q, b, sc_b hA, Or.inl c⟩
    · right; exact ⟨u_ne _ _ c, rfl⟩⟩⟩⟩
  have e := e0 (fun _ => False)
  have hX : ∀ a, (fun _ : Nat => False) a → hl L a := fun _ f => f.elim
  refine ⟨inv_g hI hX e (fun q' hq' hk' => absurd hk' (inv_n hI hq')) (fun q' b' S' hk' => ?_), e0 X⟩
  by_cases c : q' = q
  · subst c
    obtain ⟨eb, eS⟩ := sc_u hA hk'.1
    subst eb; subst eS
    obtain ⟨-, -, -, k1, k2, k3, k4⟩ := hk'
    refine ⟨fun j hj => ca_ex hI hX e (k1 j hj), fun j hj => ca_ex hI hX e (k2 j hj), fun hn => absurd h8 hn, fun q2 hq2 => ?_⟩
    obtain ⟨b2, t, ht, hA2⟩ := k4 q2 hq2
    exact ⟨b2, t, ht, ex_sc hI hX e hA2⟩
  · refine cs_of hI hX e hk' (fun j _ => rfl) (u_ne _ _ ?_) rfl
    have l1 := hk'.2.1.1
    have l2 := (inv_k hI hA).2.1.1
    rcases blk_ne hI (sc_b hA) (sc_b hk'.1) (fun f => c f.symm) with d | d <;> omega
end FS
