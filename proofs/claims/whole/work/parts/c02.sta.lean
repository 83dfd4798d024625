/-! THE LISTER: how its heap tells the state -/
def liB (L : Nat) (h : z_H) : Prop := z_kd h L = 27 ∧ (z_or h L 0 = some (L + 1) ∧ z_kd h (L + 1) = 1 ∧ z_ln h (L + 1) = 400) ∧ (z_or h L 4 = some (L + 15) ∧ z_kd h (L + 15) = 5 ∧ z_ln h (L + 15) = 4) ∧ z_or h L 10 = some (L + 16) ∧ z_or h L 11 = some (L + 21) ∧ z_or h L 12 = some (L + 25) ∧ z_or h L 13 = some (L + 33) ∧ z_or h L 14 = some (L + 41) ∧ z_or h L 15 = some (L + 45) ∧ z_or h L 16 = some (L + 46)
def hps (L r : Nat) (h : z_H) : Prop := rsh0 (L + 16) (L + 1) h ∧ mtk uU L h ∧ lk L h ∧ lst Nn Wn L r h ∧ dk L h ∧ psk L h ∧ z_kd h (L + 45) = 25 ∧ ysh (L + 46) h
/-- a card or none -/
def oc (L : Nat) (h : z_H) (o : Option Nat) : Option Cd → Prop
  | none => o = none
  | some cd => ∃ k, o = some k ∧ cdk L h k cd ∧ c_cok cd
/-- the acts before -/
def acR (L : Nat) (h : z_H) : List Sta → Option Nat → Sta → Prop
  | [], _, _ => True
  | s1 :: hs, o, s0 => ∃ a, o = some a ∧ fr L h a ∧ z_kd h a = 16 ∧ ((z_oi h a 1 = mI ∧ oc L h (z_or h a 2) (some s1.1) ∧ s1.2 = s0.2) ∨ ∃ s, s < 4 ∧ z_oi h a 1 = nI s ∧ oc L h (z_or h a 2) (s1.2 s) ∧ s1 = (s0.1, z_u s0.2 s (s1.2 s))) ∧ acR L h hs (z_or h a 0) s1
def imR (L : Nat) (h : z_H) (o : Option Nat) : Option Im → Prop
  | none => o = none
  | some im => ∃ k sh, o = some k ∧ fr L h k ∧ z_kd h k = 19 ∧ oc L h (z_or h k 0) (some im.1.1) ∧ (z_or h k 1 = some sh ∧ fr L h sh ∧ z_kd h sh = 5 ∧ z_ln h sh = 4 ∧ ∀ s, s < 4 → oc L h (z_ar h sh s) (im.1.2 s)) ∧ acR L h im.2.1 (z_or h k 2) im.1 ∧ z_oi h k 3 = nI im.2.1.length ∧ z_oi h k 4 = nI im.2.2.1 ∧ z_oi h k 5 = nI im.2.2.2
/-- the state, by the lister's fields, the tape and the shelves -/
def sV (L : Nat) (h : z_H) (oi : Nat → Int32) (or' : Nat → Option Nat) (tp : Nat → Int32) (sh : Nat → Option Nat) (σ : RSt) : Prop := (oi 1 = nI σ.1.2.1 ∧ σ.1.2.1 ≤ 400 ∧ ∀ i, i < σ.1.2.1 → tp i = nI (σ.1.1 i) ∧ σ.1.1 i < 256) ∧ oi 2 = σ.1.2.2 ∧ oc L h (or' 3) (some σ.2.1.1) ∧ (∀ s, s < 4 → oc L h (sh s) (σ.2.1.2 s)) ∧ acR L h σ.2.2.1 (or' 5) σ.2.1 ∧ oi 6 = nI σ.2.2.1.length ∧ (oi 7 = nI σ.2.2.2.1.1 ∧ oi 8 = nI σ.2.2.2.1.2) ∧ imR L h (or' 9) σ.2.2.2.2
def sT (L : Nat) (h : z_H) (σ : RSt) : Prop := sV L h (z_oi h L) (z_or h L) (z_ai h (L + 1)) (z_ar h (L + 15)) σ
def bs (L r : Nat) (h : z_H) : Prop := liB L h ∧ hps L r h ∧ inv vV L h ∧ L + 75 ≤ z_n h
def cI (L r : Nat) (h : z_H) (σ : RSt) : Prop := bs L r h ∧ sT L h σ
section C2
variable {V : CV} {L r c s : Nat} {h h' : z_H} {X : Nat → Prop} {σ : RSt}
theorem oc_ex (hI : inv V L h) (hX : ∀ a, X a → hl L a) (e : ex X c s h h') {o : Option Nat} : ∀ {m : Option Cd}, oc L h o m → oc L h' o m
  | none, hc => hc
  | some cd, ⟨k, k1, k2, k3⟩ => ⟨k, k1, cdk_ex hI hX e k2, k3⟩
theorem acR_ex (hI : inv V L h) (hX : ∀ a, X a → hl L a) (e : ex X c s h h') : ∀ (hs : List Sta) (o : Option Nat) (s0 : Sta), acR L h hs o s0 → acR L h' hs o s0
  | [], _, _, _ => trivial
  | s1 :: hs, o, s0, ⟨a, a1, a2, a3, a4, a5⟩ => by
    obtain ⟨f1, f2, -, f4, f5, -⟩ := ex_fr hI hX e a2
    have f5 := f5 (by rw [a3]; decide)
    refine ⟨a, a1, f1, by rw [f2]; exact a3, ?_, by rw [f5]; exact acR_ex hI hX e hs _ _ a5⟩
    rw [f4, f5]
    rcases a4 with ⟨b1, b2, b3⟩ | ⟨s, b1, b2, b3, b4⟩
    · exact Or.inl ⟨b1, oc_ex hI hX e b2, b3⟩
    · exact Or.inr ⟨s, b1, b2, oc_ex hI hX e b3, b4⟩
theorem acR_take (n : Nat) : ∀ (k : Nat) (hs : List Sta) (o : Option Nat) (s0 : Sta), acR L h hs o s0 → acR L h (hs.take k) o s0
  | 0, hs, o, s0, _ => by rw [List.take_zero]; exact trivial
  | k + 1, [], o, s0, _ => trivial
  | k + 1, s1 :: hs, o, s0, ⟨a, a1, a2, a3, a4, a5⟩ => by
    rw [List.take_succ_cons]
    exact ⟨a, a1, a2, a3, a4, acR_take n k hs _ _ a5⟩
theorem imR_ex (hI : inv V L h) (hX : ∀ a, X a → hl L a) (e : ex X c s h h') {o : Option Nat} : ∀ {m : Option Im}, imR L h o m → imR L h' o m
  | none, hc => hc
  | some im, ⟨k, sh, k1, k2, k3, k4, ⟨k5, k6, k7, k8, k9⟩, k10, k11, k12, k13⟩ => by
    obtain ⟨f1, f2, -, f4, f5, -⟩ := ex_fr hI hX e k2
    have f5 := f5 (by rw [k3]; decide)
    obtain ⟨g1, g2, g3, -, -, -, -, g8⟩ := ex_fr hI hX e k6
    refine ⟨k, sh, k1, f1, by rw [f2]; exact k3, by rw [f5]; exact oc_ex hI hX e k4, ⟨by rw [f5]; exact k5, g1, by rw [g2]; exact k7, by rw [g3]; exact k8, fun s hs => by rw [g8]; exact oc_ex hI hX e (k9 s hs)⟩, by rw [f5]; exact acR_ex hI hX e _ _ _ k10, by rw [f4]; exact k11, by rw [f4]; exact k12, by rw [f4]; exact k13⟩
theorem sV_ex (hI : inv V L h) (hX : ∀ a, X a → hl L a) (e : ex X c s h h') {oi : Nat → Int32} {or' : Nat → Option Nat} {tp : Nat → Int32} {sh : Nat → Option Nat} (hs : sV L h oi or' tp sh σ) : sV L h' oi or' tp sh σ := by
  obtain ⟨h1, h2, h3, h4, h5, h6, h7, h8⟩ := hs
  exact ⟨h1, h2, oc_ex hI hX e h3, fun s hs => oc_ex hI hX e (h4 s hs), acR_ex hI hX e _ _ _ h5, h6, h7, imR_ex hI hX e h8⟩
theorem liB_ex (hI : inv V L h) (hL : L + 75 ≤ z_n h) (e : ex X c s h h') (hX : ∀ a, X a → L + 16 ≤ a ∧ a < L + 75) (hb : liB L h) : liB L h' ∧ z_oi h' L = z_oi h L ∧ z_or h' L = z_or h L ∧ z_ai h' (L + 1) = z_ai h (L + 1) ∧ z_ar h' (L + 15) = z_ar h (L + 15) := by
  obtain ⟨b0, ⟨b1, b2, b3⟩, ⟨b4, b5, b6⟩, b7⟩ := hb
  have f0 := ex_hl hI hL e (x := L) (by unfold hl; omega) (fun q => by have := hX _ q; omega) (by omega)
  have f1 := ex_hl hI hL e (x := L + 1) (by unfold hl; omega) (fun q => by have := hX _ q; omega) (by omega)
  have f2 := ex_hl hI hL e (x := L + 15) (by unfold hl; omega) (fun q => by have := hX _ q; omega) (by omega)
  refine ⟨⟨by rw [f0.1]; exact b0, ⟨by rw [f0.2.2.2.1]; exact b1, by rw [f1.1]; exact b2, by rw [f1.2.1]; exact b3⟩, ⟨by rw [f0.2.2.2.1]; exact b4, by rw [f2.1]; exact b5, by rw [f2.2.1]; exact b6⟩, by rw [f0.2.2.2.1]; exact b7⟩, f0.2.2.1, f0.2.2.2.1, f1.2.2.2.2.1, f2.2.2.2.2.2.2⟩
theorem rs0_ex (hI : inv V L h) (hL : L + 75 ≤ z_n h) (e : ex X c s h h') (hX : ∀ a, L + 16 ≤ a → a < L + 21 → ¬ X a) (hb : rsh0 (L + 16) (L + 1) h) : rsh0 (L + 16) (L + 1) h' := by
  obtain ⟨b0, b1, b2, ⟨b3, b4, b5⟩, ⟨b6, b7, b8⟩, ⟨b9, b10, b11⟩, b12⟩ := hb
  have f0 := ex_hl hI hL e (x := L + 16) (by unfold hl; omega) (hX _ (by omega) (by omega)) (by omega)
  have k1 := e.2 (L + 1) (by omega)
  have k2 := e.2 (L + 16 + 2) (by omega)
  have k3 := e.2 (L + 16 + 3) (by omega)
  have k4 := e.2 (L + 16 + 4) (by omega)
  exact ⟨by rw [f0.1]; exact b0, by rw [k1.1]; exact b1, by rw [k1.2.1]; exact b2, ⟨by rw [f0.2.2.2.1]; exact b3, by rw [k2.1]; exact b4, by rw [k2.2.1]; exact b5⟩, ⟨by rw [f0.2.2.2.1]; exact b6, by rw [k3.1]; exact b7, by rw [k3.2.1]; exact b8⟩, ⟨by rw [f0.2.2.2.1]; exact b9, by rw [k4.1]; exact b10, by rw [k4.2.1]; exact b11⟩, b12⟩
theorem psk_ex (hI : inv V L h) (hL : L + 75 ≤ z_n h) (e : ex X c s h h') (hX : ∀ a, pX L a → ¬ X a) (hb : psk L h) : psk L h' := by
  obtain ⟨⟨b0, ⟨b1, b2, b3⟩, ⟨b4, b5, b6⟩, b7, b8, b9⟩, b10⟩ := hb
  have f0 := ex_hl hI hL e (x := L + 41) (by unfold hl; omega) (hX _ ⟨by omega, by omega⟩) (by omega)
  have f2 := ex_hl hI hL e (x := L + 43) (by unfold hl; omega) (hX _ ⟨by omega, by omega⟩) (by rw [show L + 43 = L + 41 + 2 by omega]; omega)
  have k1 := e.2 (L + 41 + 1) (by omega)
  have k2 := e.2 (L + 41 + 2) (by omega)
  have k3 := e.2 (L + 41 + 3) (by omega)
  exact ⟨⟨by rw [f0.1]; exact b0, ⟨by rw [f0.2.2.2.1]; exact b1, by rw [k1.1]; exact b2, by rw [k1.2.1]; exact b3⟩, ⟨by rw [f0.2.2.2.1]; exact b4, by rw [k2.1]; exact b5, by rw [k2.2.1]; exact b6⟩, by rw [f0.2.2.2.1]; exact b7, by rw [k3.1]; exact b8, by rw [k3.2.1]; exact b9⟩, by rw [f2.2.2.2.2.1]; exact b10⟩
theorem ysh_ex (hI : inv V L h) (hL : L + 75 ≤ z_n h) (e : ex X c s h h') (hX : ∀ a, L + 46 ≤ a → a < L + 48 → ¬ X a) (hb : ysh (L + 46) h) : ysh (L + 46) h' := by
  obtain ⟨b0, b1, b2, b3⟩ := hb
  have f0 := ex_hl hI hL e (x := L + 46) (by unfold hl; omega) (hX _ (by omega) (by omega)) (by omega)
  have k1 := e.2 (L + 46 + 1) (by omega)
  exact ⟨by rw [f0.1]; exact b0, by rw [f0.2.2.2.1]; exact b1, by rw [k1.1]; exact b2, by rw [k1.2.1]; exact b3⟩
/-- the helpers: one is told anew, the others stand -/
theorem hps_ex {r' : Nat} (hI : inv vV L h) (hL : L + 75 ≤ z_n h) (e : ex X c s h h') (hX : ∀ a, X a → hl L a) (hp : hps L r h)
    (h1 : (∀ a, L + 16 ≤ a → a < L + 21 → ¬ X a) ∨ rsh0 (L + 16) (L + 1) h') (h2 : (∀ a, mX L a → ¬ X a) ∨ mtk uU L h') (h3 : (r' = r ∧ ∀ a, lX L a → ¬ X a) ∨ lk L h' ∧ lst Nn Wn L r' h')
    (h4 : (∀ a, dX L a → ¬ X a) ∨ dk L h') (h5 : (∀ a, pX L a → ¬ X a) ∨ psk L h') (h6 : (∀ a, L + 46 ≤ a → a < L + 48 → ¬ X a) ∨ ysh (L + 46) h') : hps L r' h' := by
  obtain ⟨p1, p2, p3, p4, p5, p6, p7, p8⟩ := hp
  have q3 : lk L h' ∧ lst Nn Wn L r' h' := by
    rcases h3 with ⟨e1, c⟩ | c
    · subst e1
      have := lk_ex hI hL e c p3
      exact ⟨this.1, lst_km hI hX e this.2 p4⟩
    · exact c
  exact ⟨h1.elim (fun c => rs0_ex hI hL e c p1) id, h2.elim (fun c => mtk_ex hI hL e hX c p2) id, q3.1, q3.2, h4.elim (fun c => dk_ex hI hL hX e c p5) id, h5.elim (fun c => psk_ex hI hL e c p6) id, by rw [(e.2 (L + 45) (by omega)).1]; exact p7, h6.elim (fun c => ysh_ex hI hL e c p8) id⟩
/-- nothing of the lister's is written but perhaps its own three places, or the places behind -/
theorem bs_ex (hb : bs L r h) (hI' : inv vV L h') (e : ex X c s h h') (hX : ∀ a, X a → a = L ∨ a = L + 1 ∨ a = L + 15 ∨ (L + 48 ≤ a ∧ a < L + 75)) (hl' : liB L h') : bs L r h' := by
  obtain ⟨b1, b2, b3, b4⟩ := hb
  refine ⟨hl', ?_, hI', Nat.le_trans b4 e.1.1⟩
  exact hps_ex b3 b4 e (fun a ha => by have := hX a ha; unfold hl; omega) b2 (Or.inl (fun a _ _ q => by have := hX a q; omega)) (Or.inl (fun a m q => by have := hX a q; unfold mX at m; omega)) (Or.inl ⟨rfl, fun a m q => by have := hX a q; unfold lX at m; omega⟩) (Or.inl (fun a m q => by have := hX a q; unfold dX at m; omega)) (Or.inl (fun a m q => by have := hX a q; unfold pX at m; omega)) (Or.inl (fun a _ _ q => by have := hX a q; omega))
/-- what lies behind the lister is written -/
theorem cI_ref (hc : cI L r h σ) (hI' : inv vV L h') (e : ex X c s h h') (hX : ∀ a, X a → L + 48 ≤ a ∧ a < L + 75) : cI L r h' σ := by
  obtain ⟨hb, ht⟩ := hc
  obtain ⟨l1, l2, l3, l4, l5⟩ := liB_ex hb.2.2.1 hb.2.2.2 e (fun a ha => by have := hX a ha; omega) hb.1
  refine ⟨bs_ex hb hI' e (fun a ha => by have := hX a ha; omega) l1, ?_⟩
  unfold sT
  rw [l2, l3, l4, l5]
  exact sV_ex hb.2.2.1 (fun a ha => by have := hX a ha; unfold hl; omega) e ht
/-- a helper has worked -/
theorem cI_hlp {r' : Nat} (hc : cI L r h σ) (hI' : inv vV L h') (e : ex X c s h h') (hX : ∀ a, X a → L + 16 ≤ a ∧ a < L + 48) (hp : hps L r' h') : cI L r' h' σ := by
  obtain ⟨hb, ht⟩ := hc
  obtain ⟨l1, l2, l3, l4, l5⟩ := liB_ex hb.2.2.1 hb.2.2.2 e (fun a ha => by have := hX a ha; omega) hb.1
  refine ⟨⟨l1, hp, hI', Nat.le_trans hb.2.2.2 e.1.1⟩, ?_⟩
  unfold sT
  rw [l2, l3, l4, l5]
  exact sV_ex hb.2.2.1 (fun a ha => by have := hX a ha; unfold hl; omega) e ht
end C2
/-- the lister's own places -/
def cX (L a : Nat) : Prop := a = L ∨ a = L + 1 ∨ (L + 15 ≤ a ∧ a < L + 48)
theorem cX_hl {L a : Nat} (h : cX L a) : hl L a := by unfold cX at h; unfold hl; omega
/-- what a call costs; the lists are made once -/
def cst (r r' : Nat) (h h' : z_H) : Prop := r ≤ r' ∧ z_c h' + 5000 * (8 - r') ≤ z_c h + 5000 * (8 - r) + 40 ∧ z_s h' + 240000 * (8 - r') ≤ z_s h + 240000 * (8 - r) + 800
/-- a public call: it answers v, or throws by the code -/
def ans (x1 x2 : String) (v : Option Value) (code : Int32) : Option Value ⊕ String := if code = nI 0 then .inl v else .inr (if code = nI 1 then x1 else x2)
def pubC (G : z_G) (d : Nat) (κ : z_Key) (L r : Nat) (h : z_H) (As : List Value) (o : Option Value ⊕ String) (σ' : RSt) : Prop := ∃ h' r', cI L r' h' σ' ∧ cst r r' h h' ∧ ex (cX L) (z_c h' - z_c h) (z_s h' - z_s h) h h' ∧ z_Ev G d κ (.ref L :: As) h (o, h')
