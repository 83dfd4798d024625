/-! MATHEMATICS: fours, counted two ways -/
section B18
variable {S : Sc}
theorem rev3 (T : Nat → Nat → Nat → Nat) (m : Nat) : sm (fun a => sm (fun b => sm (fun c => T a b c) m) m) m = sm (fun c => sm (fun b => sm (fun a => T a b c) m) m) m := by
  rw [sm_cg (f := fun a => sm (fun b => sm (fun c => T a b c) m) m) (g := fun a => sm (fun c => sm (fun b => T a b c) m) m) (fun a _ => sm_sw (fun b c => T a b c) m m)]
  rw [sm_sw (fun a c => sm (fun b => T a b c) m) m m]
  exact sm_cg (fun c _ => sm_sw (fun a b => T a b c) m m)
theorem rev4 (T : Nat → Nat → Nat → Nat → Nat) (m : Nat) : sm (fun a => sm (fun b => sm (fun c => sm (fun d => T a b c d) m) m) m) m = sm (fun d => sm (fun c => sm (fun b => sm (fun a => T a b c d) m) m) m) m := by
  rw [sm_cg (f := fun a => sm (fun b => sm (fun c => sm (fun d => T a b c d) m) m) m) (g := fun a => sm (fun d => sm (fun b => sm (fun c => T a b c d) m) m) m) (fun a _ => by
    rw [sm_cg (f := fun b => sm (fun c => sm (fun d => T a b c d) m) m) (g := fun b => sm (fun d => sm (fun c => T a b c d) m) m) (fun b _ => sm_sw (fun c d => T a b c d) m m)]
    exact sm_sw (fun b d => sm (fun c => T a b c d) m) m m)]
  rw [sm_sw (fun a d => sm (fun b => sm (fun c => T a b c d) m) m) m m]
  exact sm_cg (fun d _ => rev3 (fun a b c => T a b c d) m)
def fK (S : Sc) (a b c d : Nat) : Nat := if a < b then (if b < c then (if c < d then (g_tri (S.2.2 a) (S.2.2 b) (S.2.2 c) && (g_tri (S.2.2 a) (S.2.2 b) (S.2.2 d) && g_tri (S.2.2 a) (S.2.2 c) (S.2.2 d) && g_tri (S.2.2 b) (S.2.2 c) (S.2.2 d))).toNat else 0) else 0) else 0
theorem gf_cube : g_fours S = sm (fun a => sm (fun b => sm (fun c => sm (fun d => fK S a b c d) S.2.1) S.2.1) S.2.1) S.2.1 := by
  have l1 : ∀ a b c, (if g_tri (S.2.2 a) (S.2.2 b) (S.2.2 c) then g_foursOf S a b c else 0) = sm (fun d => if c < d then (g_tri (S.2.2 a) (S.2.2 b) (S.2.2 c) && (g_tri (S.2.2 a) (S.2.2 b) (S.2.2 d) && g_tri (S.2.2 a) (S.2.2 c) (S.2.2 d) && g_tri (S.2.2 b) (S.2.2 c) (S.2.2 d))).toNat else 0) S.2.1 := fun a b c => by
    cases ht : g_tri (S.2.2 a) (S.2.2 b) (S.2.2 c)
    · rw [if_neg (by decide), sm_cg (g := fun _ => 0) (fun d _ => by rw [Bool.false_and]; split <;> rfl), sm_0]
    · rw [if_pos rfl]
      unfold g_foursOf
      rw [itr_sm (fun w => (g_tri (S.2.2 a) (S.2.2 b) (S.2.2 w) && g_tri (S.2.2 a) (S.2.2 c) (S.2.2 w) && g_tri (S.2.2 b) (S.2.2 c) (S.2.2 w)).toNat), Nat.zero_add, sm_from (fun w => (g_tri (S.2.2 a) (S.2.2 b) (S.2.2 w) && g_tri (S.2.2 a) (S.2.2 c) (S.2.2 w) && g_tri (S.2.2 b) (S.2.2 c) (S.2.2 w)).toNat)]
      refine sm_cg (fun d _ => ?_)
      by_cases q : c < d
      · rw [if_pos (show c + 1 ≤ d by omega), if_pos q, Bool.true_and]
      · rw [if_neg (show ¬ c + 1 ≤ d by omega), if_neg q]
  have l2 : ∀ a b n, itr (fun c n => if g_tri (S.2.2 a) (S.2.2 b) (S.2.2 c) then n + g_foursOf S a b c else n) n (b + 1) S.2.1 = n + sm (fun c => if b < c then sm (fun d => if c < d then (g_tri (S.2.2 a) (S.2.2 b) (S.2.2 c) && (g_tri (S.2.2 a) (S.2.2 b) (S.2.2 d) && g_tri (S.2.2 a) (S.2.2 c) (S.2.2 d) && g_tri (S.2.2 b) (S.2.2 c) (S.2.2 d))).toNat else 0) S.2.1 else 0) S.2.1 := fun a b n => by
    have e : (fun c n => if g_tri (S.2.2 a) (S.2.2 b) (S.2.2 c) then n + g_foursOf S a b c else n) = fun c n => n + (if g_tri (S.2.2 a) (S.2.2 b) (S.2.2 c) then g_foursOf S a b c else 0) := funext fun c => funext fun n => by split <;> rfl
    rw [e, itr_sm (fun c => if g_tri (S.2.2 a) (S.2.2 b) (S.2.2 c) then g_foursOf S a b c else 0), sm_from (fun c => if g_tri (S.2.2 a) (S.2.2 b) (S.2.2 c) then g_foursOf S a b c else 0)]
    congr 1
    refine sm_cg (fun c _ => ?_)
    by_cases q : b < c
    · rw [if_pos (show b + 1 ≤ c by omega), if_pos q, l1]
    · rw [if_neg (show ¬ b + 1 ≤ c by omega), if_neg q]
  have l3 : ∀ a n, itr (fun b n => itr (fun c n => if g_tri (S.2.2 a) (S.2.2 b) (S.2.2 c) then n + g_foursOf S a b c else n) n (b + 1) S.2.1) n (a + 1) S.2.1 = n + sm (fun b => sm (fun c => sm (fun d => fK S a b c d) S.2.1) S.2.1) S.2.1 := fun a n => by
    have e : (fun b n => itr (fun c n => if g_tri (S.2.2 a) (S.2.2 b) (S.2.2 c) then n + g_foursOf S a b c else n) n (b + 1) S.2.1) = fun b n => n + sm (fun c => if b < c then sm (fun d => if c < d then (g_tri (S.2.2 a) (S.2.2 b) (S.2.2 c) && (g_tri (S.2.2 a) (S.2.2 b) (S.2.2 d) && g_tri (S.2.2 a) (S.2.2 c) (S.2.2 d) && g_tri (S.2.2 b) (S.2.2 c) (S.2.2 d))).toNat else 0) S.2.1 else 0) S.2.1 := funext fun b => funext fun n => l2 a b n
    rw [e, itr_sm (fun b => sm (fun c => if b < c then sm (fun d => if c < d then (g_tri (S.2.2 a) (S.2.2 b) (S.2.2 c) && (g_tri (S.2.2 a) (S.2.2 b) (S.2.2 d) && g_tri (S.2.2 a) (S.2.2 c) (S.2.2 d) && g_tri (S.2.2 b) (S.2.2 c) (S.2.2 d))).toNat else 0) S.2.1 else 0) S.2.1), sm_from (fun b => sm (fun c => if b < c then sm (fun d => if c < d then (g_tri (S.2.2 a) (S.2.2 b) (S.2.2 c) && (g_tri (S.2.2 a) (S.2.2 b) (S.2.2 d) && g_tri (S.2.2 a) (S.2.2 c) (S.2.2 d) && g_tri (S.2.2 b) (S.2.2 c) (S.2.2 d))).toNat else 0) S.2.1 else 0) S.2.1)]
    congr 1
    refine sm_cg (fun b _ => ?_)
    by_cases q : a < b
    · rw [if_pos (show a + 1 ≤ b by omega)]
      refine sm_cg (fun c _ => ?_)
      rw [← sm_if]
      refine sm_cg (fun d _ => ?_)
      unfold fK
      rw [if_pos q]
    · rw [if_neg (show ¬ a + 1 ≤ b by omega), sm_cg (g := fun _ => 0) (fun c _ => by
        rw [sm_cg (g := fun _ => 0) (fun d _ => by unfold fK; rw [if_neg q]), sm_0]), sm_0]
  unfold g_fours
  have e : (fun x n => itr (fun y n => itr (fun z n => if g_tri (S.2.2 x) (S.2.2 y) (S.2.2 z) then n + g_foursOf S x y z else n) n (y + 1) S.2.1) n (x + 1) S.2.1) = fun a n => n + sm (fun b => sm (fun c => sm (fun d => fK S a b c d) S.2.1) S.2.1) S.2.1 := funext fun a => funext fun n => l3 a n
  rw [e]
  rfl
theorem cf_cube (hS : c_sok S) : c_fours S = sm (fun d => sm (fun c => sm (fun b => sm (fun a => fK S a b c d) S.2.1) S.2.1) S.2.1) S.2.1 := by
  have m12 := hS.2.1
  obtain ⟨g, eg⟩ : ∃ g : Nat → Nat, g = fun x => (decide (n_pc (c_met S x) = 6)).toNat := ⟨_, rfl⟩
  have e0 : c_fours S = sm (fun x => if n_pc x = 3 + 1 then g x else 0) (2 ^ S.2.1) := by
    unfold c_fours sm
    refine it_congr _ (fun x n _ => ?_)
    rw [eg]
    show _ = n + (if n_pc x = 4 then (decide (n_pc (c_met S x) = 6)).toNat else 0)
    by_cases c : n_pc x = 4
    · rw [if_pos c, if_pos c]
    · rw [if_neg c, if_neg c]; rfl
  rw [e0, pcs g 3 S.2.1 m12]
  refine sm_cg (fun d hd => ?_)
  rw [pcs (fun y => g (y ||| 2 ^ d)) 2 d (by omega), sm_to _ (show d ≤ S.2.1 by omega)]
  refine sm_cg (fun c hc => ?_)
  by_cases q1 : c < d
  · rw [if_pos q1, pcs (fun y => g (y ||| 2 ^ c ||| 2 ^ d)) 1 c (by omega), sm_to _ (show c ≤ S.2.1 by omega)]
    refine sm_cg (fun b hb => ?_)
    by_cases q2 : b < c
    · rw [if_pos q2, pcs (fun y => g (y ||| 2 ^ b ||| 2 ^ c ||| 2 ^ d)) 0 b (by omega), sm_to _ (show b ≤ S.2.1 by omega)]
      refine sm_cg (fun a ha => ?_)
      by_cases q3 : a < b
      · rw [if_pos q3, pcs0 (fun y => g (y ||| 2 ^ a ||| 2 ^ b ||| 2 ^ c ||| 2 ^ d)) (show a ≤ 12 by omega), Nat.zero_or]
        unfold fK
        rw [if_pos q3, if_pos q2, if_pos q1, eg]
        exact congrArg Bool.toNat (four_eq hS q3 q2 q1 hd)
      · rw [if_neg q3]; unfold fK; rw [if_neg q3]
    · rw [if_neg q2, sm_cg (g := fun _ => 0) (fun a _ => by
        unfold fK
        by_cases q3 : a < b
        · rw [if_pos q3, if_neg q2]
        · rw [if_neg q3]), sm_0]
  · rw [if_neg q1, sm_cg (g := fun _ => 0) (fun b _ => by
      rw [sm_cg (g := fun _ => 0) (fun a _ => by
        unfold fK
        by_cases q3 : a < b
        · rw [if_pos q3]
          by_cases q2 : b < c
          · rw [if_pos q2, if_neg q1]
          · rw [if_neg q2]
        · rw [if_neg q3]), sm_0]), sm_0]
theorem fours_eq (hS : c_sok S) : g_fours S = c_fours S := by
  rw [gf_cube, cf_cube hS]
  exact rev4 (fK S) S.2.1
end B18
