/-! MATHEMATICS: the lists of fewer points are parts of that of 7 -/
theorem GG_pre : (List.range 7).all (fun m => (GG (m + 1)).all (fun r => (GG m).contains r.dropLast)) = true := by decide +kernel
theorem pc_lo : ∀ t, t < 7 → n_pc t ≠ 3 := by decide +kernel
theorem lst_mk {n : Nat} (n3 : 3 ≤ n) (n7 : n ≤ 7) : ∀ m, m ≤ 7 → ∀ f, rwok n m f → (List.range m).map f ∈ GG m → f ∈ c_lst n m
  | 0, _, f, hr, _ => by
    rw [lst_0]
    have : f = fun _ => 0 := funext (fun l => hr.2.2.2 l (Nat.zero_le _))
    rw [this]
    exact List.mem_singleton.mpr rfl
  | m + 1, hm, f, hr, hg => by
    rw [lst_s, List.mem_flatMap]
    obtain ⟨r1, r2, r3, r4⟩ := hr
    have hr : rwok n (m + 1) f := ⟨r1, r2, r3, r4⟩
    have e : (List.range (m + 1)).map f = (List.range m).map f ++ [f m] := by
      rw [List.range_succ, List.map_append, List.map_cons, List.map_nil]
    have eg : (List.range m).map (z_u f m 0) = (List.range m).map f := List.map_congr_left (fun i hi => u_ne _ _ (by have := List.mem_range.mp hi; omega))
    refine ⟨z_u f m 0, lst_mk n3 n7 m (by omega) _ ⟨fun l hl => ?_, fun i j hij hj => ?_, fun i j hij hj => ?_, fun l hl => ?_⟩ ?_, l1_mem.mpr ⟨f m, ?_, (r1 m (by omega)).2, okS_i.mpr ⟨(r1 m (by omega)).1, fun i hi => ?_⟩, ?_, ?_⟩⟩
    · rw [u_ne _ _ (by omega)]; exact r1 l (by omega)
    · rw [u_ne _ _ (by omega), u_ne _ _ (by omega)]; exact r2 i j hij (by omega)
    · rw [u_ne _ _ (by omega), u_ne _ _ (by omega)]; exact r3 i j hij (by omega)
    · by_cases c : l = m
      · rw [c, u_eq]
      · rw [u_ne _ _ c]; exact r4 l (by omega)
    · rw [eg]
      have := List.all_eq_true.mp (List.all_eq_true.mp GG_pre m (List.mem_range.mpr (by omega))) _ hg
      rw [e, List.dropLast_concat] at this
      exact List.contains_iff_mem.mp this
    · unfold c_st
      by_cases c : m = 0
      · rw [if_pos c]
        apply Classical.byContradiction
        intro q
        exact pc_lo (f m) (by omega) (r1 m (by omega)).1
      · rw [if_neg c, u_ne _ _ (by omega)]
        exact r2 (m - 1) m (by omega) (by omega)
    · rw [u_ne _ _ (by omega)]; exact r3 i m hi (by omega)
    · have ef : z_u (z_u f m 0) m (f m) = f := by
        funext l
        by_cases c : l = m
        · rw [c, u_eq]
        · rw [u_ne _ _ c, u_ne _ _ c]
      rw [ef]
      refine grd (by omega) n7 hm hr (B := bB ((List.range (m + 1)).map f)) (fun i j hij hj => ?_) (List.all_eq_true.mp (List.all_eq_true.mp gck_t (m + 1) (List.mem_range.mpr (by omega))) _ hg)
      unfold bB
      by_cases c : (List.range (m + 1)).map f = [7, 56]
      · rw [if_pos c]
        have hlen := congrArg List.length c
        rw [List.length_map, List.length_range] at hlen
        have hm1 : m = 1 := by
          have : m + 1 = 2 := hlen
          omega
        subst hm1
        have e0 : f 0 = 7 := by
          have := congrArg (fun l => l[0]?) c
          simpa using this
        have e1 : f 1 = 56 := by
          have := congrArg (fun l => l[1]?) c
          simpa using this
        have ei : i = 0 := by omega
        have ej : j = 1 := by omega
        rw [ei, ej, e0, e1]
        decide
      · rw [if_neg c]
        have := r3 i j hij hj
        omega
    · funext l
      by_cases c : l = m
      · rw [c, u_eq]
      · rw [u_ne _ _ c, u_ne _ _ c]
def wiF (n m : Nat) (f : Nat → Nat) : Bool := !c_any (fun j => !decide (f j >>> n = 0)) m
theorem wiF_i {n m : Nat} {f : Nat → Nat} : wiF n m f = true ↔ ∀ j, j < m → f j < 2 ^ n := by
  unfold wiF
  rw [Bool.not_eq_true', any_fiff]
  constructor
  · intro h j hj
    have := h j hj
    rw [Bool.not_eq_false', decide_eq_true_iff, Nat.shiftRight_eq_div_pow] at this
    rcases Nat.div_eq_zero_iff.mp this with q | q
    · exact absurd q (Nat.pos_iff_ne_zero.mp (Nat.pow_pos (by decide)))
    · exact q
  · intro h j hj
    rw [Bool.not_eq_false', decide_eq_true_iff, Nat.shiftRight_eq_div_pow]
    exact Nat.div_eq_of_lt (h j hj)
theorem XX_GG : (List.range 8).all (fun m => (XX m).all (fun r => !(r.all (fun x => decide (x < 64))) || (GG m).contains r)) = true := by decide +kernel
theorem lst_fil {n m : Nat} (n3 : 3 ≤ n) (n7 : n ≤ 7) (hm : m ≤ 7) : c_lst n m = (c_lst 7 m).filter (wiF n m) := by
  by_cases e : n = 7
  · subst e
    rw [List.filter_eq_self.mpr]
    intro f hf
    exact wiF_i.mpr (fun j hj => ((lst_ok 7 m f hf).1 j hj).2)
  refine sr_eq (R := lx) (fun x y => lx_as) (lst_pw n m) (List.Pairwise.filter _ (lst_pw 7 m)) (fun f => ?_)
  rw [List.mem_filter]
  constructor
  · intro h
    have hr := lst_ok n m f h
    have hg := lst_GN n3 (by omega) m hm f h
    have hr7 : rwok 7 m f := ⟨fun l hl => ⟨(hr.1 l hl).1, Nat.lt_of_lt_of_le (hr.1 l hl).2 (Nat.pow_le_pow_right (by decide) n7)⟩, hr.2⟩
    exact ⟨lst_mk (by decide) (by decide) m hm f hr7 hg, wiF_i.mpr (fun j hj => (hr.1 j hj).2)⟩
  · rintro ⟨h, hw⟩
    have hw := wiF_i.mp hw
    have hr := lst_ok 7 m f h
    have hx := lst_X m hm f h
    have c := List.all_eq_true.mp (List.all_eq_true.mp XX_GG m (List.mem_range.mpr (by omega))) _ hx
    have c0 : (((List.range m).map f).all (fun x => decide (x < 64))) = true := by
      rw [List.all_eq_true]
      intro x hx
      obtain ⟨i, i1, i2⟩ := List.mem_map.mp hx
      rw [← i2]
      exact decide_eq_true (Nat.lt_of_lt_of_le (hw i (List.mem_range.mp i1)) (Nat.pow_le_pow_right (by decide) (by omega : n ≤ 6)))
    rw [c0, Bool.not_true, Bool.false_or] at c
    exact lst_mk n3 n7 m hm f ⟨fun l hl => ⟨(hr.1 l hl).1, hw l hl⟩, hr.2⟩ (List.contains_iff_mem.mp c)
theorem lst_hB (n m : Nat) (n3 : 3 ≤ n) (n7 : n ≤ 7) (hm : m ≤ 7) : (c_lst n m).length ≤ 3 := by
  rw [lst_fil n3 n7 hm]
  exact Nat.le_trans (List.length_filter_le _ _) (Nat.le_trans (lst_len hm) (XX_len m (by omega)))
/-! the class's tables of the lists -/
def Nn (m : Nat) : Nat := (c_lst 7 m).length
def rwn (m k : Nat) : Nat → Nat := ((c_lst 7 m)[k]?).getD (fun _ => 0)
def Wn (m i : Nat) : Nat := rwn m (i / m) (i % m)
theorem Wn_at {m k j : Nat} (hj : j < m) : Wn m (k * m + j) = rwn m k j := by
  unfold Wn
  rw [Nat.mul_comm k m, Nat.mul_add_div (by omega), Nat.div_eq_of_lt hj, Nat.add_zero, Nat.mul_add_mod, Nat.mod_eq_of_lt hj]
theorem rwn_mem {m k : Nat} (hk : k < Nn m) : rwn m k ∈ c_lst 7 m := by
  unfold rwn
  have : k < (c_lst 7 m).length := hk
  rw [List.getElem?_eq_getElem this]
  exact List.getElem_mem this
theorem Nn_le {m : Nat} (hm : m < 8) : Nn m ≤ 3 := Nat.le_trans (lst_len (by omega)) (XX_len m hm)
theorem vN_n : vN Nn Wn := fun m hm => ⟨Nat.le_trans (Nn_le hm) (by decide), fun i hi => by
  have m0 : 0 < m := by
    apply Nat.pos_of_ne_zero
    intro e
    subst e
    rw [Nat.zero_mul] at hi
    exact absurd hi (Nat.not_lt_zero _)
  have hk : i / m < Nn m := (Nat.div_lt_iff_lt_mul m0).mpr (by rw [Nat.mul_comm]; exact hi)
  exact ((lst_ok 7 m _ (rwn_mem hk)).1 (i % m) (Nat.mod_lt _ m0)).2⟩
theorem wit_n {n m k : Nat} : g_wit Wn n m k = wiF n m (rwn m k) := by
  unfold g_wit wiF
  congr 1
  exact any_cg (fun j hj => by rw [Wn_at hj])
theorem lid_l {α : Type} (p : α → Bool) (d : α) (l : List α) : ∀ j, j ≤ l.length → it (fun k s => s + (p (l[k]?.getD d)).toNat) 0 j = ((l.take j).filter p).length := by
  intro j
  induction j with
  | zero => intro _; rw [List.take_zero]; rfl
  | succ j ih =>
    intro hj
    show it _ 0 j + _ = _
    rw [ih (by omega), List.take_succ, List.filter_append, List.length_append, List.getElem?_eq_getElem (by omega : j < l.length)]
    congr 1
    show (p l[j]).toNat = (([l[j]] : List α).filter p).length
    cases e : p l[j]
    · rw [List.filter_cons_of_neg (by rw [e]; decide)]; rfl
    · rw [List.filter_cons_of_pos e]; rfl
theorem lid_n {n m : Nat} (n3 : 3 ≤ n) (n7 : n ≤ 7) (hm : m ≤ 7) : g_lid Nn Wn n m = (c_lst n m).length := by
  rw [lst_fil n3 n7 hm]
  unfold g_lid
  have := lid_l (wiF n m) (fun _ => 0) (c_lst 7 m) (c_lst 7 m).length (Nat.le_refl _)
  rw [List.take_length] at this
  rw [← this]
  show it (fun k s => s + (g_wit Wn n m k).toNat) 0 (c_lst 7 m).length = _
  congr 1
  funext k s
  rw [wit_n]
  rfl
theorem sta_l {n m : Nat} (i : Int32) : ∀ r k s, k + r = Nn m → s + (((c_lst 7 m).drop k).filter (wiF n m)).length ≤ 200 → (∀ f g, (((c_lst 7 m).drop k).filter (wiF n m))[f]? = some g → i = nI (s + f) → ∃ k', k' < Nn m ∧ rwn m k' = g ∧ g_sta Wn n m i r k s = nI (k' * m)) ∧ ((∀ f, f < (((c_lst 7 m).drop k).filter (wiF n m)).length → i ≠ nI (s + f)) → g_sta Wn n m i r k s = mI) := by
  intro r
  induction r with
  | zero =>
    intro k s e _
    have : (c_lst 7 m).drop k = [] := List.drop_eq_nil_of_le (by show Nn m ≤ k; omega)
    rw [this]
    exact ⟨fun f g h => (by simp at h), fun _ => rfl⟩
  | succ r ih =>
    intro k s e hb
    have hk : k < (c_lst 7 m).length := by show k < Nn m; omega
    have hd : (c_lst 7 m).drop k = rwn m k :: (c_lst 7 m).drop (k + 1) := by
      rw [List.drop_eq_getElem_cons hk]
      unfold rwn
      rw [List.getElem?_eq_getElem hk]
      rfl
    have eS : g_sta Wn n m i (r + 1) k s = if g_wit Wn n m k then (if nI s = i then nI (k * m) else g_sta Wn n m i r (k + 1) (s + 1)) else g_sta Wn n m i r (k + 1) s := rfl
    rw [eS, wit_n]
    rw [hd] at hb ⊢
    cases w : wiF n m (rwn m k)
    · rw [List.filter_cons_of_neg (by rw [w]; decide)] at hb ⊢
      rw [if_neg (by decide)]
      exact ih (k + 1) s (by omega) hb
    · rw [List.filter_cons_of_pos w, List.length_cons] at hb
      rw [List.filter_cons_of_pos w, if_pos rfl]
      by_cases c : nI s = i
      · rw [if_pos c]
        refine ⟨fun f g hf hi => ?_, fun h => absurd c.symm (h 0 (Nat.succ_pos _))⟩
        have hl : f < (((c_lst 7 m).drop (k + 1)).filter (wiF n m)).length + 1 := by
          have := (List.getElem?_eq_some_iff.mp hf).1
          simpa using this
        have := nI_ij (by omega) (by omega) (c.trans hi)
        have f0 : f = 0 := by omega
        subst f0
        rw [List.getElem?_cons_zero, Option.some.injEq] at hf
        exact ⟨k, hk, hf, rfl⟩
      · rw [if_neg c]
        obtain ⟨ih1, ih2⟩ := ih (k + 1) (s + 1) (by omega) (by omega)
        refine ⟨fun f g hf hi => ?_, fun h => ih2 (fun f hf => ?_)⟩
        · cases f with
          | zero => exact absurd hi.symm c
          | succ f =>
            rw [List.getElem?_cons_succ] at hf
            exact ih1 f g hf (by rw [hi]; congr 1; omega)
        · rw [show s + 1 + f = s + (f + 1) by omega]
          exact h (f + 1) (Nat.succ_lt_succ hf)
theorem sta_n {n m : Nat} (n3 : 3 ≤ n) (n7 : n ≤ 7) (hm : m ≤ 7) (i : Int32) : (∀ f g, (c_lst n m)[f]? = some g → i = nI f → ∃ k', k' < Nn m ∧ rwn m k' = g ∧ g_sta Wn n m i (Nn m) 0 0 = nI (k' * m)) ∧ ((∀ f, f < (c_lst n m).length → i ≠ nI f) → g_sta Wn n m i (Nn m) 0 0 = mI) := by
  have hb := lst_hB n m n3 n7 hm
  have := sta_l (n := n) (m := m) i (Nn m) 0 0 (Nat.zero_add _) (by rw [List.drop_zero, ← lst_fil n3 n7 hm]; omega)
  rw [List.drop_zero, ← lst_fil n3 n7 hm] at this
  exact ⟨fun f g hf hi => this.1 f g hf (by rw [Nat.zero_add]; exact hi), fun h => this.2 (fun f hf => by rw [Nat.zero_add]; exact h f hf)⟩
