/-! the other questions -/
def fct : Nat → Nat
  | 0 => 1
  | k + 1 => (k + 1) * fct k
theorem fm_len {α β : Type} (g : α → List β) (c : Nat) : ∀ L : List α, (∀ x ∈ L, (g x).length = c) → (L.flatMap g).length = L.length * c := by
  intro L
  induction L with
  | nil => intro _; simp
  | cons x L ih =>
    intro hx
    rw [List.flatMap_cons, List.length_append, hx x List.mem_cons_self, ih (fun y hy => hx y (List.mem_cons_of_mem _ hy)), List.length_cons, Nat.succ_mul, Nat.add_comm]
theorem al_len : ∀ k p ρ f, (al p k ρ f).length = fct k := by
  intro k
  induction k with
  | zero => intro p ρ f; rfl
  | succ k ih =>
    intro p ρ f
    unfold al fct
    rw [fm_len _ (fct k) _ (fun i _ => ih _ _ _), List.length_range]
theorem pms_len (n : Nat) : (pms n).length = fct n := al_len n 0 _ _
theorem fct_31 : ∀ n, n ≤ 8 → fct n ≤ 40320 := by decide
theorem syA_cn (S : Sc) : (c_syA S).1 ≤ fct S.1 := by
  have key : ∀ (L : List (Nat → Nat)) (a : Nat × (Nat → Nat)), (L.foldl (fun a N => c_syF S N a) a).1 ≤ a.1 + L.length := by
    intro L
    induction L with
    | nil => intro a; exact Nat.le_refl _
    | cons N L ih =>
      intro a
      rw [List.foldl_cons, List.length_cons]
      have h1 := ih (c_syF S N a)
      have h2 : (c_syF S N a).1 ≤ a.1 + 1 := by
        unfold c_syF
        split
        · exact Nat.le_refl _
        · exact Nat.le_succ _
      omega
  have h := key (pms S.1) (0, fun _ => 0)
  rw [pms_len] at h
  unfold c_syA
  have e0 : ((0, fun _ => 0) : Nat × (Nat → Nat)).1 = 0 := rfl
  omega
theorem syA_c {S : Sc} (hn : S.1 ≤ 8) : (c_syA S).1 < 2 ^ 31 := by
  have h1 := syA_cn S
  have h2 := fct_31 S.1 hn
  omega
section DL
variable {G : z_G} {d : Nat} {h : z_H} {M : Nat} {F : Nat → Int32} {A : Nat → Nat → Int32} {σ : RSt}
theorem q_poi {κ : z_Key} {As : List Value} {v c : Int32} (h5 : r_nm (A 5)) (he : z_Ev G d κ (.ref M :: As) (z_rs h M F A) (.inl (some (.int v)), z_poi (z_rs h M F A) M 0 c)) : qR G d κ M h As F A v c := by
  rw [rs_poi] at he
  exact ⟨z_u F 0 c, A, agr_rf h5, agrF_u agrF_rf (by decide) _, u_eq _ _ _, he⟩
theorem q_A {κ : z_Key} {As : List Value} {v c : Int32} {J : List Nat} (hJ : ∀ j, j ∈ J → j ∈ sJ) (he : ∃ A', agr J A A' ∧ z_Ev G d κ (.ref M :: As) (z_rs h M F A) (.inl (some (.int v)), z_rs h M (z_u F 0 c) A')) : qR G d κ M h As F A v c := by
  obtain ⟨A', a1, e⟩ := he
  exact ⟨z_u F 0 c, A', agr_mono a1 hJ, agrF_u agrF_rf (by decide) _, u_eq _ _ _, e⟩
theorem q_AF {κ : z_Key} {As : List Value} {v c : Int32} {J K : List Nat} (hJ : ∀ j, j ∈ J → j ∈ sJ) (hK : ∀ j, j ∈ K → j ∈ sK) (he : ∃ F' A', agr J A A' ∧ agrF K F F' ∧ F' 0 = c ∧ z_Ev G d κ (.ref M :: As) (z_rs h M F A) (.inl (some (.int v)), z_rs h M F' A')) : qR G d κ M h As F A v c := by
  obtain ⟨F', A', a1, a2, a3, e⟩ := he
  exact ⟨F', A', agr_mono a1 hJ, agrF_mono a2 hK, a3, e⟩
theorem e_thrownQ (hM : z_sh M h) : z_Ev G (d + 4) k_X12_thrown [.ref M] (z_rs h M F A) (.inl (some (.int (F 0))), z_rs h M F A) := by
  have e := e_thrown (G := G) (d := d) (h := z_rs h M F A) (M := M) (sh_kd hM)
  rw [rs_oi] at e
  exact e
theorem e_faultQ (hM : z_sh M h) (hI : rI F A σ) : qR G (d + 4) k_X12_fault M h [] F A σ.1.2.2 (nI 0) := by
  have e := e_fault (G := G) (d := d) (h := z_rs h M F A) (M := M) (sh_kd hM)
  rw [show z_oi (z_poi (z_rs h M F A) M 0 0) M 14 = σ.1.2.2 by rw [rs_poi, rs_oi, u_ne _ _ (by decide)]; exact hI.2.2.1] at e
  exact q_poi hI.1 e
theorem e_lineQ (hM : z_sh M h) (hI : rI F A σ) (a : Int32) : qR G (d + 5) k_X12_line M h [.int a] F A (c_line σ.2.1.1.1 a).1 (c_line σ.2.1.1.1 a).2 := by
  obtain ⟨hR, hS⟩ := rho_ok hI.2.2.2.1
  exact q_poi hI.1 (e_line (d := d) (at_rs hM hR hS) a)
theorem e_joinedQ (hM : z_sh M h) (hI : rI F A σ) (a b : Int32) : qR G (d + 5) k_X12_joined M h [.int a, .int b] F A (c_joined σ.2.1.1.1 a b).1 (c_joined σ.2.1.1.1 a b).2 := by
  obtain ⟨hR, hS⟩ := rho_ok hI.2.2.2.1
  exact q_poi hI.1 (e_joined (d := d) (at_rs hM hR hS) a b)
theorem e_meetQ (hM : z_sh M h) (hI : rI F A σ) (a b : Int32) : qR G (d + 5) k_X12_meet M h [.int a, .int b] F A (c_meet σ.2.1.1.1 a b).1 (c_meet σ.2.1.1.1 a b).2 := by
  obtain ⟨hR, hS⟩ := rho_ok hI.2.2.2.1
  exact q_poi hI.1 (e_meet (d := d) (at_rs hM hR hS) a b)
theorem e_farQ (hM : z_sh M h) (hI : rI F A σ) (a b : Int32) : qR G (d + 5) k_X12_far M h [.int a, .int b] F A (c_far σ.2.1.1.1 a b).1 (c_far σ.2.1.1.1 a b).2 := by
  obtain ⟨hR, hS⟩ := rho_ok hI.2.2.2.1
  exact q_poi hI.1 (e_far (d := d) (at_rs hM hR hS) a b)
theorem e_symmetryQ (hM : z_sh M h) (hI : rI F A σ) (i p : Int32) : qR G (d + 6) k_X12_symmetry M h [.int i, .int p] F A (c_symmetry σ.2.1.1.1 i p).1 (c_symmetry σ.2.1.1.1 i p).2 := by
  obtain ⟨hR, hS⟩ := rho_ok hI.2.2.2.1
  exact q_A (by decide) (e_symmetry (d := d) hM hR hS (sok_w hI.2.2.2.1.1.1) hI.1 i p)
theorem e_normalQ (hM : z_sh M h) (hI : rI F A σ) (i : Int32) : qR G (d + 7) k_X12_normal M h [.int i] F A (c_normal σ.2.1.1.1 (A 10) (A 11) i).1 (c_normal σ.2.1.1.1 (A 10) (A 11) i).2 := by
  obtain ⟨hR, hS⟩ := rho_ok hI.2.2.2.1
  exact q_A (by decide) (e_normal (d := d) hM hR hS (sok_w hI.2.2.2.1.1.1) hI.1 i)
theorem e_dualQ (hM : z_sh M h) (hI : rI F A σ) (i : Int32) : qR G (d + 5) k_X12_dual M h [.int i] F A (c_dualI σ.2.1.1.1 i).1 (c_dualI σ.2.1.1.1 i).2 := by
  obtain ⟨hR, hS⟩ := rho_ok hI.2.2.2.1
  exact q_A (by decide) (e_dual (d := d) hM hR hS hI.1 i)
theorem e_shelfQ (hM : z_sh M h) (hI : rI F A σ) (s w : Int32) : qR G (d + 16) k_X12_shelf M h [.int s, .int w] F A (c_shelf σ.2.1.1.1 (A 1) (A 12) (A 5) s w).1 (c_shelf σ.2.1.1.1 (A 1) (A 12) (A 5) s w).2 := by
  obtain ⟨hR, hS⟩ := rho_ok hI.2.2.2.1
  exact q_AF (by decide) (by decide) (e_shelf (d := d) hM hR hS hI.1 (rho_shs hI.2.2.2.1) s w)
theorem e_wayQ (hM : z_sh M h) (hI : rI F A σ) (s p : Int32) : qR G (d + 16) k_X12_way M h [.int s, .int p] F A (c_way σ.2.1.1.1 (A 1) (A 12) (A 5) s p).1 (c_way σ.2.1.1.1 (A 1) (A 12) (A 5) s p).2 := by
  obtain ⟨hR, hS⟩ := rho_ok hI.2.2.2.1
  exact q_AF (by decide) (by decide) (e_way (d := d) hM hR hS hI.1 (rho_shs hI.2.2.2.1) s p)
theorem e_setQ (hM : z_sh M h) (hI : rI F A σ) (w : Int32) : qR G (d + 5) k_X12_set M h [.int w] F A (c_set σ.2.1.1.1 w).1 (c_set σ.2.1.1.1 w).2 := by
  obtain ⟨hR, hS⟩ := rho_ok hI.2.2.2.1
  obtain ⟨F', a1, a2, e⟩ := e_setP (G := G) (d := d) (F := F) hM hR hS w
  exact ⟨F', A, agr_rf hI.1, agrF_mono a1 (by decide), a2, e⟩
theorem e_gameQ (hM : z_sh M h) (hI : rI F A σ) (hG : c_gp σ.2.1.1.1 (c_gv σ.2.1.1.1 (A 21)) < σ.2.1.1.1.1) (w : Int32) : qR G (d + 7) k_X12_game M h [.int w] F A (c_game σ.2.1.1.1 (A 21) w).1 (c_game σ.2.1.1.1 (A 21) w).2 := by
  obtain ⟨hR, hS⟩ := rho_ok hI.2.2.2.1
  exact q_AF (by decide) (by decide) (e_gameP (d := d) hM hR hS hG hI.1 w)
theorem e_squareQ (hM : z_sh M h) (hI : rI F A σ) (g p : Int32) : qR G (d + 15) k_X12_square M h [.int g, .int p] F A (c_square σ.2.1.1.1 (A 17) (A 16) g p).1 (c_square σ.2.1.1.1 (A 17) (A 16) g p).2 := by
  obtain ⟨hR, hS⟩ := rho_ok hI.2.2.2.1
  exact q_AF (by decide) (by decide) (e_squareP (d := d) hM hR hS hI.1 g p)
theorem e_planeQ (hM : z_sh M h) (hI : rI F A σ) (g p : Int32) : qR G (d + 15) k_X12_plane M h [.int g, .int p] F A (c_plane σ.2.1.1.1 (A 17) (A 16) g p).1 (c_plane σ.2.1.1.1 (A 17) (A 16) g p).2 := by
  obtain ⟨hR, hS⟩ := rho_ok hI.2.2.2.1
  exact q_AF (by decide) (by decide) (e_planeP (d := d) hM hR hS hI.1 g p)
theorem e_yearsQ (hM : z_sh M h) (hI : rI F A σ) (s n w : Int32) : qR G (d + 6) k_X12_years M h [.int s, .int n, .int w] F A (c_years σ.2.1.1 s n w).1 (c_years σ.2.1.1 s n w).2 :=
  q_AF (by decide) (by decide) (e_yearsP (d := d) hM hI s n w)
theorem e_pointQ (hM : z_sh M h) (hI : rI F A σ) (p w : Int32) : qR G (d + 7) k_X12_point M h [.int p, .int w] F A (c_point σ.2.1.1.1 (A 1) p w).1 (c_point σ.2.1.1.1 (A 1) p w).2 := by
  obtain ⟨hR, hS⟩ := rho_ok hI.2.2.2.1
  have hW := sok_w hI.2.2.2.1.1.1
  have hn8 := hI.2.2.2.1.1.1.1
  obtain ⟨S, eS⟩ : ∃ S, S = σ.2.1.1.1 := ⟨_, rfl⟩
  rw [← eS] at hS hW hn8 ⊢
  have hA := at_rs (F := z_u F 0 (nI 0)) hM hR hS
  have ef := e_fail' (G := G) (d := d + 2) (F := z_u F 0 (nI 0)) (A := A) (k := nI 1) hM
  rw [u_u] at ef
  cases hp : c_in p S.1
  · rw [show c_point S (A 1) p w = (nI 0, nI 1) by unfold c_point; rw [hp]; rfl]
    refine ⟨z_u F 0 (nI 1), A, agr_rf hI.1, agrF_u agrF_rf (by decide) _, u_eq _ _ _, en_X12_point (b_X12_point_0 z_puCV ⟨sh_kd hM, ?_⟩)⟩
    rw [rs_poi, t_isP hA, hp, if_pos (by rfl)]
    exact ⟨sh_kd hM, hM, sh_kd hM, _, _, ef, rfl⟩
  · obtain ⟨a, ha, ha2, rfl⟩ := c_in_t hp
    have fr : ∀ (v : Int32), c_point S (A 1) (nI a) w = (v, nI 0) → (z_J G (d + 7) (m_X12_point z_puC) (.inl (some (.int v)), z_rs h M (z_u F 0 (nI 0)) A) 0 [some (.ref M), some (.int (nI a)), some (.int w)] [] (z_rs h M F A)) → qR G (d + 7) k_X12_point M h [.int (nI a), .int w] F A (c_point S (A 1) (nI a) w).1 (c_point S (A 1) (nI a) w).2 := fun v e1 hJ => by
      rw [e1]
      exact ⟨z_u F 0 (nI 0), A, agr_rf hI.1, agrF_u agrF_rf (by decide) _, u_eq _ _ _, en_X12_point hJ⟩
    by_cases w0 : w = nI 0
    · refine fr _ (by unfold c_point; rw [hp, if_pos rfl, if_pos w0]) (b_X12_point_0 z_puCV ⟨sh_kd hM, ?_⟩)
      rw [rs_poi, t_isP hA, hp, if_neg (by decide), if_pos w0, nI_clamp ha2]
      exact ⟨sh_kd hM, hM, sh_kd hM, t_son hA (by omega), by rw [t_on hA (by omega)]⟩
    by_cases w1 : w = nI 1
    · refine fr _ (by unfold c_point; rw [hp, if_pos rfl, if_neg w0, if_pos w1]) (b_X12_point_0 z_puCV ⟨sh_kd hM, ?_⟩)
      rw [rs_poi, t_isP hA, hp, if_neg (by decide), if_neg w0, if_pos w1, show z_or (z_rs h M (z_u F 0 (nI 0)) A) M 1 = some (M + 1) from (sh_now hM).1, z_rcs, nI_add, nI_clamp ha2, nI_clamp (by omega), rs_ai _ _ _ _ (by omega) (by omega)]
      exact ⟨sh_kd hM, hM, sh_kd hM, (sh_now hM).2.1, by show vp_in (nI (14 + a)) (z_ln h (M + 1)); rw [(sh_now hM).2.2]; exact vp_in_nI (by omega) (by omega), rfl⟩
    by_cases w2 : w = nI 2
    · refine fr _ (by unfold c_point; rw [hp, if_pos rfl, if_neg w0, if_neg w1, if_pos w2]) (b_X12_point_0 z_puCV ⟨sh_kd hM, ?_⟩)
      rw [rs_poi, t_isP hA, hp, if_neg (by decide), if_neg w0, if_neg w1, if_pos w2, show z_or (z_rs h M (z_u F 0 (nI 0)) A) M 1 = some (M + 1) from (sh_now hM).1, z_rcs, nI_add, nI_clamp ha2, nI_clamp (by omega), rs_ai _ _ _ _ (by omega) (by omega)]
      exact ⟨sh_kd hM, hM, sh_kd hM, (sh_now hM).2.1, by show vp_in (nI (22 + a)) (z_ln h (M + 1)); rw [(sh_now hM).2.2]; exact vp_in_nI (by omega) (by omega), rfl⟩
    by_cases w3 : w = nI 3
    · obtain ⟨A1, a1, a7, e1⟩ := e_symmetries (G := G) (d := d) (F := z_u F 0 (nI 0)) hM hR hS hW hI.1
      have hc := (c_syA S).1
      have hlt : (c_syA S).1 < 2 ^ 31 := syA_c hn8.2
      rw [show c_point S (A 1) (nI a) w = (if 0 < (c_syA S).1 then nI (n_tz ((c_syA S).2 a)) else nI a, nI 0) by unfold c_point; rw [hp, if_pos rfl, if_neg w0, if_neg w1, if_neg w2, if_pos w3, nI_clamp ha2]]
      refine ⟨z_u F 0 (nI 0), A1, agr_mono a1 (by decide), agrF_u agrF_rf (by decide) _, u_eq _ _ _, en_X12_point (b_X12_point_0 z_puCV ⟨sh_kd hM, ?_⟩)⟩
      rw [rs_poi, t_isP hA, hp, if_neg (by decide), if_neg w0, if_neg w1, if_neg w2, if_pos w3]
      refine ⟨sh_kd hM, hM, sh_kd hM, _, _, e1, ?_⟩
      have hb := syA_lt hn8.2 a (by omega)
      by_cases q : 0 < (c_syA S).1
      · rw [if_pos (nI_lt q hlt), if_pos q, show z_or (z_rs h M (z_u F 0 (nI 0)) A1) M 18 = some (M + 7) from (sh_becomes hM).1, z_rcs, nI_clamp ha2, rs_ai _ _ _ _ (by omega) (by omega), a7, arrI_in (by omega)]
        exact ⟨sh_kd hM, (sh_becomes hM).2.1, by show vp_in (nI a) (z_ln h (M + 7)); rw [(sh_becomes hM).2.2]; exact vp_in_nI (by omega) (by omega), t_stz (by omega), by rw [t_tz (by omega)]⟩
      · rw [if_neg (fun e => q ((nI_ltI (by omega) hlt).mp e)), if_neg q]
    by_cases w4 : w = nI 4
    · refine fr _ (by unfold c_point; rw [hp, if_pos rfl, if_neg w0, if_neg w1, if_neg w2, if_neg w3, if_pos w4]) (b_X12_point_0 z_puCV ⟨sh_kd hM, ?_⟩)
      rw [rs_poi, t_isP hA, hp, if_neg (by decide), if_neg w0, if_neg w1, if_neg w2, if_neg w3, if_pos w4, nI_clamp ha2]
      have hb : c_piece S a < 256 := c_piece_lt hA (by omega) _
      exact ⟨sh_kd hM, hM, sh_kd hM, _, _, e_pieceOf hA (by omega), t_stz (by omega), by rw [t_tz (by omega)]⟩
    · rw [show c_point S (A 1) (nI a) w = (nI 0, nI 1) by unfold c_point; rw [hp, if_pos rfl, if_neg w0, if_neg w1, if_neg w2, if_neg w3, if_neg w4]]
      refine ⟨z_u F 0 (nI 1), A, agr_rf hI.1, agrF_u agrF_rf (by decide) _, u_eq _ _ _, en_X12_point (b_X12_point_0 z_puCV ⟨sh_kd hM, ?_⟩)⟩
      rw [rs_poi, t_isP hA, hp, if_neg (by decide), if_neg w0, if_neg w1, if_neg w2, if_neg w3, if_neg w4]
      exact ⟨sh_kd hM, hM, sh_kd hM, _, _, ef, rfl⟩
end DL
