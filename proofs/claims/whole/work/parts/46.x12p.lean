/-! orbits, a symmetry, dualities, likeness -/
theorem fold_inv {α β : Type} {P : α → Prop} {f : α → β → α} : ∀ (L : List β) (a : α), P a → (∀ a x, x ∈ L → P a → P (f a x)) → P (L.foldl f a)
  | [], _, h, _ => h
  | x :: l, a, h, hs => fold_inv l (f a x) (hs a x List.mem_cons_self h) (fun a y hy => hs a y (List.mem_cons_of_mem _ hy))
theorem syA_lt {S : Sc} (hn : S.1 ≤ 8) : ∀ i, i < 8 → (c_syA S).2 i < 256 := by
  unfold c_syA
  refine fold_inv (P := fun (a : Nat × (Nat → Nat)) => ∀ i, i < 8 → a.2 i < 256) _ _ (fun _ _ => (by decide : (0 : Nat) < 256)) ?_
  intro a N hN hI i hi
  show (c_syF S N a).2 i < 256
  unfold c_syF
  split
  · show c_bec S.1 N a.2 i < 256
    unfold c_bec
    split
    · exact or_lt256 (hI i hi) (t_pow (pms_lt8 hn hN i (by assumption)))
    · exact hI i hi
  · exact hI i hi
def c_orb (S : Sc) : Nat := it (fun p n => n + (decide (n_tz ((c_syA S).2 p) = p)).toNat) 0 S.1
def c_syS (S : Sc) (i : Int32) (N : Nat → Nat) (c : Nat) : Nat ⊕ (Nat → Nat) := if c_symN S N then (if nI c = i then .inr N else .inl (c + 1)) else .inl c
def c_symR (S : Sc) (i : Int32) (p : Nat) : Int32 × Int32 := match fds (c_syS S i) (pms S.1) 0 with
  | .inl _ => (nI 0, nI 1)
  | .inr N => (nI (N p), nI 0)
def c_symmetry (S : Sc) (i p : Int32) : Int32 × Int32 := if c_in p S.1 then (if i < nI 0 then (nI 0, nI 1) else c_symR S i p.toNatClampNeg) else (nI 0, nI 1)
def c_duaN (S : Sc) (N : Nat → Nat) : Bool := c_dua S (fun p => nI (c_on S p)) N
def c_duG (S : Sc) (polar : Bool) (N : Nat → Nat) (c : Nat) : Nat := c + (c_duaN S N && (!polar || c_pol S N)).toNat
def c_dual (S : Sc) (polar : Bool) : Nat := if S.1 = S.2.1 then (pms S.1).foldl (fun c N => c_duG S polar N c) 0 else 0
def c_likN (S T : Sc) (N : Nat → Nat) : Bool := !c_any (fun l => !c_isL S (c_nm N (T.2.2 l))) S.2.1
def c_likG (S T : Sc) (N : Nat → Nat) (c : Nat) : Nat := c + (c_likN S T N).toNat
def c_likes (S T : Sc) : Nat := if T.1 = S.1 ∧ T.2.1 = S.2.1 then (pms S.1).foldl (fun c N => c_likG S T N c) 0 else 0
theorem c_dua_cg {S : Sc} {O O' : Nat → Int32} {N N' : Nat → Nat} (hW : ∀ l, S.2.2 l < 2 ^ S.1) (hO : ∀ p, p < S.1 → O p = O' p) (hN : ∀ i, i < S.1 → N i = N' i) : c_dua S O N = c_dua S O' N' := by
  have e1 : ∀ x, c_thr O S.1 x = c_thr O' S.1 x := fun x => it_congr S.1 (fun i t hi => by rw [hO i hi])
  have e2 : c_duaF S O N = c_duaF S O' N' := by
    funext l u
    unfold c_duaF
    rw [c_nm_cg (hW l) hN, e1]
  unfold c_dua
  rw [e2]
theorem c_pol_cg {S : Sc} {N N' : Nat → Nat} (hN : ∀ i, i < S.1 → N i = N' i) : c_pol S N = c_pol S N' := by
  unfold c_pol
  congr 1
  refine any_cg (fun p hp => any_cg (fun q hq => ?_))
  rw [hN p hp, hN q (by omega)]
section CO
variable {G : z_G} {d : Nat} {h : z_H} {M : Nat} {S : Sc} {F : Nat → Int32} {A : Nat → Nat → Int32}
theorem e_orbits (hM : z_sh M h) (hR : r_ok (A 1)) (hS : r_S (A 1) = S) (hW : ∀ l, S.2.2 l < 2 ^ S.1) (h5 : r_nm (A 5)) : ∃ A', agr [5, 6, 7] A A' ∧ z_Ev G (d + 7) k_X12_orbits [.ref M] (z_rs h M F A) (.inl (some (.int (nI (c_orb S)))), z_rs h M F A') := by
  have hn := t_n8 (at_rs (F := F) hM hR hS)
  obtain ⟨A', ha, h7, he⟩ := e_symmetries (G := G) (d := d) (F := F) hM hR hS hW h5
  have e1 : A' 1 = A 1 := ha.1 1 (by decide)
  have hA := at_rs (F := F) (A := A') (S := S) hM (by rw [e1]; exact hR) (by rw [e1]; exact hS)
  refine ⟨A', ha, en_X12_orbits (b_X12_orbits_0 z_puCV ⟨sh_kd hM, _, _, he, ?_⟩)⟩
  refine z_forI (fun l x => [some (.ref M), some (.int (nI x)), some (.int (nI l))]) (fun _ _ => z_rs h M F A') (fun _ _ => True) (fun p n => n + (decide (n_tz ((c_syA S).2 p) = p)).toNat) 0 S.1 trivial ?_ ?_
  · intro p x hp _
    have hB := syA_lt hn.2 p (by omega)
    have hz := n_tz32 _ (show (c_syA S).2 p < 4096 by omega)
    refine ⟨trivial, fun hJ => b_X12_orbits_9 z_puCV ?_⟩
    simp (disch := omega) only [l0, l1, l2, l3, l4, l5, l6, l7, l8, l9, l10, l11, l12, l13, l14, l15, l16, l18, l20, l22, l24, l30, l31, l39, l40, l48, l60, l154, l255, l256, l400, l2000, l6160, l14000, lm1, q_lt, q_le, q_eq, q_mI, q_mI', q_ltmI, q_in, q_bz0, q_bz1, q_bzn0, q_bzn1, q_bzb, q_bn0, q_bn1, q_shr, q_shl, q_1s, b_one, b_two, fa_and, fa_or, nI_add, n_mul, nI_clamp, z_rcs, true_and, and_true, if_true, if_false, rs_ai, rs_oi, rs_pai, rs_poi, rs_pax, rs_kd, rs_ln, rs_or, u_eq, u_ne, sh_kd hM, t_kd hA, t_slines hA, t_spoints hA, t_m hA, t_n hA, t_Ln hA, t_sL hA, t_on hA, t_son hA, t_of hA, t_sof hA, t_has hA, t_shas hA, t_sbits, t_bits, t_stz, t_tz, hp, (sh_becomes hM).1, (sh_becomes hM).2.1, (sh_becomes hM).2.2, h7, arrI_in]
    by_cases hc : n_tz ((c_syA S).2 p) = p
    · rw [decide_eq_true hc] at hJ
      rw [if_pos hc]; exact hJ
    · rw [decide_eq_false hc] at hJ
      rw [if_neg hc]; exact hJ
  · intro _
    refine b_X12_orbits_9 z_puCV ?_
    simp (disch := omega) only [l0, l1, l2, l3, l4, l5, l6, l7, l8, l9, l10, l11, l12, l13, l14, l15, l16, l18, l20, l22, l24, l30, l31, l39, l40, l48, l60, l154, l255, l256, l400, l2000, l6160, l14000, lm1, q_lt, q_le, q_eq, q_mI, q_mI', q_ltmI, q_in, q_bz0, q_bz1, q_bzn0, q_bzn1, q_bzb, q_bn0, q_bn1, q_shr, q_shl, q_1s, b_one, b_two, fa_and, fa_or, nI_add, n_mul, nI_clamp, z_rcs, true_and, and_true, if_true, if_false, rs_ai, rs_oi, rs_pai, rs_poi, rs_pax, rs_kd, rs_ln, rs_or, u_eq, u_ne, sh_kd hM, t_kd hA, t_slines hA, t_spoints hA, t_m hA, t_n hA, t_Ln hA, t_sL hA, t_on hA, t_son hA, t_of hA, t_sof hA, t_has hA, t_shas hA, t_sbits, t_bits, t_stz, t_tz, Nat.lt_irrefl]
    rfl
theorem e_fail' {k : Int32} (hM : z_sh M h) : z_Ev G (d + 4) k_X12_fail [.ref M, .int k] (z_rs h M F A) (.inl (some (.int (nI 0))), z_rs h M (z_u F 0 k) A) := by
  have e := e_fail (G := G) (d := d) (h := z_rs h M F A) (M := M) (sh_kd hM) k
  rw [rs_poi] at e
  exact e
theorem e_symmetry (hM : z_sh M h) (hR : r_ok (A 1)) (hS : r_S (A 1) = S) (hW : ∀ l, S.2.2 l < 2 ^ S.1) (h5 : r_nm (A 5)) (i p : Int32) : ∃ A', agr [5, 6, 7] A A' ∧ z_Ev G (d + 6) k_X12_symmetry [.ref M, .int i, .int p] (z_rs h M F A) (.inl (some (.int (c_symmetry S i p).1)), z_rs h M (z_u F 0 (c_symmetry S i p).2) A') := by
  have hA := at_rs (F := z_u F 0 (nI 0)) hM hR hS
  have hn := t_n8 hA
  have hm := t_m12 hA
  have fu : ∀ k, z_u (z_u F 0 (nI 0)) 0 k = z_u F 0 k := fun k => u_u _ _ _ _
  have hfail : ∀ A0 : Nat → Nat → Int32, z_Ev G (d + 5) k_X12_fail [.ref M, .int (nI 1)] (z_rs h M (z_u F 0 (nI 0)) A0) (.inl (some (.int (nI 0))), z_rs h M (z_u F 0 (nI 1)) A0) := fun A0 => by
    have e := e_fail' (G := G) (d := d + 1) (F := z_u F 0 (nI 0)) (A := A0) (k := nI 1) hM
    rw [fu] at e
    exact e
  unfold c_symmetry
  cases hp : c_in p S.1
  · refine ⟨A, agr_rf h5, en_X12_symmetry (b_X12_symmetry_0 z_puCV ⟨sh_kd hM, ?_⟩)⟩
    rw [rs_poi, t_isP hA, hp, if_pos (by decide), if_neg (by decide)]
    exact ⟨t_kd hA, hA.1, t_kd hA, _, _, hfail A, rfl⟩
  · rw [if_pos rfl]
    by_cases hi : i < nI 0
    · rw [if_pos hi]
      refine ⟨A, agr_rf h5, en_X12_symmetry (b_X12_symmetry_0 z_puCV ⟨sh_kd hM, ?_⟩)⟩
      rw [rs_poi, t_isP hA, hp, if_neg (by decide), if_pos hi]
      exact ⟨t_kd hA, hA.1, t_kd hA, _, _, hfail A, rfl⟩
    · rw [if_neg hi]
      obtain ⟨q, hq, hq2, rfl⟩ := c_in_t hp
      rw [nI_clamp hq2]
      have e61 : ∀ f g, z_u (z_u A 6 f) 5 g 1 = A 1 := fun f g => by rw [u_ne _ _ (by omega), u_ne _ _ (by omega)]
      have e66 : ∀ f g, z_u (z_u A 6 f) 5 g 6 = f := fun f g => by rw [u_ne _ _ (by omega), u_eq]
      have e65 : ∀ f, z_u A 6 f 5 = A 5 := fun f => by rw [u_ne _ _ (by omega)]
      have start : ∀ r, z_J G (d + 6) (m_X12_symmetry z_puC) r 40 [some (.ref M), some (.int i), some (.int (nI q)), some (.int (nI 0)), some (.int (nI 1))] [] (z_rs h M (z_u F 0 (nI 0)) (z_u (z_u A 6 (c_by S (A 6))) 5 (arrI S.1 (fun i => if i < S.1 then i else 0) (A 5)))) → z_Ev G (d + 6) k_X12_symmetry [.ref M, .int i, .int (nI q)] (z_rs h M F A) r := by
        intro r hJ
        refine en_X12_symmetry (b_X12_symmetry_0 z_puCV ⟨sh_kd hM, ?_⟩)
        rw [rs_poi, t_isP hA, hp, if_neg (by decide), if_neg hi]
        have hA1 := at_rs (F := z_u F 0 (nI 0)) (A := z_u A 6 (c_by S (A 6))) (S := S) hM (by rw [u_ne _ _ (by omega)]; exact hR) (by rw [u_ne _ _ (by omega)]; exact hS)
        have eb := e_begM (G := G) (d := d + 1) (F := z_u F 0 (nI 0)) (A := z_u A 6 (c_by S (A 6))) hM hn.2
        rw [e65] at eb
        refine ⟨t_kd hA, hA.1, t_kd hA, _, e_tlM hM hR hS, ?_⟩
        rw [t_n hA1]
        exact ⟨t_kd hA1, hA1.1, t_kd hA1, _, eb, hJ⟩
      have body : ∀ r N c, N ∈ pms S.1 → (if c_symN S N then (if nI c = i then r = (.inl (some (.int (nI (N q)))), z_rs h M (z_u F 0 (nI 0)) (z_u (z_u A 6 (c_by S (A 6))) 5 (arrI S.1 N (A 5)))) else ∃ N' m, nxM S.1 N N' m ∧ z_J G (d + 6) (m_X12_symmetry z_puC) r 40 [some (.ref M), some (.int i), some (.int (nI q)), some (.int (nI (c + 1))), some (.int m)] [] (z_rs h M (z_u F 0 (nI 0)) (z_u (z_u A 6 (c_by S (A 6))) 5 (arrI S.1 N' (A 5))))) else ∃ N' m, nxM S.1 N N' m ∧ z_J G (d + 6) (m_X12_symmetry z_puC) r 40 [some (.ref M), some (.int i), some (.int (nI q)), some (.int (nI c)), some (.int m)] [] (z_rs h M (z_u F 0 (nI 0)) (z_u (z_u A 6 (c_by S (A 6))) 5 (arrI S.1 N' (A 5))))) → z_J G (d + 6) (m_X12_symmetry z_puC) r 40 [some (.ref M), some (.int i), some (.int (nI q)), some (.int (nI c)), some (.int (nI 1))] [] (z_rs h M (z_u F 0 (nI 0)) (z_u (z_u A 6 (c_by S (A 6))) 5 (arrI S.1 N (A 5)))) := by
        intro r N c hN hx
        have hN8 := pms_lt8 hn.2 hN
        have hA2 := at_rs (F := z_u F 0 (nI 0)) (A := z_u (z_u A 6 (c_by S (A 6))) 5 (arrI S.1 N (A 5))) (S := S) hM (by rw [e61]; exact hR) (by rw [e61]; exact hS)
        refine b_X12_symmetry_40 z_puCV ?_
        rw [if_neg (show ¬ nI 1 = nI 0 by decide)]
        refine ⟨t_kd hA2, _, _, e_isM (f0 := A 6) hM (by rw [e61]; exact hR) (by rw [e61]; exact hS) hW hN8 h5 (u_eq _ _ _) (by rw [e66]), ?_⟩
        cases hc : c_symN S N
        · rw [hc, if_neg (by decide)] at hx
          obtain ⟨N', m, hx1, hJ⟩ := hx
          rw [if_pos (by decide), t_n hA2]
          exact ⟨t_kd hA2, hA2.1, t_kd hA2, _, _, e_nextM hM hn.1 hn.2 hN8 hx1, hJ⟩
        · rw [hc, if_pos rfl] at hx
          rw [if_neg (by decide)]
          by_cases hci : nI c = i
          · rw [if_pos hci] at hx ⊢
            have n8 := hN8 q hq
            simp (disch := omega) only [l0, l1, l2, l3, l4, l5, l6, l7, l8, l9, l10, l11, l12, l13, l14, l15, l16, l18, l20, l22, l24, l30, l31, l39, l40, l48, l60, l154, l255, l256, l400, l2000, l6160, l14000, lm1, q_lt, q_le, q_eq, q_mI, q_mI', q_ltmI, q_in, q_bz0, q_bz1, q_bzn0, q_bzn1, q_bzb, q_bn0, q_bn1, q_shr, q_shl, q_1s, b_one, b_two, fa_and, fa_or, nI_add, n_mul, nI_clamp, z_rcs, true_and, and_true, if_true, if_false, rs_ai, rs_oi, rs_pai, rs_poi, rs_pax, rs_kd, rs_ln, rs_or, u_eq, u_ne, sh_kd hM, (sh_naming hM).1, (sh_naming hM).2.1, (sh_naming hM).2.2, arrI_in]
            exact hx
          · rw [if_neg hci] at hx ⊢
            obtain ⟨N', m, hx1, hJ⟩ := hx
            rw [t_n hA2, nI_add]
            exact ⟨t_kd hA2, hA2.1, t_kd hA2, _, _, e_nextM hM hn.1 hn.2 hN8 hx1, hJ⟩
      unfold c_symR
      cases hfd : fds (c_syS S i) (pms S.1) 0 with
      | inr N =>
        have hN : N ∈ pms S.1 := by
          have : ∀ (L : List (Nat → Nat)) c, fds (c_syS S i) L c = .inr N → N ∈ L := by
            intro L
            induction L with
            | nil => intro c hc; cases hc
            | cons x L ih =>
              intro c hc
              unfold fds at hc
              cases hx : c_syS S i x c with
              | inl b => rw [hx] at hc; exact List.mem_cons_of_mem _ (ih b hc)
              | inr v =>
                rw [hx] at hc
                cases hc
                unfold c_syS at hx
                split at hx
                · split at hx
                  · cases hx; exact List.mem_cons_self
                  · cases hx
                · cases hx
          exact this _ _ hfd
        refine ⟨z_u (z_u A 6 (c_by S (A 6))) 5 (arrI S.1 N (A 5)), agr_5 (agr_u (agr_rf h5) (by decide) (by decide) _) (by decide) (nm_arr (pms_lt8 hn.2 hN) h5), start _ ?_⟩
        refine z_nmx (fun m c => [some (.ref M), some (.int i), some (.int (nI q)), some (.int (nI c)), some (.int m)]) (fun N _ => z_rs h M (z_u F 0 (nI 0)) (z_u (z_u A 6 (c_by S (A 6))) 5 (arrI S.1 N (A 5)))) (fun _ => True) (c_syS S i) 0 trivial ?_ ?_ ?_
        · intro N1 c v hN1 _ hf hv
          rw [hfd] at hv
          cases hv
          refine body _ N1 c hN1 ?_
          unfold c_syS at hf
          split at hf
          · rename_i h1
            rw [if_pos h1]
            split at hf
            · rename_i h2
              cases hf
              rw [if_pos h2]
            · cases hf
          · cases hf
        · intro N1 c b hN1 _ hf
          refine ⟨trivial, fun N' m hx hJ => body _ N1 c hN1 ?_⟩
          unfold c_syS at hf
          split at hf
          · rename_i h1
            rw [if_pos h1]
            split at hf
            · cases hf
            · rename_i h2
              cases hf
              rw [if_neg h2]; exact ⟨N', m, hx, hJ⟩
          · rename_i h1
            cases hf
            rw [if_neg h1]; exact ⟨N', m, hx, hJ⟩
        · intro a _ hf
          rw [hfd] at hf; cases hf
      | inl c0 =>
        refine ⟨z_u (z_u A 6 (c_by S (A 6))) 5 (arrI S.1 (plast S.1) (A 5)), agr_5 (agr_u (agr_rf h5) (by decide) (by decide) _) (by decide) (nm_arr (pms_lt8 hn.2 (plast_in _)) h5), start _ ?_⟩
        refine z_nmx (fun m c => [some (.ref M), some (.int i), some (.int (nI q)), some (.int (nI c)), some (.int m)]) (fun N _ => z_rs h M (z_u F 0 (nI 0)) (z_u (z_u A 6 (c_by S (A 6))) 5 (arrI S.1 N (A 5)))) (fun _ => True) (c_syS S i) 0 trivial ?_ ?_ ?_
        · intro N1 c v hN1 _ hf hv
          rw [hfd] at hv
          cases hv
        · intro N1 c b hN1 _ hf
          refine ⟨trivial, fun N' m hx hJ => body _ N1 c hN1 ?_⟩
          unfold c_syS at hf
          split at hf
          · rename_i h1
            rw [if_pos h1]
            split at hf
            · cases hf
            · rename_i h2
              cases hf
              rw [if_neg h2]; exact ⟨N', m, hx, hJ⟩
          · rename_i h1
            cases hf
            rw [if_neg h1]; exact ⟨N', m, hx, hJ⟩
        · intro a _ hf
          refine b_X12_symmetry_40 z_puCV ?_
          rw [if_pos rfl]
          exact ⟨sh_kd hM, _, _, hfail _, rfl⟩
end CO
