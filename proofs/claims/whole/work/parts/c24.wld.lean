/-! THE WORLD at the law's entry, out of the tables' words and what is given -/
section C24
variable {s : State} {args : Array Value}
theorem ks_arr {t : FieldType} (h : (Cond.arrayClass t).before args s = true) : ∃ cA, ArrOfT s cA t ∧ s.vm.findClass ("[" ++ t.toString) = some cA := by
  obtain ⟨c, k, comp, h1, h2, h3⟩ := Cond.arrayClass_spec h
  exact ⟨c, fun n z => ⟨fun k h => (by cases h), k, h2, comp, h3⟩, h1⟩
theorem ks_all (hts : ∀ w ∈ lw_tbl, w.before args s = true) (hO1 : (Cond.arrayOver (.object RX1)).before args s = true) (hO2 : (Cond.arrayOver (.array .int)).before args s = true) : ∃ (D : va_G) (cid : Nat → ClassId), va_K D vwCl [(cid 1, .int), (cid 2, .long), (cid 3, .byte), (cid 4, .boolean), (cid 5, .object RX1), (cid 6, .array .int)] s := by
  have hg : ∀ w ∈ z_gt, w.before args s = true := fun w hw => hts w (List.mem_filter.mp hw).1
  have hc : ∀ ci : Nat, ∃ q : ClassId × (Nat → Nat), ∀ r : vw_C, vwCl[ci]? = some r → u_Kn s r.1 r.2.1 r.2.2 q.1 q.2 := by
    intro ci
    cases hr : vwCl[ci]? with
    | none => exact ⟨(0, fun _ => 0), fun r q => by cases q⟩
    | some r =>
      obtain ⟨c1, -, -, -, -, -, c7, -⟩ := z_CFv ci r hr
      obtain ⟨cC, iS, hk⟩ := u_known hg c1 (hg _ c7)
      exact ⟨(cC, iS), fun r' q => by cases q; exact hk⟩
  obtain ⟨q, hq⟩ : ∃ q : Nat → ClassId × (Nat → Nat), ∀ (ci : Nat) (r : vw_C), vwCl[ci]? = some r → u_Kn s r.1 r.2.1 r.2.2 (q ci).1 (q ci).2 := ⟨fun ci => Classical.choose (hc ci), fun ci => Classical.choose_spec (hc ci)⟩
  obtain ⟨a1, b1, n1⟩ := ks_arr (hg _ z_AVv.1)
  obtain ⟨a2, b2, n2⟩ := ks_arr (hg _ z_AVv.2.1)
  obtain ⟨a3, b3, n3⟩ := ks_arr (hg _ z_AVv.2.2.1)
  obtain ⟨a4, b4, n4⟩ := ks_arr (hg _ z_AVv.2.2.2)
  obtain ⟨p5, a5, k5, e51, -, e52, e53, e54⟩ := Cond.arrayOver_spec hO1
  obtain ⟨p6, a6, k6, e61, -, e62, e63, e64⟩ := arrayOverA_spec hO2
  refine ⟨(fun ci => (q ci).1, fun ci => (q ci).2), fun t => match t with | 1 => a1 | 2 => a2 | 3 => a3 | 4 => a4 | 5 => a5 | _ => a6, fun c r hr => hq c r hr, fun k x hx => ?_⟩
  match k, hx with
  | 0, hx => cases hx; exact ⟨b1, n1⟩
  | 1, hx => cases hx; exact ⟨b2, n2⟩
  | 2, hx => cases hx; exact ⟨b3, n3⟩
  | 3, hx => cases hx; exact ⟨b4, n4⟩
  | 4, hx => cases hx; exact ⟨fun n z => ⟨fun k h => (by cases h), k5, e52, p5, e53⟩, k5, p5, e52, e53, e51, e54⟩
  | 5, hx => cases hx; exact ⟨fun n z => ⟨fun k h => (by cases h), k6, e62, p6, e63⟩, e64⟩
  | n + 6, hx => cases hx
/-- a text -/
theorem ks_str {own tx : String} {k len : Nat} {byt : List Int32} {A : Nat → Prop} (hlen : len < 2 ^ 31) (hr : (Cond.stringRef own k tx).before args s = true)
    (hex : (Cond.exactly (.string own k) "java/lang/String").before args s = true) (hco : (Cond.eq (.field (.string own k) "java/lang/String" "coder" "B") (.int 0)).before args s = true) (har : (Cond.arrayOf (.field (.string own k) "java/lang/String" "value" "[B") .byte).before args s = true)
    (hle : (Cond.eq (.length (.field (.string own k) "java/lang/String" "value" "[B")) (.int (Int32.ofNat len))).before args s = true) (hel : ∀ j : Nat, j < len → (Cond.eq (.elem (.field (.string own k) "java/lang/String" "value" "[B") (.int (Int32.ofNat j))) (.int (byt.getD j 0))).before args s = true) (hA : ∀ a : Nat, a < s.heap.size → ¬ A a) :
    ∃ ad av : Nat, vk_S 1 [len] [byt] (fun _ => ad) (fun _ => av) A s s.heap ∧ vk_R own k tx ad s := by
  obtain ⟨adK, adV, h1, h2⟩ := vk_Sof (args := args) (s := s) (N := 1) (tm := fun _ => Term.string own k) (len := [len]) (byt := [byt]) (A := A) (fun i hi => by
    have : i = 0 := by omega
    subst this; exact hlen) (fun _ _ => hex) (fun _ _ => hco) (fun _ _ => har) (fun i hi => by
    have : i = 0 := by omega
    subst this; exact hle) (fun i hi => by
    have : i = 0 := by omega
    subst this; exact hel) (fun i j hi hj hn => absurd (show i = j by omega) hn) hA
  refine ⟨adK 0, adV 0, ⟨fun i hi => ?_, fun i j hi hj _ => by omega⟩, vk_R.of hr (h2 0 (by decide))⟩
  have : i = 0 := by omega
  subst this
  exact h1.1 0 (by decide)
def gnW : List Cond := flatC (Jvm.Cond.and given_1 narrow_1)
theorem gn_p : (∀ q ∈ [((RX7, 129), (6, [112, 111, 105, 110, 116, 115])), ((RX7, 134), (4, [108, 105, 110, 101])), ((RX7, 136), (2, [97, 116])), ((RX12, 174), (6, [112, 111, 105, 110, 116, 115])), ((RX12, 183), (4, [108, 105, 110, 101])), ((RX12, 188), (2, [97, 116]))], Cond.exactly (.string q.1.1 q.1.2) "java/lang/String" ∈ gnW ∧ Cond.eq (.field (.string q.1.1 q.1.2) "java/lang/String" "coder" "B") (.int 0) ∈ gnW ∧ Cond.arrayOf (.field (.string q.1.1 q.1.2) "java/lang/String" "value" "[B") .byte ∈ gnW ∧ Cond.eq (.length (.field (.string q.1.1 q.1.2) "java/lang/String" "value" "[B")) (.int (Int32.ofNat q.2.1)) ∈ gnW ∧ ∀ j, j < q.2.1 → Cond.eq (.elem (.field (.string q.1.1 q.1.2) "java/lang/String" "value" "[B") (.int (Int32.ofNat j))) (.int ((q.2.2 : List Int32).getD j 0)) ∈ gnW) := by decide +kernel
theorem gn_s : Cond.eq (.static "java/lang/String" "COMPACT_STRINGS" "Z") (.int 1) ∈ gnW ∧ Cond.isRef (.static "jdk/internal/util/Preconditions" "SIOOBE_FORMATTER" "Ljava/util/function/BiFunction;") ∈ gnW ∧ Cond.isRef (.static Bundle.tN "UNASSIGNED_STACK" Bundle.steD) ∈ gnW ∧ Cond.isRef (.static Bundle.tN "SUPPRESSED_SENTINEL" Bundle.listD) ∈ gnW ∧ Cond.not (.castable z_IAE z_NSE) ∈ gnW ∧ Cond.not (.castable z_NSE z_IAE) ∈ gnW := by decide +kernel
theorem tw_x : ∀ w ∈ z_xN ++ z_xC ++ z_xD ++ z_xO, w ∈ lw_tbl := by decide +kernel
theorem tw_o : ∀ w ∈ z_xN ++ z_xC ++ z_xD, w.onTables = true := by decide +kernel
theorem tw_s : ∀ w ∈ [Cond.stringRef RX7 129 "points", Cond.stringRef RX7 134 "line", Cond.stringRef RX7 136 "at", Cond.stringRef RX12 174 "points", Cond.stringRef RX12 183 "line", Cond.stringRef RX12 188 "at", Cond.laysStatic "java/lang/String" "COMPACT_STRINGS" "Z", Cond.laysStatic "jdk/internal/util/Preconditions" "SIOOBE_FORMATTER" "Ljava/util/function/BiFunction;", Cond.laysStatic Bundle.tN "UNASSIGNED_STACK" Bundle.steD, Cond.laysStatic Bundle.tN "SUPPRESSED_SENTINEL" Bundle.listD, Cond.initialized "java/lang/String", Cond.initialized "jdk/internal/util/Preconditions", Cond.initialized Bundle.tN], w ∈ lw_tbl := by decide +kernel
end C24
