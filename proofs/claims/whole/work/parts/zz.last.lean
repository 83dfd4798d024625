/-! THE CLAIM OUT OF ONE WALK OF THE LAW'S BODY. Your part is whole_start (and what it stands on); all else here is the same for every law, but numbers. -/
def R_law : String := "SchemeListerLaw"
def lw_P (b : Addr) (xs : List Int32) (args : Array Value) (s : State) : Prop := args = #[.ref b] ∧ s.IntsAt b xs ∧ xs.length ≤ 3072 ∧ (Jvm.Cond.and given_1 narrow_1).before args s = true
def lw_Q (_ : Array Value) (s : State) (o : Outcome) (t : State) : Prop := o = .returned (some (.int 1)) ∧ Framed s o t [] 601024 7293034
def lw_Z (below : List Frame) (a : Array Value) (s : State) : State → Prop := fun t => ∃ o, t.status = .running ∧ Ended t below o ∧ lw_Q a s o t
/-- what holds at the law's entry: the machine, the code, the tables' words (any of lw_tbl by 'hts w (by decide +kernel)'), the script of L ints xs at the cell b, what the Statement gives of the start (any of its parts by flat_of_before) -/
def lw_At (p : Program) (s : State) (m : MethodId) (meth : Method) (c : Code) (b L : Nat) (xs : Nat → Int32) : Prop :=
  p.tables.exec = Jvm.exec ∧ c.code = code ∧ meth.sig.returnType = ret ∧ c.maxLocals = 7 ∧ s.vm.findClass R_law = some m.cls ∧ (∀ w ∈ lw_tbl, w.before #[Value.ref b] s = true) ∧ va_X b L xs s s.heap ∧ b < s.heap.size ∧ meth.locks = false ∧ (Jvm.Cond.and given_1 narrow_1).before #[Value.ref b] s = true
/-- from the entry, for every script of at most 3072 ints, the law comes to its end with true -/
theorem whole_start {p : Program} {e : Env} {s : State} {m : MethodId} {below : List Frame} {meth : Method} {c : Code} (l : Launch) (hflags : l.flags = flags0) {b L : Nat} {xs : Nat → Int32} (hL : L ≤ 3072) (C0 : lw_At p s m meth c b L xs) (hex : ∀ y ∈ c.exceptionTable.toList, False) : W p l e room_1 s m #[Value.ref b] below meth c s.heap [] 0 0 (lw_Z below #[Value.ref b] s) (entryFrame m ([Value.ref b] : List Value).toArray 7) := by
  obtain ⟨hx, hb, hr, hml, hown, hts, hX, hbl, hlocks, hgv⟩ := C0
  have hA : ∀ a : Nat, a < s.heap.size → ¬ (fun q : Nat => s.heap.size ≤ q) a := fun a ha q => absurd ha (Nat.not_lt.mpr q)
  have hgn : ∀ w ∈ gnW, w.before #[Value.ref b] s = true := flat_of_before _ hgv
  have hO1 : (Cond.arrayOver (.object RX1)).before #[Value.ref b] s = true := hts _ (tw_x _ (List.mem_append_right _ (List.mem_of_getElem? (i := 0) rfl)))
  have hO2 : (Cond.arrayOver (.array .int)).before #[Value.ref b] s = true := hts _ (tw_x _ (List.mem_append_right _ (List.mem_of_getElem? (i := 1) rfl)))
  obtain ⟨D, cid, hK⟩ := ks_all hts hO1 hO2
  have g0 := gn_p _ (List.mem_of_getElem? (i := 0) rfl)
  obtain ⟨a0, v0, S0, R0⟩ := ks_str (own := RX7) (k := 129) (tx := "points") (len := 6) (byt := [112, 111, 105, 110, 116, 115]) (A := fun q : Nat => s.heap.size ≤ q) (by decide) (hts _ (tw_s _ (List.mem_of_getElem? (i := 0) rfl))) (hgn _ g0.1) (hgn _ g0.2.1) (hgn _ g0.2.2.1) (hgn _ g0.2.2.2.1) (fun j hj => hgn _ (g0.2.2.2.2 j hj)) hA
  have g1 := gn_p _ (List.mem_of_getElem? (i := 1) rfl)
  obtain ⟨a1, v1, S1, R1⟩ := ks_str (own := RX7) (k := 134) (tx := "line") (len := 4) (byt := [108, 105, 110, 101]) (A := fun q : Nat => s.heap.size ≤ q) (by decide) (hts _ (tw_s _ (List.mem_of_getElem? (i := 1) rfl))) (hgn _ g1.1) (hgn _ g1.2.1) (hgn _ g1.2.2.1) (hgn _ g1.2.2.2.1) (fun j hj => hgn _ (g1.2.2.2.2 j hj)) hA
  have g2 := gn_p _ (List.mem_of_getElem? (i := 2) rfl)
  obtain ⟨a2, v2, S2, R2⟩ := ks_str (own := RX7) (k := 136) (tx := "at") (len := 2) (byt := [97, 116]) (A := fun q : Nat => s.heap.size ≤ q) (by decide) (hts _ (tw_s _ (List.mem_of_getElem? (i := 2) rfl))) (hgn _ g2.1) (hgn _ g2.2.1) (hgn _ g2.2.2.1) (hgn _ g2.2.2.2.1) (fun j hj => hgn _ (g2.2.2.2.2 j hj)) hA
  have g3 := gn_p _ (List.mem_of_getElem? (i := 3) rfl)
  obtain ⟨a3, v3, S3, R3⟩ := ks_str (own := RX12) (k := 174) (tx := "points") (len := 6) (byt := [112, 111, 105, 110, 116, 115]) (A := fun q : Nat => s.heap.size ≤ q) (by decide) (hts _ (tw_s _ (List.mem_of_getElem? (i := 3) rfl))) (hgn _ g3.1) (hgn _ g3.2.1) (hgn _ g3.2.2.1) (hgn _ g3.2.2.2.1) (fun j hj => hgn _ (g3.2.2.2.2 j hj)) hA
  have g4 := gn_p _ (List.mem_of_getElem? (i := 4) rfl)
  obtain ⟨a4, v4, S4, R4⟩ := ks_str (own := RX12) (k := 183) (tx := "line") (len := 4) (byt := [108, 105, 110, 101]) (A := fun q : Nat => s.heap.size ≤ q) (by decide) (hts _ (tw_s _ (List.mem_of_getElem? (i := 4) rfl))) (hgn _ g4.1) (hgn _ g4.2.1) (hgn _ g4.2.2.1) (hgn _ g4.2.2.2.1) (fun j hj => hgn _ (g4.2.2.2.2 j hj)) hA
  have g5 := gn_p _ (List.mem_of_getElem? (i := 5) rfl)
  obtain ⟨a5, v5, S5, R5⟩ := ks_str (own := RX12) (k := 188) (tx := "at") (len := 2) (byt := [97, 116]) (A := fun q : Nat => s.heap.size ≤ q) (by decide) (hts _ (tw_s _ (List.mem_of_getElem? (i := 5) rfl))) (hgn _ g5.1) (hgn _ g5.2.1) (hgn _ g5.2.2.1) (hgn _ g5.2.2.2.1) (fun j hj => hgn _ (g5.2.2.2.2 j hj)) hA
  have w6 : (Cond.laysStatic "java/lang/String" "COMPACT_STRINGS" "Z").before #[Value.ref b] s = true := hts _ (tw_s _ (List.mem_of_getElem? (i := 6) rfl))
  have w7 : (Cond.laysStatic "jdk/internal/util/Preconditions" "SIOOBE_FORMATTER" "Ljava/util/function/BiFunction;").before #[Value.ref b] s = true := hts _ (tw_s _ (List.mem_of_getElem? (i := 7) rfl))
  have w8 : (Cond.laysStatic Bundle.tN "UNASSIGNED_STACK" Bundle.steD).before #[Value.ref b] s = true := hts _ (tw_s _ (List.mem_of_getElem? (i := 8) rfl))
  have w9 : (Cond.laysStatic Bundle.tN "SUPPRESSED_SENTINEL" Bundle.listD).before #[Value.ref b] s = true := hts _ (tw_s _ (List.mem_of_getElem? (i := 9) rfl))
  have w10 : (Cond.initialized "java/lang/String").before #[Value.ref b] s = true := hts _ (tw_s _ (List.mem_of_getElem? (i := 10) rfl))
  have w11 : (Cond.initialized "jdk/internal/util/Preconditions").before #[Value.ref b] s = true := hts _ (tw_s _ (List.mem_of_getElem? (i := 11) rfl))
  have w12 : (Cond.initialized Bundle.tN).before #[Value.ref b] s = true := hts _ (tw_s _ (List.mem_of_getElem? (i := 12) rfl))
  obtain ⟨G, eG⟩ : ∃ G : z_G, G = (l, D, cid, s.heap.size, (fun i => match i with | 0 => a0 | 1 => a1 | 2 => a2 | 3 => a3 | 4 => a4 | _ => a5), b, L, xs, (fun i => match i with | 0 => v0 | 1 => v1 | 2 => v2 | 3 => v3 | 4 => v4 | _ => v5)) := ⟨_, rfl⟩
  have hZ : z_X G s s.heap := by
    rw [eG]
    refine ⟨fun w hw => ?_, ⟨va_Nc.of (hgn _ gn_s.2.2.2.2.1), va_Nc.of (hgn _ gn_s.2.2.2.2.2)⟩, vx_Zqof w8 w12 (hgn _ gn_s.2.2.1) hA, vx_Zqof w9 w12 (hgn _ gn_s.2.2.2.1) hA, ⟨hX, hbl⟩, ?_, fun i hi => ?_, ⟨R0, R1, R2, R3, R4, R5⟩, va_Zof w6 w10 (va_eqi (hgn _ gn_s.1)) hA, va_Zqof w7 w11 (hgn _ gn_s.2.1) hA⟩
    · rcases List.mem_append.mp hw with h | h
      · exact va_Nw.of (tw_o w h) (hts w (tw_x w hw))
      · simp only [z_xO, List.mem_cons, List.not_mem_nil, or_false] at h
        rcases h with rfl | rfl
        · exact hO1
        · exact hO2
    · show l.stackTraces = false
      unfold Launch.stackTraces
      rw [hflags]
      decide +kernel
    · match i, hi with
      | 0, _ => exact S0
      | 1, _ => exact S1
      | 2, _ => exact S2
      | 3, _ => exact S3
      | 4, _ => exact S4
      | 5, _ => exact S5
      | n + 6, h => exact absurd h (by omega)
  have eB : z_B G = s.heap.size := by rw [eG]; rfl
  have el : z_l G = l := by rw [eG]; rfl
  have eb : z_sb G = b := by rw [eG]; rfl
  have hK' : va_K (z_D G) vwCl (z_tys G) s := by rw [eG]; exact hK
  obtain ⟨hf, f1, f2, hJ⟩ := ll_all (G := G) (d := 0) (by rw [eG]; exact hL)
  have hW := hJ.2 p e room_1 s m #[Value.ref b] below meth c ⟨hx, hb, hml, hr, hown, hlocks, fun q => (by cases q), fun w hw => hts w (List.mem_filter.mp hw).1, hK', hZ, Nat.le_of_eq eB, hex, by decide, by decide⟩ s.heap [] 0 0 601024 7293034 ((lg_sl [Value.ref b] ++ List.replicate (7 - (lg_sl [Value.ref b]).length) Slot.unset).toArray) (by rw [eb]; exact z_en_lr [Value.ref b] 7 (Nat.le_of_ble_eq_true rfl)) rfl (h0_R eB.symm) va_S.rf (by show 0 + z_c hf ≤ 601024 + 0; omega) (by show 0 + z_s hf ≤ 7293034 + 0; omega) (Nat.le_refl _) (Nat.le_refl _)
  rw [el] at hW
  rw [lg_entry_eq]
  intro T hT X
  obtain ⟨t, a1, o, b1, b2, b3⟩ := hW T hT X
  refine ⟨t, a1, o, b1, b2, ?_⟩
  rcases b3 with ⟨⟨v, w1, w2, -, -⟩, LL, ⟨q1, q2, q3⟩, q4⟩ | ⟨q, q1, E, ce, LL, q2, -⟩
  · cases w1
    exact ⟨w2, q1, q2, q3.weaken (fun y hy hlt => absurd hlt (Nat.not_lt.mpr (Nat.le_trans (Nat.le_of_eq eB.symm) (q4 y hy)))) (Nat.le_refl _) (Nat.le_refl _)⟩
  · cases q2.1
set_option maxHeartbeats 4000000 in
theorem lw_walk (l : Launch) (hflags : l.flags = flags0) (b : Addr) (xs : List Int32) : MetFree l x (headSpec (Jvm.Cond.code x code maxLocals ret :: tables_1) room_1) (lw_P b xs) (fun _ _ _ _ _ => True) lw_Q := by
  refine MetFree.of_bodyS (code := code) (maxLocals := maxLocals) (ret := ret) (by decide) ?_ ?_
  · intro args s m h hn
    obtain ⟨meth, c, h1, h2, h3, h4, h5, h6, -, -⟩ := Cond.code_spec hn (atoms_spec (ws := Jvm.Cond.code x code maxLocals ret :: tables_1) h _ List.mem_cons_self)
    exact ⟨meth, c, h1, h2, h3, h4, h5, h6⟩
  · intro p e s m args below meth c s₁ B hml0 hP _
    obtain ⟨rfl, hx, hbd, hgv⟩ := hP
    obtain ⟨scr, harrAt, hlist, hof, hsmall⟩ := hx
    obtain ⟨hcb, hkn, -, -⟩ := State.arrayAt?_spec harrAt
    have hown : s.vm.findClass R_law = some m.cls := findClass_of_methodNamed B.named
    have hts0 : ∀ c ∈ (Jvm.Cond.code x code maxLocals ret :: tables_1), c.before #[Value.ref b] s = true := atoms_spec (ws := Jvm.Cond.code x code maxLocals ret :: tables_1) B.pre
    have hts : ∀ w ∈ lw_tbl, w.before #[Value.ref b] s = true := k2_hts_sels lw_privs (fun w hw => hts0 w (List.mem_cons_of_mem _ hw)) lw_privs_ok
    have hml : c.maxLocals = 7 := B.maxLocals_eq (hts0 _ List.mem_cons_self)
    have X₀ : Stand p l e room_1 s m #[Value.ref b] below meth c s₁ [] 0 0 := Stand.of_body B
    have hh0 : s₁.heap = s.heap := by rw [B.state]; rfl
    have hexT : ∀ y ∈ c.exceptionTable.toList, False := by
      obtain ⟨meth9, c9, h1, h2, -, -, -, -, h7, -⟩ := Cond.code_spec B.named (hts0 _ List.mem_cons_self)
      cases Option.some.inj (h1.symm.trans B.method)
      cases Option.some.inj (h2.symm.trans X₀.code)
      intro y hy
      rw [Array.isEmpty_iff.mp h7] at hy
      cases hy
    have hsz : scr.slots.size = xs.length := by rw [← Array.length_toList, hlist, List.length_map]
    have hval : ∀ j : Nat, j < xs.length → scr.slots[j]? = some (.int (xs.getD j 0)) := fun j hj => by
      rw [← Array.getElem?_toList, hlist]
      simp [hj]
    have hbl : b < s.heap.size := (Array.getElem?_eq_some_iff.mp hcb).1
    have hX : va_X b xs.length (fun j => xs.getD j 0) s s.heap := ⟨scr, hcb, hof, hkn, hsz, hval⟩
    have K : W p l e room_1 s m #[Value.ref b] below meth c s₁.heap [] 0 0 (lw_Z below #[Value.ref b] s) (entryFrame m ([Value.ref b] : List Value).toArray 7) := by
      rw [hh0]
      exact whole_start l hflags hbd ⟨B.exec, B.bytes, B.returns, hml, hown, hts, hX, hbl, B.notSynchronized, hgv⟩ hexT
    obtain ⟨t, a1, o, b1, b2, b3⟩ := K s₁ rfl X₀
    exact ⟨t, o, a1, b1, b2, b3⟩
theorem lw_pre_spec {args : Array Value} {s : State} (h : (Jvm.Cond.and given_1 narrow_1).before args s = true) (hr : rest_1_c.before args s = true) : ∃ (b : Addr) (xs : List Int32), lw_P b xs args s := by
  have hs := flat_of_before _ h
  have hq := flat_of_before _ hr
  have hc : (Cond.count 1).before args s = true := hs _ (by decide +kernel)
  have harr : (Cond.arrayOf (.arg 0) .int).before args s = true := hs _ (by decide +kernel)
  have hle : (Cond.le (.length (.arg 0)) (.int 3072)).before args s = true := hs _ (by decide +kernel)
  have hlen : (Cond.isInt (.length (.arg 0))).before args s = true := hq _ (by decide +kernel)
  have hall : (Cond.all (.arg 0) (.isInt (.elem (.arg 0) (.index 0)))).before args s = true := hq _ (by decide +kernel)
  obtain ⟨b, xs, hb, hx⟩ := State.ints_of_pre rfl harr hlen hall
  have hsm : xs.length < 2 ^ 31 := hx.choose_spec.2.2.2
  have hev : (Term.length (.arg 0)).eval args s none [] s = some (.int xs.length.toInt32) := hx.length_eval hb
  have hv := Cond.le_ints hev (show (Term.int 3072).eval args s none [] s = some (.int 3072) from rfl)
  have hd : xs.length.toInt32 ≤ 3072 := by
    simpa [Cond.before, Cond.holds, hv] using hle
  have hN : xs.length ≤ 3072 := (Int32.ofNat_le_ofNat hsm (by decide)).mp (show Int32.ofNat xs.length ≤ Int32.ofNat 3072 from hd)
  exact ⟨b, xs, Cond.one_arg hc (show args[0]? = some (.ref b) from hb), hx, hN, h⟩
theorem lw_comes (l : Launch) (hflags : l.flags = flags0) : Comes l x (Jvm.Cond.code x code maxLocals ret :: tables_1) room_1 (fun tb e args s => Calls_1 tb e args s ∧ rest_1 tb e args s ∧ Pre_1 tb e args s)
    (fun _ _ args s o t => lw_Q args s o t) := by
  intro p e ha hc hk s m args below hf hfit hheap happ hpre
  obtain ⟨b, xs, hP⟩ := lw_pre_spec hpre.2.2 hpre.2.1
  obtain ⟨k, o, h1, h2, h3, hQ⟩ := lw_walk l hflags b xs p e ha hc hk s m args below hf ((Spec.applies_iff_loose hf).mp happ).1 hP trivial
  exact ⟨k, o, h1, h2, h3, hQ⟩
theorem lw_frame {s t : State} {o : Outcome} {args : Array Value} (h : Framed s o t [] 601024 7293034) :
    Framed s o t (fieldLocs frame_1_writes args s ++ arrayLocs frame_1_arrays args s ++ staticLocs frame_1_statics s) 601024 7293034 := h
theorem lw_limb (L : Cond) (hL : ∀ (args : Array Value) (s t : State), L.after args s (.returned (some (.int 1))) t = true) :
    ArmFor flags0 classFile x code maxLocals ret World_1 tables_1 room_1 Calls_1 rest_1 Pre_1
      (fun tb e a s o t => postC L tb e a s o t ∧ Framed s o t (fieldLocs frame_1_writes a s ++ arrayLocs frame_1_arrays a s ++ staticLocs frame_1_statics s) 601024 7293034) := by
  intro l hflags _ _ p e ha hc hk s m args below hf hfit hheap happ hpre
  obtain ⟨k, o, h1, h2, h3, rfl, hF⟩ := lw_comes l hflags p e ha hc hk s m args below hf hfit hheap happ hpre
  exact ⟨k, _, h1, h2, h3, hL args s _, lw_frame hF⟩
theorem i_vc : Claimed_1_1 ∧ Claimed_1_2 := ⟨lw_limb limb_1_1 (fun args s t => by simp [limb_1_1, Cond.after, Cond.holds, Cond.value]), lw_limb limb_1_2 (fun args s t => Cond.after_iff.mpr (by
  first | (rw [show limb_1_2 = Cond.eq .result (.int 1) from rfl, Cond.eq_ints (x := 1) (y := 1) rfl rfl]; simp; done) | (simp [limb_1_2, Cond.value, Term.eval]; done)))⟩
