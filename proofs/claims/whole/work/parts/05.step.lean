abbrev z_K : Type := Nat → List (Option Value) → List Value → z_H → Prop
abbrev z_E : Type := z_Key → List Value → z_H → z_Res → Prop
def z_tg (pc : Nat) (off : Int) : Nat := ((pc : Int) + off).toNat
def z_t0 (pc : Nat) (off : Int) : Bool := match (pc : Int) + off with
  | .ofNat _ => true
  | .negSucc _ => false
def z_ldi (lc : List (Option Value)) (k : Nat) (K : Int32 → Prop) : Prop := match z_lg lc k with
  | some (.int x) => K x
  | _ => False
def z_ldl (lc : List (Option Value)) (k : Nat) (K : Int64 → Prop) : Prop := match z_lg lc k with
  | some (.long x) => K x
  | _ => False
def z_lda (lc : List (Option Value)) (k : Nat) (K : Value → Prop) : Prop := match z_lg lc k with
  | some (.ref x) => K (.ref x)
  | some .null => K .null
  | _ => False
def z_pi (st : List Value) (K : Int32 → List Value → Prop) : Prop := match st with
  | .int x :: t => K x t
  | _ => False
def z_pl (st : List Value) (K : Int64 → List Value → Prop) : Prop := match st with
  | .long x :: t => K x t
  | _ => False
def z_pr (st : List Value) (K : Nat → List Value → Prop) : Prop := match st with
  | .ref x :: t => K x t
  | _ => False
/-- a reference or null -/
def z_pq (st : List Value) (K : Option Nat → List Value → Prop) : Prop := match st with
  | .ref x :: t => K (some x) t
  | .null :: t => K none t
  | _ => False
/-- an entry of one word -/
def z_p1 (st : List Value) (K : Value → List Value → Prop) : Prop := match st with
  | .ref x :: t => K (.ref x) t
  | .null :: t => K .null t
  | .int x :: t => K (.int x) t
  | _ => False
/-- the constants, loads, stores -/
def z_exA (G : z_G) (C : z_CT) (c : z_K) (i : Instr) (len : Nat) (pc : Nat) (lc : List (Option Value)) (st : List Value) (h : z_H) : Prop := match i with
  | .aconst_null => z_if (len == 1) (c (pc + 1) lc (.null :: st) h)
  | .iconst n => z_if (len == 1) (c (pc + 1) lc (.int (Int32.ofInt n) :: st) h)
  | .lconst n => z_if (len == 1) (c (pc + 1) lc (.long (Int64.ofNat n) :: st) h)
  | .bipush n => z_if (len == 2) (c (pc + 2) lc (.int (Int8.ofInt n).toInt32 :: st) h)
  | .sipush n => z_if (len == 3) (c (pc + 3) lc (.int (Int16.ofInt n).toInt32 :: st) h)
  | .ldc k => z_if (len == 2) (match z_cQ C k with
    | some (.inl v) => c (pc + 2) lc (.int v :: st) h
    | some (.inr (.inr s)) => c (pc + 2) lc (.ref (z_sad G s) :: st) h
    | _ => False)
  | .ldc_w k => z_if (len == 3) (match z_cQ C k with
    | some (.inl v) => c (pc + 3) lc (.int v :: st) h
    | _ => False)
  | .ldc2_w k => z_if (len == 3) (match z_cQ C k with
    | some (.inr (.inl v)) => c (pc + 3) lc (.long v :: st) h
    | _ => False)
  | .iload k => z_if (len == 2) (z_ldi lc k fun x => c (pc + 2) lc (.int x :: st) h)
  | .iload_n k => z_if (len == 1) (z_ldi lc k.val fun x => c (pc + 1) lc (.int x :: st) h)
  | .lload k => z_if (len == 2) (z_ldl lc k fun x => c (pc + 2) lc (.long x :: st) h)
  | .lload_n k => z_if (len == 1) (z_ldl lc k.val fun x => c (pc + 1) lc (.long x :: st) h)
  | .aload k => z_if (len == 2) (z_lda lc k fun x => c (pc + 2) lc (x :: st) h)
  | .aload_n k => z_if (len == 1) (z_lda lc k.val fun x => c (pc + 1) lc (x :: st) h)
  | .istore k => z_if (len == 2 && Nat.blt k lc.length) (z_pi st fun x t => c (pc + 2) (z_ls lc k (.int x)) t h)
  | .istore_n k => z_if (len == 1 && Nat.blt k.val lc.length) (z_pi st fun x t => c (pc + 1) (z_ls lc k.val (.int x)) t h)
  | .lstore k => z_if (len == 2 && Nat.blt (k + 1) lc.length) (z_pl st fun x t => c (pc + 2) (z_ls2 lc k (.long x)) t h)
  | .lstore_n k => z_if (len == 1 && Nat.blt (k.val + 1) lc.length) (z_pl st fun x t => c (pc + 1) (z_ls2 lc k.val (.long x)) t h)
  | .astore k => z_if (len == 2 && Nat.blt k lc.length) (z_pq st fun x t => c (pc + 2) (z_ls lc k (va_rf x)) t h)
  | .astore_n k => z_if (len == 1 && Nat.blt k.val lc.length) (z_pq st fun x t => c (pc + 1) (z_ls lc k.val (va_rf x)) t h)
  | .iinc k n => z_if (len == 3 && Nat.blt k lc.length) (z_ldi lc k fun x => c (pc + 3) (z_ls lc k (.int (x + Int32.ofInt n))) st h)
  | .dup => z_if (len == 1) (z_p1 st fun v t => c (pc + 1) lc (v :: v :: t) h)
  | .pop => z_if (len == 1) (z_p1 st fun _ t => c (pc + 1) lc t h)
  | .dup_x1 => z_if (len == 1) (z_p1 st fun v t => z_p1 t fun w t => c (pc + 1) lc (v :: w :: v :: t) h)
  | .dup2 => z_if (len == 1) (z_p1 st fun v t => z_p1 t fun w t => c (pc + 1) lc (v :: w :: v :: w :: t) h)
  | _ => False
/-- arithmetic -/
def z_exB (c : z_K) (i : Instr) (len : Nat) (pc : Nat) (lc : List (Option Value)) (st : List Value) (h : z_H) : Prop := match i with
  | .iadd => z_if (len == 1) (z_pi st fun y t => z_pi t fun x t => c (pc + 1) lc (.int (x + y) :: t) h)
  | .isub => z_if (len == 1) (z_pi st fun y t => z_pi t fun x t => c (pc + 1) lc (.int (x - y) :: t) h)
  | .imul => z_if (len == 1) (z_pi st fun y t => z_pi t fun x t => c (pc + 1) lc (.int (x * y) :: t) h)
  | .iand => z_if (len == 1) (z_pi st fun y t => z_pi t fun x t => c (pc + 1) lc (.int (x &&& y) :: t) h)
  | .ior => z_if (len == 1) (z_pi st fun y t => z_pi t fun x t => c (pc + 1) lc (.int (x ||| y) :: t) h)
  | .ixor => z_if (len == 1) (z_pi st fun y t => z_pi t fun x t => c (pc + 1) lc (.int (x ^^^ y) :: t) h)
  | .idiv => z_if (len == 1) (z_pi st fun y t => z_pi t fun x t => ¬ y = 0 ∧ c (pc + 1) lc (.int (x / y) :: t) h)
  | .irem => z_if (len == 1) (z_pi st fun y t => z_pi t fun x t => ¬ y = 0 ∧ c (pc + 1) lc (.int (x - x / y * y) :: t) h)
  | .ineg => z_if (len == 1) (z_pi st fun x t => c (pc + 1) lc (.int (-x) :: t) h)
  | .ishl => z_if (len == 1) (z_pi st fun y t => z_pi t fun x t => c (pc + 1) lc (.int (x <<< (y &&& 31)) :: t) h)
  | .ishr => z_if (len == 1) (z_pi st fun y t => z_pi t fun x t => c (pc + 1) lc (.int (x >>> (y &&& 31)) :: t) h)
  | .iushr => z_if (len == 1) (z_pi st fun y t => z_pi t fun x t => c (pc + 1) lc (.int ((x.toUInt32 >>> (y.toUInt32 &&& Int32.toUInt32 31)).toInt32) :: t) h)
  | .i2l => z_if (len == 1) (z_pi st fun x t => c (pc + 1) lc (.long x.toInt64 :: t) h)
  | .i2b => z_if (len == 1) (z_pi st fun x t => c (pc + 1) lc (.int x.toInt8.toInt32 :: t) h)
  | .i2c => z_if (len == 1) (z_pi st fun x t => c (pc + 1) lc (.int ((x.toUInt32 % 65536).toInt32) :: t) h)
  | .lor => z_if (len == 1) (z_pl st fun y t => z_pl t fun x t => c (pc + 1) lc (.long (x ||| y) :: t) h)
  | .lshl => z_if (len == 1) (z_pi st fun y t => z_pl t fun x t => c (pc + 1) lc (.long (x <<< (y.toInt64 &&& 63)) :: t) h)
  | .lcmp => z_if (len == 1) (z_pl st fun y t => z_pl t fun x t => c (pc + 1) lc (.int (lg_cmp x y) :: t) h)
  | _ => False
/-- branches -/
def z_exC (c : z_K) (i : Instr) (len : Nat) (pc : Nat) (lc : List (Option Value)) (st : List Value) (h : z_H) : Prop := match i with
  | .goto o => z_if (len == 3 && z_t0 pc o) (c (z_tg pc o) lc st h)
  | .ifCond .eq o => z_if (len == 3 && z_t0 pc o) (z_pi st fun x t => if x = 0 then c (z_tg pc o) lc t h else c (pc + 3) lc t h)
  | .ifCond .ne o => z_if (len == 3 && z_t0 pc o) (z_pi st fun x t => if x = 0 then c (pc + 3) lc t h else c (z_tg pc o) lc t h)
  | .ifCond .lt o => z_if (len == 3 && z_t0 pc o) (z_pi st fun x t => if x < 0 then c (z_tg pc o) lc t h else c (pc + 3) lc t h)
  | .ifCond .ge o => z_if (len == 3 && z_t0 pc o) (z_pi st fun x t => if x < 0 then c (pc + 3) lc t h else c (z_tg pc o) lc t h)
  | .ifCond .gt o => z_if (len == 3 && z_t0 pc o) (z_pi st fun x t => if 0 < x then c (z_tg pc o) lc t h else c (pc + 3) lc t h)
  | .ifCond .le o => z_if (len == 3 && z_t0 pc o) (z_pi st fun x t => if 0 < x then c (pc + 3) lc t h else c (z_tg pc o) lc t h)
  | .if_icmp .eq o => z_if (len == 3 && z_t0 pc o) (z_pi st fun y t => z_pi t fun x t => if x = y then c (z_tg pc o) lc t h else c (pc + 3) lc t h)
  | .if_icmp .ne o => z_if (len == 3 && z_t0 pc o) (z_pi st fun y t => z_pi t fun x t => if x = y then c (pc + 3) lc t h else c (z_tg pc o) lc t h)
  | .if_icmp .lt o => z_if (len == 3 && z_t0 pc o) (z_pi st fun y t => z_pi t fun x t => if x < y then c (z_tg pc o) lc t h else c (pc + 3) lc t h)
  | .if_icmp .ge o => z_if (len == 3 && z_t0 pc o) (z_pi st fun y t => z_pi t fun x t => if x < y then c (pc + 3) lc t h else c (z_tg pc o) lc t h)
  | .if_icmp .gt o => z_if (len == 3 && z_t0 pc o) (z_pi st fun y t => z_pi t fun x t => if y < x then c (z_tg pc o) lc t h else c (pc + 3) lc t h)
  | .if_icmp .le o => z_if (len == 3 && z_t0 pc o) (z_pi st fun y t => z_pi t fun x t => if y < x then c (pc + 3) lc t h else c (z_tg pc o) lc t h)
  | .ifnull o => z_if (len == 3 && z_t0 pc o) (z_pq st fun x t => z_rc x (c (z_tg pc o) lc t h) fun _ => c (pc + 3) lc t h)
  | .ifnonnull o => z_if (len == 3 && z_t0 pc o) (z_pq st fun x t => z_rc x (c (pc + 3) lc t h) fun _ => c (z_tg pc o) lc t h)
  | .if_acmp .eq o => z_if (len == 3 && z_t0 pc o) (z_pq st fun y t => z_pq t fun x t => if x = y then c (z_tg pc o) lc t h else c (pc + 3) lc t h)
  | .if_acmp .ne o => z_if (len == 3 && z_t0 pc o) (z_pq st fun y t => z_pq t fun x t => if x = y then c (pc + 3) lc t h else c (z_tg pc o) lc t h)
  | _ => False
def z_fnl (ci k : Nat) : Bool := match ci with
  | 0 => (TX0 k).2.2.2
  | 1 => (TX1 k).2.2.2
  | 2 => (TX2 k).2.2.2
  | 3 => (TX3 k).2.2.2
  | 4 => (TX4 k).2.2.2
  | 5 => (TX5 k).2.2.2
  | 6 => (TX6 k).2.2.2
  | 7 => (TX7 k).2.2.2
  | 8 => (TX8 k).2.2.2
  | 9 => (TX9 k).2.2.2
  | 10 => (TX10 k).2.2.2
  | 11 => (TX11 k).2.2.2
  | _ => (TX12 k).2.2.2
/-- 'throw new E()' at pc: new; dup; invokespecial ic; athrow -/
def z_isT (P : Nat → Option (Instr × Nat)) (pc : Nat) (ic : Nat) : Bool := match P (pc + 3), P (pc + 4), P (pc + 7) with
  | some (.dup, 1), some (.invokespecial k, 3), some (.athrow, 1) => k == ic
  | _, _, _ => false
/-- the heap -/
def z_exD (G : z_G) (C : z_CT) (ini : Bool) (P : Nat → Option (Instr × Nat)) (r : z_Res) (c : z_K) (i : Instr) (len : Nat) (pc : Nat) (lc : List (Option Value)) (st : List Value) (h : z_H) : Prop := match i with
  | .getfield k => z_if (len == 3) (match z_cF C k with
    | none => False
    | some (ci, s) => z_pr st fun a t => z_kd h a = 16 + ci ∧ (match z_ki (z_tyA ci s) with
      | 2 => z_rc (z_or h a s) (c (pc + 3) lc (.null :: t) h) fun x => c (pc + 3) lc (.ref x :: t) h
      | _ => c (pc + 3) lc (.int (z_oi h a s) :: t) h))
  | .putfield k => z_if (len == 3) (match z_cF C k with
    | none => False
    | some (ci, s) => z_if (!z_fnl ci s || (ini && Nat.beq ci (z_cN C))) (match z_ki (z_tyA ci s) with
      | 2 => z_pq st fun v t => z_pr t fun a t => z_kd h a = 16 + ci ∧ c (pc + 3) lc t (z_por h a s v)
      | 1 => z_pi st fun v t => z_pr t fun a t => z_kd h a = 16 + ci ∧ z_bz v ∧ c (pc + 3) lc t (z_poi h a s v)
      | _ => z_pi st fun v t => z_pr t fun a t => z_kd h a = 16 + ci ∧ c (pc + 3) lc t (z_poi h a s v)))
  | .iaload => z_if (len == 1) (z_pi st fun j t => z_pr t fun a t => cond (z_cSc C) (a = z_sb G ∧ vp_in j (z_sL G) ∧ c (pc + 1) lc (.int (z_sx G j.toNatClampNeg) :: t) h)
      (z_kd h a = 1 ∧ vp_in j (z_ln h a) ∧ c (pc + 1) lc (.int (z_ai h a j.toNatClampNeg) :: t) h))
  | .baload => z_if (len == 1) (z_pi st fun j t => z_pr t fun a t => (z_kd h a = 3 ∨ z_kd h a = 4) ∧ vp_in j (z_ln h a) ∧ c (pc + 1) lc (.int (z_ai h a j.toNatClampNeg) :: t) h)
  | .laload => z_if (len == 1) (z_pi st fun j t => z_pr t fun a t => z_kd h a = 2 ∧ vp_in j (z_ln h a) ∧ c (pc + 1) lc (.long (z_al h a j.toNatClampNeg) :: t) h)
  | .aaload => z_if (len == 1) (z_pi st fun j t => z_pr t fun a t => (z_kd h a = 5 ∨ z_kd h a = 6) ∧ vp_in j (z_ln h a) ∧ z_rc (z_ar h a j.toNatClampNeg) (c (pc + 1) lc (.null :: t) h) fun x => c (pc + 1) lc (.ref x :: t) h)
  | .iastore => z_if (len == 1) (z_pi st fun v t => z_pi t fun j t => z_pr t fun a t => z_kd h a = 1 ∧ vp_in j (z_ln h a) ∧ c (pc + 1) lc t (z_pai h a j.toNatClampNeg v))
  | .bastore => z_if (len == 1) (z_pi st fun v t => z_pi t fun j t => z_pr t fun a t => ((z_kd h a = 3 ∧ v.toInt8.toInt32 = v) ∨ (z_kd h a = 4 ∧ z_bz v)) ∧ vp_in j (z_ln h a) ∧ c (pc + 1) lc t (z_pai h a j.toNatClampNeg v))
  | .lastore => z_if (len == 1) (z_pl st fun v t => z_pi t fun j t => z_pr t fun a t => z_kd h a = 2 ∧ vp_in j (z_ln h a) ∧ c (pc + 1) lc t (z_pal h a j.toNatClampNeg v))
  | .aastore => z_if (len == 1) (z_pq st fun v t => z_pi t fun j t => z_pr t fun a t => ((z_kd h a = 5 ∧ z_rc v True fun b => z_kd h b = 17) ∨ (z_kd h a = 6 ∧ z_rc v False fun b => z_kd h b = 1)) ∧ vp_in j (z_ln h a) ∧ c (pc + 1) lc t (z_par h a j.toNatClampNeg v))
  | .arraylength => z_if (len == 1) (z_pr st fun a t => cond (z_cSc C) (a = z_sb G ∧ c (pc + 1) lc (.int (Int32.ofNat (z_sL G)) :: t) h)
      ((z_kd h a ≠ 0 ∧ z_kd h a < 7) ∧ c (pc + 1) lc (.int (Int32.ofNat (z_ln h a)) :: t) h))
  | .newarray .int => z_if (len == 2) (z_pi st fun n t => ¬ n < 0 ∧ n.toNatClampNeg ≤ 1000000 ∧ c (pc + 2) lc (.ref (z_n h) :: t) (z_nwi h 1 n.toNatClampNeg fun _ => 0))
  | .newarray .long => z_if (len == 2) (z_pi st fun n t => ¬ n < 0 ∧ n.toNatClampNeg ≤ 1000000 ∧ c (pc + 2) lc (.ref (z_n h) :: t) (z_nwl h n.toNatClampNeg))
  | .newarray .byte => z_if (len == 2) (z_pi st fun n t => ¬ n < 0 ∧ n.toNatClampNeg ≤ 1000000 ∧ c (pc + 2) lc (.ref (z_n h) :: t) (z_nwi h 3 n.toNatClampNeg fun _ => 0))
  | .newarray .boolean => z_if (len == 2) (z_pi st fun n t => ¬ n < 0 ∧ n.toNatClampNeg ≤ 1000000 ∧ c (pc + 2) lc (.ref (z_n h) :: t) (z_nwi h 4 n.toNatClampNeg fun _ => 0))
  | .anewarray k => z_if (len == 3) (match z_cK C k with
    | some (2, tag, _) => z_pi st fun n t => ¬ n < 0 ∧ n.toNatClampNeg ≤ 1000000 ∧ c (pc + 3) lc (.ref (z_n h) :: t) (z_nwr h tag n.toNatClampNeg)
    | _ => False)
  | .new k => z_if (len == 3) (match z_cK C k with
    | some (0, ci, _) => c (pc + 3) lc (.ref (z_n h) :: st) (z_nwo h ci (z_nf ci))
    | some (1, ic, E) => z_if (z_isT P pc ic && Nat.ble st.length 4) (r = (.inr E, h))
    | _ => False)
  | .checkcast k => z_if (len == 3) (match z_cK C k with
    | some (3, _, _) => z_pr st fun a t => z_kd h a = 1 ∧ c (pc + 3) lc (.ref a :: t) h
    | _ => False)
  | _ => False
def z_args : Nat → List Value → List Value → (List Value → List Value → Prop) → Prop
  | 0, st, acc, K => K acc st
  | _ + 1, [], _, _ => False
  | n + 1, v :: t, acc, K => z_args n t (v :: acc) K
/-- what comes back from a callee -/
def z_back (ret : Option FieldType) (Er : (Option Value ⊕ String) → z_H → Prop) (c : List Value → z_H → Prop) : Prop := match ret with
  | none => ∃ h1, Er (.inl none) h1 ∧ c [] h1
  | some .long => ∃ x h1, Er (.inl (some (.long x))) h1 ∧ c [.long x] h1
  | some (.object _) => ∃ o h1, Er (.inl (some (va_rf o))) h1 ∧ z_rc o (c [.null] h1) fun x => c [.ref x] h1
  | some (.array _) => ∃ o h1, Er (.inl (some (va_rf o))) h1 ∧ z_rc o (c [.null] h1) fun x => c [.ref x] h1
  | some .float => False
  | some .double => False
  | _ => ∃ x h1, Er (.inl (some (.int x))) h1 ∧ c [.int x] h1
def z_call (thr : Bool) (r : z_Res) (ret : Option FieldType) (Er : (Option Value ⊕ String) → z_H → Prop) (c : List Value → z_H → Prop) : Prop :=
  cond thr (z_back ret Er c ∨ ∃ e h1, Er (.inr e) h1 ∧ r = (.inr e, h1)) (z_back ret Er c)
def z_swok (lo hi : Int) (offs : List Int) : Bool := decide (-1000 ≤ lo) && decide (lo + offs.length ≤ 1000) && decide (hi = lo + offs.length - 1)
def z_swt (c : z_K) (pc : Nat) (lc : List (Option Value)) (h : z_H) (x : Int32) (t : List Value) (d : Int) : Int → List Int → Prop
  | _, [] => z_if (z_t0 pc d) (c (z_tg pc d) lc t h)
  | v, o :: os => if x = Int32.ofInt v then z_if (z_t0 pc o) (c (z_tg pc o) lc t h) else z_swt c pc lc h x t d (v + 1) os
def z_lkok (ps : List (Int × Int)) : Bool := ps.all (fun q => decide (-1000 ≤ q.1) && decide (q.1 ≤ 1000)) && (ps.zip (ps.drop 1)).all (fun (a, next) => a.1 < next.1)
def z_lks (c : z_K) (pc : Nat) (lc : List (Option Value)) (h : z_H) (x : Int32) (t : List Value) (d : Int) : List (Int × Int) → Prop
  | [] => z_if (z_t0 pc d) (c (z_tg pc d) lc t h)
  | q :: ps => if x = Int32.ofInt q.1 then z_if (z_t0 pc q.2) (c (z_tg pc q.2) lc t h) else z_lks c pc lc h x t d ps
/-- calls and returns; a method's kinds: 0 virtual, 1 static, 2 a constructor, 3 a nest mate's constructor, 4 Object's, 5 arraycopy, 6 clone, 7 String's; 10 and on: may throw -/
def z_exE (G : z_G) (C : z_CT) (ret : Option FieldType) (E : z_E) (r : z_Res) (c : z_K) (i : Instr) (len : Nat) (pc : Nat) (lc : List (Option Value)) (st : List Value) (h : z_H) : Prop := match i with
  | .ireturn => z_if (len == 1) (z_pi st fun v t => z_if t.isEmpty (match ret with
    | some .int => r = (.inl (some (.int v)), h)
    | some .boolean => z_bz v ∧ r = (.inl (some (.int v)), h)
    | some ty => narrow ty (.int v) = .int v ∧ r = (.inl (some (.int v)), h)
    | none => False))
  | .lreturn => z_if (len == 1) (z_pl st fun v t => z_if (t.isEmpty && decide (ret = some .long)) (r = (.inl (some (.long v)), h)))
  | .areturn => z_if (len == 1) (z_pq st fun v t => z_if t.isEmpty (match ret with
    | some (.object _) => r = (.inl (some (va_rf v)), h)
    | some (.array _) => r = (.inl (some (va_rf v)), h)
    | _ => False))
  | .return_ => z_if (len == 1) (z_if (st.isEmpty && decide (ret = none)) (r = (.inl none, h)))
  | .invokevirtual k => z_if (len == 3) (match z_cM C k with
    | none => False
    | some (kind, κ, n, ci) => match kind with
      | 0 => z_args n st [] fun As t => z_pr t fun a t => z_if (Nat.ble t.length 4) (z_kd h a = 16 + ci ∧ (match z_cP C k with
        | some (S, f) => S (.ref a :: As) h ∧ c (pc + 3) lc (.int (f (.ref a :: As) h) :: t) h
        | none => z_call false r κ.2.2.2.1 (fun o h1 => E κ (.ref a :: As) h (o, h1)) fun v h1 => c (pc + 3) lc (v ++ t) h1))
      | 10 => z_args n st [] fun As t => z_pr t fun a t => z_if (Nat.ble t.length 4) (z_kd h a = 16 + ci ∧ z_call true r κ.2.2.2.1 (fun o h1 => E κ (.ref a :: As) h (o, h1)) fun v h1 => c (pc + 3) lc (v ++ t) h1)
      | 6 => z_pr st fun a t => z_if (Nat.ble t.length 4) (z_kd h a = 1 ∧ c (pc + 3) lc (.ref (z_n h) :: t) (z_nwi h 1 (z_ln h a) (z_ai h a)))
      | 7 => z_args n st [] fun As t => z_pr t fun a t => z_if (Nat.ble t.length 4) (∃ i, i < 6 ∧ a = z_sad G i ∧ z_call false r κ.2.2.2.1 (fun o h1 => E κ (.ref a :: As) h (o, h1)) fun v h1 => c (pc + 3) lc (v ++ t) h1)
      | _ => False)
  | .invokestatic k => z_if (len == 3) (match z_cM C k with
    | none => False
    | some (kind, κ, n, _) => match kind with
      | 1 => z_args n st [] fun As t => z_if (Nat.ble t.length 4) (match z_cP C k with
        | some (S, f) => S As h ∧ c (pc + 3) lc (.int (f As h) :: t) h
        | none => z_call false r κ.2.2.2.1 (fun o h1 => E κ As h (o, h1)) fun v h1 => c (pc + 3) lc (v ++ t) h1)
      | 12 => z_args n st [] fun As t => z_if (Nat.ble t.length 4) (z_call false r κ.2.2.2.1 (fun o h1 => E κ As h (o, h1)) fun v h1 => c (pc + 3) lc (v ++ t) h1)
      | 11 => z_args n st [] fun As t => z_if (Nat.ble t.length 4) (z_call true r κ.2.2.2.1 (fun o h1 => E κ As h (o, h1)) fun v h1 => c (pc + 3) lc (v ++ t) h1)
      | 5 => z_pi st fun m t => z_pi t fun dp t => z_pr t fun b t => z_pi t fun sp t => z_pr t fun a t => z_if (Nat.ble t.length 4)
          ((¬ sp < 0 ∧ ¬ dp < 0 ∧ ¬ m < 0 ∧ sp.toNatClampNeg + m.toNatClampNeg ≤ z_ln h a ∧ dp.toNatClampNeg + m.toNatClampNeg ≤ z_ln h b) ∧
           ((z_kd h a = 1 ∧ z_kd h b = 1 ∧ c (pc + 3) lc t (z_pax h b (va_cpy (z_ai h a) (z_ai h b) sp.toNatClampNeg dp.toNatClampNeg m.toNatClampNeg))) ∨
            (z_kd h a = 2 ∧ z_kd h b = 2 ∧ c (pc + 3) lc t (z_plx h b (va_cpy (z_al h a) (z_al h b) sp.toNatClampNeg dp.toNatClampNeg m.toNatClampNeg)))))
      | _ => False)
  | .invokespecial k => z_if (len == 3) (match z_cM C k with
    | none => False
    | some (kind, κ, n, _) => match kind with
      | 2 => z_args n st [] fun As t => z_pr t fun a t => z_if (Nat.ble t.length 4) (z_call false r none (fun o h1 => E κ (.ref a :: As) h (o, h1)) fun v h1 => c (pc + 3) lc (v ++ t) h1)
      | 3 => z_args n st [] fun As t => z_pr t fun a t => z_if (Nat.ble t.length 4) (z_call false r none (fun o h1 => E κ (.ref a :: As) h (o, h1)) fun v h1 => c (pc + 3) lc (v ++ t) h1)
      | 4 => z_pr st fun _ t => z_if (Nat.ble t.length 4) (c (pc + 3) lc t h)
      | _ => False)
  | .tableswitch d lo hi offs => z_pi st fun x t => z_if (z_swok lo hi offs.toList) (z_swt c pc lc h x t d lo offs.toList)
  | .lookupswitch d ps => z_pi st fun x t => z_if (z_lkok ps.toList) (z_lks c pc lc h x t d ps.toList)
  | _ => False
/-- which group -/
def z_grp (i : Instr) : Nat := match i with
  | .iadd | .isub | .imul | .iand | .ior | .ixor | .idiv | .irem | .ineg | .ishl | .ishr | .iushr | .i2l | .i2b | .i2c | .lor | .lshl | .lcmp => 1
  | .goto _ | .ifCond _ _ | .if_icmp _ _ | .ifnull _ | .ifnonnull _ | .if_acmp _ _ => 2
  | .getfield _ | .putfield _ | .iaload | .baload | .laload | .aaload | .iastore | .bastore | .lastore | .aastore | .arraylength | .newarray _ | .anewarray _ | .new _ | .checkcast _ => 3
  | .ireturn | .lreturn | .areturn | .return_ | .invokevirtual _ | .invokestatic _ | .invokespecial _ | .tableswitch _ _ _ _ | .lookupswitch _ _ => 4
  | _ => 0
abbrev z_M : Type := z_Key × Bool × z_CT × (Nat → Option (Instr × Nat))
/-- one instruction -/
def z_ex (G : z_G) (μ : z_M) (E : z_E) (r : z_Res) (c : z_K) (pc : Nat) (lc : List (Option Value)) (st : List Value) (h : z_H) : Prop := match μ.2.2.2 pc with
  | none => False
  | some q => match z_grp q.1 with
    | 0 => z_exA G μ.2.2.1 c q.1 q.2 pc lc st h
    | 1 => z_exB c q.1 q.2 pc lc st h
    | 2 => z_exC c q.1 q.2 pc lc st h
    | 3 => z_exD G μ.2.2.1 μ.2.1 μ.2.2.2 r c q.1 q.2 pc lc st h
    | _ => z_exE G μ.2.2.1 μ.1.2.2.2.1 E r c q.1 q.2 pc lc st h
/-- up to the next head -/
def z_wp (G : z_G) (μ : z_M) (E : z_E) (r : z_Res) (hd : Nat → Bool) (J : z_K) : Nat → z_K
  | 0 => fun _ _ _ _ => False
  | k + 1 => fun pc lc st h => cond (hd pc) (J pc lc st h) (z_ex G μ E r (z_wp G μ E r hd J k) pc lc st h)
def z_ush (x y : Int32) : Int32 := (x.toUInt32 >>> (y.toUInt32 &&& Int32.toUInt32 31)).toInt32
