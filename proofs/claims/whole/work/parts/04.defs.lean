/-! THE ABSTRACT HEAP: its size, the cells and slots counted, and by kind what each address holds -/
abbrev z_H : Type := (Nat × Nat × Nat) × (Nat → Nat) × (Nat → Nat) × (Nat → Nat → Int32) × (Nat → Nat → Option Nat) × (Nat → Nat → Int32) × (Nat → Nat → Int64) × (Nat → Nat → Option Nat)
def z_n (h : z_H) : Nat := h.1.1
def z_c (h : z_H) : Nat := h.1.2.1
def z_s (h : z_H) : Nat := h.1.2.2
def z_kd (h : z_H) : Nat → Nat := h.2.1
def z_ln (h : z_H) : Nat → Nat := h.2.2.1
def z_oi (h : z_H) : Nat → Nat → Int32 := h.2.2.2.1
def z_or (h : z_H) : Nat → Nat → Option Nat := h.2.2.2.2.1
def z_ai (h : z_H) : Nat → Nat → Int32 := h.2.2.2.2.2.1
def z_al (h : z_H) : Nat → Nat → Int64 := h.2.2.2.2.2.2.1
def z_ar (h : z_H) : Nat → Nat → Option Nat := h.2.2.2.2.2.2.2
def z_u {α : Type} (f : Nat → α) (a : Nat) (v : α) : Nat → α := fun x => if x = a then v else f x
def z_uu {α : Type} (f : Nat → Nat → α) (a k : Nat) (v : α) : Nat → Nat → α := z_u f a (z_u (f a) k v)
/-- writes -/
def z_poi (h : z_H) (a k : Nat) (v : Int32) : z_H := (h.1, z_kd h, z_ln h, z_uu (z_oi h) a k v, z_or h, z_ai h, z_al h, z_ar h)
def z_por (h : z_H) (a k : Nat) (v : Option Nat) : z_H := (h.1, z_kd h, z_ln h, z_oi h, z_uu (z_or h) a k v, z_ai h, z_al h, z_ar h)
def z_pai (h : z_H) (a k : Nat) (v : Int32) : z_H := (h.1, z_kd h, z_ln h, z_oi h, z_or h, z_uu (z_ai h) a k v, z_al h, z_ar h)
def z_pal (h : z_H) (a k : Nat) (v : Int64) : z_H := (h.1, z_kd h, z_ln h, z_oi h, z_or h, z_ai h, z_uu (z_al h) a k v, z_ar h)
def z_par (h : z_H) (a k : Nat) (v : Option Nat) : z_H := (h.1, z_kd h, z_ln h, z_oi h, z_or h, z_ai h, z_al h, z_uu (z_ar h) a k v)
/-- a row of ints replaced (System.arraycopy) -/
def z_pax (h : z_H) (a : Nat) (f : Nat → Int32) : z_H := (h.1, z_kd h, z_ln h, z_oi h, z_or h, z_u (z_ai h) a f, z_al h, z_ar h)
def z_plx (h : z_H) (a : Nat) (f : Nat → Int64) : z_H := (h.1, z_kd h, z_ln h, z_oi h, z_or h, z_ai h, z_u (z_al h) a f, z_ar h)
/-- makings: an object of class ci with N slots; arrays of ints (tag 1, 3, 4), longs, references (tag 5, 6); the copy of a row of ints -/
def z_nwo (h : z_H) (ci N : Nat) : z_H := ((z_n h + 1, z_c h + 1, z_s h + N), z_u (z_kd h) (z_n h) (16 + ci), z_ln h, z_u (z_oi h) (z_n h) (fun _ => 0), z_u (z_or h) (z_n h) (fun _ => none), z_ai h, z_al h, z_ar h)
def z_nwi (h : z_H) (tag len : Nat) (f : Nat → Int32) : z_H := ((z_n h + 1, z_c h + 1, z_s h + len), z_u (z_kd h) (z_n h) tag, z_u (z_ln h) (z_n h) len, z_oi h, z_or h, z_u (z_ai h) (z_n h) f, z_al h, z_ar h)
def z_nwl (h : z_H) (len : Nat) : z_H := ((z_n h + 1, z_c h + 1, z_s h + len), z_u (z_kd h) (z_n h) 2, z_u (z_ln h) (z_n h) len, z_oi h, z_or h, z_ai h, z_u (z_al h) (z_n h) (fun _ => 0), z_ar h)
def z_nwr (h : z_H) (tag len : Nat) : z_H := ((z_n h + 1, z_c h + 1, z_s h + len), z_u (z_kd h) (z_n h) tag, z_u (z_ln h) (z_n h) len, z_oi h, z_or h, z_ai h, z_al h, z_u (z_ar h) (z_n h) (fun _ => none))
/-- behind a throw: a cell more, of which nothing is known -/
def z_thr (h : z_H) (n : Nat) : z_H := ((n, z_c h + 1, z_s h + 6), h.2)
/-- locals: a list of what is known -/
def z_lg : List (Option Value) → Nat → Option Value
  | [], _ => none
  | x :: _, 0 => x
  | _ :: t, i + 1 => z_lg t i
def z_clr : Option Value → Option Value
  | some (.long _) => none
  | some (.double _) => none
  | x => x
def z_ls : List (Option Value) → Nat → Value → List (Option Value)
  | [], _, _ => []
  | _ :: t, 0, v => some v :: t
  | x :: t, 1, v => z_clr x :: z_ls t 0 v
  | x :: t, i + 2, v => x :: z_ls t (i + 1) v
def z_cl0 : List (Option Value) → List (Option Value)
  | [] => []
  | _ :: t => none :: t
def z_ls2 : List (Option Value) → Nat → Value → List (Option Value)
  | [], _, _ => []
  | _ :: t, 0, v => some v :: z_cl0 t
  | x :: t, 1, v => z_clr x :: z_ls2 t 0 v
  | x :: t, i + 2, v => x :: z_ls2 t (i + 1) v
/-- the locals at a method's start -/
def z_en : Nat → List Value → List (Option Value)
  | n, [] => List.replicate n none
  | n, .long x :: t => some (.long x) :: none :: z_en (n - 2) t
  | n, .double x :: t => some (.double x) :: none :: z_en (n - 2) t
  | n, v :: t => some v :: z_en (n - 1) t
abbrev z_Key : Type := MethodName × ByteArray × Nat × Option FieldType × List (Nat × Nat × Nat × Nat)
abbrev z_Res : Type := (Option Value ⊕ String) × z_H
/-- tables of a class: its name; fields: class, slot; methods: kind, key, how many arguments, class of the receiver; classes: kind, number; constants -/
abbrev z_ME : Type := Nat × z_Key × Nat × Nat
abbrev z_CT : Type := String × Nat × (Nat → Option (Nat × Nat)) × (Nat → Option z_ME) × (Nat → Option (Nat × Nat × String)) × (Nat → Option (Int32 ⊕ Int64 ⊕ Nat)) × (Nat → Option ((List Value → z_H → Prop) × (List Value → z_H → Int32)))
def z_cNm (C : z_CT) : String := C.1
def z_cN (C : z_CT) : Nat := C.2.1
def z_cSc (C : z_CT) : Bool := Nat.beq C.2.1 13
def z_cF (C : z_CT) : Nat → Option (Nat × Nat) := C.2.2.1
def z_cM (C : z_CT) : Nat → Option z_ME := C.2.2.2.1
def z_cK (C : z_CT) : Nat → Option (Nat × Nat × String) := C.2.2.2.2.1
def z_cQ (C : z_CT) : Nat → Option (Int32 ⊕ Int64 ⊕ Nat) := C.2.2.2.2.2.1
def z_cP (C : z_CT) : Nat → Option ((List Value → z_H → Prop) × (List Value → z_H → Int32)) := C.2.2.2.2.2.2
/-- what is fixed for a run: launch, classes' numbers, array classes, the first new address, the texts' addresses, the script -/
abbrev z_G : Type := Launch × va_G × (Nat → ClassId) × Nat × (Nat → Nat) × Nat × Nat × (Nat → Int32) × (Nat → Nat)
def z_l (G : z_G) : Launch := G.1
def z_D (G : z_G) : va_G := G.2.1
def z_cid (G : z_G) : Nat → ClassId := G.2.2.1
def z_B (G : z_G) : Nat := G.2.2.2.1
def z_sad (G : z_G) : Nat → Nat := G.2.2.2.2.1
def z_sb (G : z_G) : Nat := G.2.2.2.2.2.1
def z_sL (G : z_G) : Nat := G.2.2.2.2.2.2.1
def z_sx (G : z_G) : Nat → Int32 := G.2.2.2.2.2.2.2.1
def z_sav (G : z_G) : Nat → Nat := G.2.2.2.2.2.2.2.2
def z_rc (o : Option Nat) (n : Prop) (s : Nat → Prop) : Prop := match o with
  | none => n
  | some x => s x
def z_if (b : Bool) (K : Prop) : Prop := cond b K False
def z_tyA (ci : Nat) : Nat → FieldType := match ci with
  | 0 => tyX0
  | 1 => tyX1
  | 2 => tyX2
  | 3 => tyX3
  | 4 => tyX4
  | 5 => tyX5
  | 6 => tyX6
  | 7 => tyX7
  | 8 => tyX8
  | 9 => tyX9
  | 10 => tyX10
  | 11 => tyX11
  | _ => tyX12
def z_nf (ci : Nat) : Nat := match ci with
  | 0 => 3
  | 1 => 3
  | 2 => 14
  | 3 => 6
  | 4 => 12
  | 5 => 13
  | 6 => 4
  | 7 => 14
  | 8 => 15
  | 9 => 2
  | 10 => 4
  | 11 => 17
  | _ => 52
/-- 0: an int; 1: a boolean; 2: a reference -/
def z_ki (ty : FieldType) : Nat := match ty with
  | .int => 0
  | .boolean => 1
  | _ => 2
def z_bz (v : Int32) : Prop := v = 0 ∨ v = 1
