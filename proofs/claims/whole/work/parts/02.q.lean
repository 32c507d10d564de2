/-! An interpreter of the bytecode over a heap by kinds: a reference is (kind of cell, store, place); the numbers lie in two functions. -/
abbrev q_R : Type := Nat × Nat × Nat
abbrev q_V : Type := Int32 ⊕ (Int64 ⊕ q_R)
abbrev q_H : Type := (Nat → Nat → Nat → Nat → Int32) × (Nat → Nat → Nat → Nat → Int64)
abbrev q_O : Type := Option q_V × q_H
abbrev q_Op : Type := Instr × Nat × Nat
def q_si (h : q_H) (t f k i : Nat) (v : Int32) : q_H := (fun a b c d => if a = t ∧ b = f ∧ c = k ∧ d = i then v else h.1 a b c d, h.2)
def q_sl (h : q_H) (t f k i : Nat) (v : Int64) : q_H := (h.1, fun a b c d => if a = t ∧ b = f ∧ c = k ∧ d = i then v else h.2 a b c d)
/-- kinds of cells: the fields of an object (0 int, 1 boolean, 2 long, else a reference) -/
def q_fl (t : Nat) : List Nat :=
  bif Nat.beq t 3 then [0, 0, 0, 0, 0, 0, 0, 0, 0, 0, 1, 1] else
  bif Nat.beq t 0 then [101, 106, 111, 115, 119, 0, 0, 0, 0] else
  bif Nat.beq t 1 then [102, 10, 104, 105, 0] else
  bif Nat.beq t 6 then [107, 108, 109, 110, 0, 0] else
  bif Nat.beq t 11 then [112, 113, 114, 0] else
  bif Nat.beq t 15 then [116, 117, 118, 0] else
  bif Nat.beq t 19 then [120, 121, 122, 123, 0] else
  bif Nat.beq t 24 then [125, 200, 201, 202, 128, 0, 0] else
  bif Nat.beq t 25 then [126, 0, 0, 0, 0, 0, 0, 0, 0, 127, 1, 0, 1, 1, 1, 0, 0] else
  bif Nat.beq t 30 then [131, 132, 133, 134, 135, 0, 0, 0, 136, 0, 137, 138, 0, 0, 0, 0, 0, 0, 0, 0, 0, 0, 2, 139, 140, 141, 0, 1, 1] else []
/-- where a field that is a reference leads -/
def q_rf (c k : Nat) : q_R := bif Nat.beq c 10 then (3, k, 60) else bif Nat.ble 200 c then (0, c - 200, 0) else (c - 100, k, 0)
/-- how long an array is -/
def q_al (t : Nat) : Nat :=
  bif Nat.beq t 31 then 1644 else bif Nat.beq t 2 then 60 else bif Nat.ble t 5 then 6 else bif Nat.ble t 10 then 61 else bif Nat.ble t 14 then 60 else
  bif Nat.ble t 17 then 24 else bif Nat.beq t 18 then 8 else bif Nat.ble t 23 then 60 else bif Nat.beq t 26 then 700 else bif Nat.beq t 27 then 5 else
  bif Nat.beq t 28 then 3 else bif Nat.ble t 34 then 1644 else bif Nat.beq t 35 then 4932 else bif Nat.ble t 37 then 60 else bif Nat.beq t 38 then 700 else
  bif Nat.ble t 40 then 14 else 5
/-- what an array holds: 0 int, 1 byte, 2 long, 3 slots, 4 stores, 9 no array -/
def q_at (t : Nat) : Nat :=
  bif Nat.beq t 31 then 0 else bif Nat.beq t 2 then 3 else bif Nat.beq t 10 then 2 else bif Nat.beq t 28 then 4 else bif Nat.beq t 38 then 1 else bif Nat.beq t 39 then 2 else
  bif Nat.beq t 4 || (Nat.beq t 5 || (Nat.beq t 7 || (Nat.beq t 8 || (Nat.beq t 9 || (Nat.beq t 12 || (Nat.beq t 13 || (Nat.beq t 14 || (Nat.beq t 16 || (Nat.beq t 17 || (Nat.beq t 18 || (Nat.beq t 20 || (Nat.beq t 21 || (Nat.beq t 22 || (Nat.beq t 23 || (Nat.beq t 26 || (Nat.beq t 27 || (Nat.beq t 32 || (Nat.beq t 33 || (Nat.beq t 34 || (Nat.beq t 35 || (Nat.beq t 36 || (Nat.beq t 37 || (Nat.beq t 40 || Nat.beq t 41)))))))))))))))))))))))  then 0 else 9
/-- where the i-th reference of an array leads -/
def q_ra (t k i : Nat) : q_R := bif Nat.beq t 2 then (3, k, i) else (0, 3 + i, 0)
def q_get (t f k i : Nat) (h : q_H) : Option q_V :=
  match (q_fl t)[f]? with
  | none => none
  | some c => bif Nat.ble c 1 then some (.inl (h.1 t f k i)) else bif Nat.beq c 2 then some (.inr (.inl (h.2 t f k i))) else some (.inr (.inr (q_rf c k)))
def q_01 (v : Int32) : Bool := v == 0 || v == 1
def q_put (t f k i : Nat) (v : q_V) (h : q_H) : Option q_H :=
  match (q_fl t)[f]? with
  | none => none
  | some c =>
    match v with
    | .inl x => bif Nat.beq c 0 then some (q_si h t f k i x) else bif Nat.beq c 1 then (bif q_01 x then some (q_si h t f k i x) else none) else none
    | .inr (.inl x) => bif Nat.beq c 2 then some (q_sl h t f k i x) else none
    | .inr (.inr _) => none
def q_in (j : Int32) (n : Nat) : Bool := decide (0 ≤ j) && Nat.blt j.toNatClampNeg n
def q_cc (c : ClassFile.Cond) (x y : Int32) : Bool :=
  match c with
  | .eq => decide (x = y)
  | .ne => decide (¬ x = y)
  | .lt => decide (x < y)
  | .ge => decide (y ≤ x)
  | .gt => decide (y < x)
  | .le => decide (x ≤ y)
def q_tg (pc : Nat) (off : Int) : Nat := ((pc : Int) + off).toNat
def q_ts (d lo hi : Int) (offs : Array Int) (x : Int32) : Option Int := if x.toInt < lo ∨ hi < x.toInt then some d else offs[(x.toInt - lo).toNat]?
abbrev q_L : Type := List (Option q_V)
abbrev q_K : Type := Nat → q_L → List q_V → q_H → Option q_O
def q_ldi (loc : q_L) (j : Nat) (k : Int32 → Option q_O) : Option q_O := match loc[j]? with | some (some (.inl v)) => k v | _ => none
def q_ldl (loc : q_L) (j : Nat) (k : Int64 → Option q_O) : Option q_O := match loc[j]? with | some (some (.inr (.inl v))) => k v | _ => none
def q_ldr (loc : q_L) (j : Nat) (k : q_R → Option q_O) : Option q_O := match loc[j]? with | some (some (.inr (.inr v))) => k v | _ => none
def q_isl (loc : q_L) (j : Nat) : Bool := bif Nat.beq j 0 then false else match loc[j - 1]? with | some (some (.inr (.inl _))) => true | _ => false
def q_st1 (loc : q_L) (j : Nat) (v : q_V) (k : q_L → Option q_O) : Option q_O := bif Nat.blt j loc.length then (bif q_isl loc j then none else k (loc.set j (some v))) else none
def q_st2 (loc : q_L) (j : Nat) (v : Int64) (k : q_L → Option q_O) : Option q_O := bif Nat.blt (j + 1) loc.length then (bif q_isl loc j then none else k ((loc.set j (some (.inr (.inl v)))).set (j + 1) none)) else none
/-- how many arguments a method has, and which cells are its receivers (none: it is static) -/
def q_cpy {α : Type} (f g : Nat → α) (n : Nat) : Nat → α := fun j => if j < n then f j else g j
def q_acp (t1 k1 t2 k2 : Nat) (n : Nat) (h : q_H) : q_H := (fun a b c d => if a = t2 ∧ b = 0 ∧ c = k2 ∧ d < n then h.1 t1 0 k1 d else h.1 a b c d, h.2)
def q_acl (t1 k1 t2 k2 : Nat) (n : Nat) (h : q_H) : q_H := (h.1, fun a b c d => if a = t2 ∧ b = 0 ∧ c = k2 ∧ d < n then h.2 t1 0 k1 d else h.2 a b c d)
/-- words of a stack -/
def q_ct (st : List q_V) : Nat := match st with | [] => 0 | .inr (.inl _) :: st => q_ct st + 2 | _ :: st => q_ct st + 1
def q_do (call : Nat → List q_V → q_H → Option q_O) (i : Instr) (x pc : Nat) (loc : q_L) (stk : List q_V) (h : q_H) (k : q_K) : Option q_O :=
  match i with
  | .iconst n => k (pc + 1) loc (.inl (Int32.ofInt n) :: stk) h
  | .lconst n => k (pc + 1) loc (.inr (.inl (Int64.ofNat (n : Nat))) :: stk) h
  | .bipush n => k (pc + 2) loc (.inl (Int8.ofInt n).toInt32 :: stk) h
  | .sipush n => k (pc + 3) loc (.inl (Int16.ofInt n).toInt32 :: stk) h
  | .ldc _ => k (pc + 2) loc (.inr (.inr (60, 0, x)) :: stk) h
  | .ldc2_w _ => k (pc + 3) loc (.inr (.inl (Int64.ofNat x)) :: stk) h
  | .iload_n j => q_ldi loc j fun v => k (pc + 1) loc (.inl v :: stk) h
  | .iload j => q_ldi loc j fun v => k (pc + 2) loc (.inl v :: stk) h
  | .aload_n j => q_ldr loc j fun v => k (pc + 1) loc (.inr (.inr v) :: stk) h
  | .aload j => q_ldr loc j fun v => k (pc + 2) loc (.inr (.inr v) :: stk) h
  | .lload_n j => q_ldl loc j fun v => k (pc + 1) loc (.inr (.inl v) :: stk) h
  | .istore_n j => match stk with | .inl v :: st => q_st1 loc j (.inl v) fun l => k (pc + 1) l st h | _ => none
  | .istore j => match stk with | .inl v :: st => q_st1 loc j (.inl v) fun l => k (pc + 2) l st h | _ => none
  | .astore_n j => match stk with | .inr (.inr v) :: st => q_st1 loc j (.inr (.inr v)) fun l => k (pc + 1) l st h | _ => none
  | .astore j => match stk with | .inr (.inr v) :: st => q_st1 loc j (.inr (.inr v)) fun l => k (pc + 2) l st h | _ => none
  | .lstore_n j => match stk with | .inr (.inl v) :: st => q_st2 loc j v fun l => k (pc + 1) l st h | _ => none
  | .iinc j n => q_ldi loc j fun v => q_st1 loc j (.inl (v + Int32.ofInt n)) fun l => k (pc + 3) l stk h
  | .iadd => match stk with | .inl b :: .inl a :: st => k (pc + 1) loc (.inl (a + b) :: st) h | _ => none
  | .isub => match stk with | .inl b :: .inl a :: st => k (pc + 1) loc (.inl (a - b) :: st) h | _ => none
  | .imul => match stk with | .inl b :: .inl a :: st => k (pc + 1) loc (.inl (a * b) :: st) h | _ => none
  | .idiv => match stk with | .inl b :: .inl a :: st => bif b == 0 then none else k (pc + 1) loc (.inl (a / b) :: st) h | _ => none
  | .irem => match stk with | .inl b :: .inl a :: st => bif b == 0 then none else k (pc + 1) loc (.inl (a - a / b * b) :: st) h | _ => none
  | .iand => match stk with | .inl b :: .inl a :: st => k (pc + 1) loc (.inl (a &&& b) :: st) h | _ => none
  | .ior => match stk with | .inl b :: .inl a :: st => k (pc + 1) loc (.inl (a ||| b) :: st) h | _ => none
  | .ishl => match stk with | .inl b :: .inl a :: st => k (pc + 1) loc (.inl (a <<< (b &&& 31)) :: st) h | _ => none
  | .ishr => match stk with | .inl b :: .inl a :: st => k (pc + 1) loc (.inl (a >>> (b &&& 31)) :: st) h | _ => none
  | .ladd => match stk with | .inr (.inl b) :: .inr (.inl a) :: st => k (pc + 1) loc (.inr (.inl (a + b)) :: st) h | _ => none
  | .lsub => match stk with | .inr (.inl b) :: .inr (.inl a) :: st => k (pc + 1) loc (.inr (.inl (a - b)) :: st) h | _ => none
  | .lmul => match stk with | .inr (.inl b) :: .inr (.inl a) :: st => k (pc + 1) loc (.inr (.inl (a * b)) :: st) h | _ => none
  | .land => match stk with | .inr (.inl b) :: .inr (.inl a) :: st => k (pc + 1) loc (.inr (.inl (a &&& b)) :: st) h | _ => none
  | .lor => match stk with | .inr (.inl b) :: .inr (.inl a) :: st => k (pc + 1) loc (.inr (.inl (a ||| b)) :: st) h | _ => none
  | .lshl => match stk with | .inl b :: .inr (.inl a) :: st => k (pc + 1) loc (.inr (.inl (a <<< (b.toInt64 &&& 63))) :: st) h | _ => none
  | .lshr => match stk with | .inl b :: .inr (.inl a) :: st => k (pc + 1) loc (.inr (.inl (a >>> (b.toInt64 &&& 63))) :: st) h | _ => none
  | .lushr => match stk with | .inl b :: .inr (.inl a) :: st => k (pc + 1) loc (.inr (.inl ((a.toUInt64 >>> (b.toInt64.toUInt64 &&& Int64.toUInt64 63)).toInt64)) :: st) h | _ => none
  | .l2i => match stk with | .inr (.inl a) :: st => k (pc + 1) loc (.inl a.toInt32 :: st) h | _ => none
  | .lcmp => match stk with | .inr (.inl b) :: .inr (.inl a) :: st => k (pc + 1) loc (.inl (lg_cmp a b) :: st) h | _ => none
  | .i2l => match stk with | .inl a :: st => k (pc + 1) loc (.inr (.inl a.toInt64) :: st) h | _ => none
  | .i2b => match stk with | .inl a :: st => k (pc + 1) loc (.inl a.toInt8.toInt32 :: st) h | _ => none
  | .dup => match stk with | .inl a :: st => k (pc + 1) loc (.inl a :: .inl a :: st) h | .inr (.inr a) :: st => k (pc + 1) loc (.inr (.inr a) :: .inr (.inr a) :: st) h | _ => none
  | .dup2 => match stk with | .inl b :: .inr (.inr a) :: st => k (pc + 1) loc (.inl b :: .inr (.inr a) :: .inl b :: .inr (.inr a) :: st) h | _ => none
  | .pop => match stk with | .inl _ :: st => k (pc + 1) loc st h | _ => none
  | .getfield _ => match stk with
    | .inr (.inr (t, s, j)) :: st => bif Nat.beq t (x / 32) then (match q_get t (x % 32) s j h with | some v => k (pc + 3) loc (v :: st) h | none => none) else none
    | _ => none
  | .putfield _ => match stk with
    | v :: .inr (.inr (t, s, j)) :: st => bif Nat.beq t (x / 32) then (match q_put t (x % 32) s j v h with | some h' => k (pc + 3) loc st h' | none => none) else none
    | _ => none
  | .iaload => match stk with | .inl j :: .inr (.inr (t, s, _)) :: st => bif Nat.beq (q_at t) 0 then (bif q_in j (q_al t) then k (pc + 1) loc (.inl (h.1 t 0 s j.toNatClampNeg) :: st) h else none) else none | _ => none
  | .baload => match stk with | .inl j :: .inr (.inr (t, s, _)) :: st => bif Nat.beq (q_at t) 1 then (bif q_in j (q_al t) then k (pc + 1) loc (.inl (h.1 t 0 s j.toNatClampNeg) :: st) h else none) else none | _ => none
  | .laload => match stk with | .inl j :: .inr (.inr (t, s, _)) :: st => bif Nat.beq (q_at t) 2 then (bif q_in j (q_al t) then k (pc + 1) loc (.inr (.inl (h.2 t 0 s j.toNatClampNeg)) :: st) h else none) else none | _ => none
  | .aaload => match stk with | .inl j :: .inr (.inr (t, s, _)) :: st => bif Nat.beq (q_at t) 3 || Nat.beq (q_at t) 4 then (bif q_in j (q_al t) then k (pc + 1) loc (.inr (.inr (q_ra t s j.toNatClampNeg)) :: st) h else none) else none | _ => none
  | .iastore => match stk with | .inl v :: .inl j :: .inr (.inr (t, s, _)) :: st => bif Nat.beq (q_at t) 0 then (bif q_in j (q_al t) then k (pc + 1) loc st (q_si h t 0 s j.toNatClampNeg v) else none) else none | _ => none
  | .bastore => match stk with | .inl v :: .inl j :: .inr (.inr (t, s, _)) :: st => bif Nat.beq (q_at t) 1 then (bif q_in j (q_al t) then k (pc + 1) loc st (q_si h t 0 s j.toNatClampNeg v.toInt8.toInt32) else none) else none | _ => none
  | .lastore => match stk with | .inr (.inl v) :: .inl j :: .inr (.inr (t, s, _)) :: st => bif Nat.beq (q_at t) 2 then (bif q_in j (q_al t) then k (pc + 1) loc st (q_sl h t 0 s j.toNatClampNeg v) else none) else none | _ => none
  | .arraylength => match stk with | .inr (.inr (t, _, _)) :: st => bif Nat.beq (q_at t) 9 then none else k (pc + 1) loc (.inl (Int32.ofNat (q_al t)) :: st) h | _ => none
  | .goto off => k (q_tg pc off) loc stk h
  | .ifCond c off => match stk with | .inl a :: st => bif q_cc c a 0 then k (q_tg pc off) loc st h else k (pc + 3) loc st h | _ => none
  | .if_icmp c off => match stk with | .inl b :: .inl a :: st => bif q_cc c a b then k (q_tg pc off) loc st h else k (pc + 3) loc st h | _ => none
  | .ifnonnull off => match stk with | .inr (.inr _) :: st => k (q_tg pc off) loc st h | _ => none
  | .tableswitch d lo hi offs => match stk with | .inl a :: st => (match q_ts d lo hi offs a with | some off => k (q_tg pc off) loc st h | none => none) | _ => none
  | .lookupswitch d ps => match stk with | .inl a :: st => bif (ps.toList.zip (ps.toList.drop 1)).all (fun (a, next) => a.1 < next.1) then k (q_tg pc (Op.lookupswitch.offset ps.toList d a.toInt)) loc st h else none | _ => none
  | .invokevirtual _ =>
    match stk.drop (x % 8) with
    | .inr (.inr (t, s, j)) :: st => bif Nat.beq t (x / 8 % 64) && Nat.ble (q_ct st) 8 then (match call (x / 512) (.inr (.inr (t, s, j)) :: (stk.take (x % 8)).reverse) h with | some (r, h') => k (pc + 3) loc (r.toList ++ st) h' | none => none) else none
    | _ => none
  | .invokestatic _ =>
    bif Nat.beq x 7 then (match stk with
      | .inl n :: .inl b :: .inr (.inr (t2, k2, _)) :: .inl a :: .inr (.inr (t1, k1, _)) :: st =>
        bif Nat.ble (q_ct st) 8 && a == 0 && (b == 0 && (decide (0 ≤ n) && (Nat.ble n.toNatClampNeg (q_al t1) && Nat.ble n.toNatClampNeg (q_al t2)))) then
          (bif Nat.beq (q_at t1) 0 && Nat.beq (q_at t2) 0 then k (pc + 3) loc st (q_acp t1 k1 t2 k2 n.toNatClampNeg h)
          else bif Nat.beq (q_at t1) 2 && Nat.beq (q_at t2) 2 then k (pc + 3) loc st (q_acl t1 k1 t2 k2 n.toNatClampNeg h) else none) else none
      | _ => none)
    else bif Nat.beq x 1538 then (match stk with
      | .inl b :: .inl a :: st => bif Nat.ble (q_ct st) 8 then k (pc + 3) loc (.inl (if b < a then b else a) :: st) h else none
      | _ => none)
    else bif Nat.ble (q_ct (stk.drop (x % 8))) 8 && Nat.ble (x % 8) stk.length then (match call (x / 512) (stk.take (x % 8)).reverse h with | some (r, h') => k (pc + 3) loc (r.toList ++ stk.drop (x % 8)) h' | none => none) else none
  | .ireturn => match stk with | [.inl v] => bif Nat.beq x 0 || q_01 v then some (some (.inl v), h) else none | _ => none
  | .areturn => match stk with | [.inr (.inr v)] => some (some (.inr (.inr v)), h) | _ => none
  | .return_ => match stk with | [] => some (none, h) | _ => none
  | _ => none
abbrev q_C : Type := List (List (Nat × q_Op))
def q_f (l : List (Nat × q_Op)) (pc : Nat) : Option q_Op :=
  match l with
  | [] => none
  | (p, r) :: l => bif Nat.beq p pc then some r else q_f l pc
def q_lk (c : q_C) (pc : Nat) : Option q_Op := match c[pc / 16]? with | none => none | some l => q_f l pc
def q_ex (call : Nat → List q_V → q_H → Option q_O) (c : q_C) (n : Nat) (pc : Nat) (loc : q_L) (stk : List q_V) (h : q_H) : Option q_O :=
  match n with
  | 0 => none
  | n + 1 => match q_lk c pc with
    | none => none
    | some (i, _, x) => q_do call i x pc loc stk h (q_ex call c n)
/-- the locals as a method begins -/
def q_l0 (m : Nat) (args : List q_V) : q_L :=
  match args with
  | [] => List.replicate m none
  | .inr (.inl v) :: as => some (.inr (.inl v)) :: none :: q_l0 (m - 2) as
  | v :: as => some v :: q_l0 (m - 1) as
