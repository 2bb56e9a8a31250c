/-! THE ABSTRACT MACHINE: whole numbers (an overflow stands still), references are numbers of cells, the heap is a function of cell and place.
    Cell 1000 is the machine's own: place 0 how many arrays of 4 were made behind the constructors, place 1 the script's length. Cells from 2000 on are read only: 2000 the script, 2001 ABOVE, 2002 ACROSS, 2003 UP. -/
abbrev am_ok (z : Int) : Prop := -2147483648 ≤ z ∧ z ≤ 2147483647
def am_up (h : am_H) (p : Nat) (i v : Int) : am_H := fun q j => if q = p ∧ j = i then v else h q j
def am_cp (h : am_H) (a : Nat) (sp : Int) (b : Nat) (dp n : Int) : am_H := fun q j => if q = b ∧ dp ≤ j ∧ j < dp + n then h a (sp + (j - dp)) else h q j
def am_n (h : am_H) : Nat := 80 + (h 1000 0).toNat
def am_nw (h : am_H) : am_H := fun q j => if q = 1000 ∧ j = 0 then h 1000 0 + 1 else if q = am_n h then 0 else h q j
def am_ct (p : Nat) (j : Int) : Int := if p = 2001 then [-1, 0, 0, 1].getD j.toNat 0 else if p = 2002 then [1, 0, 1, 1, 2, 1, 2, 1].getD j.toNat 0 else [0, 1, 1, -1, 1, 2, -1, -2].getD j.toNat 0
/-- a row's length; of a cell that is no row: none -/
def am_al (h : am_H) (p : Nat) : Option Nat :=
  if p < 80 then (match am_cell p with | .inl n => some n | .inr _ => none) else if p < 1000 then (if p < am_n h then some 4 else none) else if p = 2000 then some (h 1000 1).toNat else if p = 2001 then some 4 else if p = 2002 ∨ p = 2003 then some 8 else none
def am_ag (h : am_H) (p : Nat) (j : Int) : Int := if 2000 < p then am_ct p j else h p j
/-- a field by its number: none an int, some r the cell r -/
def am_fd (a t : Nat) : Option (Option Nat) := match am_cell a with | .inl _ => none | .inr (ci, fs) => if t / 64 = ci then fs[t % 64]? else none
def am_oc (a : Nat) : Int := if a < 80 then (match am_cell a with | .inl _ => 77 | .inr (ci, _) => ci) else 77
def am_g : am_L → Nat → Option am_V
  | [], _ => none
  | o :: _, 0 => o
  | _ :: l, n + 1 => am_g l n
def am_p : am_L → Nat → am_V → am_L
  | [], _, _ => []
  | _ :: l, 0, v => some v :: l
  | o :: l, n + 1, v => o :: am_p l n v
def am_nl : Option am_V → Prop
  | some (.inr (.inl _)) => False
  | _ => True
def am_c1 : am_V → Prop
  | .inr (.inl _) => False
  | _ => True
/-- a local that may be written: it is there, and no long stands ahead of it -/
def am_s1 (ls : am_L) (t : Nat) : Prop := t < ls.length ∧ am_nl (am_g ls (t - 1))
def am_pop : Nat → List am_V → List am_V → Option (List am_V × List am_V)
  | 0, st, acc => some (acc, st)
  | n + 1, v :: st, acc => am_pop n st (v :: acc)
  | _ + 1, [], _ => none
def am_if (c : Jvm.ClassFile.Cond) (x y : Int) (P R : Prop) : Prop := match c with
  | .eq => if x = y then P else R
  | .ne => if x = y then R else P
  | .lt => if x < y then P else R
  | .ge => if x < y then R else P
  | .gt => if y < x then P else R
  | .le => if y < x then R else P
def am_and (a b : Int) : Int := (Int32.ofInt a &&& Int32.ofInt b).toInt
def am_or (a b : Int) : Int := (Int32.ofInt a ||| Int32.ofInt b).toInt
def am_xor (a b : Int) : Int := (Int32.ofInt a ^^^ Int32.ofInt b).toInt
def am_shl (a b : Int) : Int := (Int32.ofInt a <<< (Int32.ofInt b &&& 31)).toInt
def am_shr (a b : Int) : Int := (Int32.ofInt a >>> (Int32.ofInt b &&& 31)).toInt
def am_ushr (a b : Int) : Int := (((Int32.ofInt a).toUInt32 >>> ((Int32.ofInt b).toUInt32 &&& Int32.toUInt32 31)).toInt32).toInt
def am_lshl (a : Int64) (b : Int) : Int64 := a <<< ((Int32.ofInt b).toInt64 &&& 63)
def am_lshr (a : Int64) (b : Int) : Int64 := a >>> ((Int32.ofInt b).toInt64 &&& 63)
def am_lushr (a : Int64) (b : Int) : Int64 := (a.toUInt64 >>> ((Int32.ofInt b).toInt64.toUInt64 &&& Int64.toUInt64 63)).toInt64
def am_lc (a b : Int64) : Int := if b < a then 1 else if a = b then 0 else -1
/-- a switch's targets, one behind the other -/
def am_sw (K : Nat → Prop) (x : Int) (d : Nat) : Int → List Nat → Prop
  | _, [] => K d
  | lo, t :: ts => if x = lo then K t else am_sw K x d (lo + 1) ts
def am_lw (K : Nat → Prop) (x : Int) (d : Nat) : List (Int × Nat) → Prop
  | [] => K d
  | (v, t) :: ts => if x = v then K t else am_lw K x d ts
def am_tg (pc : Nat) (o : Int) : Nat := ((pc : Int) + o).toNat
/-- the method that makes an array -/
def am_BD : Nat := 196
/-- a stack's words -/
def am_c : am_V → Nat
  | .inr (.inl _) => 2
  | _ => 1
def am_wd : List am_V → Nat
  | [] => 0
  | v :: st => am_c v + am_wd st
def am_call (C : Nat → List am_V → am_H → Option am_V → am_H → Prop) (K : Nat → Nat → am_L → List am_V → am_H → Prop) (b nx t : Nat) (ls : am_L) (h : am_H) (args st : List am_V) : Prop :=
  am_wd st ≤ 8 ∧ (if t = am_BD then (match b with | 0 => False | b' + 1 => ∃ r h1, C t args h r h1 ∧ K b' nx ls (r.toList ++ st) h1) else ∃ r h1, C t args h r h1 ∧ K b nx ls (r.toList ++ st) h1)
/-- what an instruction does: K is what must hold of the state behind it, Q of an answer -/
def am_i (C : Nat → List am_V → am_H → Option am_V → am_H → Prop) (K : Nat → Nat → am_L → List am_V → am_H → Prop) (Q : am_Q) (z : Bool) (b pc : Nat) (ls : am_L) (st : List am_V) (h : am_H) (nx t u : Nat) (x : Int) : Instr → Prop
  | .iconst _ => K b nx ls (.inl x :: st) h
  | .bipush _ => K b nx ls (.inl x :: st) h
  | .sipush _ => K b nx ls (.inl x :: st) h
  | .ldc _ => K b nx ls (.inl x :: st) h
  | .ldc_w _ => K b nx ls (.inl x :: st) h
  | .ldc2_w _ => K b nx ls (.inr (.inl (Int64.ofInt x)) :: st) h
  | .iload_n _ => match am_g ls t with | some (.inl a) => K b nx ls (.inl a :: st) h | _ => False
  | .iload _ => match am_g ls t with | some (.inl a) => K b nx ls (.inl a :: st) h | _ => False
  | .aload_n _ => match am_g ls t with | some (.inr (.inr a)) => K b nx ls (.inr (.inr a) :: st) h | _ => False
  | .aload _ => match am_g ls t with | some (.inr (.inr a)) => K b nx ls (.inr (.inr a) :: st) h | _ => False
  | .lload_n _ => match am_g ls t with | some (.inr (.inl a)) => K b nx ls (.inr (.inl a) :: st) h | _ => False
  | .istore_n _ => match st with | .inl a :: st => am_s1 ls t ∧ K b nx (am_p ls t (.inl a)) st h | _ => False
  | .istore _ => match st with | .inl a :: st => am_s1 ls t ∧ K b nx (am_p ls t (.inl a)) st h | _ => False
  | .astore_n _ => match st with | .inr (.inr a) :: st => am_s1 ls t ∧ K b nx (am_p ls t (.inr (.inr a))) st h | _ => False
  | .astore _ => match st with | .inr (.inr a) :: st => am_s1 ls t ∧ K b nx (am_p ls t (.inr (.inr a))) st h | _ => False
  | .iinc _ _ => match am_g ls t with | some (.inl a) => am_ok (a + x) ∧ am_s1 ls t ∧ K b nx (am_p ls t (.inl (a + x))) st h | _ => False
  | .iadd => match st with | .inl c :: .inl a :: st => am_ok (a + c) ∧ K b nx ls (.inl (a + c) :: st) h | _ => False
  | .isub => match st with | .inl c :: .inl a :: st => am_ok (a - c) ∧ K b nx ls (.inl (a - c) :: st) h | _ => False
  | .imul => match st with | .inl c :: .inl a :: st => am_ok (a * c) ∧ K b nx ls (.inl (a * c) :: st) h | _ => False
  | .idiv => match st with | .inl c :: .inl a :: st => (0 < c ∧ 0 ≤ a) ∧ K b nx ls (.inl (a / c) :: st) h | _ => False
  | .irem => match st with | .inl c :: .inl a :: st => (0 < c ∧ 0 ≤ a) ∧ K b nx ls (.inl (a % c) :: st) h | _ => False
  | .iand => match st with | .inl c :: .inl a :: st => K b nx ls (.inl (am_and a c) :: st) h | _ => False
  | .ior => match st with | .inl c :: .inl a :: st => K b nx ls (.inl (am_or a c) :: st) h | _ => False
  | .ixor => match st with | .inl c :: .inl a :: st => K b nx ls (.inl (am_xor a c) :: st) h | _ => False
  | .ishl => match st with | .inl c :: .inl a :: st => K b nx ls (.inl (am_shl a c) :: st) h | _ => False
  | .ishr => match st with | .inl c :: .inl a :: st => K b nx ls (.inl (am_shr a c) :: st) h | _ => False
  | .iushr => match st with | .inl c :: .inl a :: st => K b nx ls (.inl (am_ushr a c) :: st) h | _ => False
  | .ladd => match st with | .inr (.inl c) :: .inr (.inl a) :: st => K b nx ls (.inr (.inl (a + c)) :: st) h | _ => False
  | .land => match st with | .inr (.inl c) :: .inr (.inl a) :: st => K b nx ls (.inr (.inl (a &&& c)) :: st) h | _ => False
  | .lor => match st with | .inr (.inl c) :: .inr (.inl a) :: st => K b nx ls (.inr (.inl (a ||| c)) :: st) h | _ => False
  | .lshl => match st with | .inl c :: .inr (.inl a) :: st => K b nx ls (.inr (.inl (am_lshl a c)) :: st) h | _ => False
  | .lshr => match st with | .inl c :: .inr (.inl a) :: st => K b nx ls (.inr (.inl (am_lshr a c)) :: st) h | _ => False
  | .lushr => match st with | .inl c :: .inr (.inl a) :: st => K b nx ls (.inr (.inl (am_lushr a c)) :: st) h | _ => False
  | .lcmp => match st with | .inr (.inl c) :: .inr (.inl a) :: st => K b nx ls (.inl (am_lc a c) :: st) h | _ => False
  | .i2l => match st with | .inl a :: st => K b nx ls (.inr (.inl (Int64.ofInt a)) :: st) h | _ => False
  | .l2i => match st with | .inr (.inl a) :: st => K b nx ls (.inl a.toInt32.toInt :: st) h | _ => False
  | .i2b => match st with | .inl a :: st => K b nx ls (.inl (Int32.ofInt a).toInt8.toInt :: st) h | _ => False
  | .i2s => match st with | .inl a :: st => K b nx ls (.inl (Int32.ofInt a).toInt16.toInt :: st) h | _ => False
  | .dup => match st with | v :: st => am_c1 v ∧ K b nx ls (v :: v :: st) h | _ => False
  | .dup_x1 => match st with | v :: w :: st => (am_c1 v ∧ am_c1 w) ∧ K b nx ls (v :: w :: v :: st) h | _ => False
  | .dup2 => match st with | v :: w :: st => (am_c1 v ∧ am_c1 w) ∧ K b nx ls (v :: w :: v :: w :: st) h | _ => False
  | .ifCond c _ => match st with | .inl a :: st => am_if c a 0 (K b t ls st h) (K b nx ls st h) | _ => False
  | .if_icmp c _ => match st with | .inl y :: .inl a :: st => am_if c a y (K b t ls st h) (K b nx ls st h) | _ => False
  | .goto _ => K b t ls st h
  | .tableswitch d lo _ os => match st with | .inl a :: st => am_sw (fun t => K b t ls st h) a (am_tg pc d) lo (os.toList.map (am_tg pc)) | _ => False
  | .lookupswitch d ps => match st with | .inl a :: st => am_lw (fun t => K b t ls st h) a (am_tg pc d) (ps.toList.map (fun q => (q.1, am_tg pc q.2))) | _ => False
  | .getfield _ => match st with
    | .inr (.inr a) :: st => (match am_fd a t with | some none => K b nx ls (.inl (h a x) :: st) h | some (some r) => K b nx ls (.inr (.inr r) :: st) h | none => False)
    | _ => False
  | .putfield _ => match st with | .inl v :: .inr (.inr a) :: st => am_fd a t = some none ∧ K b nx ls st (am_up h a x v) | _ => False
  | .getstatic _ => K b nx ls (.inr (.inr t) :: st) h
  | .iaload => match st with
    | .inl i :: .inr (.inr a) :: st => (match am_al h a with | some n => (0 ≤ i ∧ i < (n : Int)) ∧ K b nx ls (.inl (am_ag h a i) :: st) h | none => False)
    | _ => False
  | .iastore => match st with
    | .inl v :: .inl i :: .inr (.inr a) :: st => (match am_al h a with | some n => a < 1000 ∧ (0 ≤ i ∧ i < (n : Int)) ∧ K b nx ls st (am_up h a i v) | none => False)
    | _ => False
  | .arraylength => match st with
    | .inr (.inr a) :: st => (match am_al h a with | some n => K b nx ls (.inl (n : Int) :: st) h | none => False)
    | _ => False
  | .newarray _ => match st with
    | .inl n :: st => n = 4 ∧ h 1000 0 < 800 ∧ (match b with | 0 => False | b' + 1 => K b' nx ls (.inr (.inr (am_n h)) :: st) (am_nw h))
    | _ => False
  | .invokevirtual _ => match am_pop u st [] with
    | some (.inr (.inr a) :: args, st) => am_oc a = x ∧ am_call C K b nx t ls h (.inr (.inr a) :: args) st
    | _ => False
  | .invokestatic _ => if t = 9999 then (match st with
      | .inl n :: .inl dp :: .inr (.inr b1) :: .inl sp :: .inr (.inr a) :: st => (match am_al h a, am_al h b1 with
        | some na, some nb => (a < 1000 ∧ b1 < 1000) ∧ am_wd st ≤ 8 ∧ (0 ≤ sp ∧ 0 ≤ dp ∧ 0 ≤ n ∧ sp + n ≤ (na : Int) ∧ dp + n ≤ (nb : Int)) ∧ K b nx ls st (am_cp h a sp b1 dp n)
        | _, _ => False)
      | _ => False)
    else (match am_pop u st [] with
    | some (args, st) => am_call C K b nx t ls h args st
    | none => False)
  | .ireturn => match st with | [.inl a] => (z = true → a = 0 ∨ a = 1) ∧ Q (some (.inl a)) h | _ => False
  | .return_ => match st with | [] => Q none h | _ => False
  | _ => False
def am_zb (k : Nat) : Bool := decide (am_rt k = some .boolean)
/-- the machine: n instructions at most -/
def am_w (C : Nat → List am_V → am_H → Option am_V → am_H → Prop) (k : Nat) (Q : am_Q) : Nat → Nat → Nat → am_L → List am_V → am_H → Prop
  | 0, _, _, _, _, _ => False
  | n + 1, b, pc, ls, st, h => match am_look k pc with
    | some (i, nx, t, u, x) => am_i C (am_w C k Q n) Q (am_zb k) b pc ls st h nx t u x i
    | none => False
def am_x (C : Nat → List am_V → am_H → Option am_V → am_H → Prop) (k : Nat) (Q : am_Q) (b pc : Nat) (ls : am_L) (st : List am_V) (h : am_H) : Prop := ∃ n, am_w C k Q n b pc ls st h
/-- a method's first locals -/
def am_en : List am_V → am_L
  | [] => []
  | .inr (.inl a) :: vs => some (.inr (.inl a)) :: none :: am_en vs
  | v :: vs => some v :: am_en vs
def am_ent (ml : Nat) (vs : List am_V) : am_L := am_en vs ++ List.replicate (ml - (am_en vs).length) none
def am_ab (k : Nat) : Nat := if k = am_BD then 1 else 0
/-- a call: at most d frames deep -/
def am_cd : Nat → Nat → List am_V → am_H → Option am_V → am_H → Prop
  | 0, _, _, _, _, _ => False
  | d + 1, j, vs, h, r, h' => ((am_en vs).length ≤ am_ml j ∧ vs.length = am_np j + (if am_sc j then 0 else 1)) ∧ am_x (am_cd d) j (fun r1 h1 => r1 = r ∧ h1 = h') (am_ab j) 0 (am_ent (am_ml j) vs) [] h
/-- n instructions, one behind the other, up to the places named -/
def am_e (C : Nat → List am_V → am_H → Option am_V → am_H → Prop) (k : Nat) (K : Nat → Nat → am_L → List am_V → am_H → Prop) (Q : am_Q) (W0 : Prop) (b pc : Nat) (ls : am_L) (st : List am_V) (h : am_H) : Bool → Option am_E → Prop
  | false, some (i, nx, t, u, x) => am_i C K Q (am_zb k) b pc ls st h nx t u x i
  | _, _ => W0
def am_u (C : Nat → List am_V → am_H → Option am_V → am_H → Prop) (k : Nat) (Q : am_Q) (cuts : List Nat) : Nat → Nat → Nat → am_L → List am_V → am_H → Prop
  | 0, b, pc, ls, st, h => am_x C k Q b pc ls st h
  | n + 1, b, pc, ls, st, h => am_e C k (am_u C k Q cuts n) Q (am_x C k Q b pc ls st h) b pc ls st h (cuts.elem pc) (am_look k pc)
