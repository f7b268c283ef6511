/-! THE SMALL MACHINE: a method's walk as a function of pure data. A reference is a number i: 0 .. 3 are arrays that nobody writes (three statics, the script), from 4 on the cells that the run makes, in their order.
    A heap: the ints (cell, place), the references (cell, place), the shapes: (0, c): an object of class c; (1, n): an int array of n; (t + 2, n): an array of n references. -/
abbrev sHp : Type := (Nat → Nat → Int32) × (Nat → Nat → Option Nat) × List (Nat × Nat)
/-- a row of a method's code: pc, the instruction with its links resolved, its length, its pool index, the places of its words -/
abbrev sE : Type := Nat × Instr × Nat × Nat × List Nat
/-- a method: name, bytes, locals, what it returns, how many values it takes (the receiver too), frames and words of locals below it, its rows -/
abbrev sM : Type := MethodName × ByteArray × Nat × Option FieldType × Nat × Nat × Nat × List sE
abbrev s_y (r : sM) : MethodName := r.1
abbrev s_b (r : sM) : ByteArray := r.2.1
abbrev s_mL (r : sM) : Nat := r.2.2.1
abbrev s_rt (r : sM) : Option FieldType := r.2.2.2.1
abbrev s_na (r : sM) : Nat := r.2.2.2.2.1
abbrev s_fr (r : sM) : Nat := r.2.2.2.2.2.1
abbrev s_lo (r : sM) : Nat := r.2.2.2.2.2.2.1
abbrev s_cd (r : sM) : List sE := r.2.2.2.2.2.2.2
def s_nth {α : Type} : List α → Nat → Option α
  | [], _ => none
  | a :: _, 0 => some a
  | _ :: l, n + 1 => s_nth l n
theorem s_nth_eq {α : Type} : ∀ (l : List α) (n : Nat), s_nth l n = l[n]?
  | [], n => by simp [s_nth]
  | a :: l, 0 => by simp [s_nth]
  | a :: l, n + 1 => by rw [s_nth, s_nth_eq l n, List.getElem?_cons_succ]
def s_at : List sE → Nat → Option sE
  | [], _ => none
  | e :: l, pc => if e.1 = pc then some e else s_at l pc
theorem s_at_mem : ∀ {l : List sE} {pc : Nat} {e : sE}, s_at l pc = some e → e ∈ l ∧ e.1 = pc
  | [], pc, e, h => by cases h
  | a :: l, pc, e, h => by
    unfold s_at at h
    split at h
    next hq => cases h; exact ⟨List.mem_cons_self, hq⟩
    next hq => exact ⟨List.mem_cons_of_mem _ (s_at_mem h).1, (s_at_mem h).2⟩
/-- no value: a local that isn't set, or the second half of a long -/
abbrev s_no : Value := .retAddr 0
def s_two : Value → Bool
  | .long _ => true
  | .double _ => true
  | _ => false
theorem s_two_cat (v : Value) : (s_two v = true ↔ v.category = 2) := by cases v <;> simp [s_two, Value.category]
/-- what stands ahead of a place that is written: a long there loses its second half -/
def s_cut : List Value → Nat → List Value
  | [], _ => []
  | l, 0 => l
  | v :: l, 1 => (if s_two v then s_no else v) :: l
  | v :: l, n + 2 => v :: s_cut l (n + 1)
def s_put1 (l : List Value) (i : Nat) (v : Value) : List Value := (s_cut l i).set i v
def s_put2 (l : List Value) (i : Nat) (v : Value) : List Value := ((s_cut l i).set i v).set (i + 1) s_no
/-- the locals at a method's entry -/
def s_ent : List Value → Nat → List Value
  | [], n => List.replicate n s_no
  | v :: vs, n => if s_two v then v :: s_no :: s_ent vs (n - 2) else v :: s_ent vs (n - 1)
def s_upd (Z : Nat → Nat → Int32) (a k : Nat) (x : Int32) : Nat → Nat → Int32 := fun i => if i = a then upd (Z i) k x else Z i
def s_updR (R : Nat → Nat → Option Nat) (a k : Nat) (x : Option Nat) : Nat → Nat → Option Nat := fun i => if i = a then va_up (R i) k x else R i
def s_new (h : sHp) (t n : Nat) : sHp := (fun i => if i = h.2.2.length then (fun _ => 0) else h.1 i, fun i => if i = h.2.2.length then (fun _ => none) else h.2.1 i, h.2.2 ++ [(t, n)])
def s_cnd (c : Jvm.ClassFile.Cond) (x y : Int32) : Bool := match c with
  | .eq => decide (x = y)
  | .ne => decide (x ≠ y)
  | .lt => decide (x < y)
  | .ge => decide (y ≤ x)
  | .gt => decide (y < x)
  | .le => decide (x ≤ y)
abbrev sC : Type := Nat × List Value × List Value × sHp
def s_out (i : Int32) (n : Nat) : Prop := i < 0 ∨ n ≤ i.toNatClampNeg
def s_outb (i : Int32) (n : Nat) : Bool := decide (i < 0) || Nat.ble n i.toNatClampNeg
def s_cat : List Value → Nat
  | [] => 0
  | v :: l => (if s_two v then 2 else 1) + s_cat l
/-- one instruction that calls nothing and returns nothing -/
def s_x (i : Instr) (pc n : Nat) (ls st : List Value) (h : sHp) : Option sC :=
  match i with
  | .iconst v => some (pc + n, ls, .int (Int32.ofInt v) :: st, h)
  | .bipush v => some (pc + n, ls, .int (Int8.ofInt v).toInt32 :: st, h)
  | .sipush v => some (pc + n, ls, .int (Int16.ofInt v).toInt32 :: st, h)
  | .ldc v => some (pc + n, ls, .int (Int32.ofNat v) :: st, h)
  | .ldc_w v => some (pc + n, ls, .int (Int32.ofNat v) :: st, h)
  | .ldc2_w v => some (pc + n, ls, .long (Int64.ofNat v) :: st, h)
  | .ret v => some (pc + n, ls, .float (UInt32.ofNat v) :: st, h)
  | .multianewarray v _ => some (pc + n, ls, .float (UInt32.ofNat v) :: st, h)
  | .putstatic v => some (pc + n, ls, .double (UInt64.ofNat v) :: st, h)
  | .lconst k => some (pc + n, ls, .long (Int64.ofNat k.val) :: st, h)
  | .fconst k => some (pc + n, ls, .float (if k.val = 0 then FP.fconst0 else if k.val = 1 then FP.fconst1 else FP.fconst2) :: st, h)
  | .dconst k => some (pc + n, ls, .double (if k.val = 0 then FP.dconst0 else FP.dconst1) :: st, h)
  | .aconst_null => some (pc + n, ls, .null :: st, h)
  | .iload_n k => (match s_nth ls k.val with | some (.int x) => some (pc + n, ls, .int x :: st, h) | _ => none)
  | .iload k => (match s_nth ls k with | some (.int x) => some (pc + n, ls, .int x :: st, h) | _ => none)
  | .lload_n k => (match s_nth ls k.val with | some (.long x) => some (pc + n, ls, .long x :: st, h) | _ => none)
  | .lload k => (match s_nth ls k with | some (.long x) => some (pc + n, ls, .long x :: st, h) | _ => none)
  | .fload_n k => (match s_nth ls k.val with | some (.float x) => some (pc + n, ls, .float x :: st, h) | _ => none)
  | .dload_n k => (match s_nth ls k.val with | some (.double x) => some (pc + n, ls, .double x :: st, h) | _ => none)
  | .aload_n k => (match s_nth ls k.val with | some (.ref x) => some (pc + n, ls, .ref x :: st, h) | some .null => some (pc + n, ls, .null :: st, h) | _ => none)
  | .aload k => (match s_nth ls k with | some (.ref x) => some (pc + n, ls, .ref x :: st, h) | some .null => some (pc + n, ls, .null :: st, h) | _ => none)
  | .istore_n k => (match st with
    | .int x :: r => if k.val < ls.length then some (pc + n, s_put1 ls k.val (.int x), r, h) else none
    | _ => none)
  | .istore k => (match st with
    | .int x :: r => if k < ls.length then some (pc + n, s_put1 ls k (.int x), r, h) else none
    | _ => none)
  | .fstore_n k => (match st with
    | .float x :: r => if k.val < ls.length then some (pc + n, s_put1 ls k.val (.float x), r, h) else none
    | _ => none)
  | .lstore_n k => (match st with
    | .long x :: r => if k.val + 1 < ls.length then some (pc + n, s_put2 ls k.val (.long x), r, h) else none
    | _ => none)
  | .lstore k => (match st with
    | .long x :: r => if k + 1 < ls.length then some (pc + n, s_put2 ls k (.long x), r, h) else none
    | _ => none)
  | .dstore_n k => (match st with
    | .double x :: r => if k.val + 1 < ls.length then some (pc + n, s_put2 ls k.val (.double x), r, h) else none
    | _ => none)
  | .astore_n k => (match st with
    | .ref x :: r => if k.val < ls.length then some (pc + n, s_put1 ls k.val (.ref x), r, h) else none
    | .null :: r => if k.val < ls.length then some (pc + n, s_put1 ls k.val .null, r, h) else none
    | _ => none)
  | .astore k => (match st with
    | .ref x :: r => if k < ls.length then some (pc + n, s_put1 ls k (.ref x), r, h) else none
    | .null :: r => if k < ls.length then some (pc + n, s_put1 ls k .null, r, h) else none
    | _ => none)
  | .iinc k v => (match s_nth ls k with | some (.int x) => some (pc + n, s_put1 ls k (.int (x + Int32.ofInt v)), st, h) | _ => none)
  | .dup => (match st with
    | v :: r => if s_two v then none else some (pc + n, ls, v :: v :: r, h)
    | _ => none)
  | .pop => (match st with
    | v :: r => if s_two v then none else some (pc + n, ls, r, h)
    | _ => none)
  | .dup2 => (match st with
    | v :: r => if s_two v then some (pc + n, ls, v :: v :: r, h) else (match r with | w :: r2 => if s_two w then none else some (pc + n, ls, v :: w :: v :: w :: r2, h) | [] => none)
    | _ => none)
  | .iadd => (match st with
    | .int y :: .int x :: r => some (pc + n, ls, .int (x + y) :: r, h)
    | _ => none)
  | .isub => (match st with
    | .int y :: .int x :: r => some (pc + n, ls, .int (x - y) :: r, h)
    | _ => none)
  | .imul => (match st with
    | .int y :: .int x :: r => some (pc + n, ls, .int (x * y) :: r, h)
    | _ => none)
  | .iand => (match st with
    | .int y :: .int x :: r => some (pc + n, ls, .int (x &&& y) :: r, h)
    | _ => none)
  | .ior => (match st with
    | .int y :: .int x :: r => some (pc + n, ls, .int (x ||| y) :: r, h)
    | _ => none)
  | .ishl => (match st with
    | .int y :: .int x :: r => some (pc + n, ls, .int (x <<< (y &&& 31)) :: r, h)
    | _ => none)
  | .idiv => (match st with
    | .int y :: .int x :: r => if y = 0 then none else some (pc + n, ls, .int (x / y) :: r, h)
    | _ => none)
  | .irem => (match st with
    | .int y :: .int x :: r => if y = 0 then none else some (pc + n, ls, .int (x - x / y * y) :: r, h)
    | _ => none)
  | .ishr => (match st with
    | .int y :: .int x :: r => some (pc + n, ls, .int (x >>> (y &&& 31)) :: r, h)
    | _ => none)
  | .ladd => (match st with
    | .long y :: .long x :: r => some (pc + n, ls, .long (x + y) :: r, h)
    | _ => none)
  | .lsub => (match st with
    | .long y :: .long x :: r => some (pc + n, ls, .long (x - y) :: r, h)
    | _ => none)
  | .land => (match st with
    | .long y :: .long x :: r => some (pc + n, ls, .long (x &&& y) :: r, h)
    | _ => none)
  | .lor => (match st with
    | .long y :: .long x :: r => some (pc + n, ls, .long (x ||| y) :: r, h)
    | _ => none)
  | .lshl => (match st with
    | .int y :: .long x :: r => some (pc + n, ls, .long (x <<< (y.toInt64 &&& 63)) :: r, h)
    | _ => none)
  | .lushr => (match st with
    | .int y :: .long x :: r => some (pc + n, ls, .long (x.toUInt64 >>> (y.toInt64.toUInt64 &&& Int64.toUInt64 63)).toInt64 :: r, h)
    | _ => none)
  | .i2l => (match st with
    | .int x :: r => some (pc + n, ls, .long x.toInt64 :: r, h)
    | _ => none)
  | .l2i => (match st with
    | .long x :: r => some (pc + n, ls, .int x.toInt32 :: r, h)
    | _ => none)
  | .i2f => (match st with
    | .int x :: r => some (pc + n, ls, .float (FP.i2f x) :: r, h)
    | _ => none)
  | .i2d => (match st with
    | .int x :: r => some (pc + n, ls, .double (FP.i2d x) :: r, h)
    | _ => none)
  | .l2d => (match st with
    | .long x :: r => some (pc + n, ls, .double (FP.l2d x) :: r, h)
    | _ => none)
  | .d2l => (match st with
    | .double x :: r => some (pc + n, ls, .long (FP.d2l x) :: r, h)
    | _ => none)
  | .f2i => (match st with
    | .float x :: r => some (pc + n, ls, .int (FP.f2i x) :: r, h)
    | _ => none)
  | .lcmp => (match st with
    | .long y :: .long x :: r => some (pc + n, ls, .int (lg_cmp x y) :: r, h)
    | _ => none)
  | .fcmp op => (match st with
    | .float y :: .float x :: r => some (pc + n, ls, .int (Op.cmpValue (FP.fcmp x y) op) :: r, h)
    | _ => none)
  | .dcmp op => (match st with
    | .double y :: .double x :: r => some (pc + n, ls, .int (Op.cmpValue (FP.dcmp x y) op) :: r, h)
    | _ => none)
  | .fsub => (match st with
    | .float y :: .float x :: r => if FP.fsub x y &&& 0x7fffffff ≤ 0x7f800000 then some (pc + n, ls, .float (FP.fsub x y) :: r, h) else none
    | _ => none)
  | .fmul => (match st with
    | .float y :: .float x :: r => if FP.fmul x y &&& 0x7fffffff ≤ 0x7f800000 then some (pc + n, ls, .float (FP.fmul x y) :: r, h) else none
    | _ => none)
  | .fdiv => (match st with
    | .float y :: .float x :: r => if FP.fdiv x y &&& 0x7fffffff ≤ 0x7f800000 then some (pc + n, ls, .float (FP.fdiv x y) :: r, h) else none
    | _ => none)
  | .dsub => (match st with
    | .double y :: .double x :: r => if FP.dsub x y &&& 0x7fffffffffffffff ≤ 0x7ff0000000000000 then some (pc + n, ls, .double (FP.dsub x y) :: r, h) else none
    | _ => none)
  | .dmul => (match st with
    | .double y :: .double x :: r => if FP.dmul x y &&& 0x7fffffffffffffff ≤ 0x7ff0000000000000 then some (pc + n, ls, .double (FP.dmul x y) :: r, h) else none
    | _ => none)
  | .ddiv => (match st with
    | .double y :: .double x :: r => if FP.ddiv x y &&& 0x7fffffffffffffff ≤ 0x7ff0000000000000 then some (pc + n, ls, .double (FP.ddiv x y) :: r, h) else none
    | _ => none)
  | .drem => (match st with
    | .double y :: .double x :: r => if FP.drem x y &&& 0x7fffffffffffffff ≤ 0x7ff0000000000000 then some (pc + n, ls, .double (FP.drem x y) :: r, h) else none
    | _ => none)
  | .ifCond c t => (match st with
    | .int x :: r => some (if s_cnd c x 0 = true then t.toNat else pc + n, ls, r, h)
    | _ => none)
  | .if_icmp c t => (match st with
    | .int y :: .int x :: r => some (if s_cnd c x y = true then t.toNat else pc + n, ls, r, h)
    | _ => none)
  | .ifnull t => (match st with
    | .null :: r => some (t.toNat, ls, r, h)
    | .ref _ :: r => some (pc + n, ls, r, h)
    | _ => none)
  | .ifnonnull t => (match st with
    | .null :: r => some (pc + n, ls, r, h)
    | .ref _ :: r => some (t.toNat, ls, r, h)
    | _ => none)
  | .goto t => some (t.toNat, ls, st, h)
  | .tableswitch d lo hi o => (match st with
    | .int x :: r => if x.toInt < lo ∨ hi < x.toInt then some (d.toNat, ls, r, h) else (match s_nth o.toList (x.toInt - lo).toNat with | some t => some (t.toNat, ls, r, h) | none => none)
    | _ => none)
  | .lookupswitch d ps => (match st with
    | .int x :: r => some ((Op.lookupswitch.offset ps.toList d x.toInt).toNat, ls, r, h)
    | _ => none)
  | .getfield e => (match st with
    | .ref a :: r => (match s_nth h.2.2 a with
    | some (0, c) => if c = e / 1024 then (if e % 8 = 2 then (match h.2.1 a (e % 1024 / 8) with | some b => some (pc + n, ls, .ref b :: r, h) | none => some (pc + n, ls, .null :: r, h)) else some (pc + n, ls, .int (h.1 a (e % 1024 / 8)) :: r, h)) else none
    | _ => none)
    | _ => none)
  | .putfield e => (match st with
    | .int x :: .ref a :: r => (match s_nth h.2.2 a with
    | some (0, c) => if c = e / 1024 then (if e % 8 = 0 then some (pc + n, ls, r, (s_upd h.1 a (e % 1024 / 8) x, h.2)) else if e % 8 = 1 then (if x = 0 ∨ x = 1 then some (pc + n, ls, r, (s_upd h.1 a (e % 1024 / 8) x, h.2)) else none) else none) else none
    | _ => none)
    | .ref b :: .ref a :: r => (match s_nth h.2.2 a with
    | some (0, c) => if c = e / 1024 then (if e % 8 = 2 then some (pc + n, ls, r, (h.1, s_updR h.2.1 a (e % 1024 / 8) (some b), h.2.2)) else none) else none
    | _ => none)
    | _ => none)
  | .getstatic j => some (pc + n, ls, .ref j :: st, h)
  | .instanceof j => some (pc + n, ls, .ref j :: st, h)
  | .arraylength => (match st with
    | .ref a :: r => (match s_nth h.2.2 a with
    | some (t + 1, m) => some (pc + n, ls, .int (Int32.ofNat m) :: r, h)
    | _ => none)
    | _ => none)
  | .iaload => (match st with
    | .int i :: .ref a :: r => (match s_nth h.2.2 a with
    | some (1, m) => if s_outb i m = true then none else some (pc + n, ls, .int (h.1 a i.toNatClampNeg) :: r, h)
    | _ => none)
    | _ => none)
  | .iastore => (match st with
    | .int x :: .int i :: .ref a :: r => (match s_nth h.2.2 a with
    | some (1, m) => if s_outb i m = true ∨ a < 4 then none else some (pc + n, ls, r, (s_upd h.1 a i.toNatClampNeg x, h.2))
    | _ => none)
    | _ => none)
  | .aaload => (match st with
    | .int i :: .ref a :: r => (match s_nth h.2.2 a with
    | some (t + 2, m) => if s_outb i m = true ∨ a < 4 then none else (match h.2.1 a i.toNatClampNeg with | some b => some (pc + n, ls, .ref b :: r, h) | none => some (pc + n, ls, .null :: r, h))
    | _ => none)
    | _ => none)
  | .aastore => (match st with
    | .ref b :: .int i :: .ref a :: r => (match s_nth h.2.2 a, s_nth h.2.2 b with
    | some (t + 2, m), some (0, c) => if s_outb i m = true ∨ a < 4 ∨ b < 4 ∨ c ≠ t then none else some (pc + n, ls, r, (h.1, s_updR h.2.1 a i.toNatClampNeg (some b), h.2.2))
    | _, _ => none)
    | _ => none)
  | .new c => some (pc + n, ls, .ref h.2.2.length :: st, s_new h 0 c)
  | .newarray .int => (match st with
    | .int k :: r => if k < 0 ∨ 65536 < k then none else some (pc + n, ls, .ref h.2.2.length :: r, s_new h 1 k.toNatClampNeg)
    | _ => none)
  | .anewarray t => (match st with
    | .int k :: r => if k < 0 ∨ 65536 < k then none else some (pc + n, ls, .ref h.2.2.length :: r, s_new h (t + 2) k.toNatClampNeg)
    | _ => none)
  | .monitorenter => (match st with
    | .ref _ :: r => if 8 < s_cat r then none else some (pc + n, ls, r, h)
    | _ => none)
  | .monitorexit => (match st with
    | .int k :: .int dp :: .ref b :: .int sp :: .ref a :: r => (match s_nth h.2.2 a, s_nth h.2.2 b with
    | some (1, na), some (1, nb) => if 8 < s_cat r ∨ sp < 0 ∨ dp < 0 ∨ k < 0 ∨ na < sp.toNatClampNeg + k.toNatClampNeg ∨ nb < dp.toNatClampNeg + k.toNatClampNeg ∨ a < 4 ∨ b < 4 then none
      else some (pc + n, ls, r, (fun i => if i = b then va_cpy (h.1 a) (h.1 b) sp.toNatClampNeg dp.toNatClampNeg k.toNatClampNeg else h.1 i, h.2))
    | _, _ => none)
    | _ => none)
  | .jsr _ => (match st with
    | .int y :: .int x :: r => if 8 < s_cat r then none else some (pc + n, ls, .int (if x < y then y else x) :: r, h)
    | _ => none)
  | .jsr_w _ => (match st with
    | .int y :: .int x :: r => if 8 < s_cat r then none else some (pc + n, ls, .int (if y < x then y else x) :: r, h)
    | _ => none)
  | .nop => (match st with
    | .double x :: r => if 8 < s_cat r then none else some (pc + n, ls, .long x.toInt64 :: r, h)
    | _ => none)
  | .swap => (match st with
    | .float x :: r => if 8 < s_cat r then none else some (pc + n, ls, .int x.toInt32 :: r, h)
    | _ => none)
  | _ => none
/-- a call's kind: 0 virtual, 1 static, 2 special, 3 special of a nest mate; and the method's number -/
def s_ci : Instr → Option (Nat × Nat)
  | .invokevirtual k => some (0, k)
  | .invokestatic k => some (1, k)
  | .invokespecial k => some (2, k)
  | .invokeinterface k _ => some (3, k)
  | _ => none
/-- what a method hands back -/
def s_rx (i : Instr) (rt : Option FieldType) (st : List Value) : Option (Option Value) :=
  match i, rt, st with
  | .return_, none, [] => some none
  | .ireturn, some .int, [.int v] => some (some (.int v))
  | .ireturn, some .boolean, [.int v] => if v = 0 ∨ v = 1 then some (some (.int v)) else none
  | .lreturn, some .long, [.long v] => some (some (.long v))
  | .areturn, some (.object _), [.ref a] => some (some (.ref a))
  | .areturn, some (.object _), [.null] => some (some .null)
  | _, _, _ => none
/-- may the receiver of a call be this value: an object of the method's own kind -/
def s_rc (kind : Nat) (cn : Option Nat) (h : sHp) (as : List Value) : Bool := match kind with
  | 1 => true
  | 0 => (match as with
    | .ref a :: _ => (match s_nth h.2.2 a, cn with
      | some (0, c), some c2 => Nat.beq c c2
      | _, _ => false)
    | _ => false)
  | _ => (match as with
    | .ref _ :: _ => true
    | _ => false)
def s_run (MT : Nat → Option (sM × Option Nat)) : Nat → Nat → Nat → List Value → List Value → sHp → Option (Option Value × sHp)
  | 0, _, _, _, _, _ => none
  | f + 1, k, pc, ls, st, h => match MT k with
    | none => none
    | some r => match s_at (s_cd r.1) pc with
      | none => none
      | some e => match s_ci e.2.1 with
        | some q => (match MT q.2 with
          | none => none
          | some r2 => if st.length < s_na r2.1 ∨ s_mL r2.1 < s_cat (st.take (s_na r2.1)).reverse ∨ 8 < s_cat (st.drop (s_na r2.1)) ∨ s_rc q.1 r2.2 h (st.take (s_na r2.1)).reverse = false then none
            else (match s_run MT f q.2 0 (s_ent (st.take (s_na r2.1)).reverse (s_mL r2.1)) [] h with
              | none => none
              | some o => s_run MT f k (pc + 3) ls (o.1.toList ++ st.drop (s_na r2.1)) o.2))
        | none => match s_rx e.2.1 (s_rt r.1) st with
          | some v => some (v, h)
          | none => (match s_x e.2.1 pc e.2.2.1 ls st h with
            | none => none
            | some c => s_run MT f k c.1 c.2.1 c.2.2.1 c.2.2.2)
