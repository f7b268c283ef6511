section
theorem s_first : True := trivial
end
section
/-! THE SMALL MACHINE: a method's walk as a function of pure data. A reference is a number i: 0 .. 3 are arrays that nobody writes (three statics, the script), from 4 on the cells that the run makes, in their order.
    A heap: the ints (cell, place), the references (cell, place), the shapes: (0, c): an object of class c; (1, n): an int array of n; (t + 2, n): an array of n references. -/
abbrev sHp : Type := (Nat → Nat → Int32) × (Nat → Nat → Option Nat) × List (Nat × Nat)
/-- a row of a method's code: pc, the instruction with its links resolved, its length, its pool index, the places of its words -/
abbrev sE : Type := Nat × Instr × Nat × Nat × List Nat
/-- a method: name, bytes, locals, what it returns, how many values it takes (the receiver too), frames and words of locals below it, its rows -/
abbrev sM : Type := MethodName × ByteArray × Nat × Option FieldType × Nat × Nat × Nat × List sE
abbrev s_y (r : sM) : MethodName := r.1
abbrev s_b (r : sM) : ByteArray := r.2.1
abbrev s_mL (r : sM) : Nat := r.2.2.1
abbrev s_rt (r : sM) : Option FieldType := r.2.2.2.1
abbrev s_na (r : sM) : Nat := r.2.2.2.2.1
abbrev s_fr (r : sM) : Nat := r.2.2.2.2.2.1
abbrev s_lo (r : sM) : Nat := r.2.2.2.2.2.2.1
abbrev s_cd (r : sM) : List sE := r.2.2.2.2.2.2.2
def s_nth {α : Type} : List α → Nat → Option α
  | [], _ => none
  | a :: _, 0 => some a
  | _ :: l, n + 1 => s_nth l n
theorem s_nth_eq {α : Type} : ∀ (l : List α) (n : Nat), s_nth l n = l[n]?
  | [], n => by simp [s_nth]
  | a :: l, 0 => by simp [s_nth]
  | a :: l, n + 1 => by rw [s_nth, s_nth_eq l n, List.getElem?_cons_succ]
def s_at : List sE → Nat → Option sE
  | [], _ => none
  | e :: l, pc => if e.1 = pc then some e else s_at l pc
theorem s_at_mem : ∀ {l : List sE} {pc : Nat} {e : sE}, s_at l pc = some e → e ∈ l ∧ e.1 = pc
  | [], pc, e, h => by cases h
  | a :: l, pc, e, h => by
    unfold s_at at h
    split at h
    next hq => cases h; exact ⟨List.mem_cons_self, hq⟩
    next hq => exact ⟨List.mem_cons_of_mem _ (s_at_mem h).1, (s_at_mem h).2⟩
/-- no value: a local that isn't set, or the second half of a long -/
abbrev s_no : Value := .retAddr 0
def s_two : Value → Bool
  | .long _ => true
  | .double _ => true
  | _ => false
theorem s_two_cat (v : Value) : (s_two v = true ↔ v.category = 2) := by cases v <;> simp [s_two, Value.category]
/-- what stands ahead of a place that is written: a long there loses its second half -/
def s_cut : List Value → Nat → List Value
  | [], _ => []
  | l, 0 => l
  | v :: l, 1 => (if s_two v then s_no else v) :: l
  | v :: l, n + 2 => v :: s_cut l (n + 1)
def s_put1 (l : List Value) (i : Nat) (v : Value) : List Value := (s_cut l i).set i v
def s_put2 (l : List Value) (i : Nat) (v : Value) : List Value := ((s_cut l i).set i v).set (i + 1) s_no
/-- the locals at a method's entry -/
def s_ent : List Value → Nat → List Value
  | [], n => List.replicate n s_no
  | v :: vs, n => if s_two v then v :: s_no :: s_ent vs (n - 2) else v :: s_ent vs (n - 1)
def s_upd (Z : Nat → Nat → Int32) (a k : Nat) (x : Int32) : Nat → Nat → Int32 := fun i => if i = a then upd (Z i) k x else Z i
def s_updR (R : Nat → Nat → Option Nat) (a k : Nat) (x : Option Nat) : Nat → Nat → Option Nat := fun i => if i = a then va_up (R i) k x else R i
def s_new (h : sHp) (t n : Nat) : sHp := (fun i => if i = h.2.2.length then (fun _ => 0) else h.1 i, fun i => if i = h.2.2.length then (fun _ => none) else h.2.1 i, h.2.2 ++ [(t, n)])
def s_cnd (c : Jvm.ClassFile.Cond) (x y : Int32) : Bool := match c with
  | .eq => decide (x = y)
  | .ne => decide (x ≠ y)
  | .lt => decide (x < y)
  | .ge => decide (y ≤ x)
  | .gt => decide (y < x)
  | .le => decide (x ≤ y)
abbrev sC : Type := Nat × List Value × List Value × sHp
def s_out (i : Int32) (n : Nat) : Prop := i < 0 ∨ n ≤ i.toNatClampNeg
def s_outb (i : Int32) (n : Nat) : Bool := decide (i < 0) || Nat.ble n i.toNatClampNeg
def s_cat : List Value → Nat
  | [] => 0
  | v :: l => (if s_two v then 2 else 1) + s_cat l
/-- one instruction that calls nothing and returns nothing -/
def s_x (i : Instr) (pc n : Nat) (ls st : List Value) (h : sHp) : Option sC :=
  match i with
  | .iconst v => some (pc + n, ls, .int (Int32.ofInt v) :: st, h)
  | .bipush v => some (pc + n, ls, .int (Int8.ofInt v).toInt32 :: st, h)
  | .sipush v => some (pc + n, ls, .int (Int16.ofInt v).toInt32 :: st, h)
  | .ldc v => some (pc + n, ls, .int (Int32.ofNat v) :: st, h)
  | .ldc_w v => some (pc + n, ls, .int (Int32.ofNat v) :: st, h)
  | .ldc2_w v => some (pc + n, ls, .long (Int64.ofNat v) :: st, h)
  | .ret v => some (pc + n, ls, .float (UInt32.ofNat v) :: st, h)
  | .multianewarray v _ => some (pc + n, ls, .float (UInt32.ofNat v) :: st, h)
  | .putstatic v => some (pc + n, ls, .double (UInt64.ofNat v) :: st, h)
  | .lconst k => some (pc + n, ls, .long (Int64.ofNat k.val) :: st, h)
  | .fconst k => some (pc + n, ls, .float (if k.val = 0 then FP.fconst0 else if k.val = 1 then FP.fconst1 else FP.fconst2) :: st, h)
  | .dconst k => some (pc + n, ls, .double (if k.val = 0 then FP.dconst0 else FP.dconst1) :: st, h)
  | .aconst_null => some (pc + n, ls, .null :: st, h)
  | .iload_n k => (match s_nth ls k.val with | some (.int x) => some (pc + n, ls, .int x :: st, h) | _ => none)
  | .iload k => (match s_nth ls k with | some (.int x) => some (pc + n, ls, .int x :: st, h) | _ => none)
  | .lload_n k => (match s_nth ls k.val with | some (.long x) => some (pc + n, ls, .long x :: st, h) | _ => none)
  | .lload k => (match s_nth ls k with | some (.long x) => some (pc + n, ls, .long x :: st, h) | _ => none)
  | .fload_n k => (match s_nth ls k.val with | some (.float x) => some (pc + n, ls, .float x :: st, h) | _ => none)
  | .dload_n k => (match s_nth ls k.val with | some (.double x) => some (pc + n, ls, .double x :: st, h) | _ => none)
  | .aload_n k => (match s_nth ls k.val with | some (.ref x) => some (pc + n, ls, .ref x :: st, h) | some .null => some (pc + n, ls, .null :: st, h) | _ => none)
  | .aload k => (match s_nth ls k with | some (.ref x) => some (pc + n, ls, .ref x :: st, h) | some .null => some (pc + n, ls, .null :: st, h) | _ => none)
  | .istore_n k => (match st with
    | .int x :: r => if k.val < ls.length then some (pc + n, s_put1 ls k.val (.int x), r, h) else none
    | _ => none)
  | .istore k => (match st with
    | .int x :: r => if k < ls.length then some (pc + n, s_put1 ls k (.int x), r, h) else none
    | _ => none)
  | .fstore_n k => (match st with
    | .float x :: r => if k.val < ls.length then some (pc + n, s_put1 ls k.val (.float x), r, h) else none
    | _ => none)
  | .lstore_n k => (match st with
    | .long x :: r => if k.val + 1 < ls.length then some (pc + n, s_put2 ls k.val (.long x), r, h) else none
    | _ => none)
  | .lstore k => (match st with
    | .long x :: r => if k + 1 < ls.length then some (pc + n, s_put2 ls k (.long x), r, h) else none
    | _ => none)
  | .dstore_n k => (match st with
    | .double x :: r => if k.val + 1 < ls.length then some (pc + n, s_put2 ls k.val (.double x), r, h) else none
    | _ => none)
  | .astore_n k => (match st with
    | .ref x :: r => if k.val < ls.length then some (pc + n, s_put1 ls k.val (.ref x), r, h) else none
    | .null :: r => if k.val < ls.length then some (pc + n, s_put1 ls k.val .null, r, h) else none
    | _ => none)
  | .astore k => (match st with
    | .ref x :: r => if k < ls.length then some (pc + n, s_put1 ls k (.ref x), r, h) else none
    | .null :: r => if k < ls.length then some (pc + n, s_put1 ls k .null, r, h) else none
    | _ => none)
  | .iinc k v => (match s_nth ls k with | some (.int x) => some (pc + n, s_put1 ls k (.int (x + Int32.ofInt v)), st, h) | _ => none)
  | .dup => (match st with
    | v :: r => if s_two v then none else some (pc + n, ls, v :: v :: r, h)
    | _ => none)
  | .pop => (match st with
    | v :: r => if s_two v then none else some (pc + n, ls, r, h)
    | _ => none)
  | .dup2 => (match st with
    | v :: r => if s_two v then some (pc + n, ls, v :: v :: r, h) else (match r with | w :: r2 => if s_two w then none else some (pc + n, ls, v :: w :: v :: w :: r2, h) | [] => none)
    | _ => none)
  | .iadd => (match st with
    | .int y :: .int x :: r => some (pc + n, ls, .int (x + y) :: r, h)
    | _ => none)
  | .isub => (match st with
    | .int y :: .int x :: r => some (pc + n, ls, .int (x - y) :: r, h)
    | _ => none)
  | .imul => (match st with
    | .int y :: .int x :: r => some (pc + n, ls, .int (x * y) :: r, h)
    | _ => none)
  | .iand => (match st with
    | .int y :: .int x :: r => some (pc + n, ls, .int (x &&& y) :: r, h)
    | _ => none)
  | .ior => (match st with
    | .int y :: .int x :: r => some (pc + n, ls, .int (x ||| y) :: r, h)
    | _ => none)
  | .ishl => (match st with
    | .int y :: .int x :: r => some (pc + n, ls, .int (x <<< (y &&& 31)) :: r, h)
    | _ => none)
  | .idiv => (match st with
    | .int y :: .int x :: r => if y = 0 then none else some (pc + n, ls, .int (x / y) :: r, h)
    | _ => none)
  | .ladd => (match st with
    | .long y :: .long x :: r => some (pc + n, ls, .long (x + y) :: r, h)
    | _ => none)
  | .lsub => (match st with
    | .long y :: .long x :: r => some (pc + n, ls, .long (x - y) :: r, h)
    | _ => none)
  | .land => (match st with
    | .long y :: .long x :: r => some (pc + n, ls, .long (x &&& y) :: r, h)
    | _ => none)
  | .lor => (match st with
    | .long y :: .long x :: r => some (pc + n, ls, .long (x ||| y) :: r, h)
    | _ => none)
  | .lshl => (match st with
    | .int y :: .long x :: r => some (pc + n, ls, .long (x <<< (y.toInt64 &&& 63)) :: r, h)
    | _ => none)
  | .lushr => (match st with
    | .int y :: .long x :: r => some (pc + n, ls, .long (x.toUInt64 >>> (y.toInt64.toUInt64 &&& Int64.toUInt64 63)).toInt64 :: r, h)
    | _ => none)
  | .i2l => (match st with
    | .int x :: r => some (pc + n, ls, .long x.toInt64 :: r, h)
    | _ => none)
  | .l2i => (match st with
    | .long x :: r => some (pc + n, ls, .int x.toInt32 :: r, h)
    | _ => none)
  | .i2f => (match st with
    | .int x :: r => some (pc + n, ls, .float (FP.i2f x) :: r, h)
    | _ => none)
  | .i2d => (match st with
    | .int x :: r => some (pc + n, ls, .double (FP.i2d x) :: r, h)
    | _ => none)
  | .l2d => (match st with
    | .long x :: r => some (pc + n, ls, .double (FP.l2d x) :: r, h)
    | _ => none)
  | .d2l => (match st with
    | .double x :: r => some (pc + n, ls, .long (FP.d2l x) :: r, h)
    | _ => none)
  | .f2i => (match st with
    | .float x :: r => some (pc + n, ls, .int (FP.f2i x) :: r, h)
    | _ => none)
  | .lcmp => (match st with
    | .long y :: .long x :: r => some (pc + n, ls, .int (lg_cmp x y) :: r, h)
    | _ => none)
  | .fcmp op => (match st with
    | .float y :: .float x :: r => some (pc + n, ls, .int (Op.cmpValue (FP.fcmp x y) op) :: r, h)
    | _ => none)
  | .dcmp op => (match st with
    | .double y :: .double x :: r => some (pc + n, ls, .int (Op.cmpValue (FP.dcmp x y) op) :: r, h)
    | _ => none)
  | .fsub => (match st with
    | .float y :: .float x :: r => if FP.fsub x y &&& 0x7fffffff ≤ 0x7f800000 then some (pc + n, ls, .float (FP.fsub x y) :: r, h) else none
    | _ => none)
  | .fmul => (match st with
    | .float y :: .float x :: r => if FP.fmul x y &&& 0x7fffffff ≤ 0x7f800000 then some (pc + n, ls, .float (FP.fmul x y) :: r, h) else none
    | _ => none)
  | .fdiv => (match st with
    | .float y :: .float x :: r => if FP.fdiv x y &&& 0x7fffffff ≤ 0x7f800000 then some (pc + n, ls, .float (FP.fdiv x y) :: r, h) else none
    | _ => none)
  | .dsub => (match st with
    | .double y :: .double x :: r => if FP.dsub x y &&& 0x7fffffffffffffff ≤ 0x7ff0000000000000 then some (pc + n, ls, .double (FP.dsub x y) :: r, h) else none
    | _ => none)
  | .dmul => (match st with
    | .double y :: .double x :: r => if FP.dmul x y &&& 0x7fffffffffffffff ≤ 0x7ff0000000000000 then some (pc + n, ls, .double (FP.dmul x y) :: r, h) else none
    | _ => none)
  | .ddiv => (match st with
    | .double y :: .double x :: r => if FP.ddiv x y &&& 0x7fffffffffffffff ≤ 0x7ff0000000000000 then some (pc + n, ls, .double (FP.ddiv x y) :: r, h) else none
    | _ => none)
  | .drem => (match st with
    | .double y :: .double x :: r => if FP.drem x y &&& 0x7fffffffffffffff ≤ 0x7ff0000000000000 then some (pc + n, ls, .double (FP.drem x y) :: r, h) else none
    | _ => none)
  | .ifCond c t => (match st with
    | .int x :: r => some (if s_cnd c x 0 = true then t.toNat else pc + n, ls, r, h)
    | _ => none)
  | .if_icmp c t => (match st with
    | .int y :: .int x :: r => some (if s_cnd c x y = true then t.toNat else pc + n, ls, r, h)
    | _ => none)
  | .ifnull t => (match st with
    | .null :: r => some (t.toNat, ls, r, h)
    | .ref _ :: r => some (pc + n, ls, r, h)
    | _ => none)
  | .ifnonnull t => (match st with
    | .null :: r => some (pc + n, ls, r, h)
    | .ref _ :: r => some (t.toNat, ls, r, h)
    | _ => none)
  | .goto t => some (t.toNat, ls, st, h)
  | .tableswitch d lo hi o => (match st with
    | .int x :: r => if x.toInt < lo ∨ hi < x.toInt then some (d.toNat, ls, r, h) else (match s_nth o.toList (x.toInt - lo).toNat with | some t => some (t.toNat, ls, r, h) | none => none)
    | _ => none)
  | .lookupswitch d ps => (match st with
    | .int x :: r => some ((Op.lookupswitch.offset ps.toList d x.toInt).toNat, ls, r, h)
    | _ => none)
  | .getfield e => (match st with
    | .ref a :: r => (match s_nth h.2.2 a with
    | some (0, c) => if c = e / 1024 then (if e % 8 = 2 then (match h.2.1 a (e % 1024 / 8) with | some b => some (pc + n, ls, .ref b :: r, h) | none => some (pc + n, ls, .null :: r, h)) else some (pc + n, ls, .int (h.1 a (e % 1024 / 8)) :: r, h)) else none
    | _ => none)
    | _ => none)
  | .putfield e => (match st with
    | .int x :: .ref a :: r => (match s_nth h.2.2 a with
    | some (0, c) => if c = e / 1024 then (if e % 8 = 0 then some (pc + n, ls, r, (s_upd h.1 a (e % 1024 / 8) x, h.2)) else if e % 8 = 1 then (if x = 0 ∨ x = 1 then some (pc + n, ls, r, (s_upd h.1 a (e % 1024 / 8) x, h.2)) else none) else none) else none
    | _ => none)
    | .ref b :: .ref a :: r => (match s_nth h.2.2 a with
    | some (0, c) => if c = e / 1024 then (if e % 8 = 2 then some (pc + n, ls, r, (h.1, s_updR h.2.1 a (e % 1024 / 8) (some b), h.2.2)) else none) else none
    | _ => none)
    | _ => none)
  | .getstatic j => some (pc + n, ls, .ref j :: st, h)
  | .instanceof j => some (pc + n, ls, .ref j :: st, h)
  | .arraylength => (match st with
    | .ref a :: r => (match s_nth h.2.2 a with
    | some (t + 1, m) => some (pc + n, ls, .int (Int32.ofNat m) :: r, h)
    | _ => none)
    | _ => none)
  | .iaload => (match st with
    | .int i :: .ref a :: r => (match s_nth h.2.2 a with
    | some (1, m) => if s_outb i m = true then none else some (pc + n, ls, .int (h.1 a i.toNatClampNeg) :: r, h)
    | _ => none)
    | _ => none)
  | .iastore => (match st with
    | .int x :: .int i :: .ref a :: r => (match s_nth h.2.2 a with
    | some (1, m) => if s_outb i m = true ∨ a < 4 then none else some (pc + n, ls, r, (s_upd h.1 a i.toNatClampNeg x, h.2))
    | _ => none)
    | _ => none)
  | .aaload => (match st with
    | .int i :: .ref a :: r => (match s_nth h.2.2 a with
    | some (t + 2, m) => if s_outb i m = true ∨ a < 4 then none else (match h.2.1 a i.toNatClampNeg with | some b => some (pc + n, ls, .ref b :: r, h) | none => some (pc + n, ls, .null :: r, h))
    | _ => none)
    | _ => none)
  | .aastore => (match st with
    | .ref b :: .int i :: .ref a :: r => (match s_nth h.2.2 a, s_nth h.2.2 b with
    | some (t + 2, m), some (0, c) => if s_outb i m = true ∨ a < 4 ∨ b < 4 ∨ c ≠ t then none else some (pc + n, ls, r, (h.1, s_updR h.2.1 a i.toNatClampNeg (some b), h.2.2))
    | _, _ => none)
    | _ => none)
  | .new c => some (pc + n, ls, .ref h.2.2.length :: st, s_new h 0 c)
  | .newarray .int => (match st with
    | .int k :: r => if k < 0 ∨ 65536 < k then none else some (pc + n, ls, .ref h.2.2.length :: r, s_new h 1 k.toNatClampNeg)
    | _ => none)
  | .anewarray t => (match st with
    | .int k :: r => if k < 0 ∨ 65536 < k then none else some (pc + n, ls, .ref h.2.2.length :: r, s_new h (t + 2) k.toNatClampNeg)
    | _ => none)
  | .monitorenter => (match st with
    | .ref _ :: r => if 8 < s_cat r then none else some (pc + n, ls, r, h)
    | _ => none)
  | .monitorexit => (match st with
    | .int k :: .int dp :: .ref b :: .int sp :: .ref a :: r => (match s_nth h.2.2 a, s_nth h.2.2 b with
    | some (1, na), some (1, nb) => if 8 < s_cat r ∨ sp < 0 ∨ dp < 0 ∨ k < 0 ∨ na < sp.toNatClampNeg + k.toNatClampNeg ∨ nb < dp.toNatClampNeg + k.toNatClampNeg ∨ a < 4 ∨ b < 4 then none
      else some (pc + n, ls, r, (fun i => if i = b then va_cpy (h.1 a) (h.1 b) sp.toNatClampNeg dp.toNatClampNeg k.toNatClampNeg else h.1 i, h.2))
    | _, _ => none)
    | _ => none)
  | .nop => (match st with
    | .double x :: r => if 8 < s_cat r then none else some (pc + n, ls, .long x.toInt64 :: r, h)
    | _ => none)
  | .swap => (match st with
    | .float x :: r => if 8 < s_cat r then none else some (pc + n, ls, .int x.toInt32 :: r, h)
    | _ => none)
  | _ => none
/-- a call's kind: 0 virtual, 1 static, 2 special, 3 special of a nest mate; and the method's number -/
def s_ci : Instr → Option (Nat × Nat)
  | .invokevirtual k => some (0, k)
  | .invokestatic k => some (1, k)
  | .invokespecial k => some (2, k)
  | .invokeinterface k _ => some (3, k)
  | _ => none
/-- what a method hands back -/
def s_rx (i : Instr) (rt : Option FieldType) (st : List Value) : Option (Option Value) :=
  match i, rt, st with
  | .return_, none, [] => some none
  | .ireturn, some .int, [.int v] => some (some (.int v))
  | .ireturn, some .boolean, [.int v] => if v = 0 ∨ v = 1 then some (some (.int v)) else none
  | .lreturn, some .long, [.long v] => some (some (.long v))
  | .areturn, some (.object _), [.ref a] => some (some (.ref a))
  | .areturn, some (.object _), [.null] => some (some .null)
  | _, _, _ => none
/-- may the receiver of a call be this value: an object of the method's own kind -/
def s_rc (kind : Nat) (cn : Option Nat) (h : sHp) (as : List Value) : Bool := match kind with
  | 1 => true
  | 0 => (match as with
    | .ref a :: _ => (match s_nth h.2.2 a, cn with
      | some (0, c), some c2 => Nat.beq c c2
      | _, _ => false)
    | _ => false)
  | _ => (match as with
    | .ref _ :: _ => true
    | _ => false)
def s_run (MT : Nat → Option (sM × Option Nat)) : Nat → Nat → Nat → List Value → List Value → sHp → Option (Option Value × sHp)
  | 0, _, _, _, _, _ => none
  | f + 1, k, pc, ls, st, h => match MT k with
    | none => none
    | some r => match s_at (s_cd r.1) pc with
      | none => none
      | some e => match s_ci e.2.1 with
        | some q => (match MT q.2 with
          | none => none
          | some r2 => if st.length < s_na r2.1 ∨ s_mL r2.1 < s_cat (st.take (s_na r2.1)).reverse ∨ 8 < s_cat (st.drop (s_na r2.1)) ∨ s_rc q.1 r2.2 h (st.take (s_na r2.1)).reverse = false then none
            else (match s_run MT f q.2 0 (s_ent (st.take (s_na r2.1)).reverse (s_mL r2.1)) [] h with
              | none => none
              | some o => s_run MT f k (pc + 3) ls (o.1.toList ++ st.drop (s_na r2.1)) o.2))
        | none => match s_rx e.2.1 (s_rt r.1) st with
          | some v => some (v, h)
          | none => (match s_x e.2.1 pc e.2.2.1 ls st h with
            | none => none
            | some c => s_run MT f k c.1 c.2.1 c.2.2.1 c.2.2.2)
end
section
/-! THE SMALL MACHINE'S HEAP IN THE REAL ONE. S: what is known of the classes; G: what a start adds (class numbers, addresses, the arrays that nobody writes). -/
abbrev s_SG : Type := List vw_C × (Nat → Nat → FieldType) × List Nat × (Nat → String × String × String) × Nat × List Jvm.Cond
abbrev s_cl (S : s_SG) : List vw_C := S.1
abbrev s_ty (S : s_SG) : Nat → Nat → FieldType := S.2.1
/-- the classes of which arrays are made -/
abbrev s_rk (S : s_SG) : List Nat := S.2.2.1
abbrev s_sn (S : s_SG) : Nat → String × String × String := S.2.2.2.1
abbrev s_ns (S : s_SG) : Nat := S.2.2.2.2.1
/-- words that a callee must be told one by one (nest mates, arrays of objects) -/
abbrev s_nw (S : s_SG) : List Jvm.Cond := S.2.2.2.2.2
abbrev s_DG : Type := va_G × (Nat → ClassId) × (Nat → Nat) × Nat × (Nat → Nat) × (Nat → Nat → Int32)
abbrev s_D (G : s_DG) : va_G := G.1
abbrev s_cA (G : s_DG) : Nat → ClassId := G.2.1
abbrev s_ad (G : s_DG) : Nat → Nat := G.2.2.1
abbrev s_B (G : s_DG) : Nat := G.2.2.2.1
abbrev s_Lc (G : s_DG) : Nat → Nat := G.2.2.2.2.1
abbrev s_xs (G : s_DG) : Nat → Nat → Int32 := G.2.2.2.2.2
def s_vc (G : s_DG) : Value → Value
  | .ref i => .ref (s_ad G i)
  | v => v
theorem s_vc_two (G : s_DG) (v : Value) : s_two (s_vc G v) = s_two v := by cases v <;> rfl
theorem s_vc_cat (G : s_DG) (v : Value) : (s_vc G v).category = if s_two v then 2 else 1 := by cases v <;> rfl
theorem s_cat_sum (G : s_DG) : ∀ l : List Value, ((l.map (s_vc G)).map fun v => v.category).sum = s_cat l
  | [] => rfl
  | v :: l => by
    rw [List.map_cons, List.map_cons, List.sum_cons, s_cat_sum G l, s_vc_cat]
    rfl
def s_kd : FieldType → Nat
  | .int => 0
  | .boolean => 1
  | _ => 2
def s_cn (S : s_SG) (c : Nat) : String := match (s_cl S)[c]? with
  | some q => q.1
  | none => ""
def s_F (S : s_SG) (c : Nat) : u_T := match (s_cl S)[c]? with
  | some q => q.2.1
  | none => fun _ => ("", "", "", false)
def s_N (S : s_SG) (c : Nat) : Nat := match (s_cl S)[c]? with
  | some q => q.2.2
  | none => 0
def s_fv (S : s_SG) (G : s_DG) (h : sHp) (i c k : Nat) : Value := if s_kd (s_ty S c k) = 2 then va_rf ((h.2.1 i k).map (s_ad G)) else .int (h.1 i k)
def s_cell (S : s_SG) (G : s_DG) (h : sHp) (i : Nat) : va_E := match h.2.2[i]? with
  | some (0, c) => .inr (c, (List.range (s_N S c)).map (s_fv S G h i c))
  | some (1, n) => .inl (s_cA G 1, n, .inl (h.1 i))
  | some (t + 2, n) => .inl (s_cA G (t + 2), n, .inr (.inr (.inr (.inr (fun k => (h.2.1 i k).map (s_ad G))))))
  | none => .inr (0, [])
def s_ws (S : s_SG) (G : s_DG) (h : sHp) : va_W := (List.range (h.2.2.length - 4)).map fun j => (s_ad G (j + 4), s_cell S G h (j + 4))
def s_tys (S : s_SG) (G : s_DG) : List (ClassId × FieldType) := (s_cA G 1, .int) :: (s_rk S).map fun t => (s_cA G (t + 2), .object (s_cn S t))
def s_A (G : s_DG) : Nat → Prop := fun q => s_B G ≤ q
def s_sz (S : s_SG) : List (Nat × Nat) → Nat
  | [] => 0
  | (0, c) :: l => s_N S c + s_sz S l
  | (_ + 1, n) :: l => n + s_sz S l
theorem s_sz_app (S : s_SG) (q : Nat × Nat) : ∀ l : List (Nat × Nat), s_sz S (l ++ [q]) = s_sz S l + s_sz S [q]
  | [] => by simp [s_sz]
  | (0, c) :: l => by
    rw [List.cons_append, s_sz, s_sz, s_sz_app S q l, Nat.add_assoc]
  | (t + 1, c) :: l => by
    rw [List.cons_append, s_sz, s_sz, s_sz_app S q l, Nat.add_assoc]
/-- the heap h stands in H -/
def s_Wd (S : s_SG) (G : s_DG) (h : sHp) (H : Heap) : Prop := 4 ≤ h.2.2.length ∧ va_P (s_D G) (s_cl S) (s_ws S G h) H ∧ (∀ i : Nat, i < 4 → h.2.2[i]? = some (1, s_Lc G i) ∧ h.1 i = s_xs G i) ∧ ∀ (i t n : Nat), h.2.2[i]? = some (t + 2, n) → t ∈ s_rk S
/-- what a start knows of the tables and of what nobody writes -/
def s_In (S : s_SG) (G : s_DG) (U : State) : Prop := va_K (s_D G) (s_cl S) (s_tys S G) U ∧ (∀ i : Nat, i < 4 → va_X (s_ad G i) (s_Lc G i) (s_xs G i) U U.heap ∧ s_ad G i < s_B G) ∧ (∀ j : Nat, j < s_ns S → j < 4 ∧ va_Z (s_sn S j).1 (s_sn S j).2.1 (s_sn S j).2.2 (.ref (s_ad G j)) (s_A G) U U.heap) ∧ (∀ j : Nat, s_ad G (j + 4) = s_B G + j) ∧ ∀ w ∈ s_nw S, va_Nw w U
theorem s_ad_ge {S : s_SG} {G : s_DG} {U : State} (h : s_In S G U) {a : Nat} (ha : 4 ≤ a) : s_ad G a = s_B G + (a - 4) := by
  have := h.2.2.2.1 (a - 4)
  rwa [show a - 4 + 4 = a by omega] at this
theorem s_ws_len (S : s_SG) (G : s_DG) (h : sHp) : (s_ws S G h).length = h.2.2.length - 4 := by simp [s_ws]
theorem s_ws_get (S : s_SG) (G : s_DG) (h : sHp) (j : Nat) : (s_ws S G h)[j]? = if j < h.2.2.length - 4 then some (s_ad G (j + 4), s_cell S G h (j + 4)) else none := by
  unfold s_ws
  rw [List.getElem?_map]
  by_cases q : j < h.2.2.length - 4
  · rw [if_pos q, List.getElem?_range q]; rfl
  · rw [if_neg q, List.getElem?_eq_none (by rw [List.length_range]; omega)]; rfl
theorem s_ws_at (S : s_SG) (G : s_DG) (h : sHp) {a : Nat} (ha : 4 ≤ a) (hl : a < h.2.2.length) : (s_ws S G h)[a - 4]? = some (s_ad G a, s_cell S G h a) := by
  rw [s_ws_get, if_pos (by omega), show a - 4 + 4 = a by omega]
theorem s_ws_D {S : s_SG} {G : s_DG} {U : State} (hI : s_In S G U) (h : sHp) : va_D (s_A G) (s_ws S G h) := by
  have key : ∀ (k : Nat) (q : Nat × va_E), (s_ws S G h)[k]? = some q → q.1 = s_B G + k := by
    intro k q hk
    rw [s_ws_get] at hk
    split at hk
    · cases hk; exact hI.2.2.2.1 k
    · cases hk
  refine ⟨fun i j p q hi hj e => ?_, fun k q hk => ?_⟩
  · have h1 := key i p hi
    have h2 := key j q hj
    omega
  · show s_B G ≤ q.1
    rw [key k q hk]; omega
theorem s_ws_set (S : s_SG) (G : s_DG) {h h2 : sHp} {a : Nat} (ha : 4 ≤ a) (hl : a < h.2.2.length) (hs : h2.2.2 = h.2.2) (ho : ∀ i : Nat, i ≠ a → h2.1 i = h.1 i ∧ h2.2.1 i = h.2.1 i) {e : va_E} (he : e = s_cell S G h2 a) : (s_ws S G h).set (a - 4) (s_ad G a, e) = s_ws S G h2 := by
  apply List.ext_getElem?
  intro j
  rw [s_ws_get S G h2, hs]
  by_cases hj : j = a - 4
  · subst hj
    rw [List.getElem?_set_self (by rw [s_ws_len]; omega), if_pos (by omega), show a - 4 + 4 = a by omega, he]
  · rw [List.getElem?_set_ne (Ne.symm hj), s_ws_get]
    by_cases q : j < h.2.2.length - 4
    · rw [if_pos q, if_pos q]
      obtain ⟨o1, o2⟩ := ho (j + 4) (by omega)
      have : s_cell S G h2 (j + 4) = s_cell S G h (j + 4) := by
        have hf : ∀ c, s_fv S G h2 (j + 4) c = s_fv S G h (j + 4) c := fun c => by funext k; simp only [s_fv, o1, o2]
        simp only [s_cell, hs, o1, o2, hf]
      rw [this]
    · rw [if_neg q, if_neg q]
theorem s_Wd_len {S : s_SG} {G : s_DG} {h : sHp} {H : Heap} (hW : s_Wd S G h H) {a t n : Nat} (hs : s_nth h.2.2 a = some (t, n)) : h.2.2[a]? = some (t, n) ∧ a < h.2.2.length ∧ (t ≠ 1 → 4 ≤ a) := by
  rw [s_nth_eq] at hs
  refine ⟨hs, (List.getElem?_eq_some_iff.mp hs).1, fun ht => ?_⟩
  rcases Nat.lt_or_ge a 4 with q | q
  · have := (hW.2.2.1 a q).1
    rw [this] at hs
    cases hs
    exact absurd rfl ht
  · exact q
theorem s_Wd_put {S : s_SG} {G : s_DG} {h h2 : sHp} {H H1 : Heap} (hW : s_Wd S G h H) {a : Nat} (ha : 4 ≤ a) (hl : a < h.2.2.length) (hs : h2.2.2 = h.2.2) (ho : ∀ i : Nat, i ≠ a → h2.1 i = h.1 i ∧ h2.2.1 i = h.2.1 i) {e : va_E} (he : e = s_cell S G h2 a) (hP : va_P (s_D G) (s_cl S) ((s_ws S G h).set (a - 4) (s_ad G a, e)) H1) : s_Wd S G h2 H1 := by
  rw [s_ws_set S G ha hl hs ho he] at hP
  refine ⟨by rw [hs]; exact hW.1, hP, fun i hi => ?_, fun i t n hi => hW.2.2.2 i t n (by rw [← hs]; exact hi)⟩
  rw [hs, (ho i (by omega)).1]
  exact hW.2.2.1 i hi
theorem s_tys_0 (S : s_SG) (G : s_DG) : (s_tys S G)[0]? = some (s_cA G 1, .int) := rfl
theorem s_tys_r {S : s_SG} (G : s_DG) {t : Nat} (ht : t ∈ s_rk S) : ∃ j : Nat, (s_tys S G)[j]? = some (s_cA G (t + 2), .object (s_cn S t)) := by
  have h : ((s_cA G (t + 2), .object (s_cn S t)) : ClassId × FieldType) ∈ s_tys S G := List.mem_cons_of_mem _ (List.mem_map.mpr ⟨t, ht, rfl⟩)
  exact List.getElem?_of_mem h
/-! the locals -/
def s_as1 (G : s_DG) (i : Nat) : Value → Option (Nat × Value)
  | .retAddr _ => none
  | v => some (i, s_vc G v)
theorem s_as1_eq (G : s_DG) (i : Nat) (v : Value) (q : Nat × Value) : s_as1 G i v = some q ↔ ((∀ a, v ≠ .retAddr a) ∧ q = (i, s_vc G v)) := by
  cases v <;> simp [s_as1, eq_comm]
def s_asc (G : s_DG) (L : List Value) : List (Nat × Value) := (List.range L.length).filterMap fun i => (L[i]?).bind (s_as1 G i)
theorem s_asc_mem {G : s_DG} {L : List Value} {q : Nat × Value} : q ∈ s_asc G L ↔ ∃ v : Value, L[q.1]? = some v ∧ (∀ a, v ≠ .retAddr a) ∧ q.2 = s_vc G v := by
  unfold s_asc
  rw [List.mem_filterMap]
  constructor
  · rintro ⟨i, hi, h⟩
    obtain ⟨v, hv, h2⟩ := Option.bind_eq_some_iff.mp h
    obtain ⟨hn, rfl⟩ := (s_as1_eq G i v q).mp h2
    exact ⟨v, hv, hn, rfl⟩
  · rintro ⟨v, hv, hn, e⟩
    refine ⟨q.1, List.mem_range.mpr (List.getElem?_eq_some_iff.mp hv).1, ?_⟩
    rw [hv]
    exact (s_as1_eq G q.1 v q).mpr ⟨hn, by rw [← e]⟩
def s_LR (G : s_DG) (ls : Array Slot) (L : List Value) : Prop := lv_has ls L.length (s_asc G L)
theorem s_LR_at {G : s_DG} {ls : Array Slot} {L : List Value} (h : s_LR G ls L) {i : Nat} {v : Value} (hv : s_nth L i = some v) (hn : ∀ a, v ≠ .retAddr a) : ls[i]? = some (.val (s_vc G v)) := by
  rw [s_nth_eq] at hv
  exact h.2.2 (i, s_vc G v) (s_asc_mem.mpr ⟨v, hv, hn, rfl⟩)
theorem s_cut_len : ∀ (L : List Value) (i : Nat), (s_cut L i).length = L.length
  | [], _ => by simp [s_cut]
  | _ :: _, 0 => by simp [s_cut]
  | v :: l, 1 => by simp [s_cut]
  | v :: l, n + 2 => by simp [s_cut, s_cut_len l (n + 1)]
theorem s_cut_get : ∀ (L : List Value) (i j : Nat), (s_cut L i)[j]? = if j + 1 = i then (L[j]?).map (fun w => if s_two w then s_no else w) else L[j]?
  | [], i, j => by simp [s_cut]
  | v :: l, 0, j => by
    rw [if_neg (by omega)]
    simp [s_cut]
  | v :: l, 1, 0 => by simp [s_cut]
  | v :: l, 1, j + 1 => by
    rw [if_neg (by omega)]
    simp [s_cut]
  | v :: l, n + 2, 0 => by
    rw [if_neg (by omega)]
    simp [s_cut]
  | v :: l, n + 2, j + 1 => by
    rw [s_cut, List.getElem?_cons_succ, s_cut_get l (n + 1) j, List.getElem?_cons_succ]
    by_cases q : j + 1 = n + 1
    · rw [if_pos q, if_pos (by omega)]
    · rw [if_neg q, if_neg (by omega)]
theorem s_LR_put1 {G : s_DG} {ls : Array Slot} {L : List Value} {i : Nat} {v : Value} (h : lv_has ls L.length ((i, s_vc G v) :: (s_asc G L).filter (fun q => !(q.1 == i) && !(q.1 + 1 == i && q.2.category == 2)))) : s_LR G ls (s_put1 L i v) := by
  have hlen : (s_put1 L i v).length = L.length := by simp [s_put1, s_cut_len]
  unfold s_LR
  rw [hlen]
  refine ⟨h.1, h.2.1, fun q hq => ?_⟩
  obtain ⟨w, hw, hn, e⟩ := s_asc_mem.mp hq
  obtain ⟨j, qv⟩ := q
  dsimp only at hw e
  subst e
  by_cases hj : j = i
  · subst hj
    have hw2 : w = v := by
      have hl : j < (s_cut L j).length := by
        have := (List.getElem?_eq_some_iff.mp hw).1
        rw [hlen] at this
        rw [s_cut_len]; exact this
      rw [s_put1, List.getElem?_set_self hl] at hw
      exact (Option.some.inj hw).symm
    subst hw2
    exact h.2.2 _ List.mem_cons_self
  · rw [s_put1, List.getElem?_set_ne (Ne.symm hj), s_cut_get] at hw
    refine h.2.2 _ (List.mem_cons_of_mem _ (List.mem_filter.mpr ⟨s_asc_mem.mpr ?_, ?_⟩))
    · by_cases q : j + 1 = i
      · rw [if_pos q] at hw
        obtain ⟨w0, h0, h1⟩ := Option.map_eq_some_iff.mp hw
        by_cases h2 : s_two w0 = true
        · rw [if_pos h2] at h1
          exact absurd h1.symm (hn 0)
        · rw [if_neg h2] at h1
          exact ⟨w, by rw [← h1]; exact h0, hn, rfl⟩
      · rw [if_neg q] at hw
        exact ⟨w, hw, hn, rfl⟩
    · have h1 : (j == i) = false := by simpa using hj
      by_cases q : j + 1 = i
      · rw [if_pos q] at hw
        obtain ⟨w0, h0, h1⟩ := Option.map_eq_some_iff.mp hw
        by_cases h2 : s_two w0 = true
        · rw [if_pos h2] at h1
          exact absurd h1.symm (hn 0)
        · rw [if_neg h2] at h1
          subst h1
          have hc : (s_vc G w0).category = 1 := by rw [s_vc_cat, if_neg h2]
          simp [hj, hc]
      · have h2 : (j + 1 == i) = false := by simpa using q
        simp [hj, q]
theorem s_LR_put2 {G : s_DG} {ls : Array Slot} {L : List Value} {i : Nat} {v : Value} (h : lv_has ls L.length ((i, s_vc G v) :: (s_asc G L).filter (fun q => !(q.1 == i) && (!(q.1 == i + 1) && !(q.1 + 1 == i && q.2.category == 2))))) : s_LR G ls (s_put2 L i v) := by
  have hlen : (s_put2 L i v).length = L.length := by simp [s_put2, s_cut_len]
  unfold s_LR
  rw [hlen]
  refine ⟨h.1, h.2.1, fun q hq => ?_⟩
  obtain ⟨w, hw, hn, e⟩ := s_asc_mem.mp hq
  obtain ⟨j, qv⟩ := q
  dsimp only at hw e
  subst e
  by_cases hj2 : j = i + 1
  · subst hj2
    have hl : i + 1 < ((s_cut L i).set i v).length := by
      have := (List.getElem?_eq_some_iff.mp hw).1
      rw [hlen] at this
      rw [List.length_set, s_cut_len]; exact this
    rw [s_put2, List.getElem?_set_self hl] at hw
    exact absurd (Option.some.inj hw).symm (hn 0)
  rw [s_put2, List.getElem?_set_ne (Ne.symm hj2)] at hw
  by_cases hj : j = i
  · subst hj
    have hw2 : w = v := by
      have hl : j < (s_cut L j).length := by
        have := (List.getElem?_eq_some_iff.mp hw).1
        rw [List.length_set] at this; exact this
      rw [List.getElem?_set_self hl] at hw
      exact (Option.some.inj hw).symm
    subst hw2
    exact h.2.2 _ List.mem_cons_self
  · rw [List.getElem?_set_ne (Ne.symm hj), s_cut_get] at hw
    refine h.2.2 _ (List.mem_cons_of_mem _ (List.mem_filter.mpr ⟨s_asc_mem.mpr ?_, ?_⟩))
    · by_cases q : j + 1 = i
      · rw [if_pos q] at hw
        obtain ⟨w0, h0, h1⟩ := Option.map_eq_some_iff.mp hw
        by_cases h2 : s_two w0 = true
        · rw [if_pos h2] at h1
          exact absurd h1.symm (hn 0)
        · rw [if_neg h2] at h1
          exact ⟨w, by rw [← h1]; exact h0, hn, rfl⟩
      · rw [if_neg q] at hw
        exact ⟨w, hw, hn, rfl⟩
    · by_cases q : j + 1 = i
      · rw [if_pos q] at hw
        obtain ⟨w0, h0, h1⟩ := Option.map_eq_some_iff.mp hw
        by_cases h2 : s_two w0 = true
        · rw [if_pos h2] at h1
          exact absurd h1.symm (hn 0)
        · rw [if_neg h2] at h1
          subst h1
          have hc : (s_vc G w0).category = 1 := by rw [s_vc_cat, if_neg h2]
          simp [hj, hj2, hc]
      · simp [hj, hj2, q]
/-- the locals at the entry -/
theorem s_ent_args (G : s_DG) : ∀ (vs : List Value) (n i : Nat) (q : Nat × Value), (∃ w : Value, (s_ent vs n)[q.1]? = some w ∧ (∀ a, w ≠ .retAddr a) ∧ q.2 = s_vc G w) → (q.1 + i, q.2) ∈ lv_args i (vs.map (s_vc G))
  | [], n, i, q, h => by
    obtain ⟨w, hw, hn, -⟩ := h
    unfold s_ent at hw
    rw [List.getElem?_replicate] at hw
    split at hw
    · cases hw; exact absurd rfl (hn 0)
    · cases hw
  | v :: vs, n, i, q, h => by
    obtain ⟨w, hw, hn, e⟩ := h
    obtain ⟨j, qv⟩ := q
    dsimp only at hw e ⊢
    subst e
    rw [List.map_cons, lv_args, s_vc_cat]
    unfold s_ent at hw
    by_cases ht : s_two v = true
    · rw [if_pos ht] at hw
      rw [if_pos ht, if_pos rfl]
      match j, hw with
      | 0, hw =>
        cases hw
        rw [Nat.zero_add]
        exact List.mem_cons_self
      | 1, hw =>
        cases hw
        exact absurd rfl (hn 0)
      | j + 2, hw =>
        have := s_ent_args G vs (n - 2) (i + 2) (j, s_vc G w) ⟨w, hw, hn, rfl⟩
        rw [show j + 2 + i = j + (i + 2) by omega]
        exact List.mem_cons_of_mem _ this
    · rw [if_neg ht] at hw
      rw [if_neg ht, if_neg (by decide)]
      match j, hw with
      | 0, hw =>
        cases hw
        rw [Nat.zero_add]
        exact List.mem_cons_self
      | j + 1, hw =>
        have := s_ent_args G vs (n - 1) (i + 1) (j, s_vc G w) ⟨w, hw, hn, rfl⟩
        rw [show j + 1 + i = j + (i + 1) by omega]
        exact List.mem_cons_of_mem _ this
theorem s_ent_len (G : s_DG) : ∀ (vs : List Value) (n : Nat), (lg_sl (vs.map (s_vc G))).length ≤ n → (s_ent vs n).length = n
  | [], n, _ => by simp [s_ent]
  | v :: vs, n, h => by
    rw [List.map_cons] at h
    unfold lg_sl at h
    rw [List.flatMap_cons, s_vc_cat, List.length_append] at h
    unfold s_ent
    by_cases ht : s_two v = true
    · rw [if_pos ht, if_pos rfl] at h
      rw [if_pos ht, List.length_cons, List.length_cons, s_ent_len G vs (n - 2) (by unfold lg_sl; simp at h ⊢; omega)]
      simp at h; omega
    · rw [if_neg ht, if_neg (by decide)] at h
      rw [if_neg ht, List.length_cons, s_ent_len G vs (n - 1) (by unfold lg_sl; simp at h ⊢; omega)]
      simp at h; omega
theorem s_LR_ent {G : s_DG} {vs : List Value} {n : Nat} {ls : Array Slot} (hl : (lg_sl (vs.map (s_vc G))).length ≤ n) (h : lv_has ls n (lv_args 0 (vs.map (s_vc G)))) : s_LR G ls (s_ent vs n) := by
  unfold s_LR
  rw [s_ent_len G vs n hl]
  refine ⟨h.1, h.2.1, fun q hq => ?_⟩
  have := s_ent_args G vs n 0 q (s_asc_mem.mp hq)
  exact h.2.2 _ this
end
section
/-! ONE INSTRUCTION: what the small machine does, the real one does -/
def s_Cx (S : s_SG) (G : s_DG) (TW : List Jvm.Cond) (p : Program) (s : State) (m : MethodId) (args : Array Value) (meth : Method) (c : Code) (r : sM) : Prop :=
  p.tables.exec = Jvm.exec ∧ c.code = s_b r ∧ c.maxLocals = s_mL r ∧ s.vm.findClass (s_y r).cls = some m.cls ∧ (∀ w ∈ TW, w.before args s = true) ∧ s_In S G s ∧ ((s_y r).name = "<init>" → meth.name = "<init>")
/-- what is fixed of the classes -/
def s_SOK (S : s_SG) (TW : List Jvm.Cond) : Prop := ∀ (c : Nat) (q : vw_C), (s_cl S)[c]? = some q → (∀ w ∈ u_ws q.1 q.2.1 q.2.2, w ∈ TW) ∧ (∀ k : Nat, k < q.2.2 → parseFieldDescriptor (q.2.1 k).2.2.1 = some (s_ty S c k)) ∧ (∀ a : Nat, a < q.2.2 → ∀ b : Nat, b < q.2.2 → a ≠ b → (q.2.1 a).2.1 ≠ (q.2.1 b).2.1)
section STP
variable {p : Program} {l : Launch} {e : Env} {R : Room} {s : State} {m : MethodId} {args : Array Value} {below : List Frame} {meth : Method} {c : Code} {Q : State → Prop}
variable {S : s_SG} {G : s_DG} {TW : List Jvm.Cond} {r : sM} {N0 M0 pc n idx : Nat} {L st : List Value} {h : sHp} {q : sC}
def s_W (S : s_SG) (G : s_DG) (p : Program) (l : Launch) (e : Env) (R : Room) (s : State) (m : MethodId) (args : Array Value) (below : List Frame) (meth : Method) (c : Code) (Q : State → Prop) (N0 M0 : Nat) (pc : Nat) (L st : List Value) (h : sHp) : Prop :=
  L.length = c.maxLocals → ∀ (H : Heap) (locs : List Loc) (ls : Array Slot), s_Wd S G h H → va_S (s_A G) s.heap H locs → s_LR G ls L → W p l e R s m args below meth c H locs (h.2.2.length - N0) (s_sz S h.2.2 - M0) Q (F0 m pc ls (st.map (s_vc G)))
theorem s_put1_len (L : List Value) (i : Nat) (v : Value) : (s_put1 L i v).length = L.length := by simp [s_put1, s_cut_len]
theorem s_put2_len (L : List Value) (i : Nat) (v : Value) : (s_put2 L i v).length = L.length := by simp [s_put2, s_cut_len]
theorem s_vp_in {i : Int32} {k : Nat} (hq : ¬ s_outb i k = true) : vp_in i k := by
  intro h
  apply hq
  unfold s_outb
  rcases h with h | h
  · simp [h]
  · simp [Nat.ble_eq, h]
theorem s_d_iconst {v : Int} (C : s_Cx S G TW p s m args meth c r) (hdg : decode (s_b r) pc = .ok (.iconst v, n)) (hn : n = 1) (hs : s_x (.iconst v) pc n L st h = some q) (k : s_W S G p l e R s m args below meth c Q N0 M0 q.1 q.2.1 q.2.2.1 q.2.2.2) : s_W S G p l e R s m args below meth c Q N0 M0 pc L st h := by
  obtain ⟨hx, hb, hml, hown, hts, hI, hini⟩ := C
  subst hn
  cases hs
  intro hlen H locs ls hW hS hL
  exact lv_iconst hx hb hdg rfl (k hlen H locs ls hW hS hL)
theorem s_d_bipush {v : Int} (C : s_Cx S G TW p s m args meth c r) (hdg : decode (s_b r) pc = .ok (.bipush v, n)) (hn : n = 2) (hs : s_x (.bipush v) pc n L st h = some q) (k : s_W S G p l e R s m args below meth c Q N0 M0 q.1 q.2.1 q.2.2.1 q.2.2.2) : s_W S G p l e R s m args below meth c Q N0 M0 pc L st h := by
  obtain ⟨hx, hb, hml, hown, hts, hI, hini⟩ := C
  subst hn
  cases hs
  intro hlen H locs ls hW hS hL
  exact lv_bipush hx hb hdg rfl (k hlen H locs ls hW hS hL)
theorem s_d_sipush {v : Int} (C : s_Cx S G TW p s m args meth c r) (hdg : decode (s_b r) pc = .ok (.sipush v, n)) (hn : n = 3) (hs : s_x (.sipush v) pc n L st h = some q) (k : s_W S G p l e R s m args below meth c Q N0 M0 q.1 q.2.1 q.2.2.1 q.2.2.2) : s_W S G p l e R s m args below meth c Q N0 M0 pc L st h := by
  obtain ⟨hx, hb, hml, hown, hts, hI, hini⟩ := C
  subst hn
  cases hs
  intro hlen H locs ls hW hS hL
  exact lv_sipush hx hb hdg rfl (k hlen H locs ls hW hS hL)
theorem s_d_lconst {v : Fin 2} (C : s_Cx S G TW p s m args meth c r) (hdg : decode (s_b r) pc = .ok (.lconst v, n)) (hn : n = 1) (hs : s_x (.lconst v) pc n L st h = some q) (k : s_W S G p l e R s m args below meth c Q N0 M0 q.1 q.2.1 q.2.2.1 q.2.2.2) : s_W S G p l e R s m args below meth c Q N0 M0 pc L st h := by
  obtain ⟨hx, hb, hml, hown, hts, hI, hini⟩ := C
  subst hn
  cases hs
  intro hlen H locs ls hW hS hL
  exact lv_lconst hx hb hdg rfl (k hlen H locs ls hW hS hL)
theorem s_d_null (C : s_Cx S G TW p s m args meth c r) (hdg : decode (s_b r) pc = .ok (.aconst_null, n)) (hn : n = 1) (hs : s_x (.aconst_null) pc n L st h = some q) (k : s_W S G p l e R s m args below meth c Q N0 M0 q.1 q.2.1 q.2.2.1 q.2.2.2) : s_W S G p l e R s m args below meth c Q N0 M0 pc L st h := by
  obtain ⟨hx, hb, hml, hown, hts, hI, hini⟩ := C
  subst hn
  cases hs
  intro hlen H locs ls hW hS hL
  exact lv_null hx hb hdg (k hlen H locs ls hW hS hL)
theorem s_d_ldc {v : Nat} (C : s_Cx S G TW p s m args meth c r) (hw : (Jvm.Cond.constant (s_y r).cls idx (Int32.ofNat v)).before args s = true) (hdg : decode (s_b r) pc = .ok (.ldc idx, n)) (hn : n = 2) (hs : s_x (.ldc v) pc n L st h = some q) (k : s_W S G p l e R s m args below meth c Q N0 M0 q.1 q.2.1 q.2.2.1 q.2.2.2) : s_W S G p l e R s m args below meth c Q N0 M0 pc L st h := by
  obtain ⟨hx, hb, hml, hown, hts, hI, hini⟩ := C
  subst hn
  cases hs
  intro hlen H locs ls hW hS hL
  exact lv_ldc hx hb hown hw hdg (k hlen H locs ls hW hS hL)
theorem s_d_ldcw {v : Nat} (C : s_Cx S G TW p s m args meth c r) (hw : (Jvm.Cond.constant (s_y r).cls idx (Int32.ofNat v)).before args s = true) (hdg : decode (s_b r) pc = .ok (.ldc_w idx, n)) (hn : n = 3) (hs : s_x (.ldc_w v) pc n L st h = some q) (k : s_W S G p l e R s m args below meth c Q N0 M0 q.1 q.2.1 q.2.2.1 q.2.2.2) : s_W S G p l e R s m args below meth c Q N0 M0 pc L st h := by
  obtain ⟨hx, hb, hml, hown, hts, hI, hini⟩ := C
  subst hn
  cases hs
  intro hlen H locs ls hW hS hL
  exact lv_ldcw hx hb hown hw hdg (k hlen H locs ls hW hS hL)
theorem s_d_ldc2 {v : Nat} (C : s_Cx S G TW p s m args meth c r) (hw : (Jvm.Cond.constantLong (s_y r).cls idx (Int64.ofNat v)).before args s = true) (hdg : decode (s_b r) pc = .ok (.ldc2_w idx, n)) (hn : n = 3) (hs : s_x (.ldc2_w v) pc n L st h = some q) (k : s_W S G p l e R s m args below meth c Q N0 M0 q.1 q.2.1 q.2.2.1 q.2.2.2) : s_W S G p l e R s m args below meth c Q N0 M0 pc L st h := by
  obtain ⟨hx, hb, hml, hown, hts, hI, hini⟩ := C
  subst hn
  cases hs
  intro hlen H locs ls hW hS hL
  exact lv_ldc2 hx hb hown hw hdg (k hlen H locs ls hW hS hL)
theorem s_d_ldcf {v : Nat} (C : s_Cx S G TW p s m args meth c r) (hw : (Jvm.Cond.constantFloat (s_y r).cls idx (UInt32.ofNat v)).before args s = true) (hdg : decode (s_b r) pc = .ok (.ldc idx, n)) (hn : n = 2) (hs : s_x (.ret v) pc n L st h = some q) (k : s_W S G p l e R s m args below meth c Q N0 M0 q.1 q.2.1 q.2.2.1 q.2.2.2) : s_W S G p l e R s m args below meth c Q N0 M0 pc L st h := by
  obtain ⟨hx, hb, hml, hown, hts, hI, hini⟩ := C
  subst hn
  cases hs
  intro hlen H locs ls hW hS hL
  exact lv_ldcf hx hb hown hw hdg (k hlen H locs ls hW hS hL)
theorem s_d_ldc2d {v : Nat} (C : s_Cx S G TW p s m args meth c r) (hw : (Jvm.Cond.constantDouble (s_y r).cls idx (UInt64.ofNat v)).before args s = true) (hdg : decode (s_b r) pc = .ok (.ldc2_w idx, n)) (hn : n = 3) (hs : s_x (.putstatic v) pc n L st h = some q) (k : s_W S G p l e R s m args below meth c Q N0 M0 q.1 q.2.1 q.2.2.1 q.2.2.2) : s_W S G p l e R s m args below meth c Q N0 M0 pc L st h := by
  obtain ⟨hx, hb, hml, hown, hts, hI, hini⟩ := C
  subst hn
  cases hs
  intro hlen H locs ls hW hS hL
  exact lv_ldc2d hx hb hown hw hdg (k hlen H locs ls hW hS hL)
theorem s_d_fconst {v : Fin 3} (C : s_Cx S G TW p s m args meth c r) (hdg : decode (s_b r) pc = .ok (.fconst v, n)) (hn : n = 1) (hs : s_x (.fconst v) pc n L st h = some q) (k : s_W S G p l e R s m args below meth c Q N0 M0 q.1 q.2.1 q.2.2.1 q.2.2.2) : s_W S G p l e R s m args below meth c Q N0 M0 pc L st h := by
  obtain ⟨hx, hb, hml, hown, hts, hI, hini⟩ := C
  subst hn
  cases hs
  intro hlen H locs ls hW hS hL
  match v, hdg, k with
  | 0, hdg, k => exact lv_fconst0 hx hb hdg (k hlen H locs ls hW hS hL)
  | 1, hdg, k => exact lv_fconst1 hx hb hdg (k hlen H locs ls hW hS hL)
  | 2, hdg, k => exact lv_fconst2 hx hb hdg (k hlen H locs ls hW hS hL)
theorem s_d_dconst {v : Fin 2} (C : s_Cx S G TW p s m args meth c r) (hdg : decode (s_b r) pc = .ok (.dconst v, n)) (hn : n = 1) (hs : s_x (.dconst v) pc n L st h = some q) (k : s_W S G p l e R s m args below meth c Q N0 M0 q.1 q.2.1 q.2.2.1 q.2.2.2) : s_W S G p l e R s m args below meth c Q N0 M0 pc L st h := by
  obtain ⟨hx, hb, hml, hown, hts, hI, hini⟩ := C
  subst hn
  cases hs
  intro hlen H locs ls hW hS hL
  match v, hdg, k with
  | 0, hdg, k => exact lv_dconst0 hx hb hdg (k hlen H locs ls hW hS hL)
  | 1, hdg, k => exact lv_dconst1 hx hb hdg (k hlen H locs ls hW hS hL)
theorem s_d_iload_n {v : Fin 4} (C : s_Cx S G TW p s m args meth c r) (hdg : decode (s_b r) pc = .ok (.iload_n v, n)) (hn : n = 1) (hs : s_x (.iload_n v) pc n L st h = some q) (k : s_W S G p l e R s m args below meth c Q N0 M0 q.1 q.2.1 q.2.2.1 q.2.2.2) : s_W S G p l e R s m args below meth c Q N0 M0 pc L st h := by
  obtain ⟨hx, hb, hml, hown, hts, hI, hini⟩ := C
  subst hn
  dsimp only [s_x] at hs
  split at hs
  next x heq =>
    cases hs
    intro hlen H locs ls hW hS hL
    exact lv_iload_n hx hb hdg rfl (s_LR_at hL heq (fun a z => by cases z)) (k hlen H locs ls hW hS hL)
  · cases hs
theorem s_d_iload {v : Nat} (C : s_Cx S G TW p s m args meth c r) (hdg : decode (s_b r) pc = .ok (.iload v, n)) (hn : n = 2) (hs : s_x (.iload v) pc n L st h = some q) (k : s_W S G p l e R s m args below meth c Q N0 M0 q.1 q.2.1 q.2.2.1 q.2.2.2) : s_W S G p l e R s m args below meth c Q N0 M0 pc L st h := by
  obtain ⟨hx, hb, hml, hown, hts, hI, hini⟩ := C
  subst hn
  dsimp only [s_x] at hs
  split at hs
  next x heq =>
    cases hs
    intro hlen H locs ls hW hS hL
    exact lv_iload hx hb hdg (s_LR_at hL heq (fun a z => by cases z)) (k hlen H locs ls hW hS hL)
  · cases hs
theorem s_d_lload_n {v : Fin 4} (C : s_Cx S G TW p s m args meth c r) (hdg : decode (s_b r) pc = .ok (.lload_n v, n)) (hn : n = 1) (hs : s_x (.lload_n v) pc n L st h = some q) (k : s_W S G p l e R s m args below meth c Q N0 M0 q.1 q.2.1 q.2.2.1 q.2.2.2) : s_W S G p l e R s m args below meth c Q N0 M0 pc L st h := by
  obtain ⟨hx, hb, hml, hown, hts, hI, hini⟩ := C
  subst hn
  dsimp only [s_x] at hs
  split at hs
  next x heq =>
    cases hs
    intro hlen H locs ls hW hS hL
    exact lv_lload_n hx hb hdg rfl (s_LR_at hL heq (fun a z => by cases z)) (k hlen H locs ls hW hS hL)
  · cases hs
theorem s_d_lload {v : Nat} (C : s_Cx S G TW p s m args meth c r) (hdg : decode (s_b r) pc = .ok (.lload v, n)) (hn : n = 2) (hs : s_x (.lload v) pc n L st h = some q) (k : s_W S G p l e R s m args below meth c Q N0 M0 q.1 q.2.1 q.2.2.1 q.2.2.2) : s_W S G p l e R s m args below meth c Q N0 M0 pc L st h := by
  obtain ⟨hx, hb, hml, hown, hts, hI, hini⟩ := C
  subst hn
  dsimp only [s_x] at hs
  split at hs
  next x heq =>
    cases hs
    intro hlen H locs ls hW hS hL
    exact lv_lload hx hb hdg (s_LR_at hL heq (fun a z => by cases z)) (k hlen H locs ls hW hS hL)
  · cases hs
theorem s_d_fload_n {v : Fin 4} (C : s_Cx S G TW p s m args meth c r) (hdg : decode (s_b r) pc = .ok (.fload_n v, n)) (hn : n = 1) (hs : s_x (.fload_n v) pc n L st h = some q) (k : s_W S G p l e R s m args below meth c Q N0 M0 q.1 q.2.1 q.2.2.1 q.2.2.2) : s_W S G p l e R s m args below meth c Q N0 M0 pc L st h := by
  obtain ⟨hx, hb, hml, hown, hts, hI, hini⟩ := C
  subst hn
  dsimp only [s_x] at hs
  split at hs
  next x heq =>
    cases hs
    intro hlen H locs ls hW hS hL
    exact lv_fload_n hx hb hdg rfl (s_LR_at hL heq (fun a z => by cases z)) (k hlen H locs ls hW hS hL)
  · cases hs
theorem s_d_dload_n {v : Fin 4} (C : s_Cx S G TW p s m args meth c r) (hdg : decode (s_b r) pc = .ok (.dload_n v, n)) (hn : n = 1) (hs : s_x (.dload_n v) pc n L st h = some q) (k : s_W S G p l e R s m args below meth c Q N0 M0 q.1 q.2.1 q.2.2.1 q.2.2.2) : s_W S G p l e R s m args below meth c Q N0 M0 pc L st h := by
  obtain ⟨hx, hb, hml, hown, hts, hI, hini⟩ := C
  subst hn
  dsimp only [s_x] at hs
  split at hs
  next x heq =>
    cases hs
    intro hlen H locs ls hW hS hL
    exact lv_dload_n hx hb hdg rfl (s_LR_at hL heq (fun a z => by cases z)) (k hlen H locs ls hW hS hL)
  · cases hs
theorem s_d_aload_n {v : Fin 4} (C : s_Cx S G TW p s m args meth c r) (hdg : decode (s_b r) pc = .ok (.aload_n v, n)) (hn : n = 1) (hs : s_x (.aload_n v) pc n L st h = some q) (k : s_W S G p l e R s m args below meth c Q N0 M0 q.1 q.2.1 q.2.2.1 q.2.2.2) : s_W S G p l e R s m args below meth c Q N0 M0 pc L st h := by
  obtain ⟨hx, hb, hml, hown, hts, hI, hini⟩ := C
  subst hn
  dsimp only [s_x] at hs
  split at hs
  next x heq =>
    cases hs
    intro hlen H locs ls hW hS hL
    exact lv_aload_n hx hb hdg rfl (s_LR_at hL heq (fun a z => by cases z)) (k hlen H locs ls hW hS hL)
  next heq =>
    cases hs
    intro hlen H locs ls hW hS hL
    exact lv_aload_nN hx hb hdg rfl (s_LR_at hL heq (fun a z => by cases z)) (k hlen H locs ls hW hS hL)
  · cases hs
theorem s_d_aload {v : Nat} (C : s_Cx S G TW p s m args meth c r) (hdg : decode (s_b r) pc = .ok (.aload v, n)) (hn : n = 2) (hs : s_x (.aload v) pc n L st h = some q) (k : s_W S G p l e R s m args below meth c Q N0 M0 q.1 q.2.1 q.2.2.1 q.2.2.2) : s_W S G p l e R s m args below meth c Q N0 M0 pc L st h := by
  obtain ⟨hx, hb, hml, hown, hts, hI, hini⟩ := C
  subst hn
  dsimp only [s_x] at hs
  split at hs
  next x heq =>
    cases hs
    intro hlen H locs ls hW hS hL
    exact lv_aload hx hb hdg (s_LR_at hL heq (fun a z => by cases z)) (k hlen H locs ls hW hS hL)
  next heq =>
    cases hs
    intro hlen H locs ls hW hS hL
    exact lv_aloadN hx hb hdg (s_LR_at hL heq (fun a z => by cases z)) (k hlen H locs ls hW hS hL)
  · cases hs
theorem s_d_istore_n {v : Fin 4} (C : s_Cx S G TW p s m args meth c r) (hdg : decode (s_b r) pc = .ok (.istore_n v, n)) (hn : n = 1) (hs : s_x (.istore_n v) pc n L st h = some q) (k : s_W S G p l e R s m args below meth c Q N0 M0 q.1 q.2.1 q.2.2.1 q.2.2.2) : s_W S G p l e R s m args below meth c Q N0 M0 pc L st h := by
  obtain ⟨hx, hb, hml, hown, hts, hI, hini⟩ := C
  subst hn
  dsimp only [s_x] at hs
  split at hs
  · split at hs
    next hlt =>
      cases hs
      intro hlen H locs ls hW hS hL
      exact lv_istore_n hx hb hdg rfl hL hlt rfl (fun ls2 hl2 => k ((s_put1_len _ _ _).trans hlen) H locs ls2 hW hS (s_LR_put1 hl2))
    · cases hs
  · cases hs
theorem s_d_istore {v : Nat} (C : s_Cx S G TW p s m args meth c r) (hdg : decode (s_b r) pc = .ok (.istore v, n)) (hn : n = 2) (hs : s_x (.istore v) pc n L st h = some q) (k : s_W S G p l e R s m args below meth c Q N0 M0 q.1 q.2.1 q.2.2.1 q.2.2.2) : s_W S G p l e R s m args below meth c Q N0 M0 pc L st h := by
  obtain ⟨hx, hb, hml, hown, hts, hI, hini⟩ := C
  subst hn
  dsimp only [s_x] at hs
  split at hs
  · split at hs
    next hlt =>
      cases hs
      intro hlen H locs ls hW hS hL
      exact lv_istore hx hb hdg hL hlt rfl (fun ls2 hl2 => k ((s_put1_len _ _ _).trans hlen) H locs ls2 hW hS (s_LR_put1 hl2))
    · cases hs
  · cases hs
theorem s_d_fstore_n {v : Fin 4} (C : s_Cx S G TW p s m args meth c r) (hdg : decode (s_b r) pc = .ok (.fstore_n v, n)) (hn : n = 1) (hs : s_x (.fstore_n v) pc n L st h = some q) (k : s_W S G p l e R s m args below meth c Q N0 M0 q.1 q.2.1 q.2.2.1 q.2.2.2) : s_W S G p l e R s m args below meth c Q N0 M0 pc L st h := by
  obtain ⟨hx, hb, hml, hown, hts, hI, hini⟩ := C
  subst hn
  dsimp only [s_x] at hs
  split at hs
  · split at hs
    next hlt =>
      cases hs
      intro hlen H locs ls hW hS hL
      exact lv_fstore_n hx hb hdg rfl hL hlt rfl (fun ls2 hl2 => k ((s_put1_len _ _ _).trans hlen) H locs ls2 hW hS (s_LR_put1 hl2))
    · cases hs
  · cases hs
theorem s_d_lstore_n {v : Fin 4} (C : s_Cx S G TW p s m args meth c r) (hdg : decode (s_b r) pc = .ok (.lstore_n v, n)) (hn : n = 1) (hs : s_x (.lstore_n v) pc n L st h = some q) (k : s_W S G p l e R s m args below meth c Q N0 M0 q.1 q.2.1 q.2.2.1 q.2.2.2) : s_W S G p l e R s m args below meth c Q N0 M0 pc L st h := by
  obtain ⟨hx, hb, hml, hown, hts, hI, hini⟩ := C
  subst hn
  dsimp only [s_x] at hs
  split at hs
  · split at hs
    next hlt =>
      cases hs
      intro hlen H locs ls hW hS hL
      exact lv_lstore_n hx hb hdg rfl hL hlt rfl (fun ls2 hl2 => k ((s_put2_len _ _ _).trans hlen) H locs ls2 hW hS (s_LR_put2 hl2))
    · cases hs
  · cases hs
theorem s_d_lstore {v : Nat} (C : s_Cx S G TW p s m args meth c r) (hdg : decode (s_b r) pc = .ok (.lstore v, n)) (hn : n = 2) (hs : s_x (.lstore v) pc n L st h = some q) (k : s_W S G p l e R s m args below meth c Q N0 M0 q.1 q.2.1 q.2.2.1 q.2.2.2) : s_W S G p l e R s m args below meth c Q N0 M0 pc L st h := by
  obtain ⟨hx, hb, hml, hown, hts, hI, hini⟩ := C
  subst hn
  dsimp only [s_x] at hs
  split at hs
  · split at hs
    next hlt =>
      cases hs
      intro hlen H locs ls hW hS hL
      exact lv_lstore hx hb hdg hL hlt rfl (fun ls2 hl2 => k ((s_put2_len _ _ _).trans hlen) H locs ls2 hW hS (s_LR_put2 hl2))
    · cases hs
  · cases hs
theorem s_d_dstore_n {v : Fin 4} (C : s_Cx S G TW p s m args meth c r) (hdg : decode (s_b r) pc = .ok (.dstore_n v, n)) (hn : n = 1) (hs : s_x (.dstore_n v) pc n L st h = some q) (k : s_W S G p l e R s m args below meth c Q N0 M0 q.1 q.2.1 q.2.2.1 q.2.2.2) : s_W S G p l e R s m args below meth c Q N0 M0 pc L st h := by
  obtain ⟨hx, hb, hml, hown, hts, hI, hini⟩ := C
  subst hn
  dsimp only [s_x] at hs
  split at hs
  · split at hs
    next hlt =>
      cases hs
      intro hlen H locs ls hW hS hL
      exact lv_dstore_n hx hb hdg rfl hL hlt rfl (fun ls2 hl2 => k ((s_put2_len _ _ _).trans hlen) H locs ls2 hW hS (s_LR_put2 hl2))
    · cases hs
  · cases hs
theorem s_d_astore_n {v : Fin 4} (C : s_Cx S G TW p s m args meth c r) (hdg : decode (s_b r) pc = .ok (.astore_n v, n)) (hn : n = 1) (hs : s_x (.astore_n v) pc n L st h = some q) (k : s_W S G p l e R s m args below meth c Q N0 M0 q.1 q.2.1 q.2.2.1 q.2.2.2) : s_W S G p l e R s m args below meth c Q N0 M0 pc L st h := by
  obtain ⟨hx, hb, hml, hown, hts, hI, hini⟩ := C
  subst hn
  dsimp only [s_x] at hs
  split at hs
  · split at hs
    next hlt =>
      cases hs
      intro hlen H locs ls hW hS hL
      exact lv_astore_n hx hb hdg rfl hL hlt rfl (fun ls2 hl2 => k ((s_put1_len _ _ _).trans hlen) H locs ls2 hW hS (s_LR_put1 hl2))
    · cases hs
  · split at hs
    next hlt =>
      cases hs
      intro hlen H locs ls hW hS hL
      exact lv_astore_nN hx hb hdg rfl hL hlt rfl (fun ls2 hl2 => k ((s_put1_len _ _ _).trans hlen) H locs ls2 hW hS (s_LR_put1 hl2))
    · cases hs
  · cases hs
theorem s_d_astore {v : Nat} (C : s_Cx S G TW p s m args meth c r) (hdg : decode (s_b r) pc = .ok (.astore v, n)) (hn : n = 2) (hs : s_x (.astore v) pc n L st h = some q) (k : s_W S G p l e R s m args below meth c Q N0 M0 q.1 q.2.1 q.2.2.1 q.2.2.2) : s_W S G p l e R s m args below meth c Q N0 M0 pc L st h := by
  obtain ⟨hx, hb, hml, hown, hts, hI, hini⟩ := C
  subst hn
  dsimp only [s_x] at hs
  split at hs
  · split at hs
    next hlt =>
      cases hs
      intro hlen H locs ls hW hS hL
      exact lv_astore hx hb hdg hL hlt rfl (fun ls2 hl2 => k ((s_put1_len _ _ _).trans hlen) H locs ls2 hW hS (s_LR_put1 hl2))
    · cases hs
  · split at hs
    next hlt =>
      cases hs
      intro hlen H locs ls hW hS hL
      exact lv_astoreN hx hb hdg hL hlt rfl (fun ls2 hl2 => k ((s_put1_len _ _ _).trans hlen) H locs ls2 hW hS (s_LR_put1 hl2))
    · cases hs
  · cases hs
theorem s_d_iinc {v : Nat} {w : Int} (C : s_Cx S G TW p s m args meth c r) (hdg : decode (s_b r) pc = .ok (.iinc v w, n)) (hn : n = 3) (hs : s_x (.iinc v w) pc n L st h = some q) (k : s_W S G p l e R s m args below meth c Q N0 M0 q.1 q.2.1 q.2.2.1 q.2.2.2) : s_W S G p l e R s m args below meth c Q N0 M0 pc L st h := by
  obtain ⟨hx, hb, hml, hown, hts, hI, hini⟩ := C
  subst hn
  dsimp only [s_x] at hs
  split at hs
  next x heq =>
    cases hs
    intro hlen H locs ls hW hS hL
    have hm := s_asc_mem (G := G) (L := L) (q := (v, .int x)) |>.mpr ⟨.int x, by rw [← s_nth_eq]; exact heq, fun a z => (by cases z), rfl⟩
    obtain ⟨j, hj⟩ := List.getElem?_of_mem hm
    have hlt : v < L.length := by rw [s_nth_eq] at heq; exact (List.getElem?_eq_some_iff.mp heq).1
    exact lv_iinc hx hb hdg hL hj rfl hlt rfl (fun ls2 hl2 => k ((s_put1_len _ _ _).trans hlen) H locs ls2 hW hS (s_LR_put1 hl2))
  · cases hs
theorem s_d_iadd (C : s_Cx S G TW p s m args meth c r) (hdg : decode (s_b r) pc = .ok (.iadd, n)) (hn : n = 1) (hs : s_x (.iadd) pc n L st h = some q) (k : s_W S G p l e R s m args below meth c Q N0 M0 q.1 q.2.1 q.2.2.1 q.2.2.2) : s_W S G p l e R s m args below meth c Q N0 M0 pc L st h := by
  obtain ⟨hx, hb, hml, hown, hts, hI, hini⟩ := C
  subst hn
  dsimp only [s_x] at hs
  split at hs
  · cases hs
    intro hlen H locs ls hW hS hL
    exact lv_iadd hx hb hdg (k hlen H locs ls hW hS hL)
  · cases hs
theorem s_d_isub (C : s_Cx S G TW p s m args meth c r) (hdg : decode (s_b r) pc = .ok (.isub, n)) (hn : n = 1) (hs : s_x (.isub) pc n L st h = some q) (k : s_W S G p l e R s m args below meth c Q N0 M0 q.1 q.2.1 q.2.2.1 q.2.2.2) : s_W S G p l e R s m args below meth c Q N0 M0 pc L st h := by
  obtain ⟨hx, hb, hml, hown, hts, hI, hini⟩ := C
  subst hn
  dsimp only [s_x] at hs
  split at hs
  · cases hs
    intro hlen H locs ls hW hS hL
    exact lv_isub hx hb hdg (k hlen H locs ls hW hS hL)
  · cases hs
theorem s_d_imul (C : s_Cx S G TW p s m args meth c r) (hdg : decode (s_b r) pc = .ok (.imul, n)) (hn : n = 1) (hs : s_x (.imul) pc n L st h = some q) (k : s_W S G p l e R s m args below meth c Q N0 M0 q.1 q.2.1 q.2.2.1 q.2.2.2) : s_W S G p l e R s m args below meth c Q N0 M0 pc L st h := by
  obtain ⟨hx, hb, hml, hown, hts, hI, hini⟩ := C
  subst hn
  dsimp only [s_x] at hs
  split at hs
  · cases hs
    intro hlen H locs ls hW hS hL
    exact lv_imul hx hb hdg (k hlen H locs ls hW hS hL)
  · cases hs
theorem s_d_iand (C : s_Cx S G TW p s m args meth c r) (hdg : decode (s_b r) pc = .ok (.iand, n)) (hn : n = 1) (hs : s_x (.iand) pc n L st h = some q) (k : s_W S G p l e R s m args below meth c Q N0 M0 q.1 q.2.1 q.2.2.1 q.2.2.2) : s_W S G p l e R s m args below meth c Q N0 M0 pc L st h := by
  obtain ⟨hx, hb, hml, hown, hts, hI, hini⟩ := C
  subst hn
  dsimp only [s_x] at hs
  split at hs
  · cases hs
    intro hlen H locs ls hW hS hL
    exact lv_iand hx hb hdg (k hlen H locs ls hW hS hL)
  · cases hs
theorem s_d_ior (C : s_Cx S G TW p s m args meth c r) (hdg : decode (s_b r) pc = .ok (.ior, n)) (hn : n = 1) (hs : s_x (.ior) pc n L st h = some q) (k : s_W S G p l e R s m args below meth c Q N0 M0 q.1 q.2.1 q.2.2.1 q.2.2.2) : s_W S G p l e R s m args below meth c Q N0 M0 pc L st h := by
  obtain ⟨hx, hb, hml, hown, hts, hI, hini⟩ := C
  subst hn
  dsimp only [s_x] at hs
  split at hs
  · cases hs
    intro hlen H locs ls hW hS hL
    exact lv_ior hx hb hdg (k hlen H locs ls hW hS hL)
  · cases hs
theorem s_d_ishl (C : s_Cx S G TW p s m args meth c r) (hdg : decode (s_b r) pc = .ok (.ishl, n)) (hn : n = 1) (hs : s_x (.ishl) pc n L st h = some q) (k : s_W S G p l e R s m args below meth c Q N0 M0 q.1 q.2.1 q.2.2.1 q.2.2.2) : s_W S G p l e R s m args below meth c Q N0 M0 pc L st h := by
  obtain ⟨hx, hb, hml, hown, hts, hI, hini⟩ := C
  subst hn
  dsimp only [s_x] at hs
  split at hs
  · cases hs
    intro hlen H locs ls hW hS hL
    exact lv_ishl hx hb hdg (k hlen H locs ls hW hS hL)
  · cases hs
theorem s_d_ladd (C : s_Cx S G TW p s m args meth c r) (hdg : decode (s_b r) pc = .ok (.ladd, n)) (hn : n = 1) (hs : s_x (.ladd) pc n L st h = some q) (k : s_W S G p l e R s m args below meth c Q N0 M0 q.1 q.2.1 q.2.2.1 q.2.2.2) : s_W S G p l e R s m args below meth c Q N0 M0 pc L st h := by
  obtain ⟨hx, hb, hml, hown, hts, hI, hini⟩ := C
  subst hn
  dsimp only [s_x] at hs
  split at hs
  · cases hs
    intro hlen H locs ls hW hS hL
    exact lv_ladd hx hb hdg (k hlen H locs ls hW hS hL)
  · cases hs
theorem s_d_lsub (C : s_Cx S G TW p s m args meth c r) (hdg : decode (s_b r) pc = .ok (.lsub, n)) (hn : n = 1) (hs : s_x (.lsub) pc n L st h = some q) (k : s_W S G p l e R s m args below meth c Q N0 M0 q.1 q.2.1 q.2.2.1 q.2.2.2) : s_W S G p l e R s m args below meth c Q N0 M0 pc L st h := by
  obtain ⟨hx, hb, hml, hown, hts, hI, hini⟩ := C
  subst hn
  dsimp only [s_x] at hs
  split at hs
  · cases hs
    intro hlen H locs ls hW hS hL
    exact lv_lsub hx hb hdg (k hlen H locs ls hW hS hL)
  · cases hs
theorem s_d_land (C : s_Cx S G TW p s m args meth c r) (hdg : decode (s_b r) pc = .ok (.land, n)) (hn : n = 1) (hs : s_x (.land) pc n L st h = some q) (k : s_W S G p l e R s m args below meth c Q N0 M0 q.1 q.2.1 q.2.2.1 q.2.2.2) : s_W S G p l e R s m args below meth c Q N0 M0 pc L st h := by
  obtain ⟨hx, hb, hml, hown, hts, hI, hini⟩ := C
  subst hn
  dsimp only [s_x] at hs
  split at hs
  · cases hs
    intro hlen H locs ls hW hS hL
    exact lv_land hx hb hdg (k hlen H locs ls hW hS hL)
  · cases hs
theorem s_d_lor (C : s_Cx S G TW p s m args meth c r) (hdg : decode (s_b r) pc = .ok (.lor, n)) (hn : n = 1) (hs : s_x (.lor) pc n L st h = some q) (k : s_W S G p l e R s m args below meth c Q N0 M0 q.1 q.2.1 q.2.2.1 q.2.2.2) : s_W S G p l e R s m args below meth c Q N0 M0 pc L st h := by
  obtain ⟨hx, hb, hml, hown, hts, hI, hini⟩ := C
  subst hn
  dsimp only [s_x] at hs
  split at hs
  · cases hs
    intro hlen H locs ls hW hS hL
    exact lv_lor hx hb hdg (k hlen H locs ls hW hS hL)
  · cases hs
theorem s_d_lshl (C : s_Cx S G TW p s m args meth c r) (hdg : decode (s_b r) pc = .ok (.lshl, n)) (hn : n = 1) (hs : s_x (.lshl) pc n L st h = some q) (k : s_W S G p l e R s m args below meth c Q N0 M0 q.1 q.2.1 q.2.2.1 q.2.2.2) : s_W S G p l e R s m args below meth c Q N0 M0 pc L st h := by
  obtain ⟨hx, hb, hml, hown, hts, hI, hini⟩ := C
  subst hn
  dsimp only [s_x] at hs
  split at hs
  · cases hs
    intro hlen H locs ls hW hS hL
    exact lv_lshl hx hb hdg rfl (k hlen H locs ls hW hS hL)
  · cases hs
theorem s_d_lushr (C : s_Cx S G TW p s m args meth c r) (hdg : decode (s_b r) pc = .ok (.lushr, n)) (hn : n = 1) (hs : s_x (.lushr) pc n L st h = some q) (k : s_W S G p l e R s m args below meth c Q N0 M0 q.1 q.2.1 q.2.2.1 q.2.2.2) : s_W S G p l e R s m args below meth c Q N0 M0 pc L st h := by
  obtain ⟨hx, hb, hml, hown, hts, hI, hini⟩ := C
  subst hn
  dsimp only [s_x] at hs
  split at hs
  · cases hs
    intro hlen H locs ls hW hS hL
    exact lv_lushr hx hb hdg rfl (k hlen H locs ls hW hS hL)
  · cases hs
theorem s_d_i2l (C : s_Cx S G TW p s m args meth c r) (hdg : decode (s_b r) pc = .ok (.i2l, n)) (hn : n = 1) (hs : s_x (.i2l) pc n L st h = some q) (k : s_W S G p l e R s m args below meth c Q N0 M0 q.1 q.2.1 q.2.2.1 q.2.2.2) : s_W S G p l e R s m args below meth c Q N0 M0 pc L st h := by
  obtain ⟨hx, hb, hml, hown, hts, hI, hini⟩ := C
  subst hn
  dsimp only [s_x] at hs
  split at hs
  · cases hs
    intro hlen H locs ls hW hS hL
    exact lv_i2l hx hb hdg rfl (k hlen H locs ls hW hS hL)
  · cases hs
theorem s_d_l2i (C : s_Cx S G TW p s m args meth c r) (hdg : decode (s_b r) pc = .ok (.l2i, n)) (hn : n = 1) (hs : s_x (.l2i) pc n L st h = some q) (k : s_W S G p l e R s m args below meth c Q N0 M0 q.1 q.2.1 q.2.2.1 q.2.2.2) : s_W S G p l e R s m args below meth c Q N0 M0 pc L st h := by
  obtain ⟨hx, hb, hml, hown, hts, hI, hini⟩ := C
  subst hn
  dsimp only [s_x] at hs
  split at hs
  · cases hs
    intro hlen H locs ls hW hS hL
    exact lv_l2i hx hb hdg rfl (k hlen H locs ls hW hS hL)
  · cases hs
theorem s_d_i2f (C : s_Cx S G TW p s m args meth c r) (hdg : decode (s_b r) pc = .ok (.i2f, n)) (hn : n = 1) (hs : s_x (.i2f) pc n L st h = some q) (k : s_W S G p l e R s m args below meth c Q N0 M0 q.1 q.2.1 q.2.2.1 q.2.2.2) : s_W S G p l e R s m args below meth c Q N0 M0 pc L st h := by
  obtain ⟨hx, hb, hml, hown, hts, hI, hini⟩ := C
  subst hn
  dsimp only [s_x] at hs
  split at hs
  · cases hs
    intro hlen H locs ls hW hS hL
    exact lv_i2f hx hb hdg (k hlen H locs ls hW hS hL)
  · cases hs
theorem s_d_i2d (C : s_Cx S G TW p s m args meth c r) (hdg : decode (s_b r) pc = .ok (.i2d, n)) (hn : n = 1) (hs : s_x (.i2d) pc n L st h = some q) (k : s_W S G p l e R s m args below meth c Q N0 M0 q.1 q.2.1 q.2.2.1 q.2.2.2) : s_W S G p l e R s m args below meth c Q N0 M0 pc L st h := by
  obtain ⟨hx, hb, hml, hown, hts, hI, hini⟩ := C
  subst hn
  dsimp only [s_x] at hs
  split at hs
  · cases hs
    intro hlen H locs ls hW hS hL
    exact lv_i2d hx hb hdg (k hlen H locs ls hW hS hL)
  · cases hs
theorem s_d_l2d (C : s_Cx S G TW p s m args meth c r) (hdg : decode (s_b r) pc = .ok (.l2d, n)) (hn : n = 1) (hs : s_x (.l2d) pc n L st h = some q) (k : s_W S G p l e R s m args below meth c Q N0 M0 q.1 q.2.1 q.2.2.1 q.2.2.2) : s_W S G p l e R s m args below meth c Q N0 M0 pc L st h := by
  obtain ⟨hx, hb, hml, hown, hts, hI, hini⟩ := C
  subst hn
  dsimp only [s_x] at hs
  split at hs
  · cases hs
    intro hlen H locs ls hW hS hL
    exact lv_l2d hx hb hdg (k hlen H locs ls hW hS hL)
  · cases hs
theorem s_d_d2l (C : s_Cx S G TW p s m args meth c r) (hdg : decode (s_b r) pc = .ok (.d2l, n)) (hn : n = 1) (hs : s_x (.d2l) pc n L st h = some q) (k : s_W S G p l e R s m args below meth c Q N0 M0 q.1 q.2.1 q.2.2.1 q.2.2.2) : s_W S G p l e R s m args below meth c Q N0 M0 pc L st h := by
  obtain ⟨hx, hb, hml, hown, hts, hI, hini⟩ := C
  subst hn
  dsimp only [s_x] at hs
  split at hs
  · cases hs
    intro hlen H locs ls hW hS hL
    exact lv_d2l hx hb hdg (k hlen H locs ls hW hS hL)
  · cases hs
theorem s_d_f2i (C : s_Cx S G TW p s m args meth c r) (hdg : decode (s_b r) pc = .ok (.f2i, n)) (hn : n = 1) (hs : s_x (.f2i) pc n L st h = some q) (k : s_W S G p l e R s m args below meth c Q N0 M0 q.1 q.2.1 q.2.2.1 q.2.2.2) : s_W S G p l e R s m args below meth c Q N0 M0 pc L st h := by
  obtain ⟨hx, hb, hml, hown, hts, hI, hini⟩ := C
  subst hn
  dsimp only [s_x] at hs
  split at hs
  · cases hs
    intro hlen H locs ls hW hS hL
    exact lv_f2i hx hb hdg (k hlen H locs ls hW hS hL)
  · cases hs
theorem s_d_lcmp (C : s_Cx S G TW p s m args meth c r) (hdg : decode (s_b r) pc = .ok (.lcmp, n)) (hn : n = 1) (hs : s_x (.lcmp) pc n L st h = some q) (k : s_W S G p l e R s m args below meth c Q N0 M0 q.1 q.2.1 q.2.2.1 q.2.2.2) : s_W S G p l e R s m args below meth c Q N0 M0 pc L st h := by
  obtain ⟨hx, hb, hml, hown, hts, hI, hini⟩ := C
  subst hn
  dsimp only [s_x] at hs
  split at hs
  · cases hs
    intro hlen H locs ls hW hS hL
    exact W.lcmp hx hb hdg (k hlen H locs ls hW hS hL)
  · cases hs
theorem s_d_fcmp {v : CmpOp} (C : s_Cx S G TW p s m args meth c r) (hdg : decode (s_b r) pc = .ok (.fcmp v, n)) (hn : n = 1) (hs : s_x (.fcmp v) pc n L st h = some q) (k : s_W S G p l e R s m args below meth c Q N0 M0 q.1 q.2.1 q.2.2.1 q.2.2.2) : s_W S G p l e R s m args below meth c Q N0 M0 pc L st h := by
  obtain ⟨hx, hb, hml, hown, hts, hI, hini⟩ := C
  subst hn
  dsimp only [s_x] at hs
  split at hs
  · cases hs
    intro hlen H locs ls hW hS hL
    exact lv_fcmp hx hb hdg (k hlen H locs ls hW hS hL)
  · cases hs
theorem s_d_dcmp {v : CmpOp} (C : s_Cx S G TW p s m args meth c r) (hdg : decode (s_b r) pc = .ok (.dcmp v, n)) (hn : n = 1) (hs : s_x (.dcmp v) pc n L st h = some q) (k : s_W S G p l e R s m args below meth c Q N0 M0 q.1 q.2.1 q.2.2.1 q.2.2.2) : s_W S G p l e R s m args below meth c Q N0 M0 pc L st h := by
  obtain ⟨hx, hb, hml, hown, hts, hI, hini⟩ := C
  subst hn
  dsimp only [s_x] at hs
  split at hs
  · cases hs
    intro hlen H locs ls hW hS hL
    exact lv_dcmp hx hb hdg (k hlen H locs ls hW hS hL)
  · cases hs
theorem s_d_idiv (C : s_Cx S G TW p s m args meth c r) (hdg : decode (s_b r) pc = .ok (.idiv, n)) (hn : n = 1) (hs : s_x (.idiv) pc n L st h = some q) (k : s_W S G p l e R s m args below meth c Q N0 M0 q.1 q.2.1 q.2.2.1 q.2.2.2) : s_W S G p l e R s m args below meth c Q N0 M0 pc L st h := by
  obtain ⟨hx, hb, hml, hown, hts, hI, hini⟩ := C
  subst hn
  dsimp only [s_x] at hs
  split at hs
  · split at hs
    · cases hs
    next hc =>
      cases hs
      intro hlen H locs ls hW hS hL
      exact lv_idiv hx hb hdg hc (k hlen H locs ls hW hS hL)
  · cases hs
theorem s_d_fsub (C : s_Cx S G TW p s m args meth c r) (hdg : decode (s_b r) pc = .ok (.fsub, n)) (hn : n = 1) (hs : s_x (.fsub) pc n L st h = some q) (k : s_W S G p l e R s m args below meth c Q N0 M0 q.1 q.2.1 q.2.2.1 q.2.2.2) : s_W S G p l e R s m args below meth c Q N0 M0 pc L st h := by
  obtain ⟨hx, hb, hml, hown, hts, hI, hini⟩ := C
  subst hn
  dsimp only [s_x] at hs
  split at hs
  · split at hs
    next hc =>
      cases hs
      intro hlen H locs ls hW hS hL
      exact lv_fsub hx hb hdg hc (k hlen H locs ls hW hS hL)
    · cases hs
  · cases hs
theorem s_d_fmul (C : s_Cx S G TW p s m args meth c r) (hdg : decode (s_b r) pc = .ok (.fmul, n)) (hn : n = 1) (hs : s_x (.fmul) pc n L st h = some q) (k : s_W S G p l e R s m args below meth c Q N0 M0 q.1 q.2.1 q.2.2.1 q.2.2.2) : s_W S G p l e R s m args below meth c Q N0 M0 pc L st h := by
  obtain ⟨hx, hb, hml, hown, hts, hI, hini⟩ := C
  subst hn
  dsimp only [s_x] at hs
  split at hs
  · split at hs
    next hc =>
      cases hs
      intro hlen H locs ls hW hS hL
      exact lv_fmul hx hb hdg hc (k hlen H locs ls hW hS hL)
    · cases hs
  · cases hs
theorem s_d_fdiv (C : s_Cx S G TW p s m args meth c r) (hdg : decode (s_b r) pc = .ok (.fdiv, n)) (hn : n = 1) (hs : s_x (.fdiv) pc n L st h = some q) (k : s_W S G p l e R s m args below meth c Q N0 M0 q.1 q.2.1 q.2.2.1 q.2.2.2) : s_W S G p l e R s m args below meth c Q N0 M0 pc L st h := by
  obtain ⟨hx, hb, hml, hown, hts, hI, hini⟩ := C
  subst hn
  dsimp only [s_x] at hs
  split at hs
  · split at hs
    next hc =>
      cases hs
      intro hlen H locs ls hW hS hL
      exact lv_fdiv hx hb hdg hc (k hlen H locs ls hW hS hL)
    · cases hs
  · cases hs
theorem s_d_dsub (C : s_Cx S G TW p s m args meth c r) (hdg : decode (s_b r) pc = .ok (.dsub, n)) (hn : n = 1) (hs : s_x (.dsub) pc n L st h = some q) (k : s_W S G p l e R s m args below meth c Q N0 M0 q.1 q.2.1 q.2.2.1 q.2.2.2) : s_W S G p l e R s m args below meth c Q N0 M0 pc L st h := by
  obtain ⟨hx, hb, hml, hown, hts, hI, hini⟩ := C
  subst hn
  dsimp only [s_x] at hs
  split at hs
  · split at hs
    next hc =>
      cases hs
      intro hlen H locs ls hW hS hL
      exact lv_dsub hx hb hdg hc (k hlen H locs ls hW hS hL)
    · cases hs
  · cases hs
theorem s_d_dmul (C : s_Cx S G TW p s m args meth c r) (hdg : decode (s_b r) pc = .ok (.dmul, n)) (hn : n = 1) (hs : s_x (.dmul) pc n L st h = some q) (k : s_W S G p l e R s m args below meth c Q N0 M0 q.1 q.2.1 q.2.2.1 q.2.2.2) : s_W S G p l e R s m args below meth c Q N0 M0 pc L st h := by
  obtain ⟨hx, hb, hml, hown, hts, hI, hini⟩ := C
  subst hn
  dsimp only [s_x] at hs
  split at hs
  · split at hs
    next hc =>
      cases hs
      intro hlen H locs ls hW hS hL
      exact lv_dmul hx hb hdg hc (k hlen H locs ls hW hS hL)
    · cases hs
  · cases hs
theorem s_d_ddiv (C : s_Cx S G TW p s m args meth c r) (hdg : decode (s_b r) pc = .ok (.ddiv, n)) (hn : n = 1) (hs : s_x (.ddiv) pc n L st h = some q) (k : s_W S G p l e R s m args below meth c Q N0 M0 q.1 q.2.1 q.2.2.1 q.2.2.2) : s_W S G p l e R s m args below meth c Q N0 M0 pc L st h := by
  obtain ⟨hx, hb, hml, hown, hts, hI, hini⟩ := C
  subst hn
  dsimp only [s_x] at hs
  split at hs
  · split at hs
    next hc =>
      cases hs
      intro hlen H locs ls hW hS hL
      exact lv_ddiv hx hb hdg hc (k hlen H locs ls hW hS hL)
    · cases hs
  · cases hs
theorem s_d_drem (C : s_Cx S G TW p s m args meth c r) (hdg : decode (s_b r) pc = .ok (.drem, n)) (hn : n = 1) (hs : s_x (.drem) pc n L st h = some q) (k : s_W S G p l e R s m args below meth c Q N0 M0 q.1 q.2.1 q.2.2.1 q.2.2.2) : s_W S G p l e R s m args below meth c Q N0 M0 pc L st h := by
  obtain ⟨hx, hb, hml, hown, hts, hI, hini⟩ := C
  subst hn
  dsimp only [s_x] at hs
  split at hs
  · split at hs
    next hc =>
      cases hs
      intro hlen H locs ls hW hS hL
      exact lv_drem hx hb hdg hc (k hlen H locs ls hW hS hL)
    · cases hs
  · cases hs
theorem s_cat1 {v : Value} (h : ¬ s_two v = true) : (s_vc G v).category = 1 := by rw [s_vc_cat, if_neg h]
theorem s_cat2 {v : Value} (h : s_two v = true) : (s_vc G v).category = 2 := by rw [s_vc_cat, if_pos h]
theorem s_d_dup (C : s_Cx S G TW p s m args meth c r) (hdg : decode (s_b r) pc = .ok (.dup, n)) (hn : n = 1) (hs : s_x (.dup) pc n L st h = some q) (k : s_W S G p l e R s m args below meth c Q N0 M0 q.1 q.2.1 q.2.2.1 q.2.2.2) : s_W S G p l e R s m args below meth c Q N0 M0 pc L st h := by
  obtain ⟨hx, hb, hml, hown, hts, hI, hini⟩ := C
  subst hn
  dsimp only [s_x] at hs
  split at hs
  · split at hs
    · cases hs
    next hc =>
      cases hs
      intro hlen H locs ls hW hS hL
      exact lv_dup hx hb hdg (s_cat1 hc) (k hlen H locs ls hW hS hL)
  · cases hs
theorem s_d_pop (C : s_Cx S G TW p s m args meth c r) (hdg : decode (s_b r) pc = .ok (.pop, n)) (hn : n = 1) (hs : s_x (.pop) pc n L st h = some q) (k : s_W S G p l e R s m args below meth c Q N0 M0 q.1 q.2.1 q.2.2.1 q.2.2.2) : s_W S G p l e R s m args below meth c Q N0 M0 pc L st h := by
  obtain ⟨hx, hb, hml, hown, hts, hI, hini⟩ := C
  subst hn
  dsimp only [s_x] at hs
  split at hs
  · split at hs
    · cases hs
    next hc =>
      cases hs
      intro hlen H locs ls hW hS hL
      exact lv_pop hx hb hdg (s_cat1 hc) (k hlen H locs ls hW hS hL)
  · cases hs
theorem s_d_dup2 (C : s_Cx S G TW p s m args meth c r) (hdg : decode (s_b r) pc = .ok (.dup2, n)) (hn : n = 1) (hs : s_x (.dup2) pc n L st h = some q) (k : s_W S G p l e R s m args below meth c Q N0 M0 q.1 q.2.1 q.2.2.1 q.2.2.2) : s_W S G p l e R s m args below meth c Q N0 M0 pc L st h := by
  obtain ⟨hx, hb, hml, hown, hts, hI, hini⟩ := C
  subst hn
  dsimp only [s_x] at hs
  split at hs
  · split at hs
    next hc =>
      cases hs
      intro hlen H locs ls hW hS hL
      exact lv_dup2_2 hx hb hdg (s_cat2 hc) (k hlen H locs ls hW hS hL)
    next hc =>
      split at hs
      · split at hs
        · cases hs
        next hc2 =>
          cases hs
          intro hlen H locs ls hW hS hL
          exact lv_dup2_11 hx hb hdg (s_cat1 hc) (s_cat1 hc2) (k hlen H locs ls hW hS hL)
      · cases hs
  · cases hs
theorem s_d_if_eq {v : Int} (C : s_Cx S G TW p s m args meth c r) (hv : 0 ≤ v) (hdg : decode (s_b r) pc = .ok (.ifCond .eq (v - (pc : Int)), n)) (hn : n = 3) (hs : s_x (.ifCond .eq v) pc n L st h = some q) (k : s_W S G p l e R s m args below meth c Q N0 M0 q.1 q.2.1 q.2.2.1 q.2.2.2) : s_W S G p l e R s m args below meth c Q N0 M0 pc L st h := by
  obtain ⟨hx, hb, hml, hown, hts, hI, hini⟩ := C
  subst hn
  dsimp only [s_x] at hs
  split at hs
  · cases hs
    intro hlen H locs ls hW hS hL
    have k := k hlen H locs ls hW hS hL
    refine lv_if_eq (tgt := v.toNat) hx hb hdg (by omega) (fun hc => ?_) (fun hc => ?_)
    · simp only [s_cnd, decide_eq_true_eq] at k
      rw [if_pos hc] at k
      exact k
    · simp only [s_cnd, decide_eq_true_eq] at k
      rw [if_neg (by first | exact hc | exact not_not_intro hc)] at k
      exact k
  · cases hs
theorem s_d_if_ne {v : Int} (C : s_Cx S G TW p s m args meth c r) (hv : 0 ≤ v) (hdg : decode (s_b r) pc = .ok (.ifCond .ne (v - (pc : Int)), n)) (hn : n = 3) (hs : s_x (.ifCond .ne v) pc n L st h = some q) (k : s_W S G p l e R s m args below meth c Q N0 M0 q.1 q.2.1 q.2.2.1 q.2.2.2) : s_W S G p l e R s m args below meth c Q N0 M0 pc L st h := by
  obtain ⟨hx, hb, hml, hown, hts, hI, hini⟩ := C
  subst hn
  dsimp only [s_x] at hs
  split at hs
  · cases hs
    intro hlen H locs ls hW hS hL
    have k := k hlen H locs ls hW hS hL
    refine lv_if_ne (tgt := v.toNat) hx hb hdg (by omega) (fun hc => ?_) (fun hc => ?_)
    · simp only [s_cnd, decide_eq_true_eq] at k
      rw [if_pos hc] at k
      exact k
    · simp only [s_cnd, decide_eq_true_eq] at k
      rw [if_neg (by first | exact hc | exact not_not_intro hc)] at k
      exact k
  · cases hs
theorem s_d_if_lt {v : Int} (C : s_Cx S G TW p s m args meth c r) (hv : 0 ≤ v) (hdg : decode (s_b r) pc = .ok (.ifCond .lt (v - (pc : Int)), n)) (hn : n = 3) (hs : s_x (.ifCond .lt v) pc n L st h = some q) (k : s_W S G p l e R s m args below meth c Q N0 M0 q.1 q.2.1 q.2.2.1 q.2.2.2) : s_W S G p l e R s m args below meth c Q N0 M0 pc L st h := by
  obtain ⟨hx, hb, hml, hown, hts, hI, hini⟩ := C
  subst hn
  dsimp only [s_x] at hs
  split at hs
  · cases hs
    intro hlen H locs ls hW hS hL
    have k := k hlen H locs ls hW hS hL
    refine lv_if_lt (tgt := v.toNat) hx hb hdg (by omega) (fun hc => ?_) (fun hc => ?_)
    · simp only [s_cnd, decide_eq_true_eq] at k
      rw [if_pos hc] at k
      exact k
    · simp only [s_cnd, decide_eq_true_eq] at k
      rw [if_neg (by first | exact hc | exact not_not_intro hc)] at k
      exact k
  · cases hs
theorem s_d_if_ge {v : Int} (C : s_Cx S G TW p s m args meth c r) (hv : 0 ≤ v) (hdg : decode (s_b r) pc = .ok (.ifCond .ge (v - (pc : Int)), n)) (hn : n = 3) (hs : s_x (.ifCond .ge v) pc n L st h = some q) (k : s_W S G p l e R s m args below meth c Q N0 M0 q.1 q.2.1 q.2.2.1 q.2.2.2) : s_W S G p l e R s m args below meth c Q N0 M0 pc L st h := by
  obtain ⟨hx, hb, hml, hown, hts, hI, hini⟩ := C
  subst hn
  dsimp only [s_x] at hs
  split at hs
  · cases hs
    intro hlen H locs ls hW hS hL
    have k := k hlen H locs ls hW hS hL
    refine lv_if_ge (tgt := v.toNat) hx hb hdg (by omega) (fun hc => ?_) (fun hc => ?_)
    · simp only [s_cnd, decide_eq_true_eq] at k
      rw [if_pos hc] at k
      exact k
    · simp only [s_cnd, decide_eq_true_eq] at k
      rw [if_neg (by first | exact hc | exact not_not_intro hc)] at k
      exact k
  · cases hs
theorem s_d_if_gt {v : Int} (C : s_Cx S G TW p s m args meth c r) (hv : 0 ≤ v) (hdg : decode (s_b r) pc = .ok (.ifCond .gt (v - (pc : Int)), n)) (hn : n = 3) (hs : s_x (.ifCond .gt v) pc n L st h = some q) (k : s_W S G p l e R s m args below meth c Q N0 M0 q.1 q.2.1 q.2.2.1 q.2.2.2) : s_W S G p l e R s m args below meth c Q N0 M0 pc L st h := by
  obtain ⟨hx, hb, hml, hown, hts, hI, hini⟩ := C
  subst hn
  dsimp only [s_x] at hs
  split at hs
  · cases hs
    intro hlen H locs ls hW hS hL
    have k := k hlen H locs ls hW hS hL
    refine lv_if_gt (tgt := v.toNat) hx hb hdg (by omega) (fun hc => ?_) (fun hc => ?_)
    · simp only [s_cnd, decide_eq_true_eq] at k
      rw [if_pos hc] at k
      exact k
    · simp only [s_cnd, decide_eq_true_eq] at k
      rw [if_neg (by first | exact hc | exact not_not_intro hc)] at k
      exact k
  · cases hs
theorem s_d_if_le {v : Int} (C : s_Cx S G TW p s m args meth c r) (hv : 0 ≤ v) (hdg : decode (s_b r) pc = .ok (.ifCond .le (v - (pc : Int)), n)) (hn : n = 3) (hs : s_x (.ifCond .le v) pc n L st h = some q) (k : s_W S G p l e R s m args below meth c Q N0 M0 q.1 q.2.1 q.2.2.1 q.2.2.2) : s_W S G p l e R s m args below meth c Q N0 M0 pc L st h := by
  obtain ⟨hx, hb, hml, hown, hts, hI, hini⟩ := C
  subst hn
  dsimp only [s_x] at hs
  split at hs
  · cases hs
    intro hlen H locs ls hW hS hL
    have k := k hlen H locs ls hW hS hL
    refine lv_if_le (tgt := v.toNat) hx hb hdg (by omega) (fun hc => ?_) (fun hc => ?_)
    · simp only [s_cnd, decide_eq_true_eq] at k
      rw [if_pos hc] at k
      exact k
    · simp only [s_cnd, decide_eq_true_eq] at k
      rw [if_neg (by first | exact hc | exact not_not_intro hc)] at k
      exact k
  · cases hs
theorem s_d_icmp_eq {v : Int} (C : s_Cx S G TW p s m args meth c r) (hv : 0 ≤ v) (hdg : decode (s_b r) pc = .ok (.if_icmp .eq (v - (pc : Int)), n)) (hn : n = 3) (hs : s_x (.if_icmp .eq v) pc n L st h = some q) (k : s_W S G p l e R s m args below meth c Q N0 M0 q.1 q.2.1 q.2.2.1 q.2.2.2) : s_W S G p l e R s m args below meth c Q N0 M0 pc L st h := by
  obtain ⟨hx, hb, hml, hown, hts, hI, hini⟩ := C
  subst hn
  dsimp only [s_x] at hs
  split at hs
  · cases hs
    intro hlen H locs ls hW hS hL
    have k := k hlen H locs ls hW hS hL
    refine lv_icmp_eq (tgt := v.toNat) hx hb hdg (by omega) (fun hc => ?_) (fun hc => ?_)
    · simp only [s_cnd, decide_eq_true_eq] at k
      rw [if_pos hc] at k
      exact k
    · simp only [s_cnd, decide_eq_true_eq] at k
      rw [if_neg (by first | exact hc | exact not_not_intro hc)] at k
      exact k
  · cases hs
theorem s_d_icmp_ne {v : Int} (C : s_Cx S G TW p s m args meth c r) (hv : 0 ≤ v) (hdg : decode (s_b r) pc = .ok (.if_icmp .ne (v - (pc : Int)), n)) (hn : n = 3) (hs : s_x (.if_icmp .ne v) pc n L st h = some q) (k : s_W S G p l e R s m args below meth c Q N0 M0 q.1 q.2.1 q.2.2.1 q.2.2.2) : s_W S G p l e R s m args below meth c Q N0 M0 pc L st h := by
  obtain ⟨hx, hb, hml, hown, hts, hI, hini⟩ := C
  subst hn
  dsimp only [s_x] at hs
  split at hs
  · cases hs
    intro hlen H locs ls hW hS hL
    have k := k hlen H locs ls hW hS hL
    refine lv_icmp_ne (tgt := v.toNat) hx hb hdg (by omega) (fun hc => ?_) (fun hc => ?_)
    · simp only [s_cnd, decide_eq_true_eq] at k
      rw [if_pos hc] at k
      exact k
    · simp only [s_cnd, decide_eq_true_eq] at k
      rw [if_neg (by first | exact hc | exact not_not_intro hc)] at k
      exact k
  · cases hs
theorem s_d_icmp_lt {v : Int} (C : s_Cx S G TW p s m args meth c r) (hv : 0 ≤ v) (hdg : decode (s_b r) pc = .ok (.if_icmp .lt (v - (pc : Int)), n)) (hn : n = 3) (hs : s_x (.if_icmp .lt v) pc n L st h = some q) (k : s_W S G p l e R s m args below meth c Q N0 M0 q.1 q.2.1 q.2.2.1 q.2.2.2) : s_W S G p l e R s m args below meth c Q N0 M0 pc L st h := by
  obtain ⟨hx, hb, hml, hown, hts, hI, hini⟩ := C
  subst hn
  dsimp only [s_x] at hs
  split at hs
  · cases hs
    intro hlen H locs ls hW hS hL
    have k := k hlen H locs ls hW hS hL
    refine lv_icmp_lt (tgt := v.toNat) hx hb hdg (by omega) (fun hc => ?_) (fun hc => ?_)
    · simp only [s_cnd, decide_eq_true_eq] at k
      rw [if_pos hc] at k
      exact k
    · simp only [s_cnd, decide_eq_true_eq] at k
      rw [if_neg (by first | exact hc | exact not_not_intro hc)] at k
      exact k
  · cases hs
theorem s_d_icmp_ge {v : Int} (C : s_Cx S G TW p s m args meth c r) (hv : 0 ≤ v) (hdg : decode (s_b r) pc = .ok (.if_icmp .ge (v - (pc : Int)), n)) (hn : n = 3) (hs : s_x (.if_icmp .ge v) pc n L st h = some q) (k : s_W S G p l e R s m args below meth c Q N0 M0 q.1 q.2.1 q.2.2.1 q.2.2.2) : s_W S G p l e R s m args below meth c Q N0 M0 pc L st h := by
  obtain ⟨hx, hb, hml, hown, hts, hI, hini⟩ := C
  subst hn
  dsimp only [s_x] at hs
  split at hs
  · cases hs
    intro hlen H locs ls hW hS hL
    have k := k hlen H locs ls hW hS hL
    refine lv_icmp_ge (tgt := v.toNat) hx hb hdg (by omega) (fun hc => ?_) (fun hc => ?_)
    · simp only [s_cnd, decide_eq_true_eq] at k
      rw [if_pos hc] at k
      exact k
    · simp only [s_cnd, decide_eq_true_eq] at k
      rw [if_neg (by first | exact hc | exact not_not_intro hc)] at k
      exact k
  · cases hs
theorem s_d_icmp_gt {v : Int} (C : s_Cx S G TW p s m args meth c r) (hv : 0 ≤ v) (hdg : decode (s_b r) pc = .ok (.if_icmp .gt (v - (pc : Int)), n)) (hn : n = 3) (hs : s_x (.if_icmp .gt v) pc n L st h = some q) (k : s_W S G p l e R s m args below meth c Q N0 M0 q.1 q.2.1 q.2.2.1 q.2.2.2) : s_W S G p l e R s m args below meth c Q N0 M0 pc L st h := by
  obtain ⟨hx, hb, hml, hown, hts, hI, hini⟩ := C
  subst hn
  dsimp only [s_x] at hs
  split at hs
  · cases hs
    intro hlen H locs ls hW hS hL
    have k := k hlen H locs ls hW hS hL
    refine lv_icmp_gt (tgt := v.toNat) hx hb hdg (by omega) (fun hc => ?_) (fun hc => ?_)
    · simp only [s_cnd, decide_eq_true_eq] at k
      rw [if_pos hc] at k
      exact k
    · simp only [s_cnd, decide_eq_true_eq] at k
      rw [if_neg (by first | exact hc | exact not_not_intro hc)] at k
      exact k
  · cases hs
theorem s_d_icmp_le {v : Int} (C : s_Cx S G TW p s m args meth c r) (hv : 0 ≤ v) (hdg : decode (s_b r) pc = .ok (.if_icmp .le (v - (pc : Int)), n)) (hn : n = 3) (hs : s_x (.if_icmp .le v) pc n L st h = some q) (k : s_W S G p l e R s m args below meth c Q N0 M0 q.1 q.2.1 q.2.2.1 q.2.2.2) : s_W S G p l e R s m args below meth c Q N0 M0 pc L st h := by
  obtain ⟨hx, hb, hml, hown, hts, hI, hini⟩ := C
  subst hn
  dsimp only [s_x] at hs
  split at hs
  · cases hs
    intro hlen H locs ls hW hS hL
    have k := k hlen H locs ls hW hS hL
    refine lv_icmp_le (tgt := v.toNat) hx hb hdg (by omega) (fun hc => ?_) (fun hc => ?_)
    · simp only [s_cnd, decide_eq_true_eq] at k
      rw [if_pos hc] at k
      exact k
    · simp only [s_cnd, decide_eq_true_eq] at k
      rw [if_neg (by first | exact hc | exact not_not_intro hc)] at k
      exact k
  · cases hs
theorem s_d_goto {v : Int} (C : s_Cx S G TW p s m args meth c r) (hv : 0 ≤ v) (hdg : decode (s_b r) pc = .ok (.goto (v - (pc : Int)), n)) (hn : n = 3) (hs : s_x (.goto v) pc n L st h = some q) (k : s_W S G p l e R s m args below meth c Q N0 M0 q.1 q.2.1 q.2.2.1 q.2.2.2) : s_W S G p l e R s m args below meth c Q N0 M0 pc L st h := by
  obtain ⟨hx, hb, hml, hown, hts, hI, hini⟩ := C
  subst hn
  cases hs
  intro hlen H locs ls hW hS hL
  exact lv_goto hx hb hdg (by omega) (k hlen H locs ls hW hS hL)
theorem s_d_ifnull {v : Int} (C : s_Cx S G TW p s m args meth c r) (hv : 0 ≤ v) (hdg : decode (s_b r) pc = .ok (.ifnull (v - (pc : Int)), n)) (hn : n = 3) (hs : s_x (.ifnull v) pc n L st h = some q) (k : s_W S G p l e R s m args below meth c Q N0 M0 q.1 q.2.1 q.2.2.1 q.2.2.2) : s_W S G p l e R s m args below meth c Q N0 M0 pc L st h := by
  obtain ⟨hx, hb, hml, hown, hts, hI, hini⟩ := C
  subst hn
  dsimp only [s_x] at hs
  split at hs
  · cases hs
    intro hlen H locs ls hW hS hL
    exact lv_ifnullN hx hb hdg (by omega) (k hlen H locs ls hW hS hL)
  · cases hs
    intro hlen H locs ls hW hS hL
    exact lv_ifnull hx hb hdg (k hlen H locs ls hW hS hL)
  · cases hs
theorem s_d_ifnonnull {v : Int} (C : s_Cx S G TW p s m args meth c r) (hv : 0 ≤ v) (hdg : decode (s_b r) pc = .ok (.ifnonnull (v - (pc : Int)), n)) (hn : n = 3) (hs : s_x (.ifnonnull v) pc n L st h = some q) (k : s_W S G p l e R s m args below meth c Q N0 M0 q.1 q.2.1 q.2.2.1 q.2.2.2) : s_W S G p l e R s m args below meth c Q N0 M0 pc L st h := by
  obtain ⟨hx, hb, hml, hown, hts, hI, hini⟩ := C
  subst hn
  dsimp only [s_x] at hs
  split at hs
  · cases hs
    intro hlen H locs ls hW hS hL
    exact lv_ifnonnullN hx hb hdg (k hlen H locs ls hW hS hL)
  · cases hs
    intro hlen H locs ls hW hS hL
    exact lv_ifnonnull hx hb hdg (by omega) (k hlen H locs ls hW hS hL)
  · cases hs
theorem s_d_table {d lo hi : Int} {o : Array Int} (C : s_Cx S G TW p s m args meth c r) (hd : 0 ≤ d) (ho : ∀ t ∈ o.toList, 0 ≤ t) (hdg : decode (s_b r) pc = .ok (.tableswitch (d - (pc : Int)) lo hi (o.map (fun t => t - (pc : Int))), n)) (hs : s_x (.tableswitch d lo hi o) pc n L st h = some q) (k : s_W S G p l e R s m args below meth c Q N0 M0 q.1 q.2.1 q.2.2.1 q.2.2.2) : s_W S G p l e R s m args below meth c Q N0 M0 pc L st h := by
  obtain ⟨hx, hb, hml, hown, hts, hI, hini⟩ := C
  dsimp only [s_x] at hs
  split at hs
  · split at hs
    next hc =>
      cases hs
      intro hlen H locs ls hW hS hL
      exact lv_tableOut hx hb hdg hc (by omega) (k hlen H locs ls hW hS hL)
    next x r0 hc =>
      split at hs
      next t heq =>
        cases hs
        intro hlen H locs ls hW hS hL
        have h1 : ¬ x.toInt < lo := fun z => hc (Or.inl z)
        have h2 : ¬ hi < x.toInt := fun z => hc (Or.inr z)
        rw [s_nth_eq] at heq
        have h3 := ho t (List.mem_of_getElem? heq)
        rw [Array.getElem?_toList] at heq
        exact lv_tableIn (off := t - (pc : Int)) hx hb hdg h1 h2 (by rw [Array.getElem?_map, heq]; rfl) (by omega) (k hlen H locs ls hW hS hL)
      · cases hs
  · cases hs
theorem s_off (d z : Int) (pc : Nat) (hd : 0 ≤ d) : ∀ l : List (Int × Int), (∀ q ∈ l, 0 ≤ q.2) → Op.lookupswitch.offset (l.map fun q => (q.1, q.2 - (pc : Int))) (d - (pc : Int)) z = Op.lookupswitch.offset l d z - (pc : Int) ∧ 0 ≤ Op.lookupswitch.offset l d z
  | [], _ => ⟨rfl, hd⟩
  | (a, b) :: l, hl => by
    have ih := s_off d z pc hd l (fun q hq => hl q (List.mem_cons_of_mem _ hq))
    rw [List.map_cons, Op.lookupswitch.offset_cons, Op.lookupswitch.offset_cons]
    split
    · exact ⟨rfl, hl _ List.mem_cons_self⟩
    · exact ih
theorem s_d_look {d : Int} {o : Array (Int × Int)} (C : s_Cx S G TW p s m args meth c r) (hd : 0 ≤ d) (ho : ∀ t ∈ o.toList, 0 ≤ t.2) (hso : ((o.map fun q => (q.1, q.2 - (pc : Int))).toList.zip ((o.map fun q => (q.1, q.2 - (pc : Int))).toList.drop 1)).all (fun (a, next) => a.1 < next.1) = true) (hdg : decode (s_b r) pc = .ok (.lookupswitch (d - (pc : Int)) (o.map fun q => (q.1, q.2 - (pc : Int))), n)) (hs : s_x (.lookupswitch d o) pc n L st h = some q) (k : s_W S G p l e R s m args below meth c Q N0 M0 q.1 q.2.1 q.2.2.1 q.2.2.2) : s_W S G p l e R s m args below meth c Q N0 M0 pc L st h := by
  obtain ⟨hx, hb, hml, hown, hts, hI, hini⟩ := C
  dsimp only [s_x] at hs
  split at hs
  next x r0 =>
    cases hs
    intro hlen H locs ls hW hS hL
    have h1 := s_off d x.toInt pc hd o.toList ho
    exact lv_lookup (off := Op.lookupswitch.offset o.toList d x.toInt - (pc : Int)) hx hb hdg hso (by rw [← h1.1, Array.toList_map]) (by omega) (k hlen H locs ls hW hS hL)
  · cases hs
end STP
end
section
section HPS
variable {p : Program} {l : Launch} {e : Env} {R : Room} {s : State} {m : MethodId} {args : Array Value} {below : List Frame} {meth : Method} {c : Code} {Q : State → Prop}
variable {S : s_SG} {G : s_DG} {TW : List Jvm.Cond} {r : sM} {N0 M0 pc n idx : Nat} {L st : List Value} {h : sHp} {q : sC}
theorem s_cell_o {i k : Nat} (hi : h.2.2[i]? = some (0, k)) : s_cell S G h i = .inr (k, (List.range (s_N S k)).map (s_fv S G h i k)) := by unfold s_cell; rw [hi]
theorem s_cell_i {i k : Nat} (hi : h.2.2[i]? = some (1, k)) : s_cell S G h i = .inl (s_cA G 1, k, .inl (h.1 i)) := by unfold s_cell; rw [hi]
theorem s_cell_r {i t k : Nat} (hi : h.2.2[i]? = some (t + 2, k)) : s_cell S G h i = .inl (s_cA G (t + 2), k, .inr (.inr (.inr (.inr (fun j => (h.2.1 i j).map (s_ad G)))))) := by unfold s_cell; rw [hi]
theorem s_cl_of {k j : Nat} (hk : j < s_N S k) : ∃ q : vw_C, (s_cl S)[k]? = some q ∧ s_N S k = q.2.2 ∧ s_F S k = q.2.1 ∧ s_cn S k = q.1 := by
  unfold s_N at hk
  cases hq : (s_cl S)[k]? with
  | none => rw [hq] at hk; exact absurd hk (Nat.not_lt_zero _)
  | some q => exact ⟨q, rfl, by unfold s_N; rw [hq], by unfold s_F; rw [hq], by unfold s_cn; rw [hq]⟩
theorem s_fs_at {i k j : Nat} (hj : j < s_N S k) : ((List.range (s_N S k)).map (s_fv S G h i k))[j]? = some (s_fv S G h i k j) := by
  rw [List.getElem?_map, List.getElem?_range hj]; rfl
theorem s_fs_set {h2 : sHp} {i k j : Nat} {v : Value} (hv : s_fv S G h2 i k j = v) (ho : ∀ x, x ≠ j → s_fv S G h2 i k x = s_fv S G h i k x) : ((List.range (s_N S k)).map (s_fv S G h i k)).set j v = (List.range (s_N S k)).map (s_fv S G h2 i k) := by
  apply List.ext_getElem?
  intro x
  by_cases hx : x = j
  · subst hx
    by_cases hl : x < s_N S k
    · rw [List.getElem?_set_self (by simpa using hl), s_fs_at hl, hv]
    · rw [List.getElem?_eq_none (by simpa using hl), List.getElem?_eq_none (by simpa using hl)]
  · rw [List.getElem?_set_ne (Ne.symm hx), List.getElem?_map, List.getElem?_map]
    by_cases hl : x < s_N S k
    · rw [List.getElem?_range hl]
      show some _ = some _
      rw [ho x hx]
    · rw [List.getElem?_eq_none (by simpa using hl)]; rfl
theorem s_d_get {ev : Nat} (C : s_Cx S G TW p s m args meth c r) (SK : s_SOK S TW) (hk : ev % 1024 / 8 < s_N S (ev / 1024)) (hkd : ev % 8 = s_kd (s_ty S (ev / 1024) (ev % 1024 / 8))) (hw : (Jvm.Cond.fieldLink (s_y r).cls idx (s_F S (ev / 1024) (ev % 1024 / 8)).1 (s_F S (ev / 1024) (ev % 1024 / 8)).2.1 (s_F S (ev / 1024) (ev % 1024 / 8)).2.2.1).before args s = true) (hdg : decode (s_b r) pc = .ok (.getfield idx, n)) (hn : n = 3) (hs : s_x (.getfield ev) pc n L st h = some q) (k : s_W S G p l e R s m args below meth c Q N0 M0 q.1 q.2.1 q.2.2.1 q.2.2.2) : s_W S G p l e R s m args below meth c Q N0 M0 pc L st h := by
  obtain ⟨hx, hb, hml, hown, hts, hI, hini⟩ := C
  subst hn
  dsimp only [s_x] at hs
  split at hs
  next a r0 =>
    split at hs
    next c0 heq =>
      split at hs
      next hc0 =>
        subst hc0
        intro hlen H locs ls hW hS hL
        obtain ⟨h1, h2, h3⟩ := s_Wd_len hW heq
        have h4 := h3 (by decide)
        obtain ⟨qc, e1, e2, e3, e4⟩ := s_cl_of hk
        have hk2 : ev % 1024 / 8 < qc.2.2 := by rw [← e2]; exact hk
        rw [e3] at hw
        have hv : s_W S G p l e R s m args below meth c Q N0 M0 (pc + 3) L ((if s_kd (s_ty S (ev / 1024) (ev % 1024 / 8)) = 2 then (match h.2.1 a (ev % 1024 / 8) with | some b => .ref b | none => .null) else .int (h.1 a (ev % 1024 / 8))) :: r0) h := by
          rw [hkd] at hs
          split at hs
          next hkk =>
            rw [if_pos hkk]
            split at hs
            next b hb2 => rw [hb2]; cases hs; exact k
            next hb2 => rw [hb2]; cases hs; exact k
          next hkk =>
            rw [if_neg hkk]
            cases hs
            exact k
        refine va_get (D := s_D G) (ci := ev / 1024) (C := qc.1) (T := qc.2.1) (N := qc.2.2) hx hb hts (SK _ _ e1).1 hown hI.1 hW.2.1 (a - 4) (fs := (List.range (s_N S (ev / 1024))).map (s_fv S G h a (ev / 1024))) (by rw [← s_cell_o h1]; exact s_ws_at S G h h4 h2) e1 (ev % 1024 / 8) hk2 hw (fun _ h9 => h9) (s_fs_at hk) hdg ?_
        have e5 : s_fv S G h a (ev / 1024) (ev % 1024 / 8) = s_vc G (if s_kd (s_ty S (ev / 1024) (ev % 1024 / 8)) = 2 then (match h.2.1 a (ev % 1024 / 8) with | some b => .ref b | none => .null) else .int (h.1 a (ev % 1024 / 8))) := by
          unfold s_fv
          split
          · cases h.2.1 a (ev % 1024 / 8) <;> rfl
          · rfl
        rw [e5]
        exact hv hlen H locs ls hW hS hL
      · cases hs
    · cases hs
  · cases hs
theorem s_put_w {ev a : Nat} {v w : Value} {r0 : List Value} {h2 : sHp} (C : s_Cx S G TW p s m args meth c r) (SK : s_SOK S TW) (hk : ev % 1024 / 8 < s_N S (ev / 1024)) (hfin : (s_F S (ev / 1024) (ev % 1024 / 8)).2.2.2 = true → (s_y r).name = "<init>" ∧ (s_F S (ev / 1024) (ev % 1024 / 8)).1 = (s_y r).cls) (hw : (Jvm.Cond.fieldLink (s_y r).cls idx (s_F S (ev / 1024) (ev % 1024 / 8)).1 (s_F S (ev / 1024) (ev % 1024 / 8)).2.1 (s_F S (ev / 1024) (ev % 1024 / 8)).2.2.1).before args s = true) (hdg : decode (s_b r) pc = .ok (.putfield idx, 3))
    (h1 : h.2.2[a]? = some (0, ev / 1024)) (hl : a < h.2.2.length) (h4 : 4 ≤ a) (hvw : v = s_vc G w) (hn : narrow (s_ty S (ev / 1024) (ev % 1024 / 8)) v = v) (hfit : fits (s_ty S (ev / 1024) (ev % 1024 / 8)) v = true) (hs2 : h2.2.2 = h.2.2) (ho : ∀ i : Nat, i ≠ a → h2.1 i = h.1 i ∧ h2.2.1 i = h.2.1 i) (hv2 : s_fv S G h2 a (ev / 1024) (ev % 1024 / 8) = v) (ho2 : ∀ x, x ≠ ev % 1024 / 8 → s_fv S G h2 a (ev / 1024) x = s_fv S G h a (ev / 1024) x)
    (k : s_W S G p l e R s m args below meth c Q N0 M0 (pc + 3) L r0 h2) : s_W S G p l e R s m args below meth c Q N0 M0 pc L (w :: .ref a :: r0) h := by
  obtain ⟨hx, hb, hml, hown, hts, hI, hini⟩ := C
  intro hlen H locs ls hW hS hL
  obtain ⟨qc, e1, e2, e3, e4⟩ := s_cl_of hk
  have hk2 : ev % 1024 / 8 < qc.2.2 := by rw [← e2]; exact hk
  rw [e3] at hw hfin
  have hd := (SK _ _ e1).2.1 _ hk2
  have hws := s_ws_at S G h h4 hl
  rw [s_cell_o h1] at hws
  have hkk : ∀ (H1 : Heap) (locs1 : List Loc), va_P (s_D G) (s_cl S) ((s_ws S G h).set (a - 4) (s_ad G a, .inr (ev / 1024, ((List.range (s_N S (ev / 1024))).map (s_fv S G h a (ev / 1024))).set (ev % 1024 / 8) v))) H1 → va_D (s_A G) ((s_ws S G h).set (a - 4) (s_ad G a, .inr (ev / 1024, ((List.range (s_N S (ev / 1024))).map (s_fv S G h a (ev / 1024))).set (ev % 1024 / 8) v))) → va_S (s_A G) s.heap H1 locs1 → W p l e R s m args below meth c H1 locs1 (h.2.2.length - N0) (s_sz S h.2.2 - M0) Q (F0 m (pc + 3) ls (r0.map (s_vc G))) := by
    intro H1 locs1 hP1 _ hS1
    have hW1 := s_Wd_put hW h4 hl hs2 ho (e := .inr (ev / 1024, ((List.range (s_N S (ev / 1024))).map (s_fv S G h a (ev / 1024))).set (ev % 1024 / 8) v)) (by rw [s_fs_set hv2 ho2, s_cell_o (by rw [hs2]; exact h1)]) hP1
    have := k hlen H1 locs1 ls hW1 hS1 hL
    rw [hs2] at this
    exact this
  show W p l e R s m args below meth c H locs (h.2.2.length - N0) (s_sz S h.2.2 - M0) Q (F0 m pc ls (s_vc G w :: .ref (s_ad G a) :: r0.map (s_vc G)))
  rw [← hvw]
  have hlen2 : ev % 1024 / 8 < ((List.range (s_N S (ev / 1024))).map (s_fv S G h a (ev / 1024))).length := by simpa using hk
  cases hf : (qc.2.1 (ev % 1024 / 8)).2.2.2 with
  | false => exact va_put (D := s_D G) (ci := ev / 1024) (C := qc.1) (T := qc.2.1) (N := qc.2.2) hx hb hts (SK _ _ e1).1 (s_ty S (ev / 1024)) (SK _ _ e1).2.1 (SK _ _ e1).2.2 hown hI.1 hW.2.1 (s_ws_D hI h) hS (a - 4) hws e1 (ev % 1024 / 8) hk2 hw (fun _ h9 => h9) hf hd hn hfit hlen2 hdg hkk
  | true => exact va_putF (D := s_D G) (ci := ev / 1024) (C := qc.1) (T := qc.2.1) (N := qc.2.2) hx hb hts (SK _ _ e1).1 (s_ty S (ev / 1024)) (SK _ _ e1).2.1 (SK _ _ e1).2.2 hown hI.1 hW.2.1 (s_ws_D hI h) hS (a - 4) hws e1 (ev % 1024 / 8) hk2 hw (fun _ h9 => h9) hf (hini (hfin hf).1) (hfin hf).2 hd hn hfit hlen2 hdg hkk
theorem s_fv_upd {a i k j x : Nat} {v : Int32} (hj : x ≠ j) : s_fv S G (s_upd h.1 a j v, h.2) i k x = s_fv S G h i k x := by
  unfold s_fv
  split
  · rfl
  · show Value.int (s_upd h.1 a j v i x) = _
    unfold s_upd
    split
    · rw [show upd (h.1 i) j v x = h.1 i x from if_neg hj]
    · rfl
theorem s_fv_updR {a i k j x : Nat} {v : Option Nat} (hj : x ≠ j) : s_fv S G (h.1, s_updR h.2.1 a j v, h.2.2) i k x = s_fv S G h i k x := by
  unfold s_fv
  split
  · show va_rf ((s_updR h.2.1 a j v i x).map _) = _
    unfold s_updR
    split
    · rw [show va_up (h.2.1 i) j v x = h.2.1 i x from if_neg hj]
    · rfl
  · rfl
theorem s_d_put {ev : Nat} (C : s_Cx S G TW p s m args meth c r) (SK : s_SOK S TW) (hk : ev % 1024 / 8 < s_N S (ev / 1024)) (hkd : ev % 8 = s_kd (s_ty S (ev / 1024) (ev % 1024 / 8))) (hty : ev % 8 = 2 → ∃ nm, s_ty S (ev / 1024) (ev % 1024 / 8) = .object nm ∨ ∃ t, s_ty S (ev / 1024) (ev % 1024 / 8) = .array t) (hfin : (s_F S (ev / 1024) (ev % 1024 / 8)).2.2.2 = true → (s_y r).name = "<init>" ∧ (s_F S (ev / 1024) (ev % 1024 / 8)).1 = (s_y r).cls) (hw : (Jvm.Cond.fieldLink (s_y r).cls idx (s_F S (ev / 1024) (ev % 1024 / 8)).1 (s_F S (ev / 1024) (ev % 1024 / 8)).2.1 (s_F S (ev / 1024) (ev % 1024 / 8)).2.2.1).before args s = true) (hdg : decode (s_b r) pc = .ok (.putfield idx, n)) (hn : n = 3) (hs : s_x (.putfield ev) pc n L st h = some q) (k : s_W S G p l e R s m args below meth c Q N0 M0 q.1 q.2.1 q.2.2.1 q.2.2.2) : s_W S G p l e R s m args below meth c Q N0 M0 pc L st h := by
  subst hn
  dsimp only [s_x] at hs
  split at hs
  next x a r0 =>
    split at hs
    next c0 heq =>
      split at hs
      next hc0 =>
        subst hc0
        intro hlen H locs ls hW hS hL
        obtain ⟨h1, h2, h3⟩ := s_Wd_len hW heq
        have h4 := h3 (by decide)
        refine s_put_w (v := .int x) (h2 := (s_upd h.1 a (ev % 1024 / 8) x, h.2)) C SK hk hfin hw hdg h1 h2 h4 rfl ?_ ?_ rfl (fun i hi => ⟨if_neg hi, rfl⟩) ?_ (fun x hx => s_fv_upd hx) ?_ hlen H locs ls hW hS hL
        · split at hs
          next h0 => rw [hkd] at h0; cases ht : s_ty S (ev / 1024) (ev % 1024 / 8) <;> rw [ht] at h0 <;> simp [s_kd] at h0 <;> rfl
          next h0 =>
            split at hs
            next h01 =>
              split at hs
              next hx =>
                rw [hkd] at h01
                cases ht : s_ty S (ev / 1024) (ev % 1024 / 8) <;> rw [ht] at h01 <;> simp [s_kd] at h01
                rcases hx with rfl | rfl <;> rfl
              · cases hs
            · cases hs
        · split at hs
          next h0 => rw [hkd] at h0; cases ht : s_ty S (ev / 1024) (ev % 1024 / 8) <;> rw [ht] at h0 <;> simp [s_kd] at h0 <;> rfl
          next h0 =>
            split at hs
            next h01 =>
              split at hs
              next hx =>
                rw [hkd] at h01
                cases ht : s_ty S (ev / 1024) (ev % 1024 / 8) <;> rw [ht] at h01 <;> simp [s_kd] at h01
                rcases hx with rfl | rfl <;> rfl
              · cases hs
            · cases hs
        · have : ¬ s_kd (s_ty S (ev / 1024) (ev % 1024 / 8)) = 2 := by
            rw [← hkd]
            intro z
            rw [if_neg (by omega), if_neg (by omega)] at hs
            cases hs
          unfold s_fv
          rw [if_neg this]
          show Value.int (s_upd h.1 a (ev % 1024 / 8) x a (ev % 1024 / 8)) = _
          simp [s_upd, upd]
        · split at hs
          · cases hs; exact k
          · split at hs
            · split at hs
              · cases hs; exact k
              · cases hs
            · cases hs
      · cases hs
    · cases hs
  next b a r0 =>
    split at hs
    next c0 heq =>
      split at hs
      next hc0 =>
        subst hc0
        split at hs
        next hk2 =>
          cases hs
          intro hlen H locs ls hW hS hL
          obtain ⟨h1, h2, h3⟩ := s_Wd_len hW heq
          have h4 := h3 (by decide)
          obtain ⟨nm, ht⟩ := hty hk2
          refine s_put_w (v := .ref (s_ad G b)) (h2 := (h.1, s_updR h.2.1 a (ev % 1024 / 8) (some b), h.2.2)) C SK hk hfin hw hdg h1 h2 h4 rfl ?_ ?_ rfl (fun i hi => ⟨rfl, if_neg hi⟩) ?_ (fun x hx => s_fv_updR hx) k hlen H locs ls hW hS hL
          · rcases ht with ht | ⟨t, ht⟩ <;> rw [ht] <;> rfl
          · rcases ht with ht | ⟨t, ht⟩ <;> rw [ht] <;> rfl
          · unfold s_fv
            rw [if_pos (by rw [← hkd]; exact hk2)]
            show va_rf ((s_updR h.2.1 a (ev % 1024 / 8) (some b) a (ev % 1024 / 8)).map _) = _
            simp [s_updR, va_up, va_rf]
        · cases hs
      · cases hs
    · cases hs
  · cases hs
theorem s_d_gets {j : Nat} (C : s_Cx S G TW p s m args meth c r) (hj : j < s_ns S) (hw : (Jvm.Cond.fieldLink (s_y r).cls idx (s_sn S j).1 (s_sn S j).2.1 (s_sn S j).2.2).before args s = true) (hdg : decode (s_b r) pc = .ok (.getstatic idx, n)) (hn : n = 3) (hs : s_x (.getstatic j) pc n L st h = some q) (k : s_W S G p l e R s m args below meth c Q N0 M0 q.1 q.2.1 q.2.2.1 q.2.2.2) : s_W S G p l e R s m args below meth c Q N0 M0 pc L st h := by
  obtain ⟨hx, hb, hml, hown, hts, hI, hini⟩ := C
  subst hn
  cases hs
  intro hlen H locs ls hW hS hL
  exact va_gets hx hb (hI.2.2.1 j hj).2 hS hown hw (fun _ h9 => h9) hdg (k hlen H locs ls hW hS hL)
theorem s_d_getsN {j : Nat} {host : String} (C : s_Cx S G TW p s m args meth c r) (hj : j < s_ns S) (hw : va_Nw (.fieldLinkNest (s_y r).cls idx (s_sn S j).1 (s_sn S j).2.1 (s_sn S j).2.2 host) s) (hdg : decode (s_b r) pc = .ok (.getstatic idx, n)) (hn : n = 3) (hs : s_x (.instanceof j) pc n L st h = some q) (k : s_W S G p l e R s m args below meth c Q N0 M0 q.1 q.2.1 q.2.2.1 q.2.2.2) : s_W S G p l e R s m args below meth c Q N0 M0 pc L st h := by
  obtain ⟨hx, hb, hml, hown, hts, hI, hini⟩ := C
  subst hn
  cases hs
  intro hlen H locs ls hW hS hL
  exact va_getsN hx hb (hI.2.2.1 j hj).2 hS hown (va_Nw.use rfl hw) (fun _ h9 => h9) hdg (k hlen H locs ls hW hS hL)
theorem s_d_alen (C : s_Cx S G TW p s m args meth c r) (hdg : decode (s_b r) pc = .ok (.arraylength, n)) (hn : n = 1) (hs : s_x .arraylength pc n L st h = some q) (k : s_W S G p l e R s m args below meth c Q N0 M0 q.1 q.2.1 q.2.2.1 q.2.2.2) : s_W S G p l e R s m args below meth c Q N0 M0 pc L st h := by
  obtain ⟨hx, hb, hml, hown, hts, hI, hini⟩ := C
  subst hn
  dsimp only [s_x] at hs
  split at hs
  next a r0 =>
    split at hs
    next t z heq =>
      cases hs
      intro hlen H locs ls hW hS hL
      obtain ⟨h1, h2, h3⟩ := s_Wd_len hW heq
      have kk := k hlen H locs ls hW hS hL
      rcases Nat.lt_or_ge a 4 with h4 | h4
      · obtain ⟨h5, h6⟩ := hW.2.2.1 a h4
        have e1 := h5.symm.trans h1
        cases e1
        obtain ⟨hX, hlt⟩ := hI.2.1 a h4
        obtain ⟨scr, h7, -⟩ := id hX
        exact va_slen hx hb hX (Array.getElem?_eq_some_iff.mp h7).1 (fun y => absurd hlt (Nat.not_lt.mpr y)) hS hdg kk
      · have h5 := s_ws_at S G h h4 h2
        match t, h1 with
        | 0, h1 =>
          rw [s_cell_i h1] at h5
          exact va_alen hx hb hI.1 hW.2.1 (a - 4) 0 h5 (s_tys_0 S G) rfl hdg kk
        | t + 1, h1 =>
          rw [s_cell_r h1] at h5
          obtain ⟨j, hj⟩ := s_tys_r G (hW.2.2.2 a t z h1)
          exact va_alen hx hb hI.1 hW.2.1 (a - 4) j h5 hj rfl hdg kk
    · cases hs
  · cases hs
theorem s_d_iald (C : s_Cx S G TW p s m args meth c r) (hdg : decode (s_b r) pc = .ok (.iaload, n)) (hn : n = 1) (hs : s_x .iaload pc n L st h = some q) (k : s_W S G p l e R s m args below meth c Q N0 M0 q.1 q.2.1 q.2.2.1 q.2.2.2) : s_W S G p l e R s m args below meth c Q N0 M0 pc L st h := by
  obtain ⟨hx, hb, hml, hown, hts, hI, hini⟩ := C
  subst hn
  dsimp only [s_x] at hs
  split at hs
  next i a r0 =>
    split at hs
    next z heq =>
      split at hs
      · cases hs
      next ho =>
        cases hs
        intro hlen H locs ls hW hS hL
        obtain ⟨h1, h2, h3⟩ := s_Wd_len hW heq
        have kk := k hlen H locs ls hW hS hL
        rcases Nat.lt_or_ge a 4 with h4 | h4
        · obtain ⟨h5, h6⟩ := hW.2.2.1 a h4
          have e1 := h5.symm.trans h1
          cases e1
          obtain ⟨hX, hlt⟩ := hI.2.1 a h4
          obtain ⟨scr, h7, -⟩ := id hX
          dsimp only at kk
          rw [h6] at kk
          exact va_sld hx hb hX (Array.getElem?_eq_some_iff.mp h7).1 (fun y => absurd hlt (Nat.not_lt.mpr y)) hS (s_vp_in ho) hdg kk
        · have h5 := s_ws_at S G h h4 h2
          rw [s_cell_i h1] at h5
          exact va_iald hx hb hI.1 hW.2.1 (a - 4) 0 h5 (s_tys_0 S G) (s_vp_in ho) hdg kk
    · cases hs
  · cases hs
theorem s_d_iast (C : s_Cx S G TW p s m args meth c r) (hdg : decode (s_b r) pc = .ok (.iastore, n)) (hn : n = 1) (hs : s_x .iastore pc n L st h = some q) (k : s_W S G p l e R s m args below meth c Q N0 M0 q.1 q.2.1 q.2.2.1 q.2.2.2) : s_W S G p l e R s m args below meth c Q N0 M0 pc L st h := by
  obtain ⟨hx, hb, hml, hown, hts, hI, hini⟩ := C
  subst hn
  dsimp only [s_x] at hs
  split at hs
  next x i a r0 =>
    split at hs
    next z heq =>
      split at hs
      · cases hs
      next ho =>
        cases hs
        intro hlen H locs ls hW hS hL
        obtain ⟨h1, h2, h3⟩ := s_Wd_len hW heq
        have h4 : 4 ≤ a := Nat.not_lt.mp fun y => ho (Or.inr y)
        have h5 := s_ws_at S G h h4 h2
        rw [s_cell_i h1] at h5
        refine va_iast hx hb hI.1 hW.2.1 (s_ws_D hI h) hS (a - 4) 0 h5 (s_tys_0 S G) (s_vp_in fun y => ho (Or.inl y)) hdg (fun H1 locs1 hP1 _ hS1 => ?_)
        exact k hlen H1 locs1 ls (s_Wd_put (h2 := (s_upd h.1 a i.toNatClampNeg x, h.2)) hW h4 h2 rfl (fun j hj => ⟨if_neg hj, rfl⟩) (by rw [s_cell_i (by exact h1)]; show _ = Sum.inl (s_cA G 1, z, Sum.inl (s_upd h.1 a i.toNatClampNeg x a)); unfold s_upd; rw [if_pos rfl]) hP1) hS1 hL
    · cases hs
  · cases hs
theorem s_d_aald (C : s_Cx S G TW p s m args meth c r) (hdg : decode (s_b r) pc = .ok (.aaload, n)) (hn : n = 1) (hs : s_x .aaload pc n L st h = some q) (k : s_W S G p l e R s m args below meth c Q N0 M0 q.1 q.2.1 q.2.2.1 q.2.2.2) : s_W S G p l e R s m args below meth c Q N0 M0 pc L st h := by
  obtain ⟨hx, hb, hml, hown, hts, hI, hini⟩ := C
  subst hn
  dsimp only [s_x] at hs
  split at hs
  next i a r0 =>
    split at hs
    next t z heq =>
      split at hs
      · cases hs
      next ho =>
        intro hlen H locs ls hW hS hL
        obtain ⟨h1, h2, h3⟩ := s_Wd_len hW heq
        have h4 : 4 ≤ a := Nat.not_lt.mp fun y => ho (Or.inr y)
        have h5 := s_ws_at S G h h4 h2
        rw [s_cell_r h1] at h5
        obtain ⟨j, hj⟩ := s_tys_r G (hW.2.2.2 a t z h1)
        refine va_aldq hx hb hI.1 hW.2.1 (a - 4) j h5 hj (s_vp_in fun y => ho (Or.inl y)) hdg ?_
        split at hs
        next b hb2 =>
          cases hs
          rw [hb2]
          exact k hlen H locs ls hW hS hL
        next hb2 =>
          cases hs
          rw [hb2]
          exact k hlen H locs ls hW hS hL
    · cases hs
  · cases hs
theorem s_d_aast (C : s_Cx S G TW p s m args meth c r) (hrk : ∀ t ∈ s_rk S, 0 < s_N S t) (hdg : decode (s_b r) pc = .ok (.aastore, n)) (hn : n = 1) (hs : s_x .aastore pc n L st h = some q) (k : s_W S G p l e R s m args below meth c Q N0 M0 q.1 q.2.1 q.2.2.1 q.2.2.2) : s_W S G p l e R s m args below meth c Q N0 M0 pc L st h := by
  obtain ⟨hx, hb, hml, hown, hts, hI, hini⟩ := C
  subst hn
  dsimp only [s_x] at hs
  split at hs
  next b i a r0 =>
    split at hs
    next t z cc heq heq2 =>
      split at hs
      · cases hs
      next ho =>
        cases hs
        intro hlen H locs ls hW hS hL
        obtain ⟨h1, h2, h3⟩ := s_Wd_len hW heq
        obtain ⟨g1, g2, g3⟩ := s_Wd_len hW heq2
        have h4 : 4 ≤ a := Nat.not_lt.mp fun y => ho (Or.inr (Or.inl y))
        have g4 : 4 ≤ b := Nat.not_lt.mp fun y => ho (Or.inr (Or.inr (Or.inl y)))
        have hct : cc = t := Classical.byContradiction fun y => ho (Or.inr (Or.inr (Or.inr y)))
        subst hct
        have h5 := s_ws_at S G h h4 h2
        rw [s_cell_r h1] at h5
        have g5 := s_ws_at S G h g4 g2
        rw [s_cell_o g1] at g5
        have hmem := hW.2.2.2 a cc z h1
        obtain ⟨j, hj⟩ := s_tys_r G hmem
        obtain ⟨qc, e1, e2, e3, e4⟩ := s_cl_of (hrk _ hmem)
        rw [e4] at hj
        refine va_astq hx hb hI.1 hW.2.1 (s_ws_D hI h) hS (a - 4) j (b - 4) cc h5 hj g5 e1 (s_vp_in fun y => ho (Or.inl y)) hdg (fun H1 locs1 hP1 _ hS1 => ?_)
        refine k hlen H1 locs1 ls (s_Wd_put (h2 := (h.1, s_updR h.2.1 a i.toNatClampNeg (some b), h.2.2)) hW h4 h2 rfl (fun j hj => ⟨rfl, if_neg hj⟩) ?_ hP1) hS1 hL
        rw [s_cell_r (by exact h1)]
        have : (fun x => Option.map (s_ad G) (s_updR h.2.1 a i.toNatClampNeg (some b) a x)) = va_up (fun x => Option.map (s_ad G) (h.2.1 a x)) i.toNatClampNeg (some (s_ad G b)) := by
          funext x
          unfold s_updR va_up
          rw [if_pos rfl]
          by_cases y : x = i.toNatClampNeg
          · rw [if_pos y, if_pos y]; rfl
          · rw [if_neg y, if_neg y]
        show _ = Sum.inl (s_cA G (cc + 2), z, Sum.inr (Sum.inr (Sum.inr (Sum.inr (fun x => Option.map (s_ad G) (s_updR h.2.1 a i.toNatClampNeg (some b) a x))))))
        rw [this]
    · cases hs
  · cases hs
end HPS
end
section
section MKS
variable {p : Program} {l : Launch} {e : Env} {R : Room} {s : State} {m : MethodId} {args : Array Value} {below : List Frame} {meth : Method} {c : Code} {Q : State → Prop}
variable {S : s_SG} {G : s_DG} {TW : List Jvm.Cond} {r : sM} {N0 M0 pc n idx : Nat} {L st : List Value} {h : sHp} {q : sC}
theorem s_cell_new {t k i : Nat} (hi : i < h.2.2.length) : s_cell S G (s_new h t k) i = s_cell S G h i := by
  have e1 : (s_new h t k).2.2[i]? = h.2.2[i]? := by
    show (h.2.2 ++ [(t, k)])[i]? = _
    rw [List.getElem?_append_left hi]
  have e2 : (s_new h t k).1 i = h.1 i := if_neg (by omega)
  have e3 : (s_new h t k).2.1 i = h.2.1 i := if_neg (by omega)
  have e4 : ∀ cc, s_fv S G (s_new h t k) i cc = s_fv S G h i cc := fun cc => by funext x; unfold s_fv; rw [e2, e3]
  unfold s_cell
  rw [e1, e2, e3]
  simp only [e4]
theorem s_ws_new {t k : Nat} (h4 : 4 ≤ h.2.2.length) : s_ws S G (s_new h t k) = s_ws S G h ++ [(s_ad G h.2.2.length, s_cell S G (s_new h t k) h.2.2.length)] := by
  have hl : (s_new h t k).2.2.length = h.2.2.length + 1 := by show (h.2.2 ++ [(t, k)]).length = _; simp
  unfold s_ws
  rw [hl, show h.2.2.length + 1 - 4 = (h.2.2.length - 4) + 1 by omega, List.range_succ, List.map_append]
  congr 1
  · apply List.map_congr_left
    intro j hj
    rw [s_cell_new (by have := List.mem_range.mp hj; omega)]
  · rw [List.map_cons, List.map_nil, show h.2.2.length - 4 + 4 = h.2.2.length by omega]
theorem s_new_at {t k : Nat} : (s_new h t k).2.2[h.2.2.length]? = some (t, k) := by
  show (h.2.2 ++ [(t, k)])[h.2.2.length]? = _
  simp
theorem s_Wd_new {H H1 : Heap} {t k : Nat} (hW : s_Wd S G h H) (hrk : ∀ x, t = x + 2 → x ∈ s_rk S) (hP : va_P (s_D G) (s_cl S) (s_ws S G h ++ [(s_ad G h.2.2.length, s_cell S G (s_new h t k) h.2.2.length)]) H1) : s_Wd S G (s_new h t k) H1 := by
  have hl : (s_new h t k).2.2.length = h.2.2.length + 1 := by show (h.2.2 ++ [(t, k)]).length = _; simp
  have h4 := hW.1
  refine ⟨by rw [hl]; omega, by rw [s_ws_new h4]; exact hP, fun i hi => ?_, fun i x y hi => ?_⟩
  · have e1 : (s_new h t k).2.2[i]? = h.2.2[i]? := by
      show (h.2.2 ++ [(t, k)])[i]? = _
      rw [List.getElem?_append_left (by omega)]
    have e2 : (s_new h t k).1 i = h.1 i := if_neg (by omega)
    rw [e1, e2]
    exact hW.2.2.1 i hi
  · rcases Nat.lt_or_ge i h.2.2.length with z | z
    · have e1 : (s_new h t k).2.2[i]? = h.2.2[i]? := by
        show (h.2.2 ++ [(t, k)])[i]? = _
        rw [List.getElem?_append_left z]
      rw [e1] at hi
      exact hW.2.2.2 i x y hi
    · have hlt := (List.getElem?_eq_some_iff.mp hi).1
      rw [hl] at hlt
      have : i = h.2.2.length := by omega
      subst this
      rw [s_new_at] at hi
      cases hi
      exact hrk x rfl
/-- a new cell comes just behind the others -/
theorem s_at_end {T : State} {H1 : Heap} {locs : List Loc} {k1 n1 a : Nat} {ev : va_E} (hI : s_In S G s) (hsz : s.heap.size = s_B G + (N0 - 4)) (hN : 4 ≤ N0) (hN2 : N0 ≤ h.2.2.length) (hk1 : k1 = h.2.2.length - N0 + 1) (hP : va_P (s_D G) (s_cl S) (s_ws S G h ++ [(a, ev)]) H1) (hD : va_D (s_A G) (s_ws S G h ++ [(a, ev)])) (hT : T.heap = H1) (X : Stand p l e R s m args below meth c T locs k1 n1) : a = s_ad G h.2.2.length := by
  have hlen := s_ws_len S G h
  have hlast : (s_ws S G h ++ [(a, ev)])[h.2.2.length - 4]? = some (a, ev) := by
    rw [← hlen]
    simp
  have h1 := (hP _ _ hlast).lt
  have h2 := X.heapSize
  rw [hT] at h2
  have h3 : s_B G ≤ a := hD.2 _ _ hlast
  rw [s_ad_ge hI (by omega)]
  rcases Nat.lt_or_ge a (s_B G + (h.2.2.length - 4)) with z | z
  · exfalso
    have hj : (s_ws S G h ++ [(a, ev)])[a - s_B G]? = some (s_ad G (a - s_B G + 4), s_cell S G h (a - s_B G + 4)) := by
      rw [List.getElem?_append_left (by omega), s_ws_get, if_pos (by omega)]
    have := hD.1 _ _ _ _ hj hlast (by show s_ad G _ = a; rw [hI.2.2.2.1]; omega)
    omega
  · dsimp only at h1 h3
    omega
theorem s_d_new {ci : Nat} (C : s_Cx S G TW p s m args meth c r) (SK : s_SOK S TW) (hdf : ∀ k, k < s_N S ci → defaultValue (s_ty S ci k) = if s_kd (s_ty S ci k) = 2 then .null else .int 0) (hci : 0 < s_N S ci) (hsz : s.heap.size = s_B G + (N0 - 4)) (hN : 4 ≤ N0) (hN2 : N0 ≤ h.2.2.length) (hM2 : M0 ≤ s_sz S h.2.2) (hroom : q.2.2.2.2.2.length - N0 ≤ R.cells ∧ s_sz S q.2.2.2.2.2 - M0 ≤ R.slots) (hw1 : (Jvm.Cond.classLink (s_y r).cls idx (s_cn S ci)).before args s = true) (hw2 : (Jvm.Cond.instantiable (s_cn S ci) (s_N S ci)).before args s = true) (hw3 : (Jvm.Cond.initialized (s_cn S ci)).before args s = true) (hdg : decode (s_b r) pc = .ok (.new idx, n)) (hn : n = 3) (hs : s_x (.new ci) pc n L st h = some q) (k : s_W S G p l e R s m args below meth c Q N0 M0 q.1 q.2.1 q.2.2.1 q.2.2.2) : s_W S G p l e R s m args below meth c Q N0 M0 pc L st h := by
  obtain ⟨hx, hb, hml, hown, hts, hI, hini⟩ := C
  subst hn
  cases hs
  intro hlen H locs ls hW hS hL
  obtain ⟨qc, e1, e2, e3, e4⟩ := s_cl_of hci
  have hl : (s_new h 0 ci).2.2.length = h.2.2.length + 1 := by show (h.2.2 ++ [(0, ci)]).length = _; simp
  have hz : s_sz S (s_new h 0 ci).2.2 = s_sz S h.2.2 + s_N S ci := by
    show s_sz S (h.2.2 ++ [(0, ci)]) = _
    rw [s_sz_app]; rfl
  dsimp only at hroom k
  rw [hl, hz] at hroom
  rw [e4] at hw1 hw2 hw3
  rw [e2] at hw2
  have h4 := hW.1
  have hcell : s_cell S G (s_new h 0 ci) h.2.2.length = .inr (ci, (List.range (s_N S ci)).map (s_fv S G (s_new h 0 ci) h.2.2.length ci)) := s_cell_o s_new_at
  refine va_new (ci := ci) (fs := (List.range (s_N S ci)).map (s_fv S G (s_new h 0 ci) h.2.2.length ci)) (C := qc.1) (T := qc.2.1) (N := qc.2.2) hx hb hts (SK _ _ e1).1 (s_ty S ci) (SK _ _ e1).2.1 hown hw1 hw2 hw3 hI.1 hW.2.1 (s_ws_D hI h) hS (fun z hz => (by show s_B G ≤ z; omega)) e1 (fun j hj => ?_) (by omega) (by rw [← e2]; omega) hdg (fun a H1 hP1 hD1 hS1 => ?_)
  · rw [← e2] at hj
    rw [hdf j hj]
    unfold vp_V
    rw [List.getD_eq_getElem?_getD, s_fs_at hj]
    show _ = s_fv S G (s_new h 0 ci) h.2.2.length ci j
    unfold s_fv
    have z1 : (s_new h 0 ci).1 h.2.2.length j = 0 := by show (if _ then _ else _ : Nat → Int32) j = 0; rw [if_pos rfl]
    have z2 : (s_new h 0 ci).2.1 h.2.2.length j = none := by show (if _ then _ else _ : Nat → Option Nat) j = none; rw [if_pos rfl]
    rw [z1, z2]
    rfl
  · intro T hT X
    have ha := s_at_end hI hsz hN hN2 rfl hP1 hD1 hT X
    subst ha
    rw [← hcell] at hP1
    have hW1 := s_Wd_new hW (fun x hx => (by cases hx)) hP1
    have kk := k hlen H1 locs ls hW1 hS1 hL
    rw [hl, hz, e2, show h.2.2.length + 1 - N0 = h.2.2.length - N0 + 1 by omega, show s_sz S h.2.2 + qc.2.2 - M0 = s_sz S h.2.2 - M0 + qc.2.2 by omega] at kk
    exact kk T hT X
theorem s_d_newa (C : s_Cx S G TW p s m args meth c r) (hsz : s.heap.size = s_B G + (N0 - 4)) (hN : 4 ≤ N0) (hN2 : N0 ≤ h.2.2.length) (hM2 : M0 ≤ s_sz S h.2.2) (hroom : q.2.2.2.2.2.length - N0 ≤ R.cells ∧ s_sz S q.2.2.2.2.2 - M0 ≤ R.slots) (hw1 : (Jvm.Cond.arrayClass .int).before args s = true) (hdg : decode (s_b r) pc = .ok (.newarray .int, n)) (hn : n = 2) (hs : s_x (.newarray .int) pc n L st h = some q) (k : s_W S G p l e R s m args below meth c Q N0 M0 q.1 q.2.1 q.2.2.1 q.2.2.2) : s_W S G p l e R s m args below meth c Q N0 M0 pc L st h := by
  obtain ⟨hx, hb, hml, hown, hts, hI, hini⟩ := C
  subst hn
  dsimp only [s_x] at hs
  split at hs
  next z r0 =>
    split at hs
    · cases hs
    next hz0 =>
      cases hs
      intro hlen H locs ls hW hS hL
      have hl : (s_new h 1 z.toNatClampNeg).2.2.length = h.2.2.length + 1 := by show (h.2.2 ++ [_]).length = _; simp
      have hz : s_sz S (s_new h 1 z.toNatClampNeg).2.2 = s_sz S h.2.2 + z.toNatClampNeg := by
        show s_sz S (h.2.2 ++ [(1, _)]) = _
        rw [s_sz_app]; rfl
      dsimp only at hroom k
      rw [hl, hz] at hroom
      have h4 := hW.1
      have hcell : s_cell S G (s_new h 1 z.toNatClampNeg) h.2.2.length = .inl (s_cA G 1, z.toNatClampNeg, .inl (fun _ => 0)) := by
        rw [s_cell_i s_new_at]
        have z1 : (s_new h 1 z.toNatClampNeg).1 h.2.2.length = fun _ => 0 := if_pos rfl
        rw [z1]
      have hle : z.toNatClampNeg ≤ 65536 := by
        have h9 : z.toInt ≤ 65536 := Int.not_lt.mp (fun y => hz0 (Or.inr (Int32.lt_iff_toInt_lt.mpr y)))
        show z.toInt.toNat ≤ 65536
        omega
      refine va_newa (atype := .int) (ty := .int) (a0 := (z.toNatClampNeg, .inl (fun _ => 0))) hx hb hw1 rfl hI.1 hW.2.1 (s_ws_D hI h) hS (fun y hy => (by show s_B G ≤ y; omega)) (fun cA => rfl) (fun y => hz0 (Or.inl y)) rfl (by show _ * 4 ≤ _; omega) (by omega) (by omega) hdg (fun a cA H1 hK1 hP1 hD1 hS1 => ?_)
      intro T hT X
      have ha := s_at_end hI hsz hN hN2 rfl hP1 hD1 hT X
      subst ha
      have hcA : cA = s_cA G 1 := by
        have g1 := (hK1.2 (s_tys S G).length (cA, .int) (by simp)).2
        have g2 := (hI.1.2 0 (s_cA G 1, .int) rfl).2
        exact Option.some.inj (g1.symm.trans g2)
      subst hcA
      rw [← hcell] at hP1
      have hW1 := s_Wd_new hW (fun x hx => (by cases hx)) hP1
      have kk := k hlen H1 locs ls hW1 hS1 hL
      rw [hl, hz, show h.2.2.length + 1 - N0 = h.2.2.length - N0 + 1 by omega, show s_sz S h.2.2 + z.toNatClampNeg - M0 = s_sz S h.2.2 - M0 + z.toNatClampNeg by omega] at kk
      exact kk T hT X
  · cases hs
theorem s_d_newq {t : Nat} (C : s_Cx S G TW p s m args meth c r) (ht : t ∈ s_rk S) (hsz : s.heap.size = s_B G + (N0 - 4)) (hN : 4 ≤ N0) (hN2 : N0 ≤ h.2.2.length) (hM2 : M0 ≤ s_sz S h.2.2) (hroom : q.2.2.2.2.2.length - N0 ≤ R.cells ∧ s_sz S q.2.2.2.2.2 - M0 ≤ R.slots) (hw1 : (Jvm.Cond.classLink (s_y r).cls idx (s_cn S t)).before args s = true) (hw2 : va_Nw (.arrayOver (.object (s_cn S t))) s) (hdg : decode (s_b r) pc = .ok (.anewarray idx, n)) (hn : n = 3) (hs : s_x (.anewarray t) pc n L st h = some q) (k : s_W S G p l e R s m args below meth c Q N0 M0 q.1 q.2.1 q.2.2.1 q.2.2.2) : s_W S G p l e R s m args below meth c Q N0 M0 pc L st h := by
  obtain ⟨hx, hb, hml, hown, hts, hI, hini⟩ := C
  subst hn
  dsimp only [s_x] at hs
  split at hs
  next z r0 =>
    split at hs
    · cases hs
    next hz0 =>
      cases hs
      intro hlen H locs ls hW hS hL
      have hl : (s_new h (t + 2) z.toNatClampNeg).2.2.length = h.2.2.length + 1 := by show (h.2.2 ++ [_]).length = _; simp
      have hz : s_sz S (s_new h (t + 2) z.toNatClampNeg).2.2 = s_sz S h.2.2 + z.toNatClampNeg := by
        show s_sz S (h.2.2 ++ [(t + 2, _)]) = _
        rw [s_sz_app]; rfl
      dsimp only at hroom k
      rw [hl, hz] at hroom
      have h4 := hW.1
      have hcell : s_cell S G (s_new h (t + 2) z.toNatClampNeg) h.2.2.length = .inl (s_cA G (t + 2), z.toNatClampNeg, .inr (.inr (.inr (.inr (fun _ => none))))) := by
        rw [s_cell_r s_new_at]
        have z1 : (s_new h (t + 2) z.toNatClampNeg).2.1 h.2.2.length = fun _ => none := if_pos rfl
        rw [z1]
        rfl
      have hle : z.toNatClampNeg ≤ 65536 := by
        have h9 : z.toInt ≤ 65536 := Int.not_lt.mp (fun y => hz0 (Or.inr (Int32.lt_iff_toInt_lt.mpr y)))
        show z.toInt.toNat ≤ 65536
        omega
      refine va_newq hx hb hown hw1 hw2 hI.1 hW.2.1 (s_ws_D hI h) hS (fun y hy => (by show s_B G ≤ y; omega)) (fun y => hz0 (Or.inl y)) rfl (by omega) (by omega) (by omega) hdg (fun a cA H1 hK1 hP1 hD1 hS1 => ?_)
      intro T hT X
      have ha := s_at_end hI hsz hN hN2 rfl hP1 hD1 hT X
      subst ha
      have hcA : cA = s_cA G (t + 2) := by
        obtain ⟨_, _, _, _, _, g1⟩ := (hK1.2 (s_tys S G).length (cA, .object (s_cn S t)) (by simp)).2
        obtain ⟨j, hj⟩ := s_tys_r G ht
        obtain ⟨_, _, _, _, _, g2⟩ := (hI.1.2 j _ hj).2
        exact Option.some.inj (g1.symm.trans g2)
      subst hcA
      rw [← hcell] at hP1
      have hW1 := s_Wd_new hW (fun x hx => (by cases hx; exact ht)) hP1
      have kk := k hlen H1 locs ls hW1 hS1 hL
      rw [hl, hz, show h.2.2.length + 1 - N0 = h.2.2.length - N0 + 1 by omega, show s_sz S h.2.2 + z.toNatClampNeg - M0 = s_sz S h.2.2 - M0 + z.toNatClampNeg by omega] at kk
      exact kk T hT X
  · cases hs
theorem s_d_obj (C : s_Cx S G TW p s m args meth c r) (hRf : 1 ≤ R.frames) (hRl : 26 ≤ R.locals) (hw1 : (Jvm.Cond.methodLink (s_y r).cls idx Lib.objectInit).before args s = true) (hw2 : (Jvm.Cond.instanceMethod Lib.objectInit).before args s = true) (hw3 : (Jvm.Cond.code Lib.objectInit ⟨#[0xb1]⟩ 1 none).before args s = true) (hdg : decode (s_b r) pc = .ok (.invokespecial idx, n)) (hn : n = 3) (hs : s_x (.monitorenter) pc n L st h = some q) (k : s_W S G p l e R s m args below meth c Q N0 M0 q.1 q.2.1 q.2.2.1 q.2.2.2) : s_W S G p l e R s m args below meth c Q N0 M0 pc L st h := by
  obtain ⟨hx, hb, hml, hown, hts, hI, hini⟩ := C
  subst hn
  dsimp only [s_x] at hs
  split at hs
  next a r0 =>
    split at hs
    · cases hs
    next hc =>
      cases hs
      intro hlen H locs ls hW hS hL
      have h1 := s_cat_sum G r0
      refine W.objInit (g := F0 m pc ls (.ref (s_ad G a) :: r0.map (s_vc G))) hx hb hown hw1 hw2 hw3 rfl (by show ls.size = _; rw [hL.1, hlen]) rfl hdg hRf (by show 2 * 0 + _ + 12 ≤ _; omega) ?_
      exact W.eq rfl (k hlen H locs ls hW hS hL)
  · cases hs
theorem s_d_d2r (C : s_Cx S G TW p s m args meth c r) (hRf : 1 ≤ R.frames) (hRl : 26 ≤ R.locals) (hw1 : (Jvm.Cond.methodLink (s_y r).cls idx ⟨"java/lang/Double", "doubleToRawLongBits", "(D)J"⟩).before args s = true) (hw2 : (Jvm.Cond.native ⟨"java/lang/Double", "doubleToRawLongBits", "(D)J"⟩).before args s = true) (hw3 : (Jvm.Cond.static ⟨"java/lang/Double", "doubleToRawLongBits", "(D)J"⟩).before args s = true) (hw4 : (Jvm.Cond.initialized "java/lang/Double").before args s = true) (hdg : decode (s_b r) pc = .ok (.invokestatic idx, n)) (hn : n = 3) (hs : s_x (.nop) pc n L st h = some q) (k : s_W S G p l e R s m args below meth c Q N0 M0 q.1 q.2.1 q.2.2.1 q.2.2.2) : s_W S G p l e R s m args below meth c Q N0 M0 pc L st h := by
  obtain ⟨hx, hb, hml, hown, hts, hI, hini⟩ := C
  subst hn
  dsimp only [s_x] at hs
  split at hs
  next a r0 =>
    split at hs
    · cases hs
    next hc =>
      cases hs
      intro hlen H locs ls hW hS hL
      have h1 := s_cat_sum G r0
      exact vn_d2l hx hb (by rw [hL.1, hlen]) hown hw1 hw2 hw3 hw4 hRf (by omega) hdg (k hlen H locs ls hW hS hL)
  · cases hs
theorem s_d_f2r (C : s_Cx S G TW p s m args meth c r) (hRf : 1 ≤ R.frames) (hRl : 26 ≤ R.locals) (hw1 : (Jvm.Cond.methodLink (s_y r).cls idx ⟨"java/lang/Float", "floatToRawIntBits", "(F)I"⟩).before args s = true) (hw2 : (Jvm.Cond.native ⟨"java/lang/Float", "floatToRawIntBits", "(F)I"⟩).before args s = true) (hw3 : (Jvm.Cond.static ⟨"java/lang/Float", "floatToRawIntBits", "(F)I"⟩).before args s = true) (hw4 : (Jvm.Cond.initialized "java/lang/Float").before args s = true) (hdg : decode (s_b r) pc = .ok (.invokestatic idx, n)) (hn : n = 3) (hs : s_x (.swap) pc n L st h = some q) (k : s_W S G p l e R s m args below meth c Q N0 M0 q.1 q.2.1 q.2.2.1 q.2.2.2) : s_W S G p l e R s m args below meth c Q N0 M0 pc L st h := by
  obtain ⟨hx, hb, hml, hown, hts, hI, hini⟩ := C
  subst hn
  dsimp only [s_x] at hs
  split at hs
  next a r0 =>
    split at hs
    · cases hs
    next hc =>
      cases hs
      intro hlen H locs ls hW hS hL
      have h1 := s_cat_sum G r0
      exact vn_f2i hx hb (by rw [hL.1, hlen]) hown hw1 hw2 hw3 hw4 hRf (by omega) hdg (k hlen H locs ls hW hS hL)
  · cases hs
theorem s_d_acpy (C : s_Cx S G TW p s m args meth c r) (hRf : 1 ≤ R.frames) (hRl : 26 ≤ R.locals) (hw1 : (Jvm.Cond.methodLink (s_y r).cls idx arraycopyName).before args s = true) (hw2 : (Jvm.Cond.native arraycopyName).before args s = true) (hw3 : (Jvm.Cond.static arraycopyName).before args s = true) (hw4 : (Jvm.Cond.initialized "java/lang/System").before args s = true) (hdg : decode (s_b r) pc = .ok (.invokestatic idx, n)) (hn : n = 3) (hs : s_x (.monitorexit) pc n L st h = some q) (k : s_W S G p l e R s m args below meth c Q N0 M0 q.1 q.2.1 q.2.2.1 q.2.2.2) : s_W S G p l e R s m args below meth c Q N0 M0 pc L st h := by
  obtain ⟨hx, hb, hml, hown, hts, hI, hini⟩ := C
  subst hn
  dsimp only [s_x] at hs
  split at hs
  next kn dp b sp a r0 =>
    split at hs
    next na nb heq heq2 =>
      split at hs
      · cases hs
      next hc =>
        cases hs
        intro hlen H locs ls hW hS hL
        simp only [not_or, Nat.not_lt] at hc
        obtain ⟨c1, c2, c3, c4, c5, c6, c7, c8⟩ := hc
        obtain ⟨h1, h2, -⟩ := s_Wd_len hW heq
        obtain ⟨g1, g2, -⟩ := s_Wd_len hW heq2
        have h5 := s_ws_at S G h c7 h2
        rw [s_cell_i h1] at h5
        have g5 := s_ws_at S G h c8 g2
        rw [s_cell_i g1] at g5
        have hcat := s_cat_sum G r0
        have hnf : nativeFrameWords "java/lang/System" "arraycopy" 5 = 7 := by decide +kernel
        refine va_copyi (ty := .int) hx hb (by rw [hL.1, hlen]) hown hw1 hw2 hw3 hw4 hI.1 hW.2.1 (s_ws_D hI h) hS (a - 4) (b - 4) 0 0 h5 g5 (s_tys_0 S G) (s_tys_0 S G) rfl c2 c3 c4 c5 c6 (fun i hi => rfl) hRf (by omega) hdg (fun H1 locs1 hP1 _ hS1 => ?_)
        refine k hlen H1 locs1 ls (s_Wd_put (h2 := (fun i => if i = b then va_cpy (h.1 a) (h.1 b) sp.toNatClampNeg dp.toNatClampNeg kn.toNatClampNeg else h.1 i, h.2)) hW c8 g2 rfl (fun j hj => ⟨if_neg hj, rfl⟩) ?_ hP1) hS1 hL
        rw [s_cell_i (by exact g1)]
        show _ = Sum.inl (s_cA G 1, nb, Sum.inl (if b = b then _ else _))
        rw [if_pos rfl]
    · cases hs
  · cases hs
theorem s_ldcwf {v : UInt32} {cc : ByteArray} {H : Heap} {locs : List Loc} {ls : Array Slot} {rest : List Value} {cells slots : Nat} (hexec : p.tables.exec = Jvm.exec) (hb : c.code = cc) {own : String} {index : Nat} (hown : s.vm.findClass own = some m.cls) (hconst : (Jvm.Cond.constantFloat own index v).before args s = true) (hdg : decode cc pc = .ok (.ldc_w index, 3)) (k : W p l e R s m args below meth c H locs cells slots Q (F0 m (pc + 3) ls (.float v :: rest))) : W p l e R s m args below meth c H locs cells slots Q (F0 m pc ls rest) := by
  intro T hT X
  obtain ⟨t, a, b⟩ := k T hT X
  refine ⟨t, ?_, b⟩
  obtain ⟨k0, cf, hk, hcf, hcp⟩ := Cond.constantFloat_spec hown hconst
  obtain ⟨k', hk', he⟩ := X.warmed.alike.2.2 _ _ hk
  subst hb
  jvm_step X.here [hexec, hdg, ldc_w.wp_float (s := T) (f := F0 m pc ls rest) X.here.top hk' (by rw [he]; exact hcf) hcp]
  exact a
theorem s_d_ldcwf {v z : Nat} (C : s_Cx S G TW p s m args meth c r) (hw : (Jvm.Cond.constantFloat (s_y r).cls idx (UInt32.ofNat v)).before args s = true) (hdg : decode (s_b r) pc = .ok (.ldc_w idx, n)) (hn : n = 3) (hs : s_x (.multianewarray v z) pc n L st h = some q) (k : s_W S G p l e R s m args below meth c Q N0 M0 q.1 q.2.1 q.2.2.1 q.2.2.2) : s_W S G p l e R s m args below meth c Q N0 M0 pc L st h := by
  obtain ⟨hx, hb, hml, hown, hts, hI, hini⟩ := C
  subst hn
  cases hs
  intro hlen H locs ls hW hS hL
  exact s_ldcwf hx hb hown hw hdg (k hlen H locs ls hW hS hL)
end MKS
end
section
/-! A ROW OF A METHOD'S CODE, CHECKED: its decoding, its words, its side conditions -/
abbrev sMT : Type := Nat → Option (sM × Option Nat)
def s_rel (pc idx : Nat) : Instr → Instr
  | .goto t => .goto (t - (pc : Int))
  | .ifCond c t => .ifCond c (t - (pc : Int))
  | .if_icmp c t => .if_icmp c (t - (pc : Int))
  | .ifnull t => .ifnull (t - (pc : Int))
  | .ifnonnull t => .ifnonnull (t - (pc : Int))
  | .tableswitch d lo hi o => .tableswitch (d - (pc : Int)) lo hi (o.map (fun t => t - (pc : Int)))
  | .lookupswitch d o => .lookupswitch (d - (pc : Int)) (o.map fun q => (q.1, q.2 - (pc : Int)))
  | .getfield _ => .getfield idx
  | .putfield _ => .putfield idx
  | .getstatic _ => .getstatic idx
  | .instanceof _ => .getstatic idx
  | .invokevirtual _ => .invokevirtual idx
  | .invokestatic _ => .invokestatic idx
  | .invokespecial _ => .invokespecial idx
  | .invokeinterface _ _ => .invokespecial idx
  | .monitorenter => .invokespecial idx
  | .monitorexit => .invokestatic idx
  | .nop => .invokestatic idx
  | .swap => .invokestatic idx
  | .new _ => .new idx
  | .anewarray _ => .anewarray idx
  | .ldc _ => .ldc idx
  | .ldc_w _ => .ldc_w idx
  | .ldc2_w _ => .ldc2_w idx
  | .ret _ => .ldc idx
  | .multianewarray _ _ => .ldc_w idx
  | .putstatic _ => .ldc2_w idx
  | i => i
/-- the length that an instruction has; 0: any -/
def s_ln : Instr → Nat
  | .bipush _ | .ldc _ | .ret _ | .iload _ | .lload _ | .istore _ | .lstore _ | .aload _ | .astore _ | .newarray _ => 2
  | .sipush _ | .ldc_w _ | .ldc2_w _ | .putstatic _ | .multianewarray _ _ | .iinc _ _ | .goto _ | .ifCond _ _ | .if_icmp _ _ | .ifnull _ | .ifnonnull _ | .getfield _ | .putfield _ | .getstatic _ | .instanceof _ => 3
  | .invokevirtual _ | .invokestatic _ | .invokespecial _ | .invokeinterface _ _ | .monitorenter | .monitorexit | .nop | .swap | .new _ | .anewarray _ => 3
  | .tableswitch _ _ _ _ | .lookupswitch _ _ => 0
  | _ => 1
def s_dl : MethodName := ⟨"java/lang/Double", "doubleToRawLongBits", "(D)J"⟩
def s_fi : MethodName := ⟨"java/lang/Float", "floatToRawIntBits", "(F)I"⟩
def s_wf (S : s_SG) (own : String) (idx ev : Nat) : Jvm.Cond := .fieldLink own idx (s_F S (ev / 1024) (ev % 1024 / 8)).1 (s_F S (ev / 1024) (ev % 1024 / 8)).2.1 (s_F S (ev / 1024) (ev % 1024 / 8)).2.2.1
def s_wc (MT : sMT) (k : Nat) (f : sM → List Jvm.Cond) : List Jvm.Cond := match MT k with
  | some q => f q.1
  | none => []
def s_wds (S : s_SG) (MT : sMT) (own : String) (idx : Nat) : Instr → List Jvm.Cond
  | .getfield ev => [s_wf S own idx ev]
  | .putfield ev => [s_wf S own idx ev]
  | .getstatic j => [.fieldLink own idx (s_sn S j).1 (s_sn S j).2.1 (s_sn S j).2.2]
  | .invokevirtual k => s_wc MT k fun r => [.methodLink own idx (s_y r), .instanceMethod (s_y r), .selects (s_y r).cls (s_y r) (s_y r), .initialized (s_y r).cls, .code (s_y r) (s_b r) (s_mL r) (s_rt r)]
  | .invokestatic k => s_wc MT k fun r => [.methodLink own idx (s_y r), .static (s_y r), .initialized (s_y r).cls, .code (s_y r) (s_b r) (s_mL r) (s_rt r)]
  | .invokespecial k => s_wc MT k fun r => [.methodLink own idx (s_y r), .instanceMethod (s_y r), .initialized (s_y r).cls, .code (s_y r) (s_b r) (s_mL r) (s_rt r)]
  | .invokeinterface k _ => s_wc MT k fun r => [.instanceMethod (s_y r), .initialized (s_y r).cls, .code (s_y r) (s_b r) (s_mL r) (s_rt r)]
  | .monitorenter => [.methodLink own idx Lib.objectInit, .instanceMethod Lib.objectInit, .code Lib.objectInit ⟨#[0xb1]⟩ 1 none]
  | .monitorexit => [.methodLink own idx arraycopyName, .native arraycopyName, .static arraycopyName, .initialized "java/lang/System"]
  | .nop => [.methodLink own idx s_dl, .native s_dl, .static s_dl, .initialized "java/lang/Double"]
  | .swap => [.methodLink own idx s_fi, .native s_fi, .static s_fi, .initialized "java/lang/Float"]
  | .new c => [.classLink own idx (s_cn S c), .instantiable (s_cn S c) (s_N S c), .initialized (s_cn S c)]
  | .newarray _ => [.arrayClass .int]
  | .anewarray t => [.classLink own idx (s_cn S t)]
  | .ldc v => [.constant own idx (Int32.ofNat v)]
  | .ldc_w v => [.constant own idx (Int32.ofNat v)]
  | .ldc2_w v => [.constantLong own idx (Int64.ofNat v)]
  | .ret v => [.constantFloat own idx (UInt32.ofNat v)]
  | .multianewarray v _ => [.constantFloat own idx (UInt32.ofNat v)]
  | .putstatic v => [.constantDouble own idx (UInt64.ofNat v)]
  | _ => []
def s_rfT : FieldType → Bool
  | .object _ => true
  | .array _ => true
  | _ => false
/-- may r call r2 (as: how many arguments beside the receiver) -/
def s_okc (r r2 : sM) (init : Bool) (n : Nat) : Bool := decide (s_fr r2 + 1 ≤ s_fr r) && decide (8 + (s_mL r2 + 11) + s_lo r2 ≤ s_lo r) && decide ((s_y r2).cls ≠ "java/lang/invoke/MethodHandle") && decide ((s_y r2).cls ≠ "java/lang/invoke/VarHandle") && decide ((parseMethodDescriptor (s_y r2).desc).map (fun d => d.parameters.length) = some n) && (!init || (decide ((s_y r2).name = "<init>") && decide (s_rt r2 = none)))
def s_sd (S : s_SG) (MT : sMT) (host : String) (r : sM) (idx : Nat) : Instr → Bool
  | .goto t | .ifCond _ t | .if_icmp _ t | .ifnull t | .ifnonnull t => decide (0 ≤ t)
  | .tableswitch d _ _ o => decide (0 ≤ d) && o.toList.all (fun t => decide (0 ≤ t))
  | .lookupswitch d o => decide (0 ≤ d) && o.toList.all (fun t => decide (0 ≤ t.2))
  | .getfield ev => decide (ev % 1024 / 8 < s_N S (ev / 1024)) && decide (ev % 8 = s_kd (s_ty S (ev / 1024) (ev % 1024 / 8)))
  | .putfield ev => decide (ev % 1024 / 8 < s_N S (ev / 1024)) && decide (ev % 8 = s_kd (s_ty S (ev / 1024) (ev % 1024 / 8))) && (decide (ev % 8 ≠ 2) || s_rfT (s_ty S (ev / 1024) (ev % 1024 / 8))) && (!(s_F S (ev / 1024) (ev % 1024 / 8)).2.2.2 || (decide ((s_y r).name = "<init>") && decide ((s_F S (ev / 1024) (ev % 1024 / 8)).1 = (s_y r).cls)))
  | .getstatic j => decide (j < s_ns S)
  | .instanceof j => decide (j < s_ns S) && decide (Jvm.Cond.fieldLinkNest (s_y r).cls idx (s_sn S j).1 (s_sn S j).2.1 (s_sn S j).2.2 host ∈ s_nw S)
  | .new c => decide (0 < s_N S c)
  | .anewarray t => decide (t ∈ s_rk S) && decide (Jvm.Cond.arrayOver (.object (s_cn S t)) ∈ s_nw S)
  | .newarray a => decide (a = .int)
  | .monitorenter | .monitorexit | .nop | .swap => decide (1 ≤ s_fr r) && decide (26 ≤ s_lo r)
  | .invokevirtual k => (match MT k with
    | some (r2, some c) => decide (s_na r2 = s_na r2 - 1 + 1) && s_okc r r2 false (s_na r2 - 1) && decide (s_cn S c = (s_y r2).cls) && decide (0 < s_N S c)
    | _ => false)
  | .invokestatic k => (match MT k with
    | some (r2, _) => s_okc r r2 false (s_na r2)
    | _ => false)
  | .invokespecial k => (match MT k with
    | some (r2, _) => decide (s_na r2 = s_na r2 - 1 + 1) && s_okc r r2 true (s_na r2 - 1)
    | _ => false)
  | .invokeinterface k _ => (match MT k with
    | some (r2, _) => decide (s_na r2 = s_na r2 - 1 + 1) && s_okc r r2 true (s_na r2 - 1) && decide (Jvm.Cond.methodLinkNest (s_y r).cls idx (s_y r2) host ∈ s_nw S)
    | _ => false)
  | _ => true
def s_so (pc : Nat) : Instr → Bool
  | .lookupswitch _ o => ((o.map fun q => (q.1, q.2 - (pc : Int))).toList.zip ((o.map fun q => (q.1, q.2 - (pc : Int))).toList.drop 1)).all (fun (a, next) => a.1 < next.1)
  | _ => true
def s_chk (S : s_SG) (MT : sMT) (big : List Jvm.Cond) (host : String) (r : sM) (e : sE) : Bool :=
  decide (decode (s_b r) e.1 = .ok (s_rel e.1 e.2.2.2.1 e.2.1, e.2.2.1)) && (decide (s_ln e.2.1 = 0) || decide (e.2.2.1 = s_ln e.2.1)) && decide ((s_wds S MT (s_y r).cls e.2.2.2.1 e.2.1).map some = e.2.2.2.2.map (fun i => big[i]?)) && (s_wds S MT (s_y r).cls e.2.2.2.1 e.2.1).all goodWord && s_sd S MT host r e.2.2.2.1 e.2.1 && s_so e.1 e.2.1
/-- every row of every method is checked -/
def s_Chk (S : s_SG) (MT : sMT) (big : List Jvm.Cond) (host : String) : Prop := ∀ (k : Nat) (r : sM) (cn : Option Nat), MT k = some (r, cn) → (∀ e ∈ s_cd r, s_chk S MT big host r e = true) ∧ plainName (s_y r).cls = true ∧ (∀ c, cn = some c → s_cn S c = (s_y r).cls ∧ 0 < s_N S c)
def s_TW (big : List Jvm.Cond) : List Jvm.Cond := big.filter goodWord
theorem s_TW_good (big : List Jvm.Cond) : ∀ w ∈ s_TW big, goodWord w = true := fun w h => (List.mem_filter.mp h).2
theorem s_wds_in {S : s_SG} {MT : sMT} {big : List Jvm.Cond} {own : String} {idx : Nat} {i : Instr} {pl : List Nat} (h1 : (s_wds S MT own idx i).map some = pl.map (fun i => big[i]?)) (h2 : (s_wds S MT own idx i).all goodWord = true) : ∀ w ∈ s_wds S MT own idx i, w ∈ s_TW big := by
  intro w hw
  refine List.mem_filter.mpr ⟨?_, List.all_eq_true.mp h2 w hw⟩
  have : some w ∈ pl.map (fun i => big[i]?) := by
    rw [← h1]
    exact List.mem_map.mpr ⟨w, hw, rfl⟩
  obtain ⟨j, -, hj⟩ := List.mem_map.mp this
  exact List.mem_of_getElem? hj
/-- what else the classes must show -/
def s_SD (S : s_SG) : Prop := (∀ t ∈ s_rk S, 0 < s_N S t) ∧ (∀ c k, k < s_N S c → defaultValue (s_ty S c k) = if s_kd (s_ty S c k) = 2 then .null else .int 0)
section RNS
variable {p : Program} {l : Launch} {e : Env} {R : Room} {s : State} {m : MethodId} {args : Array Value} {below : List Frame} {meth : Method} {c : Code} {Q : State → Prop}
variable {S : s_SG} {G : s_DG} {MT : sMT} {big : List Jvm.Cond} {host : String} {r : sM} {N0 M0 : Nat} {L st : List Value} {h : sHp} {q : sC}
theorem s_mem1 {a : Jvm.Cond} {l : List Jvm.Cond} : a ∈ a :: l := List.mem_cons_self
/-- ONE STEP -/
theorem s_one {ev : sE} (C : s_Cx S G (s_TW big) p s m args meth c r) (SK : s_SOK S (s_TW big)) (SD : s_SD S) (hck : s_chk S MT big host r ev = true) (hRf : s_fr r ≤ R.frames) (hRl : s_lo r ≤ R.locals) (hsz : s.heap.size = s_B G + (N0 - 4)) (hN : 4 ≤ N0) (hN2 : N0 ≤ h.2.2.length) (hM2 : M0 ≤ s_sz S h.2.2) (hroom : q.2.2.2.2.2.length - N0 ≤ R.cells ∧ s_sz S q.2.2.2.2.2 - M0 ≤ R.slots)
    (hs : s_x ev.2.1 ev.1 ev.2.2.1 L st h = some q) (k : s_W S G p l e R s m args below meth c Q N0 M0 q.1 q.2.1 q.2.2.1 q.2.2.2) : s_W S G p l e R s m args below meth c Q N0 M0 ev.1 L st h := by
  obtain ⟨pc, i, n, idx, pl⟩ := ev
  unfold s_chk at hck
  simp only [Bool.and_eq_true, decide_eq_true_eq, Bool.or_eq_true] at hck
  obtain ⟨⟨⟨⟨⟨hdg, hln⟩, hw1⟩, hw2⟩, hsd⟩, hso⟩ := hck
  have hw := s_wds_in hw1 hw2
  have hts := C.2.2.2.2.1
  have hI := C.2.2.2.2.2.1
  clear hw1 hw2
  dsimp only at hs hdg hln hw hsd hso ⊢
  cases i with
  | iconst v => exact s_d_iconst C hdg (hln.resolve_left (Nat.succ_ne_zero _)) hs k
  | bipush v => exact s_d_bipush C hdg (hln.resolve_left (Nat.succ_ne_zero _)) hs k
  | sipush v => exact s_d_sipush C hdg (hln.resolve_left (Nat.succ_ne_zero _)) hs k
  | ldc v => exact s_d_ldc C (hts _ (hw _ s_mem1)) hdg (hln.resolve_left (Nat.succ_ne_zero _)) hs k
  | ldc_w v => exact s_d_ldcw C (hts _ (hw _ s_mem1)) hdg (hln.resolve_left (Nat.succ_ne_zero _)) hs k
  | ldc2_w v => exact s_d_ldc2 C (hts _ (hw _ s_mem1)) hdg (hln.resolve_left (Nat.succ_ne_zero _)) hs k
  | ret v => exact s_d_ldcf C (hts _ (hw _ s_mem1)) hdg (hln.resolve_left (Nat.succ_ne_zero _)) hs k
  | multianewarray v z => exact s_d_ldcwf C (hts _ (hw _ s_mem1)) hdg (hln.resolve_left (Nat.succ_ne_zero _)) hs k
  | putstatic v => exact s_d_ldc2d C (hts _ (hw _ s_mem1)) hdg (hln.resolve_left (Nat.succ_ne_zero _)) hs k
  | lconst v => exact s_d_lconst C hdg (hln.resolve_left (Nat.succ_ne_zero _)) hs k
  | fconst v => exact s_d_fconst C hdg (hln.resolve_left (Nat.succ_ne_zero _)) hs k
  | dconst v => exact s_d_dconst C hdg (hln.resolve_left (Nat.succ_ne_zero _)) hs k
  | aconst_null => exact s_d_null C hdg (hln.resolve_left (Nat.succ_ne_zero _)) hs k
  | iload_n v => exact s_d_iload_n C hdg (hln.resolve_left (Nat.succ_ne_zero _)) hs k
  | iload v => exact s_d_iload C hdg (hln.resolve_left (Nat.succ_ne_zero _)) hs k
  | lload_n v => exact s_d_lload_n C hdg (hln.resolve_left (Nat.succ_ne_zero _)) hs k
  | lload v => exact s_d_lload C hdg (hln.resolve_left (Nat.succ_ne_zero _)) hs k
  | fload_n v => exact s_d_fload_n C hdg (hln.resolve_left (Nat.succ_ne_zero _)) hs k
  | dload_n v => exact s_d_dload_n C hdg (hln.resolve_left (Nat.succ_ne_zero _)) hs k
  | aload_n v => exact s_d_aload_n C hdg (hln.resolve_left (Nat.succ_ne_zero _)) hs k
  | aload v => exact s_d_aload C hdg (hln.resolve_left (Nat.succ_ne_zero _)) hs k
  | istore_n v => exact s_d_istore_n C hdg (hln.resolve_left (Nat.succ_ne_zero _)) hs k
  | istore v => exact s_d_istore C hdg (hln.resolve_left (Nat.succ_ne_zero _)) hs k
  | fstore_n v => exact s_d_fstore_n C hdg (hln.resolve_left (Nat.succ_ne_zero _)) hs k
  | lstore_n v => exact s_d_lstore_n C hdg (hln.resolve_left (Nat.succ_ne_zero _)) hs k
  | lstore v => exact s_d_lstore C hdg (hln.resolve_left (Nat.succ_ne_zero _)) hs k
  | dstore_n v => exact s_d_dstore_n C hdg (hln.resolve_left (Nat.succ_ne_zero _)) hs k
  | astore_n v => exact s_d_astore_n C hdg (hln.resolve_left (Nat.succ_ne_zero _)) hs k
  | astore v => exact s_d_astore C hdg (hln.resolve_left (Nat.succ_ne_zero _)) hs k
  | iinc v w => exact s_d_iinc C hdg (hln.resolve_left (Nat.succ_ne_zero _)) hs k
  | dup => exact s_d_dup C hdg (hln.resolve_left (Nat.succ_ne_zero _)) hs k
  | pop => exact s_d_pop C hdg (hln.resolve_left (Nat.succ_ne_zero _)) hs k
  | dup2 => exact s_d_dup2 C hdg (hln.resolve_left (Nat.succ_ne_zero _)) hs k
  | iadd => exact s_d_iadd C hdg (hln.resolve_left (Nat.succ_ne_zero _)) hs k
  | isub => exact s_d_isub C hdg (hln.resolve_left (Nat.succ_ne_zero _)) hs k
  | imul => exact s_d_imul C hdg (hln.resolve_left (Nat.succ_ne_zero _)) hs k
  | iand => exact s_d_iand C hdg (hln.resolve_left (Nat.succ_ne_zero _)) hs k
  | ior => exact s_d_ior C hdg (hln.resolve_left (Nat.succ_ne_zero _)) hs k
  | ishl => exact s_d_ishl C hdg (hln.resolve_left (Nat.succ_ne_zero _)) hs k
  | idiv => exact s_d_idiv C hdg (hln.resolve_left (Nat.succ_ne_zero _)) hs k
  | ladd => exact s_d_ladd C hdg (hln.resolve_left (Nat.succ_ne_zero _)) hs k
  | lsub => exact s_d_lsub C hdg (hln.resolve_left (Nat.succ_ne_zero _)) hs k
  | land => exact s_d_land C hdg (hln.resolve_left (Nat.succ_ne_zero _)) hs k
  | lor => exact s_d_lor C hdg (hln.resolve_left (Nat.succ_ne_zero _)) hs k
  | lshl => exact s_d_lshl C hdg (hln.resolve_left (Nat.succ_ne_zero _)) hs k
  | lushr => exact s_d_lushr C hdg (hln.resolve_left (Nat.succ_ne_zero _)) hs k
  | i2l => exact s_d_i2l C hdg (hln.resolve_left (Nat.succ_ne_zero _)) hs k
  | l2i => exact s_d_l2i C hdg (hln.resolve_left (Nat.succ_ne_zero _)) hs k
  | i2f => exact s_d_i2f C hdg (hln.resolve_left (Nat.succ_ne_zero _)) hs k
  | i2d => exact s_d_i2d C hdg (hln.resolve_left (Nat.succ_ne_zero _)) hs k
  | l2d => exact s_d_l2d C hdg (hln.resolve_left (Nat.succ_ne_zero _)) hs k
  | d2l => exact s_d_d2l C hdg (hln.resolve_left (Nat.succ_ne_zero _)) hs k
  | f2i => exact s_d_f2i C hdg (hln.resolve_left (Nat.succ_ne_zero _)) hs k
  | lcmp => exact s_d_lcmp C hdg (hln.resolve_left (Nat.succ_ne_zero _)) hs k
  | fcmp v => exact s_d_fcmp C hdg (hln.resolve_left (Nat.succ_ne_zero _)) hs k
  | dcmp v => exact s_d_dcmp C hdg (hln.resolve_left (Nat.succ_ne_zero _)) hs k
  | fsub => exact s_d_fsub C hdg (hln.resolve_left (Nat.succ_ne_zero _)) hs k
  | fmul => exact s_d_fmul C hdg (hln.resolve_left (Nat.succ_ne_zero _)) hs k
  | fdiv => exact s_d_fdiv C hdg (hln.resolve_left (Nat.succ_ne_zero _)) hs k
  | dsub => exact s_d_dsub C hdg (hln.resolve_left (Nat.succ_ne_zero _)) hs k
  | dmul => exact s_d_dmul C hdg (hln.resolve_left (Nat.succ_ne_zero _)) hs k
  | ddiv => exact s_d_ddiv C hdg (hln.resolve_left (Nat.succ_ne_zero _)) hs k
  | drem => exact s_d_drem C hdg (hln.resolve_left (Nat.succ_ne_zero _)) hs k
  | ifCond cd v =>
    have hv : 0 ≤ v := of_decide_eq_true hsd
    cases cd with
    | eq => exact s_d_if_eq C hv hdg (hln.resolve_left (Nat.succ_ne_zero _)) hs k
    | ne => exact s_d_if_ne C hv hdg (hln.resolve_left (Nat.succ_ne_zero _)) hs k
    | lt => exact s_d_if_lt C hv hdg (hln.resolve_left (Nat.succ_ne_zero _)) hs k
    | ge => exact s_d_if_ge C hv hdg (hln.resolve_left (Nat.succ_ne_zero _)) hs k
    | gt => exact s_d_if_gt C hv hdg (hln.resolve_left (Nat.succ_ne_zero _)) hs k
    | le => exact s_d_if_le C hv hdg (hln.resolve_left (Nat.succ_ne_zero _)) hs k
  | if_icmp cd v =>
    have hv : 0 ≤ v := of_decide_eq_true hsd
    cases cd with
    | eq => exact s_d_icmp_eq C hv hdg (hln.resolve_left (Nat.succ_ne_zero _)) hs k
    | ne => exact s_d_icmp_ne C hv hdg (hln.resolve_left (Nat.succ_ne_zero _)) hs k
    | lt => exact s_d_icmp_lt C hv hdg (hln.resolve_left (Nat.succ_ne_zero _)) hs k
    | ge => exact s_d_icmp_ge C hv hdg (hln.resolve_left (Nat.succ_ne_zero _)) hs k
    | gt => exact s_d_icmp_gt C hv hdg (hln.resolve_left (Nat.succ_ne_zero _)) hs k
    | le => exact s_d_icmp_le C hv hdg (hln.resolve_left (Nat.succ_ne_zero _)) hs k
  | ifnull v => exact s_d_ifnull C (of_decide_eq_true hsd) hdg (hln.resolve_left (Nat.succ_ne_zero _)) hs k
  | ifnonnull v => exact s_d_ifnonnull C (of_decide_eq_true hsd) hdg (hln.resolve_left (Nat.succ_ne_zero _)) hs k
  | goto v => exact s_d_goto C (of_decide_eq_true hsd) hdg (hln.resolve_left (Nat.succ_ne_zero _)) hs k
  | tableswitch d lo hi o =>
    simp only [s_sd, Bool.and_eq_true, decide_eq_true_eq, List.all_eq_true] at hsd
    exact s_d_table C hsd.1 hsd.2 hdg hs k
  | lookupswitch d o =>
    simp only [s_sd, Bool.and_eq_true, decide_eq_true_eq, List.all_eq_true] at hsd
    exact s_d_look C hsd.1 hsd.2 hso hdg hs k
  | getfield ev =>
    simp only [s_sd, Bool.and_eq_true, decide_eq_true_eq] at hsd
    exact s_d_get C SK hsd.1 hsd.2 (hts _ (hw _ s_mem1)) hdg (hln.resolve_left (Nat.succ_ne_zero _)) hs k
  | putfield ev =>
    simp only [s_sd, Bool.and_eq_true, decide_eq_true_eq, Bool.or_eq_true, Bool.not_eq_true'] at hsd
    refine s_d_put C SK hsd.1.1.1 hsd.1.1.2 (fun h2 => ?_) (fun hf => ?_) (hts _ (hw _ s_mem1)) hdg (hln.resolve_left (Nat.succ_ne_zero _)) hs k
    · have h3 := hsd.1.2.resolve_left (fun z => z h2)
      cases ht : s_ty S (ev / 1024) (ev % 1024 / 8) with
      | object nm => exact ⟨nm, Or.inl rfl⟩
      | array t => exact ⟨"", Or.inr ⟨t, rfl⟩⟩
      | _ => rw [ht] at h3; cases h3
    · exact hsd.2.resolve_left (fun z => by rw [hf] at z; cases z)
  | getstatic j => exact s_d_gets C (of_decide_eq_true hsd) (hts _ (hw _ s_mem1)) hdg (hln.resolve_left (Nat.succ_ne_zero _)) hs k
  | instanceof j =>
    simp only [s_sd, Bool.and_eq_true, decide_eq_true_eq] at hsd
    exact s_d_getsN C hsd.1 (hI.2.2.2.2 _ hsd.2) hdg (hln.resolve_left (Nat.succ_ne_zero _)) hs k
  | arraylength => exact s_d_alen C hdg (hln.resolve_left (Nat.succ_ne_zero _)) hs k
  | iaload => exact s_d_iald C hdg (hln.resolve_left (Nat.succ_ne_zero _)) hs k
  | iastore => exact s_d_iast C hdg (hln.resolve_left (Nat.succ_ne_zero _)) hs k
  | aaload => exact s_d_aald C hdg (hln.resolve_left (Nat.succ_ne_zero _)) hs k
  | aastore => exact s_d_aast C SD.1 hdg (hln.resolve_left (Nat.succ_ne_zero _)) hs k
  | new ci =>
    exact s_d_new C SK (SD.2 ci) (of_decide_eq_true hsd) hsz hN hN2 hM2 hroom (hts _ (hw _ s_mem1)) (hts _ (hw _ (List.mem_cons_of_mem _ s_mem1))) (hts _ (hw _ (List.mem_cons_of_mem _ (List.mem_cons_of_mem _ s_mem1)))) hdg (hln.resolve_left (Nat.succ_ne_zero _)) hs k
  | newarray a =>
    have ha : a = .int := of_decide_eq_true hsd
    subst ha
    exact s_d_newa C hsz hN hN2 hM2 hroom (hts _ (hw _ s_mem1)) hdg (hln.resolve_left (Nat.succ_ne_zero _)) hs k
  | anewarray t =>
    simp only [s_sd, Bool.and_eq_true, decide_eq_true_eq] at hsd
    exact s_d_newq C hsd.1 hsz hN hN2 hM2 hroom (hts _ (hw _ s_mem1)) (hI.2.2.2.2 _ hsd.2) hdg (hln.resolve_left (Nat.succ_ne_zero _)) hs k
  | monitorenter =>
    simp only [s_sd, Bool.and_eq_true, decide_eq_true_eq] at hsd
    exact s_d_obj C (by omega) (by omega) (hts _ (hw _ s_mem1)) (hts _ (hw _ (List.mem_cons_of_mem _ s_mem1))) (hts _ (hw _ (List.mem_cons_of_mem _ (List.mem_cons_of_mem _ s_mem1)))) hdg (hln.resolve_left (Nat.succ_ne_zero _)) hs k
  | monitorexit =>
    simp only [s_sd, Bool.and_eq_true, decide_eq_true_eq] at hsd
    exact s_d_acpy C (by omega) (by omega) (hts _ (hw _ s_mem1)) (hts _ (hw _ (List.mem_cons_of_mem _ s_mem1))) (hts _ (hw _ (List.mem_cons_of_mem _ (List.mem_cons_of_mem _ s_mem1)))) (hts _ (hw _ (List.mem_cons_of_mem _ (List.mem_cons_of_mem _ (List.mem_cons_of_mem _ s_mem1))))) hdg (hln.resolve_left (Nat.succ_ne_zero _)) hs k
  | nop =>
    simp only [s_sd, Bool.and_eq_true, decide_eq_true_eq] at hsd
    exact s_d_d2r C (by omega) (by omega) (hts _ (hw _ s_mem1)) (hts _ (hw _ (List.mem_cons_of_mem _ s_mem1))) (hts _ (hw _ (List.mem_cons_of_mem _ (List.mem_cons_of_mem _ s_mem1)))) (hts _ (hw _ (List.mem_cons_of_mem _ (List.mem_cons_of_mem _ (List.mem_cons_of_mem _ s_mem1))))) hdg (hln.resolve_left (Nat.succ_ne_zero _)) hs k
  | swap =>
    simp only [s_sd, Bool.and_eq_true, decide_eq_true_eq] at hsd
    exact s_d_f2r C (by omega) (by omega) (hts _ (hw _ s_mem1)) (hts _ (hw _ (List.mem_cons_of_mem _ s_mem1))) (hts _ (hw _ (List.mem_cons_of_mem _ (List.mem_cons_of_mem _ s_mem1)))) (hts _ (hw _ (List.mem_cons_of_mem _ (List.mem_cons_of_mem _ (List.mem_cons_of_mem _ s_mem1))))) hdg (hln.resolve_left (Nat.succ_ne_zero _)) hs k
  | _ => cases hs
end RNS
end
section
/-! THE WHOLE RUN -/
theorem s_x_ext {i : Instr} {pc n : Nat} {L st : List Value} {h : sHp} {q : sC} (hs : s_x i pc n L st h = some q) : ∃ l : List (Nat × Nat), q.2.2.2.2.2 = h.2.2 ++ l := by
  have nil : ∀ {z : sHp}, z.2.2 = h.2.2 → ∃ l : List (Nat × Nat), z.2.2 = h.2.2 ++ l := fun e => ⟨[], by rw [e, List.append_nil]⟩
  cases i <;> dsimp only [s_x] at hs <;> (repeat' split at hs) <;> cases hs <;> first | exact nil rfl | exact ⟨_, rfl⟩
theorem s_run_ext {MT : sMT} : ∀ (f k pc : Nat) (L st : List Value) (h : sHp) (o : Option Value × sHp), s_run MT f k pc L st h = some o → ∃ l : List (Nat × Nat), o.2.2.2 = h.2.2 ++ l
  | 0, _, _, _, _, _, _, hr => by cases hr
  | f + 1, k, pc, L, st, h, o, hr => by
    unfold s_run at hr
    split at hr
    · cases hr
    split at hr
    · cases hr
    split at hr
    · split at hr
      · cases hr
      split at hr
      · cases hr
      split at hr
      · cases hr
      next o1 h1 =>
        obtain ⟨l1, e1⟩ := s_run_ext f _ _ _ _ _ _ h1
        obtain ⟨l2, e2⟩ := s_run_ext f _ _ _ _ _ _ hr
        exact ⟨l1 ++ l2, by rw [e2, e1, List.append_assoc]⟩
    · split at hr
      · cases hr; exact ⟨[], by rw [List.append_nil]⟩
      · split at hr
        · cases hr
        next c1 h1 =>
          obtain ⟨l1, e1⟩ := s_x_ext h1
          obtain ⟨l2, e2⟩ := s_run_ext f _ _ _ _ _ _ hr
          exact ⟨l1 ++ l2, by rw [e2, e1, List.append_assoc]⟩
theorem s_sz_le (S : s_SG) : ∀ a b : List (Nat × Nat), s_sz S a ≤ s_sz S (a ++ b)
  | [], b => Nat.zero_le _
  | (0, c) :: a, b => by
    rw [List.cons_append, s_sz, s_sz]
    exact Nat.add_le_add_left (s_sz_le S a b) _
  | (t + 1, c) :: a, b => by
    rw [List.cons_append, s_sz, s_sz]
    exact Nat.add_le_add_left (s_sz_le S a b) _
theorem s_ext_le {S : s_SG} {h h1 : sHp} (he : ∃ l : List (Nat × Nat), h1.2.2 = h.2.2 ++ l) : h.2.2.length ≤ h1.2.2.length ∧ s_sz S h.2.2 ≤ s_sz S h1.2.2 := by
  obtain ⟨l, e⟩ := he
  rw [e]
  exact ⟨by rw [List.length_append]; omega, s_sz_le S _ _⟩
/-- the words that are told one by one stay true -/
def s_nwk : Jvm.Cond → Bool
  | .methodLinkNest _ _ _ _ => true
  | .fieldLinkNest _ _ _ _ _ _ => true
  | .arrayOver (.object _) => true
  | _ => false
theorem s_nw_warm {w : Jvm.Cond} {s U : State} (hk : s_nwk w = true) (hW : s.WarmedH U.vm) (h : va_Nw w s) : va_Nw w U := by
  cases w with
  | methodLinkNest a i x y => exact va_Nw.warmM hW h
  | fieldLinkNest a i b n d y => exact va_Nw.warmF hW h
  | arrayOver ty => cases ty with
    | object C => exact va_AO.moved (C := C) hW.alike h
    | _ => cases hk
  | _ => cases hk
theorem s_In_moved {S : s_SG} {G : s_DG} {s U : State} (hnw : ∀ w ∈ s_nw S, s_nwk w = true) (hW : s.WarmedH U.vm) (hk : ∀ a : Nat, a < s.heap.size → ¬ s_A G a → U.heap[a]? = s.heap[a]?) (h : s_In S G s) : s_In S G U := by
  obtain ⟨h1, h2, h3, h4, h5⟩ := h
  refine ⟨va_K.moved hW.alike h1, fun i hi => ⟨?_, (h2 i hi).2⟩, fun j hj => ⟨(h3 j hj).1, va_Z.moved hW.alike (va_Z.kept (h3 j hj).2 hk)⟩, h4, fun w hw => s_nw_warm (hnw w hw) hW (h5 w hw)⟩
  obtain ⟨hX, hlt⟩ := h2 i hi
  obtain ⟨scr, h7, -⟩ := id hX
  exact va_X.moved hW.alike (va_X.kept hX (hk _ (Array.getElem?_eq_some_iff.mp h7).1 (fun y => absurd hlt (Nat.not_lt.mpr y))))
def s_Pc (S : s_SG) (G : s_DG) (as : List Value) (h : sHp) : Array Value → State → Prop := fun v U => v = (as.map (s_vc G)).toArray ∧ s_In S G U ∧ s_Wd S G h U.heap ∧ U.heap.size = s_B G + (h.2.2.length - 4)
def s_Qc (S : s_SG) (G : s_DG) (o : Option Value × sHp) : Array Value → State → Outcome → State → Prop := fun _ st oc t => oc = .returned (o.1.map (s_vc G)) ∧ s_Wd S G o.2 t.heap ∧ va_F (s_A G) st t
def s_wsl (big : List Jvm.Cond) (r : sM) : List Jvm.Cond := .code (s_y r) (s_b r) (s_mL r) (s_rt r) :: s_TW big
def s_rm (S : s_SG) (r : sM) (h h1 : sHp) : Room := { frames := s_fr r, cells := h1.2.2.length - h.2.2.length, slots := s_sz S h1.2.2 - s_sz S h.2.2, locals := s_lo r }
def s_Meets (S : s_SG) (G : s_DG) (big : List Jvm.Cond) (l : Launch) (r : sM) (as : List Value) (h : sHp) (o : Option Value × sHp) : Prop :=
  Met l (s_y r) (s_wsl big r) (s_rm S r h o.2) (s_Pc S G as h) (s_Qc S G o) (o.2.2.2.length - h.2.2.length) (s_sz S o.2.2.2 - s_sz S h.2.2) (s_A G)
/-- all that is fixed -/
def s_Fix (S : s_SG) (MT : sMT) (big : List Jvm.Cond) (host : String) : Prop := s_SOK S (s_TW big) ∧ s_SD S ∧ s_Chk S MT big host ∧ ∀ w ∈ s_nw S, s_nwk w = true
def s_MetAt (S : s_SG) (G : s_DG) (MT : sMT) (big : List Jvm.Cond) (l : Launch) (f : Nat) : Prop :=
  ∀ (k : Nat) (r : sM) (cn : Option Nat) (as : List Value) (h : sHp) (o : Option Value × sHp), MT k = some (r, cn) → s_cat as ≤ s_mL r → s_run MT f k 0 (s_ent as (s_mL r)) [] h = some o → s_Meets S G big l r as h o
def s_BodyAt (S : s_SG) (G : s_DG) (MT : sMT) (big : List Jvm.Cond) (l : Launch) (f : Nat) : Prop :=
  ∀ (p : Program) (e : Env) (R : Room) (s : State) (m : MethodId) (args : Array Value) (below : List Frame) (meth : Method) (c : Code) (Q : State → Prop) (k : Nat) (r : sM) (cn : Option Nat) (N0 M0 pc : Nat) (L st : List Value) (h : sHp) (o : Option Value × sHp),
    MT k = some (r, cn) → s_Cx S G (s_TW big) p s m args meth c r → s_run MT f k pc L st h = some o → s_fr r ≤ R.frames → s_lo r ≤ R.locals → s.heap.size = s_B G + (N0 - 4) → 4 ≤ N0 → N0 ≤ h.2.2.length → M0 ≤ s_sz S h.2.2 → o.2.2.2.length - N0 ≤ R.cells ∧ s_sz S o.2.2.2 - M0 ≤ R.slots →
    (∀ (ri : Instr) (pc2 : Nat) (L2 st2 : List Value), decode (s_b r) pc2 = .ok (ri, 1) → s_rx ri (s_rt r) st2 = some o.1 → s_W S G p l e R s m args below meth c Q N0 M0 pc2 L2 st2 o.2) →
    s_W S G p l e R s m args below meth c Q N0 M0 pc L st h
section SDS
variable {S : s_SG} {G : s_DG} {MT : sMT} {big : List Jvm.Cond} {host : String} {l : Launch}
theorem s_cat_sl (G : s_DG) : ∀ as : List Value, (lg_sl (as.map (s_vc G))).length = s_cat as
  | [] => rfl
  | v :: as => by
    have ih := s_cat_sl G as
    unfold lg_sl at ih ⊢
    rw [List.map_cons, List.flatMap_cons, List.length_append, ih, s_vc_cat, s_cat]
    by_cases ht : s_two v = true
    · rw [if_pos ht, if_pos rfl]; rfl
    · rw [if_neg ht, if_neg (by decide)]; rfl
theorem s_met_of_body (FX : s_Fix S MT big host) {f : Nat} (hB : s_BodyAt S G MT big l f) : s_MetAt S G MT big l f := by
  intro k r cn as h o hk hcat hrun
  obtain ⟨SK, SD, CK, NW⟩ := FX
  obtain ⟨ck1, ck2, ck3⟩ := CK k r cn hk
  have hext := s_run_ext _ _ _ _ _ _ _ hrun
  have hle := s_ext_le (S := S) hext
  unfold s_Meets
  refine Met.ofW (cc := s_b r) (maxL := s_mL r) (ret := s_rt r) ck2 rfl ?_
  intro p e s m args below meth c s₁ B hml hv
  obtain ⟨rfl, hI, hW, hsz⟩ := hv
  have hts := atoms_spec (ws := s_wsl big r) B.pre
  have hnm : meth.name = (s_y r).name := (name_of_methodNamed B.named B.method).1
  have C : s_Cx S G (s_TW big) p s m (as.map (s_vc G)).toArray meth c r := ⟨B.exec, B.bytes, hml, findClass_of_methodNamed B.named, fun w hw => hts w (List.mem_cons_of_mem _ hw), hI, fun z => hnm.trans z⟩
  have hsl : (lg_sl (as.map (s_vc G))).length ≤ s_mL r := by rw [s_cat_sl]; exact hcat
  have hl := lv_entry (as.map (s_vc G)) (n := s_mL r) hsl
  rw [lg_entry_eq]
  generalize (lg_sl (as.map (s_vc G)) ++ List.replicate (s_mL r - (lg_sl (as.map (s_vc G))).length) Slot.unset).toArray = ls at hl ⊢
  have hL := s_LR_ent (G := G) hsl hl
  have hlen : (s_ent as (s_mL r)).length = c.maxLocals := (s_ent_len G as _ hsl).trans hml.symm
  have key := hB p e (s_rm S r h o.2) s m (as.map (s_vc G)).toArray below meth c (MQ below (s_Qc S G o) (as.map (s_vc G)).toArray s (o.2.2.2.length - h.2.2.length) (s_sz S o.2.2.2 - s_sz S h.2.2) (s_A G)) k r cn h.2.2.length (s_sz S h.2.2) 0 (s_ent as (s_mL r)) [] h o hk C hrun (Nat.le_refl _) (Nat.le_refl _) hsz hW.1 (Nat.le_refl _) (Nat.le_refl _) ⟨Nat.le_refl _, Nat.le_refl _⟩ ?_ hlen s.heap [] ls hW va_S.rf hL
  · rw [Nat.sub_self, Nat.sub_self] at key
    exact key
  · intro ri pc2 L2 st2 hdg hrx hlen2 H locs ls2 hW2 hS2 hL2
    have hx := B.exec
    have hb := B.bytes
    have hr := B.returns
    have hlk := B.notSynchronized
    unfold s_rx at hrx
    split at hrx
    next hrt =>
      rw [hrt] at hr
      have ho : o.1 = none := (Option.some.inj hrx).symm
      exact W.vret hx hb hr (fun t ht hWm => ⟨by rw [ho]; rfl, by rw [ht]; exact hW2, hS2.F ht⟩) hS2.2.2 hdg hlk
    next v hrt =>
      rw [hrt] at hr
      have ho : o.1 = some (.int v) := (Option.some.inj hrx).symm
      exact W.iret (v := v) hx hb hr (fun t ht hWm => ⟨by rw [ho]; rfl, by rw [ht]; exact hW2, hS2.F ht⟩) hS2.2.2 hdg hlk
    next v hrt =>
      split at hrx
      next h01 =>
        rw [hrt] at hr
        have ho : o.1 = some (.int v) := (Option.some.inj hrx).symm
        exact W.zret (v := v) (ty := .boolean) hx hb hr (by rcases h01 with rfl | rfl <;> rfl) (fun t ht hWm => ⟨by rw [ho]; rfl, by rw [ht]; exact hW2, hS2.F ht⟩) hS2.2.2 hdg hlk
      · cases hrx
    next v hrt =>
      rw [hrt] at hr
      have ho : o.1 = some (.long v) := (Option.some.inj hrx).symm
      exact W.lret (v := v) hx hb hr (fun t ht hWm => ⟨by rw [ho]; rfl, by rw [ht]; exact hW2, hS2.F ht⟩) hS2.2.2 hdg hlk
    next nm a hrt =>
      rw [hrt] at hr
      have ho : o.1 = some (.ref a) := (Option.some.inj hrx).symm
      exact W.aret (v := .ref (s_ad G a)) (rt := .object nm) hx hb hr (Or.inl ⟨nm, rfl⟩) (Or.inr ⟨_, rfl⟩) (fun t ht hWm => ⟨by rw [ho]; rfl, by rw [ht]; exact hW2, hS2.F ht⟩) hS2.2.2 hdg hlk
    next nm hrt =>
      rw [hrt] at hr
      have ho : o.1 = some .null := (Option.some.inj hrx).symm
      exact W.aret (v := .null) (rt := .object nm) hx hb hr (Or.inl ⟨nm, rfl⟩) (Or.inl rfl) (fun t ht hWm => ⟨by rw [ho]; rfl, by rw [ht]; exact hW2, hS2.F ht⟩) hS2.2.2 hdg hlk
    · cases hrx
/-- how many cells there are -/
theorem s_size {s T : State} {p : Program} {e : Env} {R : Room} {m : MethodId} {args : Array Value} {below : List Frame} {meth : Method} {c : Code} {H : Heap} {locs : List Loc} {h : sHp} {N0 n1 : Nat} (hI : s_In S G s) (hsz : s.heap.size = s_B G + (N0 - 4)) (hN : 4 ≤ N0) (hN2 : N0 ≤ h.2.2.length) (hW : s_Wd S G h H) (hS : va_S (s_A G) s.heap H locs) (hT : T.heap = H) (X : Stand p l e R s m args below meth c T locs (h.2.2.length - N0) n1) : H.size = s_B G + (h.2.2.length - 4) := by
  have h2 := X.heapSize
  rw [hT] at h2
  have h3 := hS.1
  rcases Nat.lt_or_ge 4 h.2.2.length with z | z
  · have h4 := s_ws_at S G h (a := h.2.2.length - 1) (by omega) (by omega)
    have h5 := (hW.2.1 _ _ h4).lt
    dsimp only at h5
    rw [s_ad_ge hI (by omega)] at h5
    omega
  · omega
theorem s_blind (NW : ∀ w ∈ s_nw S, s_nwk w = true) (as : List Value) (h : sHp) : FrameBlind (s_Pc S G as h) := by
  intro a U g mk hp
  obtain ⟨h1, h2, h3, h4⟩ := hp
  exact ⟨h1, s_In_moved (U := U.calling g mk a) NW (State.WarmedH.refl U) (fun _ _ _ => rfl) h2, h3, h4⟩
/-- behind a call -/
theorem s_call {p : Program} {e : Env} {R : Room} {s : State} {m : MethodId} {args : Array Value} {below : List Frame} {meth : Method} {c : Code} {Q : State → Prop} {N0 M0 pc : Nat} {L rest : List Value} {st0 : List Value} {h : sHp} {o : Option Value × sHp} {H : Heap} {locs : List Loc} {ls : Array Slot} {a : Array Value}
    (hr : va_Run p l e R s m args below meth c H locs (h.2.2.length - N0) (s_sz S h.2.2 - M0) (o.2.2.2.length - h.2.2.length) (s_sz S o.2.2.2 - s_sz S h.2.2) (F0 m pc ls st0) (rest.map (s_vc G)) (s_Qc S G o a) (s_A G)) (hle : h.2.2.length ≤ o.2.2.2.length ∧ s_sz S h.2.2 ≤ s_sz S o.2.2.2) (hN2 : N0 ≤ h.2.2.length) (hM2 : M0 ≤ s_sz S h.2.2)
    (hlen : L.length = c.maxLocals) (hS : va_S (s_A G) s.heap H locs) (hL : s_LR G ls L) (k : s_W S G p l e R s m args below meth c Q N0 M0 (pc + 3) L (o.1.toList ++ rest) o.2) : W p l e R s m args below meth c H locs (h.2.2.length - N0) (s_sz S h.2.2 - M0) Q (F0 m pc ls st0) := by
  intro T hT X
  obtain ⟨v, st₀, t, T', L1, h0, X', hL1, e1, e2, ⟨hv, hW1, hz, hk⟩, st⟩ := hr T hT X
  have hv : v = o.1.map (s_vc G) := Outcome.returned.inj hv
  subst hv
  rw [h0] at hz hk
  rw [← e1] at hz hk hW1
  have hS1 : va_S (s_A G) s.heap T'.heap (locs ++ L1) := ⟨Nat.le_trans hS.1 hz, fun q h1 h2 => by rw [hk q (Nat.lt_of_lt_of_le h1 hS.1) h2]; exact hS.2.1 q h1 h2, fun q hq => by
    rcases List.mem_append.mp hq with h | h
    · exact hS.2.2 q h
    · exact hL1 q h⟩
  have kk := k hlen T'.heap (locs ++ L1) ls hW1 hS1 hL T' rfl (by
    rw [show o.2.2.2.length - N0 = h.2.2.length - N0 + (o.2.2.2.length - h.2.2.length) by omega, show s_sz S o.2.2.2 - M0 = s_sz S h.2.2 - M0 + (s_sz S o.2.2.2 - s_sz S h.2.2) by omega]
    exact X')
  obtain ⟨t2, a1, b1⟩ := kk
  refine ⟨t2, st t2 ?_, b1⟩
  have : (Option.map (s_vc G) o.1).toList ++ rest.map (s_vc G) = (o.1.toList ++ rest).map (s_vc G) := by
    rw [List.map_append]
    cases o.1 <;> rfl
  rw [this]
  exact a1
end SDS
end
section
section BDS
variable {S : s_SG} {G : s_DG} {MT : sMT} {big : List Jvm.Cond} {host : String} {l : Launch}
theorem s_GI {big ws : List Jvm.Cond} (h : ∀ w ∈ ws, w ∈ s_TW big) : GoodIn (s_TW big) ws := fun w hw => ⟨h w hw, good_of_word (s_TW_good big w (h w hw))⟩
theorem s_split (G : s_DG) (st : List Value) (n : Nat) : st.map (s_vc G) = (((st.take n).reverse).map (s_vc G)).reverse ++ (st.drop n).map (s_vc G) := by
  rw [List.map_reverse, List.reverse_reverse, ← List.map_append, List.take_append_drop]
theorem s_rc_0 {cn : Option Nat} {h : sHp} {as : List Value} (c4 : s_rc 0 cn h as = true) : ∃ (a c : Nat) (as2 : List Value), as = .ref a :: as2 ∧ s_nth h.2.2 a = some (0, c) ∧ cn = some c := by
  simp only [s_rc] at c4
  split at c4
  next a as2 =>
    split at c4
    next cc c2 heq =>
      have hcc : cc = c2 := Nat.eq_of_beq_eq_true c4
      subst hcc
      exact ⟨_, _, _, rfl, heq, rfl⟩
    · cases c4
  · cases c4
theorem s_rc_2 {cn : Option Nat} {h : sHp} {as : List Value} (c4 : s_rc 2 cn h as = true ∨ s_rc 3 cn h as = true) : ∃ (a : Nat) (as2 : List Value), as = .ref a :: as2 := by
  simp only [s_rc, or_self] at c4
  split at c4
  next a as2 => exact ⟨_, _, rfl⟩
  · cases c4
theorem s_body_succ (FX : s_Fix S MT big host) {f : Nat} (hM : s_MetAt S G MT big l f) (hB : s_BodyAt S G MT big l f) : s_BodyAt S G MT big l (f + 1) := by
  intro p e R s m args below meth c Q k r cn N0 M0 pc L st h o hk C hrun hRf hRl hsz hN hN2 hM2 hroom K
  have FX0 := FX
  obtain ⟨SK, SD, CK, NW⟩ := FX
  unfold s_run at hrun
  rw [hk] at hrun
  dsimp only at hrun
  split at hrun
  · cases hrun
  next ev hat =>
  obtain ⟨hmem, hpc⟩ := s_at_mem hat
  subst hpc
  have hck := (CK k r cn hk).1 ev hmem
  split at hrun
  next q hci =>
    split at hrun
    · cases hrun
    next r2p hk2 =>
    split at hrun
    · cases hrun
    next hcond =>
    split at hrun
    · cases hrun
    next o1 h1 =>
    obtain ⟨r2, cn2⟩ := r2p
    dsimp only at hrun h1 hcond
    simp only [not_or, Nat.not_lt, Bool.not_eq_false] at hcond
    obtain ⟨c1, c2, c3, c4⟩ := hcond
    have hle := s_ext_le (S := S) (s_run_ext _ _ _ _ _ _ _ h1)
    have hle2 := s_ext_le (S := S) (s_run_ext _ _ _ _ _ _ _ hrun)
    have Mt := hM q.2 r2 cn2 _ h o1 hk2 c2 h1
    have kk := hB p e R s m args below meth c Q k r cn N0 M0 (ev.1 + 3) L _ o1.2 o hk C hrun hRf hRl hsz hN (Nat.le_trans hN2 hle.1) (Nat.le_trans hM2 hle.2) hroom K
    intro hlen H locs ls hW hS hL T hT X
    have hI := C.2.2.2.2.2.1
    have hsize := s_size hI hsz hN hN2 hW hS hT X
    refine (?_ : W p l e R s m args below meth c H locs (h.2.2.length - N0) (s_sz S h.2.2 - M0) Q (F0 m ev.1 ls (st.map (s_vc G)))) T hT X
    have hx := C.1
    have hb := C.2.1
    have hml := C.2.2.1
    have hown := C.2.2.2.1
    have hts := C.2.2.2.2.1
    have hcat : ((List.map (s_vc G) (st.drop (s_na r2))).map fun v => v.category).sum ≤ 8 := by rw [s_cat_sum]; exact c3
    have hlsz : ls.size = s_mL r := by rw [hL.1, hlen, hml]
    have hpre : ∀ U : State, U.heap = H → s.WarmedH U.vm → s_Pc S G (st.take (s_na r2)).reverse h ((st.take (s_na r2)).reverse.map (s_vc G)).toArray U := fun U hU hWm =>
      ⟨rfl, s_In_moved NW hWm (fun a ha hna => by rw [hU]; exact hS.2.1 a ha hna) hI, by rw [hU]; exact hW, by rw [hU]; exact hsize⟩
    have hfit : h.2.2.length - N0 + (o1.2.2.2.length - h.2.2.length) ≤ R.cells ∧ s_sz S h.2.2 - M0 + (s_sz S o1.2.2.2 - s_sz S h.2.2) ≤ R.slots := by omega
    have hstk := s_split G st (s_na r2)
    unfold s_chk at hck
    simp only [Bool.and_eq_true, decide_eq_true_eq, Bool.or_eq_true] at hck
    obtain ⟨⟨⟨⟨⟨hdg, hln⟩, hw1⟩, hw2⟩, hsd⟩, hso⟩ := hck
    have hw := s_wds_in hw1 hw2
    clear hw1 hw2 hso
    obtain ⟨pc, i, n, idx, pl⟩ := ev
    dsimp only at hdg hln hw hsd hci kk ⊢
    have hlt : (st.take (s_na r2)).reverse.length = s_na r2 := by rw [List.length_reverse, List.length_take]; omega
    generalize hasE : (st.take (s_na r2)).reverse = as at *
    generalize hrsE : st.drop (s_na r2) = rest at *
    cases i with
    | invokevirtual k2 =>
      cases hci
      have hn3 : n = 3 := hln.resolve_left (Nat.succ_ne_zero _)
      subst hn3
      dsimp only at hk2 c4
      dsimp only [s_sd] at hsd
      dsimp only [s_wds, s_wc] at hw
      rw [hk2] at hsd hw
      dsimp only at hsd hw
      obtain ⟨a, cc, as2, rfl, heq, rfl⟩ := s_rc_0 c4
      simp only [s_okc, Bool.and_eq_true, decide_eq_true_eq] at hsd
      obtain ⟨⟨⟨hna, ⟨⟨⟨⟨hf1, hf2⟩, hy1⟩, hy2⟩, hd⟩, -⟩, hcn⟩, hc0⟩ := hsd
      obtain ⟨g1, g2, g3⟩ := s_Wd_len hW heq
      have g4 := g3 (by decide)
      have g5 := s_ws_at S G h g4 g2
      rw [s_cell_o g1] at g5
      obtain ⟨qc, e1, e2, e3, e4⟩ := s_cl_of hc0
      have hrecv := va_recv hI.1 hW.2.1 e1 g5
      rw [← e4, hcn] at hrecv
      refine s_call (o := o1) (rest := rest) (a := ((Value.ref a :: as2).map (s_vc G)).toArray) ?_ hle hN2 hM2 hlen hS hL kk
      exact va_runV (C := (s_y r2).cls) (b := s_ad G a) (As := as2.map (s_vc G)) (rest := rest.map (s_vc G)) (g := F0 m pc ls (st.map (s_vc G))) (Ts := s_TW big) (n := s_na r2 - 1) ⟨hx, hb, hml, hown, hts⟩ Mt (cwV (s_na r2 - 1) hts (s_GI (fun w hq => by
        rcases List.mem_append.mp hq with z | z
        · refine hw w ?_
          simp only [List.mem_cons, List.not_mem_nil, or_false] at z ⊢
          rcases z with z | z | z | z <;> simp [z]
        · rcases List.mem_cons.mp z with z | z
          · refine hw w ?_
            simp [z]
          · exact z)) rfl rfl rfl ⟨rfl, hy1, hy2, hd⟩ ⟨by show s_fr r2 + 1 ≤ _; omega, by show _ + _ + s_lo r2 ≤ _; omega⟩) ⟨s_blind NW _ h, hrecv, hpre⟩ rfl (by rw [List.length_map]; simp only [List.length_cons] at hlt; omega) hlsz (by show st.map (s_vc G) = _; rw [hstk]; simp [s_vc]) (lv_room hcat) hdg hfit
    | invokestatic k2 =>
      cases hci
      have hn3 : n = 3 := hln.resolve_left (Nat.succ_ne_zero _)
      subst hn3
      dsimp only at hk2 c4
      dsimp only [s_sd] at hsd
      dsimp only [s_wds, s_wc] at hw
      rw [hk2] at hsd hw
      dsimp only at hsd hw
      simp only [s_okc, Bool.and_eq_true, decide_eq_true_eq] at hsd
      obtain ⟨⟨⟨⟨⟨hf1, hf2⟩, hy1⟩, hy2⟩, hd⟩, -⟩ := hsd
      refine s_call (o := o1) (rest := rest) (a := (as.map (s_vc G)).toArray) ?_ hle hN2 hM2 hlen hS hL kk
      exact va_runS (As := as.map (s_vc G)) (rest := rest.map (s_vc G)) (g := F0 m pc ls (st.map (s_vc G))) (Ts := s_TW big) (n := s_na r2) ⟨hx, hb, hml, hown, hts⟩ Mt (va_cwS (s_na r2) hts (s_GI (fun w hq => by
            rcases List.mem_append.mp hq with z | z
            · refine hw w ?_
              simp only [List.mem_cons, List.not_mem_nil, or_false] at z ⊢
              rcases z with z | z | z <;> simp [z]
            · rcases List.mem_cons.mp z with z | z
              · refine hw w ?_
                simp [z]
              · exact z)) rfl rfl rfl ⟨hy1, hy2, hd⟩ ⟨by show s_fr r2 + 1 ≤ _; omega, by show _ + _ + s_lo r2 ≤ _; omega⟩) ⟨s_blind NW _ h, hpre⟩ rfl (by rw [List.length_map]; exact hlt) hlsz hstk (lv_room hcat) hdg hfit
    | invokespecial k2 =>
      cases hci
      have hn3 : n = 3 := hln.resolve_left (Nat.succ_ne_zero _)
      subst hn3
      dsimp only at hk2 c4
      dsimp only [s_sd] at hsd
      dsimp only [s_wds, s_wc] at hw
      rw [hk2] at hsd hw
      dsimp only at hsd hw
      obtain ⟨a, as2, rfl⟩ := s_rc_2 (Or.inl c4)
      simp only [s_okc, Bool.and_eq_true, decide_eq_true_eq, Bool.or_eq_true, Bool.not_true, Bool.false_eq_true, false_or] at hsd
      obtain ⟨hna, ⟨⟨⟨⟨hf1, hf2⟩, hy1⟩, hy2⟩, hd⟩, hin1, hin2⟩ := hsd
      rw [hin2] at hw
      have Mt2 : Met l (s_y r2) (.code (s_y r2) (s_b r2) (s_mL r2) none :: s_TW big) (s_rm S r2 h o1.2) (s_Pc S G (.ref a :: as2) h) (s_Qc S G o1) (o1.2.2.2.length - h.2.2.length) (s_sz S o1.2.2.2 - s_sz S h.2.2) (s_A G) := by
        have := Mt
        unfold s_Meets s_wsl at this
        rw [hin2] at this
        exact this
      refine s_call (o := o1) (rest := rest) (a := ((Value.ref a :: as2).map (s_vc G)).toArray) ?_ hle hN2 hM2 hlen hS hL kk
      exact va_runI (b := s_ad G a) (As := as2.map (s_vc G)) (rest := rest.map (s_vc G)) (g := F0 m pc ls (st.map (s_vc G))) (Ts := s_TW big) (n := s_na r2 - 1) ⟨hx, hb, hml, hown, hts⟩ Mt2 (cwI (s_na r2 - 1) hts (s_GI (fun w z => by
          rcases List.mem_cons.mp z with z | z
          · refine hw w ?_
            simp [z]
          · exact z)) rfl rfl rfl (hts _ (hw _ (by simp))) (hts _ (hw _ (by simp))) (hts _ (hw _ (by simp))) hin1 ⟨hy1, hy2, hd⟩ ⟨by show s_fr r2 + 1 ≤ _; omega, by show _ + _ + s_lo r2 ≤ _; omega⟩) ⟨s_blind NW _ h, hpre⟩ rfl (by rw [List.length_map]; simp only [List.length_cons] at hlt; omega) hlsz (by show st.map (s_vc G) = _; rw [hstk]; simp [s_vc]) (lv_room hcat) hdg hfit
    | invokeinterface k2 z2 =>
      cases hci
      have hn3 : n = 3 := hln.resolve_left (Nat.succ_ne_zero _)
      subst hn3
      dsimp only at hk2 c4
      dsimp only [s_sd] at hsd
      dsimp only [s_wds, s_wc] at hw
      rw [hk2] at hsd hw
      dsimp only at hsd hw
      obtain ⟨a, as2, rfl⟩ := s_rc_2 (Or.inr c4)
      simp only [s_okc, Bool.and_eq_true, decide_eq_true_eq, Bool.or_eq_true, Bool.not_true, Bool.false_eq_true, false_or] at hsd
      obtain ⟨⟨hna, ⟨⟨⟨⟨hf1, hf2⟩, hy1⟩, hy2⟩, hd⟩, hin1, hin2⟩, hnw⟩ := hsd
      rw [hin2] at hw
      have Mt2 : Met l (s_y r2) (.code (s_y r2) (s_b r2) (s_mL r2) none :: s_TW big) (s_rm S r2 h o1.2) (s_Pc S G (.ref a :: as2) h) (s_Qc S G o1) (o1.2.2.2.length - h.2.2.length) (s_sz S o1.2.2.2 - s_sz S h.2.2) (s_A G) := by
        have := Mt
        unfold s_Meets s_wsl at this
        rw [hin2] at this
        exact this
      refine s_call (o := o1) (rest := rest) (a := ((Value.ref a :: as2).map (s_vc G)).toArray) ?_ hle hN2 hM2 hlen hS hL kk
      exact va_runIN (host := host) (b := s_ad G a) (As := as2.map (s_vc G)) (rest := rest.map (s_vc G)) (g := F0 m pc ls (st.map (s_vc G))) (Ts := s_TW big) (n := s_na r2 - 1) ⟨hx, hb, hml, hown, hts⟩ Mt2 ⟨va_cnB (s_na r2 - 1) hts (s_GI (fun w z => by
          rcases List.mem_cons.mp z with z | z
          · refine hw w ?_
            simp [z]
          · exact z)) rfl rfl rfl (hI.2.2.2.2 _ hnw) (hts _ (hw _ (by simp))) ⟨hy1, hy2, hd⟩ ⟨by show s_fr r2 + 1 ≤ _; omega, by show _ + _ + s_lo r2 ≤ _; omega⟩, hin1, hts _ (hw _ (by simp))⟩ ⟨s_blind NW _ h, hpre⟩ rfl (by rw [List.length_map]; simp only [List.length_cons] at hlt; omega) hlsz (by show st.map (s_vc G) = _; rw [hstk]; simp [s_vc]) (lv_room hcat) hdg hfit
    | _ => cases hci
  next hci =>
    split at hrun
    next v hrx =>
      cases hrun
      have hdg : decode (s_b r) ev.1 = .ok (ev.2.1, 1) := by
        unfold s_chk at hck
        simp only [Bool.and_eq_true, decide_eq_true_eq, Bool.or_eq_true] at hck
        obtain ⟨⟨⟨⟨⟨hdg, hln⟩, -⟩, -⟩, -⟩, -⟩ := hck
        obtain ⟨pc, i, n, idx, pl⟩ := ev
        dsimp only at hdg hln hrx ⊢
        unfold s_rx at hrx
        split at hrx <;> first
          | (cases hrx; done)
          | (have hn : n = 1 := hln.resolve_left (Nat.succ_ne_zero _)
             subst hn
             exact hdg)
      exact K ev.2.1 ev.1 L st hdg hrx
    next hrx =>
      split at hrun
      · cases hrun
      next q hx1 =>
      have hle2 := s_ext_le (S := S) (s_run_ext _ _ _ _ _ _ _ hrun)
      have hle := s_ext_le (S := S) (s_x_ext hx1)
      have kk := hB p e R s m args below meth c Q k r cn N0 M0 q.1 q.2.1 q.2.2.1 q.2.2.2 o hk C hrun hRf hRl hsz hN (Nat.le_trans hN2 hle.1) (Nat.le_trans hM2 hle.2) hroom K
      exact s_one C SK SD hck hRf hRl hsz hN hN2 hM2 ⟨by omega, by omega⟩ hx1 kk
/-- THE SMALL MACHINE IS RIGHT -/
theorem s_body (FX : s_Fix S MT big host) : ∀ f : Nat, s_BodyAt S G MT big l f
  | 0 => fun p e R s m args below meth c Q k r cn N0 M0 pc L st h o hk C hrun => by cases hrun
  | f + 1 => s_body_succ FX (s_met_of_body FX (s_body FX f)) (s_body FX f)
end BDS
end
