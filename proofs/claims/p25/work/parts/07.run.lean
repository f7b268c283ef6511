/-! A ROW OF A METHOD'S CODE, CHECKED: its decoding, its words, its side conditions -/
abbrev sMT : Type := Nat → Option (sM × Option Nat)
def s_rel (pc idx : Nat) : Instr → Instr
  | .goto t => .goto (t - (pc : Int))
  | .ifCond c t => .ifCond c (t - (pc : Int))
  | .if_icmp c t => .if_icmp c (t - (pc : Int))
  | .ifnull t => .ifnull (t - (pc : Int))
  | .ifnonnull t => .ifnonnull (t - (pc : Int))
  | .tableswitch d lo hi o => .tableswitch (d - (pc : Int)) lo hi (o.map (fun t => t - (pc : Int)))
  | .lookupswitch d o => .lookupswitch (d - (pc : Int)) (o.map fun q => (q.1, q.2 - (pc : Int)))
  | .getfield _ => .getfield idx
  | .putfield _ => .putfield idx
  | .getstatic _ => .getstatic idx
  | .instanceof _ => .getstatic idx
  | .invokevirtual _ => .invokevirtual idx
  | .invokestatic _ => .invokestatic idx
  | .invokespecial _ => .invokespecial idx
  | .invokeinterface _ _ => .invokespecial idx
  | .monitorenter => .invokespecial idx
  | .monitorexit => .invokestatic idx
  | .nop => .invokestatic idx
  | .jsr _ => .invokestatic idx
  | .jsr_w _ => .invokestatic idx
  | .swap => .invokestatic idx
  | .new _ => .new idx
  | .anewarray _ => .anewarray idx
  | .ldc _ => .ldc idx
  | .ldc_w _ => .ldc_w idx
  | .ldc2_w _ => .ldc2_w idx
  | .ret _ => .ldc idx
  | .multianewarray _ _ => .ldc_w idx
  | .putstatic _ => .ldc2_w idx
  | i => i
/-- the length that an instruction has; 0: any -/
def s_ln : Instr → Nat
  | .bipush _ | .ldc _ | .ret _ | .iload _ | .lload _ | .istore _ | .lstore _ | .aload _ | .astore _ | .newarray _ => 2
  | .sipush _ | .ldc_w _ | .ldc2_w _ | .putstatic _ | .multianewarray _ _ | .iinc _ _ | .goto _ | .ifCond _ _ | .if_icmp _ _ | .ifnull _ | .ifnonnull _ | .getfield _ | .putfield _ | .getstatic _ | .instanceof _ => 3
  | .invokevirtual _ | .invokestatic _ | .invokespecial _ | .invokeinterface _ _ | .monitorenter | .monitorexit | .nop | .jsr _ | .jsr_w _ | .swap | .new _ | .anewarray _ => 3
  | .tableswitch _ _ _ _ | .lookupswitch _ _ => 0
  | _ => 1
def s_dl : MethodName := ⟨"java/lang/Double", "doubleToRawLongBits", "(D)J"⟩
def s_fi : MethodName := ⟨"java/lang/Float", "floatToRawIntBits", "(F)I"⟩
def s_wf (S : s_SG) (own : String) (idx ev : Nat) : Jvm.Cond := .fieldLink own idx (s_F S (ev / 1024) (ev % 1024 / 8)).1 (s_F S (ev / 1024) (ev % 1024 / 8)).2.1 (s_F S (ev / 1024) (ev % 1024 / 8)).2.2.1
def s_wc (MT : sMT) (k : Nat) (f : sM → List Jvm.Cond) : List Jvm.Cond := match MT k with
  | some q => f q.1
  | none => []
def s_wds (S : s_SG) (MT : sMT) (own : String) (idx : Nat) : Instr → List Jvm.Cond
  | .getfield ev => [s_wf S own idx ev]
  | .putfield ev => [s_wf S own idx ev]
  | .getstatic j => [.fieldLink own idx (s_sn S j).1 (s_sn S j).2.1 (s_sn S j).2.2]
  | .invokevirtual k => s_wc MT k fun r => [.methodLink own idx (s_y r), .instanceMethod (s_y r), .selects (s_y r).cls (s_y r) (s_y r), .initialized (s_y r).cls, .code (s_y r) (s_b r) (s_mL r) (s_rt r)]
  | .invokestatic k => s_wc MT k fun r => [.methodLink own idx (s_y r), .static (s_y r), .initialized (s_y r).cls, .code (s_y r) (s_b r) (s_mL r) (s_rt r)]
  | .invokespecial k => s_wc MT k fun r => [.methodLink own idx (s_y r), .instanceMethod (s_y r), .initialized (s_y r).cls, .code (s_y r) (s_b r) (s_mL r) (s_rt r)]
  | .invokeinterface k _ => s_wc MT k fun r => [.instanceMethod (s_y r), .initialized (s_y r).cls, .code (s_y r) (s_b r) (s_mL r) (s_rt r)]
  | .monitorenter => [.methodLink own idx Lib.objectInit, .instanceMethod Lib.objectInit, .code Lib.objectInit ⟨#[0xb1]⟩ 1 none]
  | .monitorexit => [.methodLink own idx arraycopyName, .native arraycopyName, .static arraycopyName, .initialized "java/lang/System"]
  | .jsr _ => [.methodLink own idx Lib.Math.max.name, .static Lib.Math.max.name, .initialized "java/lang/Math", .code Lib.Math.max.name Lib.Math.max.code 2 (some .int)]
  | .jsr_w _ => [.methodLink own idx Lib.Math.min.name, .static Lib.Math.min.name, .initialized "java/lang/Math", .code Lib.Math.min.name Lib.Math.min.code 2 (some .int)]
  | .nop => [.methodLink own idx s_dl, .native s_dl, .static s_dl, .initialized "java/lang/Double"]
  | .swap => [.methodLink own idx s_fi, .native s_fi, .static s_fi, .initialized "java/lang/Float"]
  | .new c => [.classLink own idx (s_cn S c), .instantiable (s_cn S c) (s_N S c), .initialized (s_cn S c)]
  | .newarray _ => [.arrayClass .int]
  | .anewarray t => [.classLink own idx (s_cn S t)]
  | .ldc v => [.constant own idx (Int32.ofNat v)]
  | .ldc_w v => [.constant own idx (Int32.ofNat v)]
  | .ldc2_w v => [.constantLong own idx (Int64.ofNat v)]
  | .ret v => [.constantFloat own idx (UInt32.ofNat v)]
  | .multianewarray v _ => [.constantFloat own idx (UInt32.ofNat v)]
  | .putstatic v => [.constantDouble own idx (UInt64.ofNat v)]
  | _ => []
def s_rfT : FieldType → Bool
  | .object _ => true
  | .array _ => true
  | _ => false
/-- may r call r2 (as: how many arguments beside the receiver) -/
def s_okc (r r2 : sM) (init : Bool) (n : Nat) : Bool := decide (s_fr r2 + 1 ≤ s_fr r) && decide (8 + (s_mL r2 + 11) + s_lo r2 ≤ s_lo r) && decide ((s_y r2).cls ≠ "java/lang/invoke/MethodHandle") && decide ((s_y r2).cls ≠ "java/lang/invoke/VarHandle") && decide ((parseMethodDescriptor (s_y r2).desc).map (fun d => d.parameters.length) = some n) && (!init || (decide ((s_y r2).name = "<init>") && decide (s_rt r2 = none)))
def s_sd (S : s_SG) (MT : sMT) (host : String) (r : sM) (idx : Nat) : Instr → Bool
  | .goto t | .ifCond _ t | .if_icmp _ t | .ifnull t | .ifnonnull t => decide (0 ≤ t)
  | .tableswitch d _ _ o => decide (0 ≤ d) && o.toList.all (fun t => decide (0 ≤ t))
  | .lookupswitch d o => decide (0 ≤ d) && o.toList.all (fun t => decide (0 ≤ t.2))
  | .getfield ev => decide (ev % 1024 / 8 < s_N S (ev / 1024)) && decide (ev % 8 = s_kd (s_ty S (ev / 1024) (ev % 1024 / 8)))
  | .putfield ev => decide (ev % 1024 / 8 < s_N S (ev / 1024)) && decide (ev % 8 = s_kd (s_ty S (ev / 1024) (ev % 1024 / 8))) && (decide (ev % 8 ≠ 2) || s_rfT (s_ty S (ev / 1024) (ev % 1024 / 8))) && (!(s_F S (ev / 1024) (ev % 1024 / 8)).2.2.2 || (decide ((s_y r).name = "<init>") && decide ((s_F S (ev / 1024) (ev % 1024 / 8)).1 = (s_y r).cls)))
  | .getstatic j => decide (j < s_ns S)
  | .instanceof j => decide (j < s_ns S) && decide (Jvm.Cond.fieldLinkNest (s_y r).cls idx (s_sn S j).1 (s_sn S j).2.1 (s_sn S j).2.2 host ∈ s_nw S)
  | .new c => decide (0 < s_N S c)
  | .anewarray t => decide (t ∈ s_rk S) && decide (Jvm.Cond.arrayOver (.object (s_cn S t)) ∈ s_nw S)
  | .newarray a => decide (a = .int)
  | .monitorenter | .monitorexit | .nop | .jsr _ | .jsr_w _ | .swap => decide (1 ≤ s_fr r) && decide (26 ≤ s_lo r)
  | .invokevirtual k => (match MT k with
    | some (r2, some c) => decide (s_na r2 = s_na r2 - 1 + 1) && s_okc r r2 false (s_na r2 - 1) && decide (s_cn S c = (s_y r2).cls) && decide (0 < s_N S c)
    | _ => false)
  | .invokestatic k => (match MT k with
    | some (r2, _) => s_okc r r2 false (s_na r2)
    | _ => false)
  | .invokespecial k => (match MT k with
    | some (r2, _) => decide (s_na r2 = s_na r2 - 1 + 1) && s_okc r r2 true (s_na r2 - 1)
    | _ => false)
  | .invokeinterface k _ => (match MT k with
    | some (r2, _) => decide (s_na r2 = s_na r2 - 1 + 1) && s_okc r r2 true (s_na r2 - 1) && decide (Jvm.Cond.methodLinkNest (s_y r).cls idx (s_y r2) host ∈ s_nw S)
    | _ => false)
  | _ => true
def s_so (pc : Nat) : Instr → Bool
  | .lookupswitch _ o => ((o.map fun q => (q.1, q.2 - (pc : Int))).toList.zip ((o.map fun q => (q.1, q.2 - (pc : Int))).toList.drop 1)).all (fun (a, next) => a.1 < next.1)
  | _ => true
def s_chk (S : s_SG) (MT : sMT) (big : List Jvm.Cond) (host : String) (r : sM) (e : sE) : Bool :=
  decide (decode (s_b r) e.1 = .ok (s_rel e.1 e.2.2.2.1 e.2.1, e.2.2.1)) && (decide (s_ln e.2.1 = 0) || decide (e.2.2.1 = s_ln e.2.1)) && decide ((s_wds S MT (s_y r).cls e.2.2.2.1 e.2.1).map some = e.2.2.2.2.map (fun i => big[i]?)) && (s_wds S MT (s_y r).cls e.2.2.2.1 e.2.1).all goodWord && s_sd S MT host r e.2.2.2.1 e.2.1 && s_so e.1 e.2.1
/-- every row of every method is checked -/
def s_Chk (S : s_SG) (MT : sMT) (big : List Jvm.Cond) (host : String) : Prop := ∀ (k : Nat) (r : sM) (cn : Option Nat), MT k = some (r, cn) → (∀ e ∈ s_cd r, s_chk S MT big host r e = true) ∧ plainFor (s_y r) = true ∧ (∀ c, cn = some c → s_cn S c = (s_y r).cls ∧ 0 < s_N S c)
def s_TW (big : List Jvm.Cond) : List Jvm.Cond := big.filter goodWord
theorem s_TW_good (big : List Jvm.Cond) : ∀ w ∈ s_TW big, goodWord w = true := fun w h => (List.mem_filter.mp h).2
theorem s_wds_in {S : s_SG} {MT : sMT} {big : List Jvm.Cond} {own : String} {idx : Nat} {i : Instr} {pl : List Nat} (h1 : (s_wds S MT own idx i).map some = pl.map (fun i => big[i]?)) (h2 : (s_wds S MT own idx i).all goodWord = true) : ∀ w ∈ s_wds S MT own idx i, w ∈ s_TW big := by
  intro w hw
  refine List.mem_filter.mpr ⟨?_, List.all_eq_true.mp h2 w hw⟩
  have : some w ∈ pl.map (fun i => big[i]?) := by
    rw [← h1]
    exact List.mem_map.mpr ⟨w, hw, rfl⟩
  obtain ⟨j, -, hj⟩ := List.mem_map.mp this
  exact List.mem_of_getElem? hj
/-- what else the classes must show -/
def s_SD (S : s_SG) : Prop := (∀ t ∈ s_rk S, 0 < s_N S t) ∧ (∀ c k, k < s_N S c → defaultValue (s_ty S c k) = if s_kd (s_ty S c k) = 2 then .null else .int 0)
section RNS
variable {p : Program} {l : Launch} {e : Env} {R : Room} {s : State} {m : MethodId} {args : Array Value} {below : List Frame} {meth : Method} {c : Code} {Q : State → Prop}
variable {S : s_SG} {G : s_DG} {MT : sMT} {big : List Jvm.Cond} {host : String} {r : sM} {N0 M0 : Nat} {L st : List Value} {h : sHp} {q : sC}
theorem s_mem1 {a : Jvm.Cond} {l : List Jvm.Cond} : a ∈ a :: l := List.mem_cons_self
/-- ONE STEP -/
theorem s_one {ev : sE} (C : s_Cx S G (s_TW big) p s m args meth c r) (SK : s_SOK S (s_TW big)) (SD : s_SD S) (hck : s_chk S MT big host r ev = true) (hRf : s_fr r ≤ R.frames) (hRl : s_lo r ≤ R.locals) (hsz : s.heap.size = s_B G + (N0 - 4)) (hN : 4 ≤ N0) (hN2 : N0 ≤ h.2.2.length) (hM2 : M0 ≤ s_sz S h.2.2) (hroom : q.2.2.2.2.2.length - N0 ≤ R.cells ∧ s_sz S q.2.2.2.2.2 - M0 ≤ R.slots)
    (hs : s_x ev.2.1 ev.1 ev.2.2.1 L st h = some q) (k : s_W S G p l e R s m args below meth c Q N0 M0 q.1 q.2.1 q.2.2.1 q.2.2.2) : s_W S G p l e R s m args below meth c Q N0 M0 ev.1 L st h := by
  obtain ⟨pc, i, n, idx, pl⟩ := ev
  unfold s_chk at hck
  simp only [Bool.and_eq_true, decide_eq_true_eq, Bool.or_eq_true] at hck
  obtain ⟨⟨⟨⟨⟨hdg, hln⟩, hw1⟩, hw2⟩, hsd⟩, hso⟩ := hck
  have hw := s_wds_in hw1 hw2
  have hts := C.2.2.2.2.1
  have hI := C.2.2.2.2.2.1
  clear hw1 hw2
  dsimp only at hs hdg hln hw hsd hso ⊢
  cases i with
  | iconst v => exact s_d_iconst C hdg (hln.resolve_left (Nat.succ_ne_zero _)) hs k
  | bipush v => exact s_d_bipush C hdg (hln.resolve_left (Nat.succ_ne_zero _)) hs k
  | sipush v => exact s_d_sipush C hdg (hln.resolve_left (Nat.succ_ne_zero _)) hs k
  | ldc v => exact s_d_ldc C (hts _ (hw _ s_mem1)) hdg (hln.resolve_left (Nat.succ_ne_zero _)) hs k
  | ldc_w v => exact s_d_ldcw C (hts _ (hw _ s_mem1)) hdg (hln.resolve_left (Nat.succ_ne_zero _)) hs k
  | ldc2_w v => exact s_d_ldc2 C (hts _ (hw _ s_mem1)) hdg (hln.resolve_left (Nat.succ_ne_zero _)) hs k
  | ret v => exact s_d_ldcf C (hts _ (hw _ s_mem1)) hdg (hln.resolve_left (Nat.succ_ne_zero _)) hs k
  | multianewarray v z => exact s_d_ldcwf C (hts _ (hw _ s_mem1)) hdg (hln.resolve_left (Nat.succ_ne_zero _)) hs k
  | putstatic v => exact s_d_ldc2d C (hts _ (hw _ s_mem1)) hdg (hln.resolve_left (Nat.succ_ne_zero _)) hs k
  | lconst v => exact s_d_lconst C hdg (hln.resolve_left (Nat.succ_ne_zero _)) hs k
  | fconst v => exact s_d_fconst C hdg (hln.resolve_left (Nat.succ_ne_zero _)) hs k
  | dconst v => exact s_d_dconst C hdg (hln.resolve_left (Nat.succ_ne_zero _)) hs k
  | aconst_null => exact s_d_null C hdg (hln.resolve_left (Nat.succ_ne_zero _)) hs k
  | iload_n v => exact s_d_iload_n C hdg (hln.resolve_left (Nat.succ_ne_zero _)) hs k
  | iload v => exact s_d_iload C hdg (hln.resolve_left (Nat.succ_ne_zero _)) hs k
  | lload_n v => exact s_d_lload_n C hdg (hln.resolve_left (Nat.succ_ne_zero _)) hs k
  | lload v => exact s_d_lload C hdg (hln.resolve_left (Nat.succ_ne_zero _)) hs k
  | fload_n v => exact s_d_fload_n C hdg (hln.resolve_left (Nat.succ_ne_zero _)) hs k
  | dload_n v => exact s_d_dload_n C hdg (hln.resolve_left (Nat.succ_ne_zero _)) hs k
  | aload_n v => exact s_d_aload_n C hdg (hln.resolve_left (Nat.succ_ne_zero _)) hs k
  | aload v => exact s_d_aload C hdg (hln.resolve_left (Nat.succ_ne_zero _)) hs k
  | istore_n v => exact s_d_istore_n C hdg (hln.resolve_left (Nat.succ_ne_zero _)) hs k
  | istore v => exact s_d_istore C hdg (hln.resolve_left (Nat.succ_ne_zero _)) hs k
  | fstore_n v => exact s_d_fstore_n C hdg (hln.resolve_left (Nat.succ_ne_zero _)) hs k
  | lstore_n v => exact s_d_lstore_n C hdg (hln.resolve_left (Nat.succ_ne_zero _)) hs k
  | lstore v => exact s_d_lstore C hdg (hln.resolve_left (Nat.succ_ne_zero _)) hs k
  | dstore_n v => exact s_d_dstore_n C hdg (hln.resolve_left (Nat.succ_ne_zero _)) hs k
  | astore_n v => exact s_d_astore_n C hdg (hln.resolve_left (Nat.succ_ne_zero _)) hs k
  | astore v => exact s_d_astore C hdg (hln.resolve_left (Nat.succ_ne_zero _)) hs k
  | iinc v w => exact s_d_iinc C hdg (hln.resolve_left (Nat.succ_ne_zero _)) hs k
  | dup => exact s_d_dup C hdg (hln.resolve_left (Nat.succ_ne_zero _)) hs k
  | pop => exact s_d_pop C hdg (hln.resolve_left (Nat.succ_ne_zero _)) hs k
  | dup2 => exact s_d_dup2 C hdg (hln.resolve_left (Nat.succ_ne_zero _)) hs k
  | iadd => exact s_d_iadd C hdg (hln.resolve_left (Nat.succ_ne_zero _)) hs k
  | isub => exact s_d_isub C hdg (hln.resolve_left (Nat.succ_ne_zero _)) hs k
  | imul => exact s_d_imul C hdg (hln.resolve_left (Nat.succ_ne_zero _)) hs k
  | iand => exact s_d_iand C hdg (hln.resolve_left (Nat.succ_ne_zero _)) hs k
  | ior => exact s_d_ior C hdg (hln.resolve_left (Nat.succ_ne_zero _)) hs k
  | ishl => exact s_d_ishl C hdg (hln.resolve_left (Nat.succ_ne_zero _)) hs k
  | ishr => exact s_d_ishr C hdg (hln.resolve_left (Nat.succ_ne_zero _)) hs k
  | idiv => exact s_d_idiv C hdg (hln.resolve_left (Nat.succ_ne_zero _)) hs k
  | irem => exact s_d_irem C hdg (hln.resolve_left (Nat.succ_ne_zero _)) hs k
  | ladd => exact s_d_ladd C hdg (hln.resolve_left (Nat.succ_ne_zero _)) hs k
  | lsub => exact s_d_lsub C hdg (hln.resolve_left (Nat.succ_ne_zero _)) hs k
  | land => exact s_d_land C hdg (hln.resolve_left (Nat.succ_ne_zero _)) hs k
  | lor => exact s_d_lor C hdg (hln.resolve_left (Nat.succ_ne_zero _)) hs k
  | lshl => exact s_d_lshl C hdg (hln.resolve_left (Nat.succ_ne_zero _)) hs k
  | lushr => exact s_d_lushr C hdg (hln.resolve_left (Nat.succ_ne_zero _)) hs k
  | i2l => exact s_d_i2l C hdg (hln.resolve_left (Nat.succ_ne_zero _)) hs k
  | l2i => exact s_d_l2i C hdg (hln.resolve_left (Nat.succ_ne_zero _)) hs k
  | i2f => exact s_d_i2f C hdg (hln.resolve_left (Nat.succ_ne_zero _)) hs k
  | i2d => exact s_d_i2d C hdg (hln.resolve_left (Nat.succ_ne_zero _)) hs k
  | l2d => exact s_d_l2d C hdg (hln.resolve_left (Nat.succ_ne_zero _)) hs k
  | d2l => exact s_d_d2l C hdg (hln.resolve_left (Nat.succ_ne_zero _)) hs k
  | f2i => exact s_d_f2i C hdg (hln.resolve_left (Nat.succ_ne_zero _)) hs k
  | lcmp => exact s_d_lcmp C hdg (hln.resolve_left (Nat.succ_ne_zero _)) hs k
  | fcmp v => exact s_d_fcmp C hdg (hln.resolve_left (Nat.succ_ne_zero _)) hs k
  | dcmp v => exact s_d_dcmp C hdg (hln.resolve_left (Nat.succ_ne_zero _)) hs k
  | fsub => exact s_d_fsub C hdg (hln.resolve_left (Nat.succ_ne_zero _)) hs k
  | fmul => exact s_d_fmul C hdg (hln.resolve_left (Nat.succ_ne_zero _)) hs k
  | fdiv => exact s_d_fdiv C hdg (hln.resolve_left (Nat.succ_ne_zero _)) hs k
  | dsub => exact s_d_dsub C hdg (hln.resolve_left (Nat.succ_ne_zero _)) hs k
  | dmul => exact s_d_dmul C hdg (hln.resolve_left (Nat.succ_ne_zero _)) hs k
  | ddiv => exact s_d_ddiv C hdg (hln.resolve_left (Nat.succ_ne_zero _)) hs k
  | drem => exact s_d_drem C hdg (hln.resolve_left (Nat.succ_ne_zero _)) hs k
  | ifCond cd v =>
    have hv : 0 ≤ v := of_decide_eq_true hsd
    cases cd with
    | eq => exact s_d_if_eq C hv hdg (hln.resolve_left (Nat.succ_ne_zero _)) hs k
    | ne => exact s_d_if_ne C hv hdg (hln.resolve_left (Nat.succ_ne_zero _)) hs k
    | lt => exact s_d_if_lt C hv hdg (hln.resolve_left (Nat.succ_ne_zero _)) hs k
    | ge => exact s_d_if_ge C hv hdg (hln.resolve_left (Nat.succ_ne_zero _)) hs k
    | gt => exact s_d_if_gt C hv hdg (hln.resolve_left (Nat.succ_ne_zero _)) hs k
    | le => exact s_d_if_le C hv hdg (hln.resolve_left (Nat.succ_ne_zero _)) hs k
  | if_icmp cd v =>
    have hv : 0 ≤ v := of_decide_eq_true hsd
    cases cd with
    | eq => exact s_d_icmp_eq C hv hdg (hln.resolve_left (Nat.succ_ne_zero _)) hs k
    | ne => exact s_d_icmp_ne C hv hdg (hln.resolve_left (Nat.succ_ne_zero _)) hs k
    | lt => exact s_d_icmp_lt C hv hdg (hln.resolve_left (Nat.succ_ne_zero _)) hs k
    | ge => exact s_d_icmp_ge C hv hdg (hln.resolve_left (Nat.succ_ne_zero _)) hs k
    | gt => exact s_d_icmp_gt C hv hdg (hln.resolve_left (Nat.succ_ne_zero _)) hs k
    | le => exact s_d_icmp_le C hv hdg (hln.resolve_left (Nat.succ_ne_zero _)) hs k
  | ifnull v => exact s_d_ifnull C (of_decide_eq_true hsd) hdg (hln.resolve_left (Nat.succ_ne_zero _)) hs k
  | ifnonnull v => exact s_d_ifnonnull C (of_decide_eq_true hsd) hdg (hln.resolve_left (Nat.succ_ne_zero _)) hs k
  | goto v => exact s_d_goto C (of_decide_eq_true hsd) hdg (hln.resolve_left (Nat.succ_ne_zero _)) hs k
  | tableswitch d lo hi o =>
    simp only [s_sd, Bool.and_eq_true, decide_eq_true_eq, List.all_eq_true] at hsd
    exact s_d_table C hsd.1 hsd.2 hdg hs k
  | lookupswitch d o =>
    simp only [s_sd, Bool.and_eq_true, decide_eq_true_eq, List.all_eq_true] at hsd
    exact s_d_look C hsd.1 hsd.2 hso hdg hs k
  | getfield ev =>
    simp only [s_sd, Bool.and_eq_true, decide_eq_true_eq] at hsd
    exact s_d_get C SK hsd.1 hsd.2 (hts _ (hw _ s_mem1)) hdg (hln.resolve_left (Nat.succ_ne_zero _)) hs k
  | putfield ev =>
    simp only [s_sd, Bool.and_eq_true, decide_eq_true_eq, Bool.or_eq_true, Bool.not_eq_true'] at hsd
    refine s_d_put C SK hsd.1.1.1 hsd.1.1.2 (fun h2 => ?_) (fun hf => ?_) (hts _ (hw _ s_mem1)) hdg (hln.resolve_left (Nat.succ_ne_zero _)) hs k
    · have h3 := hsd.1.2.resolve_left (fun z => z h2)
      cases ht : s_ty S (ev / 1024) (ev % 1024 / 8) with
      | object nm => exact ⟨nm, Or.inl rfl⟩
      | array t => exact ⟨"", Or.inr ⟨t, rfl⟩⟩
      | _ => rw [ht] at h3; cases h3
    · exact hsd.2.resolve_left (fun z => by rw [hf] at z; cases z)
  | getstatic j => exact s_d_gets C (of_decide_eq_true hsd) (hts _ (hw _ s_mem1)) hdg (hln.resolve_left (Nat.succ_ne_zero _)) hs k
  | instanceof j =>
    simp only [s_sd, Bool.and_eq_true, decide_eq_true_eq] at hsd
    exact s_d_getsN C hsd.1 (hI.2.2.2.2 _ hsd.2) hdg (hln.resolve_left (Nat.succ_ne_zero _)) hs k
  | arraylength => exact s_d_alen C hdg (hln.resolve_left (Nat.succ_ne_zero _)) hs k
  | iaload => exact s_d_iald C hdg (hln.resolve_left (Nat.succ_ne_zero _)) hs k
  | iastore => exact s_d_iast C hdg (hln.resolve_left (Nat.succ_ne_zero _)) hs k
  | aaload => exact s_d_aald C hdg (hln.resolve_left (Nat.succ_ne_zero _)) hs k
  | aastore => exact s_d_aast C SD.1 hdg (hln.resolve_left (Nat.succ_ne_zero _)) hs k
  | new ci =>
    exact s_d_new C SK (SD.2 ci) (of_decide_eq_true hsd) hsz hN hN2 hM2 hroom (hts _ (hw _ s_mem1)) (hts _ (hw _ (List.mem_cons_of_mem _ s_mem1))) (hts _ (hw _ (List.mem_cons_of_mem _ (List.mem_cons_of_mem _ s_mem1)))) hdg (hln.resolve_left (Nat.succ_ne_zero _)) hs k
  | newarray a =>
    have ha : a = .int := of_decide_eq_true hsd
    subst ha
    exact s_d_newa C hsz hN hN2 hM2 hroom (hts _ (hw _ s_mem1)) hdg (hln.resolve_left (Nat.succ_ne_zero _)) hs k
  | anewarray t =>
    simp only [s_sd, Bool.and_eq_true, decide_eq_true_eq] at hsd
    exact s_d_newq C hsd.1 hsz hN hN2 hM2 hroom (hts _ (hw _ s_mem1)) (hI.2.2.2.2 _ hsd.2) hdg (hln.resolve_left (Nat.succ_ne_zero _)) hs k
  | monitorenter =>
    simp only [s_sd, Bool.and_eq_true, decide_eq_true_eq] at hsd
    exact s_d_obj C (by omega) (by omega) (hts _ (hw _ s_mem1)) (hts _ (hw _ (List.mem_cons_of_mem _ s_mem1))) (hts _ (hw _ (List.mem_cons_of_mem _ (List.mem_cons_of_mem _ s_mem1)))) hdg (hln.resolve_left (Nat.succ_ne_zero _)) hs k
  | monitorexit =>
    simp only [s_sd, Bool.and_eq_true, decide_eq_true_eq] at hsd
    exact s_d_acpy C (by omega) (by omega) (hts _ (hw _ s_mem1)) (hts _ (hw _ (List.mem_cons_of_mem _ s_mem1))) (hts _ (hw _ (List.mem_cons_of_mem _ (List.mem_cons_of_mem _ s_mem1)))) (hts _ (hw _ (List.mem_cons_of_mem _ (List.mem_cons_of_mem _ (List.mem_cons_of_mem _ s_mem1))))) hdg (hln.resolve_left (Nat.succ_ne_zero _)) hs k
  | jsr z =>
    simp only [s_sd, Bool.and_eq_true, decide_eq_true_eq] at hsd
    exact s_d_mmax C (by omega) (by omega) hroom (hts _ (hw _ s_mem1)) (hts _ (hw _ (List.mem_cons_of_mem _ s_mem1))) (hts _ (hw _ (List.mem_cons_of_mem _ (List.mem_cons_of_mem _ s_mem1)))) (hts _ (hw _ (List.mem_cons_of_mem _ (List.mem_cons_of_mem _ (List.mem_cons_of_mem _ s_mem1))))) hdg (hln.resolve_left (Nat.succ_ne_zero _)) hs k
  | jsr_w z =>
    simp only [s_sd, Bool.and_eq_true, decide_eq_true_eq] at hsd
    exact s_d_mmin C (by omega) (by omega) hroom (hts _ (hw _ s_mem1)) (hts _ (hw _ (List.mem_cons_of_mem _ s_mem1))) (hts _ (hw _ (List.mem_cons_of_mem _ (List.mem_cons_of_mem _ s_mem1)))) (hts _ (hw _ (List.mem_cons_of_mem _ (List.mem_cons_of_mem _ (List.mem_cons_of_mem _ s_mem1))))) hdg (hln.resolve_left (Nat.succ_ne_zero _)) hs k
  | nop =>
    simp only [s_sd, Bool.and_eq_true, decide_eq_true_eq] at hsd
    exact s_d_d2r C (by omega) (by omega) (hts _ (hw _ s_mem1)) (hts _ (hw _ (List.mem_cons_of_mem _ s_mem1))) (hts _ (hw _ (List.mem_cons_of_mem _ (List.mem_cons_of_mem _ s_mem1)))) (hts _ (hw _ (List.mem_cons_of_mem _ (List.mem_cons_of_mem _ (List.mem_cons_of_mem _ s_mem1))))) hdg (hln.resolve_left (Nat.succ_ne_zero _)) hs k
  | swap =>
    simp only [s_sd, Bool.and_eq_true, decide_eq_true_eq] at hsd
    exact s_d_f2r C (by omega) (by omega) (hts _ (hw _ s_mem1)) (hts _ (hw _ (List.mem_cons_of_mem _ s_mem1))) (hts _ (hw _ (List.mem_cons_of_mem _ (List.mem_cons_of_mem _ s_mem1)))) (hts _ (hw _ (List.mem_cons_of_mem _ (List.mem_cons_of_mem _ (List.mem_cons_of_mem _ s_mem1))))) hdg (hln.resolve_left (Nat.succ_ne_zero _)) hs k
  | _ => cases hs
end RNS
