/-! ONE INSTRUCTION: what the small machine does, the real one does -/
def s_Cx (S : s_SG) (G : s_DG) (TW : List Jvm.Cond) (p : Program) (s : State) (m : MethodId) (args : Array Value) (meth : Method) (c : Code) (r : sM) : Prop :=
  p.tables.exec = Jvm.exec ∧ c.code = s_b r ∧ c.maxLocals = s_mL r ∧ s.vm.findClass (s_y r).cls = some m.cls ∧ (∀ w ∈ TW, w.before args s = true) ∧ s_In S G s ∧ ((s_y r).name = "<init>" → meth.name = "<init>")
/-- what is fixed of the classes -/
def s_SOK (S : s_SG) (TW : List Jvm.Cond) : Prop := ∀ (c : Nat) (q : vw_C), (s_cl S)[c]? = some q → (∀ w ∈ u_ws q.1 q.2.1 q.2.2, w ∈ TW) ∧ (∀ k : Nat, k < q.2.2 → parseFieldDescriptor (q.2.1 k).2.2.1 = some (s_ty S c k)) ∧ (∀ a : Nat, a < q.2.2 → ∀ b : Nat, b < q.2.2 → a ≠ b → (q.2.1 a).2.1 ≠ (q.2.1 b).2.1)
section STP
variable {p : Program} {l : Launch} {e : Env} {R : Room} {s : State} {m : MethodId} {args : Array Value} {below : List Frame} {meth : Method} {c : Code} {Q : State → Prop}
variable {S : s_SG} {G : s_DG} {TW : List Jvm.Cond} {r : sM} {N0 M0 pc n idx : Nat} {L st : List Value} {h : sHp} {q : sC}
def s_W (S : s_SG) (G : s_DG) (p : Program) (l : Launch) (e : Env) (R : Room) (s : State) (m : MethodId) (args : Array Value) (below : List Frame) (meth : Method) (c : Code) (Q : State → Prop) (N0 M0 : Nat) (pc : Nat) (L st : List Value) (h : sHp) : Prop :=
  L.length = c.maxLocals → ∀ (H : Heap) (locs : List Loc) (ls : Array Slot), s_Wd S G h H → va_S (s_A G) s.heap H locs → s_LR G ls L → W p l e R s m args below meth c H locs (h.2.2.length - N0) (s_sz S h.2.2 - M0) Q (F0 m pc ls (st.map (s_vc G)))
theorem s_put1_len (L : List Value) (i : Nat) (v : Value) : (s_put1 L i v).length = L.length := by simp [s_put1, s_cut_len]
theorem s_put2_len (L : List Value) (i : Nat) (v : Value) : (s_put2 L i v).length = L.length := by simp [s_put2, s_cut_len]
theorem s_vp_in {i : Int32} {k : Nat} (hq : ¬ s_outb i k = true) : vp_in i k := by
  intro h
  apply hq
  unfold s_outb
  rcases h with h | h
  · simp [h]
  · simp [Nat.ble_eq, h]
theorem s_d_iconst {v : Int} (C : s_Cx S G TW p s m args meth c r) (hdg : decode (s_b r) pc = .ok (.iconst v, n)) (hn : n = 1) (hs : s_x (.iconst v) pc n L st h = some q) (k : s_W S G p l e R s m args below meth c Q N0 M0 q.1 q.2.1 q.2.2.1 q.2.2.2) : s_W S G p l e R s m args below meth c Q N0 M0 pc L st h := by
  obtain ⟨hx, hb, hml, hown, hts, hI, hini⟩ := C
  subst hn
  cases hs
  intro hlen H locs ls hW hS hL
  exact lv_iconst hx hb hdg rfl (k hlen H locs ls hW hS hL)
theorem s_d_bipush {v : Int} (C : s_Cx S G TW p s m args meth c r) (hdg : decode (s_b r) pc = .ok (.bipush v, n)) (hn : n = 2) (hs : s_x (.bipush v) pc n L st h = some q) (k : s_W S G p l e R s m args below meth c Q N0 M0 q.1 q.2.1 q.2.2.1 q.2.2.2) : s_W S G p l e R s m args below meth c Q N0 M0 pc L st h := by
  obtain ⟨hx, hb, hml, hown, hts, hI, hini⟩ := C
  subst hn
  cases hs
  intro hlen H locs ls hW hS hL
  exact lv_bipush hx hb hdg rfl (k hlen H locs ls hW hS hL)
theorem s_d_sipush {v : Int} (C : s_Cx S G TW p s m args meth c r) (hdg : decode (s_b r) pc = .ok (.sipush v, n)) (hn : n = 3) (hs : s_x (.sipush v) pc n L st h = some q) (k : s_W S G p l e R s m args below meth c Q N0 M0 q.1 q.2.1 q.2.2.1 q.2.2.2) : s_W S G p l e R s m args below meth c Q N0 M0 pc L st h := by
  obtain ⟨hx, hb, hml, hown, hts, hI, hini⟩ := C
  subst hn
  cases hs
  intro hlen H locs ls hW hS hL
  exact lv_sipush hx hb hdg rfl (k hlen H locs ls hW hS hL)
theorem s_d_lconst {v : Fin 2} (C : s_Cx S G TW p s m args meth c r) (hdg : decode (s_b r) pc = .ok (.lconst v, n)) (hn : n = 1) (hs : s_x (.lconst v) pc n L st h = some q) (k : s_W S G p l e R s m args below meth c Q N0 M0 q.1 q.2.1 q.2.2.1 q.2.2.2) : s_W S G p l e R s m args below meth c Q N0 M0 pc L st h := by
  obtain ⟨hx, hb, hml, hown, hts, hI, hini⟩ := C
  subst hn
  cases hs
  intro hlen H locs ls hW hS hL
  exact lv_lconst hx hb hdg rfl (k hlen H locs ls hW hS hL)
theorem s_d_null (C : s_Cx S G TW p s m args meth c r) (hdg : decode (s_b r) pc = .ok (.aconst_null, n)) (hn : n = 1) (hs : s_x (.aconst_null) pc n L st h = some q) (k : s_W S G p l e R s m args below meth c Q N0 M0 q.1 q.2.1 q.2.2.1 q.2.2.2) : s_W S G p l e R s m args below meth c Q N0 M0 pc L st h := by
  obtain ⟨hx, hb, hml, hown, hts, hI, hini⟩ := C
  subst hn
  cases hs
  intro hlen H locs ls hW hS hL
  exact lv_null hx hb hdg (k hlen H locs ls hW hS hL)
theorem s_d_ldc {v : Nat} (C : s_Cx S G TW p s m args meth c r) (hw : (Jvm.Cond.constant (s_y r).cls idx (Int32.ofNat v)).before args s = true) (hdg : decode (s_b r) pc = .ok (.ldc idx, n)) (hn : n = 2) (hs : s_x (.ldc v) pc n L st h = some q) (k : s_W S G p l e R s m args below meth c Q N0 M0 q.1 q.2.1 q.2.2.1 q.2.2.2) : s_W S G p l e R s m args below meth c Q N0 M0 pc L st h := by
  obtain ⟨hx, hb, hml, hown, hts, hI, hini⟩ := C
  subst hn
  cases hs
  intro hlen H locs ls hW hS hL
  exact lv_ldc hx hb hown hw hdg (k hlen H locs ls hW hS hL)
theorem s_d_ldcw {v : Nat} (C : s_Cx S G TW p s m args meth c r) (hw : (Jvm.Cond.constant (s_y r).cls idx (Int32.ofNat v)).before args s = true) (hdg : decode (s_b r) pc = .ok (.ldc_w idx, n)) (hn : n = 3) (hs : s_x (.ldc_w v) pc n L st h = some q) (k : s_W S G p l e R s m args below meth c Q N0 M0 q.1 q.2.1 q.2.2.1 q.2.2.2) : s_W S G p l e R s m args below meth c Q N0 M0 pc L st h := by
  obtain ⟨hx, hb, hml, hown, hts, hI, hini⟩ := C
  subst hn
  cases hs
  intro hlen H locs ls hW hS hL
  exact lv_ldcw hx hb hown hw hdg (k hlen H locs ls hW hS hL)
theorem s_d_ldc2 {v : Nat} (C : s_Cx S G TW p s m args meth c r) (hw : (Jvm.Cond.constantLong (s_y r).cls idx (Int64.ofNat v)).before args s = true) (hdg : decode (s_b r) pc = .ok (.ldc2_w idx, n)) (hn : n = 3) (hs : s_x (.ldc2_w v) pc n L st h = some q) (k : s_W S G p l e R s m args below meth c Q N0 M0 q.1 q.2.1 q.2.2.1 q.2.2.2) : s_W S G p l e R s m args below meth c Q N0 M0 pc L st h := by
  obtain ⟨hx, hb, hml, hown, hts, hI, hini⟩ := C
  subst hn
  cases hs
  intro hlen H locs ls hW hS hL
  exact lv_ldc2 hx hb hown hw hdg (k hlen H locs ls hW hS hL)
theorem s_d_ldcf {v : Nat} (C : s_Cx S G TW p s m args meth c r) (hw : (Jvm.Cond.constantFloat (s_y r).cls idx (UInt32.ofNat v)).before args s = true) (hdg : decode (s_b r) pc = .ok (.ldc idx, n)) (hn : n = 2) (hs : s_x (.ret v) pc n L st h = some q) (k : s_W S G p l e R s m args below meth c Q N0 M0 q.1 q.2.1 q.2.2.1 q.2.2.2) : s_W S G p l e R s m args below meth c Q N0 M0 pc L st h := by
  obtain ⟨hx, hb, hml, hown, hts, hI, hini⟩ := C
  subst hn
  cases hs
  intro hlen H locs ls hW hS hL
  exact lv_ldcf hx hb hown hw hdg (k hlen H locs ls hW hS hL)
theorem s_d_ldc2d {v : Nat} (C : s_Cx S G TW p s m args meth c r) (hw : (Jvm.Cond.constantDouble (s_y r).cls idx (UInt64.ofNat v)).before args s = true) (hdg : decode (s_b r) pc = .ok (.ldc2_w idx, n)) (hn : n = 3) (hs : s_x (.putstatic v) pc n L st h = some q) (k : s_W S G p l e R s m args below meth c Q N0 M0 q.1 q.2.1 q.2.2.1 q.2.2.2) : s_W S G p l e R s m args below meth c Q N0 M0 pc L st h := by
  obtain ⟨hx, hb, hml, hown, hts, hI, hini⟩ := C
  subst hn
  cases hs
  intro hlen H locs ls hW hS hL
  exact lv_ldc2d hx hb hown hw hdg (k hlen H locs ls hW hS hL)
theorem s_d_fconst {v : Fin 3} (C : s_Cx S G TW p s m args meth c r) (hdg : decode (s_b r) pc = .ok (.fconst v, n)) (hn : n = 1) (hs : s_x (.fconst v) pc n L st h = some q) (k : s_W S G p l e R s m args below meth c Q N0 M0 q.1 q.2.1 q.2.2.1 q.2.2.2) : s_W S G p l e R s m args below meth c Q N0 M0 pc L st h := by
  obtain ⟨hx, hb, hml, hown, hts, hI, hini⟩ := C
  subst hn
  cases hs
  intro hlen H locs ls hW hS hL
  match v, hdg, k with
  | 0, hdg, k => exact lv_fconst0 hx hb hdg (k hlen H locs ls hW hS hL)
  | 1, hdg, k => exact lv_fconst1 hx hb hdg (k hlen H locs ls hW hS hL)
  | 2, hdg, k => exact lv_fconst2 hx hb hdg (k hlen H locs ls hW hS hL)
theorem s_d_dconst {v : Fin 2} (C : s_Cx S G TW p s m args meth c r) (hdg : decode (s_b r) pc = .ok (.dconst v, n)) (hn : n = 1) (hs : s_x (.dconst v) pc n L st h = some q) (k : s_W S G p l e R s m args below meth c Q N0 M0 q.1 q.2.1 q.2.2.1 q.2.2.2) : s_W S G p l e R s m args below meth c Q N0 M0 pc L st h := by
  obtain ⟨hx, hb, hml, hown, hts, hI, hini⟩ := C
  subst hn
  cases hs
  intro hlen H locs ls hW hS hL
  match v, hdg, k with
  | 0, hdg, k => exact lv_dconst0 hx hb hdg (k hlen H locs ls hW hS hL)
  | 1, hdg, k => exact lv_dconst1 hx hb hdg (k hlen H locs ls hW hS hL)
theorem s_d_iload_n {v : Fin 4} (C : s_Cx S G TW p s m args meth c r) (hdg : decode (s_b r) pc = .ok (.iload_n v, n)) (hn : n = 1) (hs : s_x (.iload_n v) pc n L st h = some q) (k : s_W S G p l e R s m args below meth c Q N0 M0 q.1 q.2.1 q.2.2.1 q.2.2.2) : s_W S G p l e R s m args below meth c Q N0 M0 pc L st h := by
  obtain ⟨hx, hb, hml, hown, hts, hI, hini⟩ := C
  subst hn
  dsimp only [s_x] at hs
  split at hs
  next x heq =>
    cases hs
    intro hlen H locs ls hW hS hL
    exact lv_iload_n hx hb hdg rfl (s_LR_at hL heq (fun a z => by cases z)) (k hlen H locs ls hW hS hL)
  · cases hs
theorem s_d_iload {v : Nat} (C : s_Cx S G TW p s m args meth c r) (hdg : decode (s_b r) pc = .ok (.iload v, n)) (hn : n = 2) (hs : s_x (.iload v) pc n L st h = some q) (k : s_W S G p l e R s m args below meth c Q N0 M0 q.1 q.2.1 q.2.2.1 q.2.2.2) : s_W S G p l e R s m args below meth c Q N0 M0 pc L st h := by
  obtain ⟨hx, hb, hml, hown, hts, hI, hini⟩ := C
  subst hn
  dsimp only [s_x] at hs
  split at hs
  next x heq =>
    cases hs
    intro hlen H locs ls hW hS hL
    exact lv_iload hx hb hdg (s_LR_at hL heq (fun a z => by cases z)) (k hlen H locs ls hW hS hL)
  · cases hs
theorem s_d_lload_n {v : Fin 4} (C : s_Cx S G TW p s m args meth c r) (hdg : decode (s_b r) pc = .ok (.lload_n v, n)) (hn : n = 1) (hs : s_x (.lload_n v) pc n L st h = some q) (k : s_W S G p l e R s m args below meth c Q N0 M0 q.1 q.2.1 q.2.2.1 q.2.2.2) : s_W S G p l e R s m args below meth c Q N0 M0 pc L st h := by
  obtain ⟨hx, hb, hml, hown, hts, hI, hini⟩ := C
  subst hn
  dsimp only [s_x] at hs
  split at hs
  next x heq =>
    cases hs
    intro hlen H locs ls hW hS hL
    exact lv_lload_n hx hb hdg rfl (s_LR_at hL heq (fun a z => by cases z)) (k hlen H locs ls hW hS hL)
  · cases hs
theorem s_d_lload {v : Nat} (C : s_Cx S G TW p s m args meth c r) (hdg : decode (s_b r) pc = .ok (.lload v, n)) (hn : n = 2) (hs : s_x (.lload v) pc n L st h = some q) (k : s_W S G p l e R s m args below meth c Q N0 M0 q.1 q.2.1 q.2.2.1 q.2.2.2) : s_W S G p l e R s m args below meth c Q N0 M0 pc L st h := by
  obtain ⟨hx, hb, hml, hown, hts, hI, hini⟩ := C
  subst hn
  dsimp only [s_x] at hs
  split at hs
  next x heq =>
    cases hs
    intro hlen H locs ls hW hS hL
    exact lv_lload hx hb hdg (s_LR_at hL heq (fun a z => by cases z)) (k hlen H locs ls hW hS hL)
  · cases hs
theorem s_d_fload_n {v : Fin 4} (C : s_Cx S G TW p s m args meth c r) (hdg : decode (s_b r) pc = .ok (.fload_n v, n)) (hn : n = 1) (hs : s_x (.fload_n v) pc n L st h = some q) (k : s_W S G p l e R s m args below meth c Q N0 M0 q.1 q.2.1 q.2.2.1 q.2.2.2) : s_W S G p l e R s m args below meth c Q N0 M0 pc L st h := by
  obtain ⟨hx, hb, hml, hown, hts, hI, hini⟩ := C
  subst hn
  dsimp only [s_x] at hs
  split at hs
  next x heq =>
    cases hs
    intro hlen H locs ls hW hS hL
    exact lv_fload_n hx hb hdg rfl (s_LR_at hL heq (fun a z => by cases z)) (k hlen H locs ls hW hS hL)
  · cases hs
theorem s_d_dload_n {v : Fin 4} (C : s_Cx S G TW p s m args meth c r) (hdg : decode (s_b r) pc = .ok (.dload_n v, n)) (hn : n = 1) (hs : s_x (.dload_n v) pc n L st h = some q) (k : s_W S G p l e R s m args below meth c Q N0 M0 q.1 q.2.1 q.2.2.1 q.2.2.2) : s_W S G p l e R s m args below meth c Q N0 M0 pc L st h := by
  obtain ⟨hx, hb, hml, hown, hts, hI, hini⟩ := C
  subst hn
  dsimp only [s_x] at hs
  split at hs
  next x heq =>
    cases hs
    intro hlen H locs ls hW hS hL
    exact lv_dload_n hx hb hdg rfl (s_LR_at hL heq (fun a z => by cases z)) (k hlen H locs ls hW hS hL)
  · cases hs
theorem s_d_aload_n {v : Fin 4} (C : s_Cx S G TW p s m args meth c r) (hdg : decode (s_b r) pc = .ok (.aload_n v, n)) (hn : n = 1) (hs : s_x (.aload_n v) pc n L st h = some q) (k : s_W S G p l e R s m args below meth c Q N0 M0 q.1 q.2.1 q.2.2.1 q.2.2.2) : s_W S G p l e R s m args below meth c Q N0 M0 pc L st h := by
  obtain ⟨hx, hb, hml, hown, hts, hI, hini⟩ := C
  subst hn
  dsimp only [s_x] at hs
  split at hs
  next x heq =>
    cases hs
    intro hlen H locs ls hW hS hL
    exact lv_aload_n hx hb hdg rfl (s_LR_at hL heq (fun a z => by cases z)) (k hlen H locs ls hW hS hL)
  next heq =>
    cases hs
    intro hlen H locs ls hW hS hL
    exact lv_aload_nN hx hb hdg rfl (s_LR_at hL heq (fun a z => by cases z)) (k hlen H locs ls hW hS hL)
  · cases hs
theorem s_d_aload {v : Nat} (C : s_Cx S G TW p s m args meth c r) (hdg : decode (s_b r) pc = .ok (.aload v, n)) (hn : n = 2) (hs : s_x (.aload v) pc n L st h = some q) (k : s_W S G p l e R s m args below meth c Q N0 M0 q.1 q.2.1 q.2.2.1 q.2.2.2) : s_W S G p l e R s m args below meth c Q N0 M0 pc L st h := by
  obtain ⟨hx, hb, hml, hown, hts, hI, hini⟩ := C
  subst hn
  dsimp only [s_x] at hs
  split at hs
  next x heq =>
    cases hs
    intro hlen H locs ls hW hS hL
    exact lv_aload hx hb hdg (s_LR_at hL heq (fun a z => by cases z)) (k hlen H locs ls hW hS hL)
  next heq =>
    cases hs
    intro hlen H locs ls hW hS hL
    exact lv_aloadN hx hb hdg (s_LR_at hL heq (fun a z => by cases z)) (k hlen H locs ls hW hS hL)
  · cases hs
theorem s_d_istore_n {v : Fin 4} (C : s_Cx S G TW p s m args meth c r) (hdg : decode (s_b r) pc = .ok (.istore_n v, n)) (hn : n = 1) (hs : s_x (.istore_n v) pc n L st h = some q) (k : s_W S G p l e R s m args below meth c Q N0 M0 q.1 q.2.1 q.2.2.1 q.2.2.2) : s_W S G p l e R s m args below meth c Q N0 M0 pc L st h := by
  obtain ⟨hx, hb, hml, hown, hts, hI, hini⟩ := C
  subst hn
  dsimp only [s_x] at hs
  split at hs
  · split at hs
    next hlt =>
      cases hs
      intro hlen H locs ls hW hS hL
      exact lv_istore_n hx hb hdg rfl hL hlt rfl (fun ls2 hl2 => k ((s_put1_len _ _ _).trans hlen) H locs ls2 hW hS (s_LR_put1 hl2))
    · cases hs
  · cases hs
theorem s_d_istore {v : Nat} (C : s_Cx S G TW p s m args meth c r) (hdg : decode (s_b r) pc = .ok (.istore v, n)) (hn : n = 2) (hs : s_x (.istore v) pc n L st h = some q) (k : s_W S G p l e R s m args below meth c Q N0 M0 q.1 q.2.1 q.2.2.1 q.2.2.2) : s_W S G p l e R s m args below meth c Q N0 M0 pc L st h := by
  obtain ⟨hx, hb, hml, hown, hts, hI, hini⟩ := C
  subst hn
  dsimp only [s_x] at hs
  split at hs
  · split at hs
    next hlt =>
      cases hs
      intro hlen H locs ls hW hS hL
      exact lv_istore hx hb hdg hL hlt rfl (fun ls2 hl2 => k ((s_put1_len _ _ _).trans hlen) H locs ls2 hW hS (s_LR_put1 hl2))
    · cases hs
  · cases hs
theorem s_d_fstore_n {v : Fin 4} (C : s_Cx S G TW p s m args meth c r) (hdg : decode (s_b r) pc = .ok (.fstore_n v, n)) (hn : n = 1) (hs : s_x (.fstore_n v) pc n L st h = some q) (k : s_W S G p l e R s m args below meth c Q N0 M0 q.1 q.2.1 q.2.2.1 q.2.2.2) : s_W S G p l e R s m args below meth c Q N0 M0 pc L st h := by
  obtain ⟨hx, hb, hml, hown, hts, hI, hini⟩ := C
  subst hn
  dsimp only [s_x] at hs
  split at hs
  · split at hs
    next hlt =>
      cases hs
      intro hlen H locs ls hW hS hL
      exact lv_fstore_n hx hb hdg rfl hL hlt rfl (fun ls2 hl2 => k ((s_put1_len _ _ _).trans hlen) H locs ls2 hW hS (s_LR_put1 hl2))
    · cases hs
  · cases hs
theorem s_d_lstore_n {v : Fin 4} (C : s_Cx S G TW p s m args meth c r) (hdg : decode (s_b r) pc = .ok (.lstore_n v, n)) (hn : n = 1) (hs : s_x (.lstore_n v) pc n L st h = some q) (k : s_W S G p l e R s m args below meth c Q N0 M0 q.1 q.2.1 q.2.2.1 q.2.2.2) : s_W S G p l e R s m args below meth c Q N0 M0 pc L st h := by
  obtain ⟨hx, hb, hml, hown, hts, hI, hini⟩ := C
  subst hn
  dsimp only [s_x] at hs
  split at hs
  · split at hs
    next hlt =>
      cases hs
      intro hlen H locs ls hW hS hL
      exact lv_lstore_n hx hb hdg rfl hL hlt rfl (fun ls2 hl2 => k ((s_put2_len _ _ _).trans hlen) H locs ls2 hW hS (s_LR_put2 hl2))
    · cases hs
  · cases hs
theorem s_d_lstore {v : Nat} (C : s_Cx S G TW p s m args meth c r) (hdg : decode (s_b r) pc = .ok (.lstore v, n)) (hn : n = 2) (hs : s_x (.lstore v) pc n L st h = some q) (k : s_W S G p l e R s m args below meth c Q N0 M0 q.1 q.2.1 q.2.2.1 q.2.2.2) : s_W S G p l e R s m args below meth c Q N0 M0 pc L st h := by
  obtain ⟨hx, hb, hml, hown, hts, hI, hini⟩ := C
  subst hn
  dsimp only [s_x] at hs
  split at hs
  · split at hs
    next hlt =>
      cases hs
      intro hlen H locs ls hW hS hL
      exact lv_lstore hx hb hdg hL hlt rfl (fun ls2 hl2 => k ((s_put2_len _ _ _).trans hlen) H locs ls2 hW hS (s_LR_put2 hl2))
    · cases hs
  · cases hs
theorem s_d_dstore_n {v : Fin 4} (C : s_Cx S G TW p s m args meth c r) (hdg : decode (s_b r) pc = .ok (.dstore_n v, n)) (hn : n = 1) (hs : s_x (.dstore_n v) pc n L st h = some q) (k : s_W S G p l e R s m args below meth c Q N0 M0 q.1 q.2.1 q.2.2.1 q.2.2.2) : s_W S G p l e R s m args below meth c Q N0 M0 pc L st h := by
  obtain ⟨hx, hb, hml, hown, hts, hI, hini⟩ := C
  subst hn
  dsimp only [s_x] at hs
  split at hs
  · split at hs
    next hlt =>
      cases hs
      intro hlen H locs ls hW hS hL
      exact lv_dstore_n hx hb hdg rfl hL hlt rfl (fun ls2 hl2 => k ((s_put2_len _ _ _).trans hlen) H locs ls2 hW hS (s_LR_put2 hl2))
    · cases hs
  · cases hs
theorem s_d_astore_n {v : Fin 4} (C : s_Cx S G TW p s m args meth c r) (hdg : decode (s_b r) pc = .ok (.astore_n v, n)) (hn : n = 1) (hs : s_x (.astore_n v) pc n L st h = some q) (k : s_W S G p l e R s m args below meth c Q N0 M0 q.1 q.2.1 q.2.2.1 q.2.2.2) : s_W S G p l e R s m args below meth c Q N0 M0 pc L st h := by
  obtain ⟨hx, hb, hml, hown, hts, hI, hini⟩ := C
  subst hn
  dsimp only [s_x] at hs
  split at hs
  · split at hs
    next hlt =>
      cases hs
      intro hlen H locs ls hW hS hL
      exact lv_astore_n hx hb hdg rfl hL hlt rfl (fun ls2 hl2 => k ((s_put1_len _ _ _).trans hlen) H locs ls2 hW hS (s_LR_put1 hl2))
    · cases hs
  · split at hs
    next hlt =>
      cases hs
      intro hlen H locs ls hW hS hL
      exact lv_astore_nN hx hb hdg rfl hL hlt rfl (fun ls2 hl2 => k ((s_put1_len _ _ _).trans hlen) H locs ls2 hW hS (s_LR_put1 hl2))
    · cases hs
  · cases hs
theorem s_d_astore {v : Nat} (C : s_Cx S G TW p s m args meth c r) (hdg : decode (s_b r) pc = .ok (.astore v, n)) (hn : n = 2) (hs : s_x (.astore v) pc n L st h = some q) (k : s_W S G p l e R s m args below meth c Q N0 M0 q.1 q.2.1 q.2.2.1 q.2.2.2) : s_W S G p l e R s m args below meth c Q N0 M0 pc L st h := by
  obtain ⟨hx, hb, hml, hown, hts, hI, hini⟩ := C
  subst hn
  dsimp only [s_x] at hs
  split at hs
  · split at hs
    next hlt =>
      cases hs
      intro hlen H locs ls hW hS hL
      exact lv_astore hx hb hdg hL hlt rfl (fun ls2 hl2 => k ((s_put1_len _ _ _).trans hlen) H locs ls2 hW hS (s_LR_put1 hl2))
    · cases hs
  · split at hs
    next hlt =>
      cases hs
      intro hlen H locs ls hW hS hL
      exact lv_astoreN hx hb hdg hL hlt rfl (fun ls2 hl2 => k ((s_put1_len _ _ _).trans hlen) H locs ls2 hW hS (s_LR_put1 hl2))
    · cases hs
  · cases hs
theorem s_d_iinc {v : Nat} {w : Int} (C : s_Cx S G TW p s m args meth c r) (hdg : decode (s_b r) pc = .ok (.iinc v w, n)) (hn : n = 3) (hs : s_x (.iinc v w) pc n L st h = some q) (k : s_W S G p l e R s m args below meth c Q N0 M0 q.1 q.2.1 q.2.2.1 q.2.2.2) : s_W S G p l e R s m args below meth c Q N0 M0 pc L st h := by
  obtain ⟨hx, hb, hml, hown, hts, hI, hini⟩ := C
  subst hn
  dsimp only [s_x] at hs
  split at hs
  next x heq =>
    cases hs
    intro hlen H locs ls hW hS hL
    have hm := s_asc_mem (G := G) (L := L) (q := (v, .int x)) |>.mpr ⟨.int x, by rw [← s_nth_eq]; exact heq, fun a z => (by cases z), rfl⟩
    obtain ⟨j, hj⟩ := List.getElem?_of_mem hm
    have hlt : v < L.length := by rw [s_nth_eq] at heq; exact (List.getElem?_eq_some_iff.mp heq).1
    exact lv_iinc hx hb hdg hL hj rfl hlt rfl (fun ls2 hl2 => k ((s_put1_len _ _ _).trans hlen) H locs ls2 hW hS (s_LR_put1 hl2))
  · cases hs
theorem s_d_iadd (C : s_Cx S G TW p s m args meth c r) (hdg : decode (s_b r) pc = .ok (.iadd, n)) (hn : n = 1) (hs : s_x (.iadd) pc n L st h = some q) (k : s_W S G p l e R s m args below meth c Q N0 M0 q.1 q.2.1 q.2.2.1 q.2.2.2) : s_W S G p l e R s m args below meth c Q N0 M0 pc L st h := by
  obtain ⟨hx, hb, hml, hown, hts, hI, hini⟩ := C
  subst hn
  dsimp only [s_x] at hs
  split at hs
  · cases hs
    intro hlen H locs ls hW hS hL
    exact lv_iadd hx hb hdg (k hlen H locs ls hW hS hL)
  · cases hs
theorem s_d_isub (C : s_Cx S G TW p s m args meth c r) (hdg : decode (s_b r) pc = .ok (.isub, n)) (hn : n = 1) (hs : s_x (.isub) pc n L st h = some q) (k : s_W S G p l e R s m args below meth c Q N0 M0 q.1 q.2.1 q.2.2.1 q.2.2.2) : s_W S G p l e R s m args below meth c Q N0 M0 pc L st h := by
  obtain ⟨hx, hb, hml, hown, hts, hI, hini⟩ := C
  subst hn
  dsimp only [s_x] at hs
  split at hs
  · cases hs
    intro hlen H locs ls hW hS hL
    exact lv_isub hx hb hdg (k hlen H locs ls hW hS hL)
  · cases hs
theorem s_d_imul (C : s_Cx S G TW p s m args meth c r) (hdg : decode (s_b r) pc = .ok (.imul, n)) (hn : n = 1) (hs : s_x (.imul) pc n L st h = some q) (k : s_W S G p l e R s m args below meth c Q N0 M0 q.1 q.2.1 q.2.2.1 q.2.2.2) : s_W S G p l e R s m args below meth c Q N0 M0 pc L st h := by
  obtain ⟨hx, hb, hml, hown, hts, hI, hini⟩ := C
  subst hn
  dsimp only [s_x] at hs
  split at hs
  · cases hs
    intro hlen H locs ls hW hS hL
    exact lv_imul hx hb hdg (k hlen H locs ls hW hS hL)
  · cases hs
theorem s_d_iand (C : s_Cx S G TW p s m args meth c r) (hdg : decode (s_b r) pc = .ok (.iand, n)) (hn : n = 1) (hs : s_x (.iand) pc n L st h = some q) (k : s_W S G p l e R s m args below meth c Q N0 M0 q.1 q.2.1 q.2.2.1 q.2.2.2) : s_W S G p l e R s m args below meth c Q N0 M0 pc L st h := by
  obtain ⟨hx, hb, hml, hown, hts, hI, hini⟩ := C
  subst hn
  dsimp only [s_x] at hs
  split at hs
  · cases hs
    intro hlen H locs ls hW hS hL
    exact lv_iand hx hb hdg (k hlen H locs ls hW hS hL)
  · cases hs
theorem s_d_ior (C : s_Cx S G TW p s m args meth c r) (hdg : decode (s_b r) pc = .ok (.ior, n)) (hn : n = 1) (hs : s_x (.ior) pc n L st h = some q) (k : s_W S G p l e R s m args below meth c Q N0 M0 q.1 q.2.1 q.2.2.1 q.2.2.2) : s_W S G p l e R s m args below meth c Q N0 M0 pc L st h := by
  obtain ⟨hx, hb, hml, hown, hts, hI, hini⟩ := C
  subst hn
  dsimp only [s_x] at hs
  split at hs
  · cases hs
    intro hlen H locs ls hW hS hL
    exact lv_ior hx hb hdg (k hlen H locs ls hW hS hL)
  · cases hs
theorem s_d_ishl (C : s_Cx S G TW p s m args meth c r) (hdg : decode (s_b r) pc = .ok (.ishl, n)) (hn : n = 1) (hs : s_x (.ishl) pc n L st h = some q) (k : s_W S G p l e R s m args below meth c Q N0 M0 q.1 q.2.1 q.2.2.1 q.2.2.2) : s_W S G p l e R s m args below meth c Q N0 M0 pc L st h := by
  obtain ⟨hx, hb, hml, hown, hts, hI, hini⟩ := C
  subst hn
  dsimp only [s_x] at hs
  split at hs
  · cases hs
    intro hlen H locs ls hW hS hL
    exact lv_ishl hx hb hdg (k hlen H locs ls hW hS hL)
  · cases hs
theorem s_d_ishr (C : s_Cx S G TW p s m args meth c r) (hdg : decode (s_b r) pc = .ok (.ishr, n)) (hn : n = 1) (hs : s_x (.ishr) pc n L st h = some q) (k : s_W S G p l e R s m args below meth c Q N0 M0 q.1 q.2.1 q.2.2.1 q.2.2.2) : s_W S G p l e R s m args below meth c Q N0 M0 pc L st h := by
  obtain ⟨hx, hb, hml, hown, hts, hI, hini⟩ := C
  subst hn
  dsimp only [s_x] at hs
  split at hs
  · cases hs
    intro hlen H locs ls hW hS hL
    exact lv_ishr hx hb hdg (k hlen H locs ls hW hS hL)
  · cases hs
theorem s_d_ladd (C : s_Cx S G TW p s m args meth c r) (hdg : decode (s_b r) pc = .ok (.ladd, n)) (hn : n = 1) (hs : s_x (.ladd) pc n L st h = some q) (k : s_W S G p l e R s m args below meth c Q N0 M0 q.1 q.2.1 q.2.2.1 q.2.2.2) : s_W S G p l e R s m args below meth c Q N0 M0 pc L st h := by
  obtain ⟨hx, hb, hml, hown, hts, hI, hini⟩ := C
  subst hn
  dsimp only [s_x] at hs
  split at hs
  · cases hs
    intro hlen H locs ls hW hS hL
    exact lv_ladd hx hb hdg (k hlen H locs ls hW hS hL)
  · cases hs
theorem s_d_lsub (C : s_Cx S G TW p s m args meth c r) (hdg : decode (s_b r) pc = .ok (.lsub, n)) (hn : n = 1) (hs : s_x (.lsub) pc n L st h = some q) (k : s_W S G p l e R s m args below meth c Q N0 M0 q.1 q.2.1 q.2.2.1 q.2.2.2) : s_W S G p l e R s m args below meth c Q N0 M0 pc L st h := by
  obtain ⟨hx, hb, hml, hown, hts, hI, hini⟩ := C
  subst hn
  dsimp only [s_x] at hs
  split at hs
  · cases hs
    intro hlen H locs ls hW hS hL
    exact lv_lsub hx hb hdg (k hlen H locs ls hW hS hL)
  · cases hs
theorem s_d_land (C : s_Cx S G TW p s m args meth c r) (hdg : decode (s_b r) pc = .ok (.land, n)) (hn : n = 1) (hs : s_x (.land) pc n L st h = some q) (k : s_W S G p l e R s m args below meth c Q N0 M0 q.1 q.2.1 q.2.2.1 q.2.2.2) : s_W S G p l e R s m args below meth c Q N0 M0 pc L st h := by
  obtain ⟨hx, hb, hml, hown, hts, hI, hini⟩ := C
  subst hn
  dsimp only [s_x] at hs
  split at hs
  · cases hs
    intro hlen H locs ls hW hS hL
    exact lv_land hx hb hdg (k hlen H locs ls hW hS hL)
  · cases hs
theorem s_d_lor (C : s_Cx S G TW p s m args meth c r) (hdg : decode (s_b r) pc = .ok (.lor, n)) (hn : n = 1) (hs : s_x (.lor) pc n L st h = some q) (k : s_W S G p l e R s m args below meth c Q N0 M0 q.1 q.2.1 q.2.2.1 q.2.2.2) : s_W S G p l e R s m args below meth c Q N0 M0 pc L st h := by
  obtain ⟨hx, hb, hml, hown, hts, hI, hini⟩ := C
  subst hn
  dsimp only [s_x] at hs
  split at hs
  · cases hs
    intro hlen H locs ls hW hS hL
    exact lv_lor hx hb hdg (k hlen H locs ls hW hS hL)
  · cases hs
theorem s_d_lshl (C : s_Cx S G TW p s m args meth c r) (hdg : decode (s_b r) pc = .ok (.lshl, n)) (hn : n = 1) (hs : s_x (.lshl) pc n L st h = some q) (k : s_W S G p l e R s m args below meth c Q N0 M0 q.1 q.2.1 q.2.2.1 q.2.2.2) : s_W S G p l e R s m args below meth c Q N0 M0 pc L st h := by
  obtain ⟨hx, hb, hml, hown, hts, hI, hini⟩ := C
  subst hn
  dsimp only [s_x] at hs
  split at hs
  · cases hs
    intro hlen H locs ls hW hS hL
    exact lv_lshl hx hb hdg rfl (k hlen H locs ls hW hS hL)
  · cases hs
theorem s_d_lushr (C : s_Cx S G TW p s m args meth c r) (hdg : decode (s_b r) pc = .ok (.lushr, n)) (hn : n = 1) (hs : s_x (.lushr) pc n L st h = some q) (k : s_W S G p l e R s m args below meth c Q N0 M0 q.1 q.2.1 q.2.2.1 q.2.2.2) : s_W S G p l e R s m args below meth c Q N0 M0 pc L st h := by
  obtain ⟨hx, hb, hml, hown, hts, hI, hini⟩ := C
  subst hn
  dsimp only [s_x] at hs
  split at hs
  · cases hs
    intro hlen H locs ls hW hS hL
    exact lv_lushr hx hb hdg rfl (k hlen H locs ls hW hS hL)
  · cases hs
theorem s_d_i2l (C : s_Cx S G TW p s m args meth c r) (hdg : decode (s_b r) pc = .ok (.i2l, n)) (hn : n = 1) (hs : s_x (.i2l) pc n L st h = some q) (k : s_W S G p l e R s m args below meth c Q N0 M0 q.1 q.2.1 q.2.2.1 q.2.2.2) : s_W S G p l e R s m args below meth c Q N0 M0 pc L st h := by
  obtain ⟨hx, hb, hml, hown, hts, hI, hini⟩ := C
  subst hn
  dsimp only [s_x] at hs
  split at hs
  · cases hs
    intro hlen H locs ls hW hS hL
    exact lv_i2l hx hb hdg rfl (k hlen H locs ls hW hS hL)
  · cases hs
theorem s_d_l2i (C : s_Cx S G TW p s m args meth c r) (hdg : decode (s_b r) pc = .ok (.l2i, n)) (hn : n = 1) (hs : s_x (.l2i) pc n L st h = some q) (k : s_W S G p l e R s m args below meth c Q N0 M0 q.1 q.2.1 q.2.2.1 q.2.2.2) : s_W S G p l e R s m args below meth c Q N0 M0 pc L st h := by
  obtain ⟨hx, hb, hml, hown, hts, hI, hini⟩ := C
  subst hn
  dsimp only [s_x] at hs
  split at hs
  · cases hs
    intro hlen H locs ls hW hS hL
    exact lv_l2i hx hb hdg rfl (k hlen H locs ls hW hS hL)
  · cases hs
theorem s_d_i2f (C : s_Cx S G TW p s m args meth c r) (hdg : decode (s_b r) pc = .ok (.i2f, n)) (hn : n = 1) (hs : s_x (.i2f) pc n L st h = some q) (k : s_W S G p l e R s m args below meth c Q N0 M0 q.1 q.2.1 q.2.2.1 q.2.2.2) : s_W S G p l e R s m args below meth c Q N0 M0 pc L st h := by
  obtain ⟨hx, hb, hml, hown, hts, hI, hini⟩ := C
  subst hn
  dsimp only [s_x] at hs
  split at hs
  · cases hs
    intro hlen H locs ls hW hS hL
    exact lv_i2f hx hb hdg (k hlen H locs ls hW hS hL)
  · cases hs
theorem s_d_i2d (C : s_Cx S G TW p s m args meth c r) (hdg : decode (s_b r) pc = .ok (.i2d, n)) (hn : n = 1) (hs : s_x (.i2d) pc n L st h = some q) (k : s_W S G p l e R s m args below meth c Q N0 M0 q.1 q.2.1 q.2.2.1 q.2.2.2) : s_W S G p l e R s m args below meth c Q N0 M0 pc L st h := by
  obtain ⟨hx, hb, hml, hown, hts, hI, hini⟩ := C
  subst hn
  dsimp only [s_x] at hs
  split at hs
  · cases hs
    intro hlen H locs ls hW hS hL
    exact lv_i2d hx hb hdg (k hlen H locs ls hW hS hL)
  · cases hs
theorem s_d_l2d (C : s_Cx S G TW p s m args meth c r) (hdg : decode (s_b r) pc = .ok (.l2d, n)) (hn : n = 1) (hs : s_x (.l2d) pc n L st h = some q) (k : s_W S G p l e R s m args below meth c Q N0 M0 q.1 q.2.1 q.2.2.1 q.2.2.2) : s_W S G p l e R s m args below meth c Q N0 M0 pc L st h := by
  obtain ⟨hx, hb, hml, hown, hts, hI, hini⟩ := C
  subst hn
  dsimp only [s_x] at hs
  split at hs
  · cases hs
    intro hlen H locs ls hW hS hL
    exact lv_l2d hx hb hdg (k hlen H locs ls hW hS hL)
  · cases hs
theorem s_d_d2l (C : s_Cx S G TW p s m args meth c r) (hdg : decode (s_b r) pc = .ok (.d2l, n)) (hn : n = 1) (hs : s_x (.d2l) pc n L st h = some q) (k : s_W S G p l e R s m args below meth c Q N0 M0 q.1 q.2.1 q.2.2.1 q.2.2.2) : s_W S G p l e R s m args below meth c Q N0 M0 pc L st h := by
  obtain ⟨hx, hb, hml, hown, hts, hI, hini⟩ := C
  subst hn
  dsimp only [s_x] at hs
  split at hs
  · cases hs
    intro hlen H locs ls hW hS hL
    exact lv_d2l hx hb hdg (k hlen H locs ls hW hS hL)
  · cases hs
theorem s_d_f2i (C : s_Cx S G TW p s m args meth c r) (hdg : decode (s_b r) pc = .ok (.f2i, n)) (hn : n = 1) (hs : s_x (.f2i) pc n L st h = some q) (k : s_W S G p l e R s m args below meth c Q N0 M0 q.1 q.2.1 q.2.2.1 q.2.2.2) : s_W S G p l e R s m args below meth c Q N0 M0 pc L st h := by
  obtain ⟨hx, hb, hml, hown, hts, hI, hini⟩ := C
  subst hn
  dsimp only [s_x] at hs
  split at hs
  · cases hs
    intro hlen H locs ls hW hS hL
    exact lv_f2i hx hb hdg (k hlen H locs ls hW hS hL)
  · cases hs
theorem s_d_lcmp (C : s_Cx S G TW p s m args meth c r) (hdg : decode (s_b r) pc = .ok (.lcmp, n)) (hn : n = 1) (hs : s_x (.lcmp) pc n L st h = some q) (k : s_W S G p l e R s m args below meth c Q N0 M0 q.1 q.2.1 q.2.2.1 q.2.2.2) : s_W S G p l e R s m args below meth c Q N0 M0 pc L st h := by
  obtain ⟨hx, hb, hml, hown, hts, hI, hini⟩ := C
  subst hn
  dsimp only [s_x] at hs
  split at hs
  · cases hs
    intro hlen H locs ls hW hS hL
    exact W.lcmp hx hb hdg (k hlen H locs ls hW hS hL)
  · cases hs
theorem s_d_fcmp {v : CmpOp} (C : s_Cx S G TW p s m args meth c r) (hdg : decode (s_b r) pc = .ok (.fcmp v, n)) (hn : n = 1) (hs : s_x (.fcmp v) pc n L st h = some q) (k : s_W S G p l e R s m args below meth c Q N0 M0 q.1 q.2.1 q.2.2.1 q.2.2.2) : s_W S G p l e R s m args below meth c Q N0 M0 pc L st h := by
  obtain ⟨hx, hb, hml, hown, hts, hI, hini⟩ := C
  subst hn
  dsimp only [s_x] at hs
  split at hs
  · cases hs
    intro hlen H locs ls hW hS hL
    exact lv_fcmp hx hb hdg (k hlen H locs ls hW hS hL)
  · cases hs
theorem s_d_dcmp {v : CmpOp} (C : s_Cx S G TW p s m args meth c r) (hdg : decode (s_b r) pc = .ok (.dcmp v, n)) (hn : n = 1) (hs : s_x (.dcmp v) pc n L st h = some q) (k : s_W S G p l e R s m args below meth c Q N0 M0 q.1 q.2.1 q.2.2.1 q.2.2.2) : s_W S G p l e R s m args below meth c Q N0 M0 pc L st h := by
  obtain ⟨hx, hb, hml, hown, hts, hI, hini⟩ := C
  subst hn
  dsimp only [s_x] at hs
  split at hs
  · cases hs
    intro hlen H locs ls hW hS hL
    exact lv_dcmp hx hb hdg (k hlen H locs ls hW hS hL)
  · cases hs
theorem s_d_idiv (C : s_Cx S G TW p s m args meth c r) (hdg : decode (s_b r) pc = .ok (.idiv, n)) (hn : n = 1) (hs : s_x (.idiv) pc n L st h = some q) (k : s_W S G p l e R s m args below meth c Q N0 M0 q.1 q.2.1 q.2.2.1 q.2.2.2) : s_W S G p l e R s m args below meth c Q N0 M0 pc L st h := by
  obtain ⟨hx, hb, hml, hown, hts, hI, hini⟩ := C
  subst hn
  dsimp only [s_x] at hs
  split at hs
  · split at hs
    · cases hs
    next hc =>
      cases hs
      intro hlen H locs ls hW hS hL
      exact lv_idiv hx hb hdg hc (k hlen H locs ls hW hS hL)
  · cases hs
theorem s_d_irem (C : s_Cx S G TW p s m args meth c r) (hdg : decode (s_b r) pc = .ok (.irem, n)) (hn : n = 1) (hs : s_x (.irem) pc n L st h = some q) (k : s_W S G p l e R s m args below meth c Q N0 M0 q.1 q.2.1 q.2.2.1 q.2.2.2) : s_W S G p l e R s m args below meth c Q N0 M0 pc L st h := by
  obtain ⟨hx, hb, hml, hown, hts, hI, hini⟩ := C
  subst hn
  dsimp only [s_x] at hs
  split at hs
  · split at hs
    · cases hs
    next hc =>
      cases hs
      intro hlen H locs ls hW hS hL
      exact lv_irem hx hb hdg hc (k hlen H locs ls hW hS hL)
  · cases hs
theorem s_d_fsub (C : s_Cx S G TW p s m args meth c r) (hdg : decode (s_b r) pc = .ok (.fsub, n)) (hn : n = 1) (hs : s_x (.fsub) pc n L st h = some q) (k : s_W S G p l e R s m args below meth c Q N0 M0 q.1 q.2.1 q.2.2.1 q.2.2.2) : s_W S G p l e R s m args below meth c Q N0 M0 pc L st h := by
  obtain ⟨hx, hb, hml, hown, hts, hI, hini⟩ := C
  subst hn
  dsimp only [s_x] at hs
  split at hs
  · split at hs
    next hc =>
      cases hs
      intro hlen H locs ls hW hS hL
      exact lv_fsub hx hb hdg hc (k hlen H locs ls hW hS hL)
    · cases hs
  · cases hs
theorem s_d_fmul (C : s_Cx S G TW p s m args meth c r) (hdg : decode (s_b r) pc = .ok (.fmul, n)) (hn : n = 1) (hs : s_x (.fmul) pc n L st h = some q) (k : s_W S G p l e R s m args below meth c Q N0 M0 q.1 q.2.1 q.2.2.1 q.2.2.2) : s_W S G p l e R s m args below meth c Q N0 M0 pc L st h := by
  obtain ⟨hx, hb, hml, hown, hts, hI, hini⟩ := C
  subst hn
  dsimp only [s_x] at hs
  split at hs
  · split at hs
    next hc =>
      cases hs
      intro hlen H locs ls hW hS hL
      exact lv_fmul hx hb hdg hc (k hlen H locs ls hW hS hL)
    · cases hs
  · cases hs
theorem s_d_fdiv (C : s_Cx S G TW p s m args meth c r) (hdg : decode (s_b r) pc = .ok (.fdiv, n)) (hn : n = 1) (hs : s_x (.fdiv) pc n L st h = some q) (k : s_W S G p l e R s m args below meth c Q N0 M0 q.1 q.2.1 q.2.2.1 q.2.2.2) : s_W S G p l e R s m args below meth c Q N0 M0 pc L st h := by
  obtain ⟨hx, hb, hml, hown, hts, hI, hini⟩ := C
  subst hn
  dsimp only [s_x] at hs
  split at hs
  · split at hs
    next hc =>
      cases hs
      intro hlen H locs ls hW hS hL
      exact lv_fdiv hx hb hdg hc (k hlen H locs ls hW hS hL)
    · cases hs
  · cases hs
theorem s_d_dsub (C : s_Cx S G TW p s m args meth c r) (hdg : decode (s_b r) pc = .ok (.dsub, n)) (hn : n = 1) (hs : s_x (.dsub) pc n L st h = some q) (k : s_W S G p l e R s m args below meth c Q N0 M0 q.1 q.2.1 q.2.2.1 q.2.2.2) : s_W S G p l e R s m args below meth c Q N0 M0 pc L st h := by
  obtain ⟨hx, hb, hml, hown, hts, hI, hini⟩ := C
  subst hn
  dsimp only [s_x] at hs
  split at hs
  · split at hs
    next hc =>
      cases hs
      intro hlen H locs ls hW hS hL
      exact lv_dsub hx hb hdg hc (k hlen H locs ls hW hS hL)
    · cases hs
  · cases hs
theorem s_d_dmul (C : s_Cx S G TW p s m args meth c r) (hdg : decode (s_b r) pc = .ok (.dmul, n)) (hn : n = 1) (hs : s_x (.dmul) pc n L st h = some q) (k : s_W S G p l e R s m args below meth c Q N0 M0 q.1 q.2.1 q.2.2.1 q.2.2.2) : s_W S G p l e R s m args below meth c Q N0 M0 pc L st h := by
  obtain ⟨hx, hb, hml, hown, hts, hI, hini⟩ := C
  subst hn
  dsimp only [s_x] at hs
  split at hs
  · split at hs
    next hc =>
      cases hs
      intro hlen H locs ls hW hS hL
      exact lv_dmul hx hb hdg hc (k hlen H locs ls hW hS hL)
    · cases hs
  · cases hs
theorem s_d_ddiv (C : s_Cx S G TW p s m args meth c r) (hdg : decode (s_b r) pc = .ok (.ddiv, n)) (hn : n = 1) (hs : s_x (.ddiv) pc n L st h = some q) (k : s_W S G p l e R s m args below meth c Q N0 M0 q.1 q.2.1 q.2.2.1 q.2.2.2) : s_W S G p l e R s m args below meth c Q N0 M0 pc L st h := by
  obtain ⟨hx, hb, hml, hown, hts, hI, hini⟩ := C
  subst hn
  dsimp only [s_x] at hs
  split at hs
  · split at hs
    next hc =>
      cases hs
      intro hlen H locs ls hW hS hL
      exact lv_ddiv hx hb hdg hc (k hlen H locs ls hW hS hL)
    · cases hs
  · cases hs
theorem s_d_drem (C : s_Cx S G TW p s m args meth c r) (hdg : decode (s_b r) pc = .ok (.drem, n)) (hn : n = 1) (hs : s_x (.drem) pc n L st h = some q) (k : s_W S G p l e R s m args below meth c Q N0 M0 q.1 q.2.1 q.2.2.1 q.2.2.2) : s_W S G p l e R s m args below meth c Q N0 M0 pc L st h := by
  obtain ⟨hx, hb, hml, hown, hts, hI, hini⟩ := C
  subst hn
  dsimp only [s_x] at hs
  split at hs
  · split at hs
    next hc =>
      cases hs
      intro hlen H locs ls hW hS hL
      exact lv_drem hx hb hdg hc (k hlen H locs ls hW hS hL)
    · cases hs
  · cases hs
theorem s_cat1 {v : Value} (h : ¬ s_two v = true) : (s_vc G v).category = 1 := by rw [s_vc_cat, if_neg h]
theorem s_cat2 {v : Value} (h : s_two v = true) : (s_vc G v).category = 2 := by rw [s_vc_cat, if_pos h]
theorem s_d_dup (C : s_Cx S G TW p s m args meth c r) (hdg : decode (s_b r) pc = .ok (.dup, n)) (hn : n = 1) (hs : s_x (.dup) pc n L st h = some q) (k : s_W S G p l e R s m args below meth c Q N0 M0 q.1 q.2.1 q.2.2.1 q.2.2.2) : s_W S G p l e R s m args below meth c Q N0 M0 pc L st h := by
  obtain ⟨hx, hb, hml, hown, hts, hI, hini⟩ := C
  subst hn
  dsimp only [s_x] at hs
  split at hs
  · split at hs
    · cases hs
    next hc =>
      cases hs
      intro hlen H locs ls hW hS hL
      exact lv_dup hx hb hdg (s_cat1 hc) (k hlen H locs ls hW hS hL)
  · cases hs
theorem s_d_pop (C : s_Cx S G TW p s m args meth c r) (hdg : decode (s_b r) pc = .ok (.pop, n)) (hn : n = 1) (hs : s_x (.pop) pc n L st h = some q) (k : s_W S G p l e R s m args below meth c Q N0 M0 q.1 q.2.1 q.2.2.1 q.2.2.2) : s_W S G p l e R s m args below meth c Q N0 M0 pc L st h := by
  obtain ⟨hx, hb, hml, hown, hts, hI, hini⟩ := C
  subst hn
  dsimp only [s_x] at hs
  split at hs
  · split at hs
    · cases hs
    next hc =>
      cases hs
      intro hlen H locs ls hW hS hL
      exact lv_pop hx hb hdg (s_cat1 hc) (k hlen H locs ls hW hS hL)
  · cases hs
theorem s_d_dup2 (C : s_Cx S G TW p s m args meth c r) (hdg : decode (s_b r) pc = .ok (.dup2, n)) (hn : n = 1) (hs : s_x (.dup2) pc n L st h = some q) (k : s_W S G p l e R s m args below meth c Q N0 M0 q.1 q.2.1 q.2.2.1 q.2.2.2) : s_W S G p l e R s m args below meth c Q N0 M0 pc L st h := by
  obtain ⟨hx, hb, hml, hown, hts, hI, hini⟩ := C
  subst hn
  dsimp only [s_x] at hs
  split at hs
  · split at hs
    next hc =>
      cases hs
      intro hlen H locs ls hW hS hL
      exact lv_dup2_2 hx hb hdg (s_cat2 hc) (k hlen H locs ls hW hS hL)
    next hc =>
      split at hs
      · split at hs
        · cases hs
        next hc2 =>
          cases hs
          intro hlen H locs ls hW hS hL
          exact lv_dup2_11 hx hb hdg (s_cat1 hc) (s_cat1 hc2) (k hlen H locs ls hW hS hL)
      · cases hs
  · cases hs
theorem s_d_if_eq {v : Int} (C : s_Cx S G TW p s m args meth c r) (hv : 0 ≤ v) (hdg : decode (s_b r) pc = .ok (.ifCond .eq (v - (pc : Int)), n)) (hn : n = 3) (hs : s_x (.ifCond .eq v) pc n L st h = some q) (k : s_W S G p l e R s m args below meth c Q N0 M0 q.1 q.2.1 q.2.2.1 q.2.2.2) : s_W S G p l e R s m args below meth c Q N0 M0 pc L st h := by
  obtain ⟨hx, hb, hml, hown, hts, hI, hini⟩ := C
  subst hn
  dsimp only [s_x] at hs
  split at hs
  · cases hs
    intro hlen H locs ls hW hS hL
    have k := k hlen H locs ls hW hS hL
    refine lv_if_eq (tgt := v.toNat) hx hb hdg (by omega) (fun hc => ?_) (fun hc => ?_)
    · simp only [s_cnd, decide_eq_true_eq] at k
      rw [if_pos hc] at k
      exact k
    · simp only [s_cnd, decide_eq_true_eq] at k
      rw [if_neg (by first | exact hc | exact not_not_intro hc)] at k
      exact k
  · cases hs
theorem s_d_if_ne {v : Int} (C : s_Cx S G TW p s m args meth c r) (hv : 0 ≤ v) (hdg : decode (s_b r) pc = .ok (.ifCond .ne (v - (pc : Int)), n)) (hn : n = 3) (hs : s_x (.ifCond .ne v) pc n L st h = some q) (k : s_W S G p l e R s m args below meth c Q N0 M0 q.1 q.2.1 q.2.2.1 q.2.2.2) : s_W S G p l e R s m args below meth c Q N0 M0 pc L st h := by
  obtain ⟨hx, hb, hml, hown, hts, hI, hini⟩ := C
  subst hn
  dsimp only [s_x] at hs
  split at hs
  · cases hs
    intro hlen H locs ls hW hS hL
    have k := k hlen H locs ls hW hS hL
    refine lv_if_ne (tgt := v.toNat) hx hb hdg (by omega) (fun hc => ?_) (fun hc => ?_)
    · simp only [s_cnd, decide_eq_true_eq] at k
      rw [if_pos hc] at k
      exact k
    · simp only [s_cnd, decide_eq_true_eq] at k
      rw [if_neg (by first | exact hc | exact not_not_intro hc)] at k
      exact k
  · cases hs
theorem s_d_if_lt {v : Int} (C : s_Cx S G TW p s m args meth c r) (hv : 0 ≤ v) (hdg : decode (s_b r) pc = .ok (.ifCond .lt (v - (pc : Int)), n)) (hn : n = 3) (hs : s_x (.ifCond .lt v) pc n L st h = some q) (k : s_W S G p l e R s m args below meth c Q N0 M0 q.1 q.2.1 q.2.2.1 q.2.2.2) : s_W S G p l e R s m args below meth c Q N0 M0 pc L st h := by
  obtain ⟨hx, hb, hml, hown, hts, hI, hini⟩ := C
  subst hn
  dsimp only [s_x] at hs
  split at hs
  · cases hs
    intro hlen H locs ls hW hS hL
    have k := k hlen H locs ls hW hS hL
    refine lv_if_lt (tgt := v.toNat) hx hb hdg (by omega) (fun hc => ?_) (fun hc => ?_)
    · simp only [s_cnd, decide_eq_true_eq] at k
      rw [if_pos hc] at k
      exact k
    · simp only [s_cnd, decide_eq_true_eq] at k
      rw [if_neg (by first | exact hc | exact not_not_intro hc)] at k
      exact k
  · cases hs
theorem s_d_if_ge {v : Int} (C : s_Cx S G TW p s m args meth c r) (hv : 0 ≤ v) (hdg : decode (s_b r) pc = .ok (.ifCond .ge (v - (pc : Int)), n)) (hn : n = 3) (hs : s_x (.ifCond .ge v) pc n L st h = some q) (k : s_W S G p l e R s m args below meth c Q N0 M0 q.1 q.2.1 q.2.2.1 q.2.2.2) : s_W S G p l e R s m args below meth c Q N0 M0 pc L st h := by
  obtain ⟨hx, hb, hml, hown, hts, hI, hini⟩ := C
  subst hn
  dsimp only [s_x] at hs
  split at hs
  · cases hs
    intro hlen H locs ls hW hS hL
    have k := k hlen H locs ls hW hS hL
    refine lv_if_ge (tgt := v.toNat) hx hb hdg (by omega) (fun hc => ?_) (fun hc => ?_)
    · simp only [s_cnd, decide_eq_true_eq] at k
      rw [if_pos hc] at k
      exact k
    · simp only [s_cnd, decide_eq_true_eq] at k
      rw [if_neg (by first | exact hc | exact not_not_intro hc)] at k
      exact k
  · cases hs
theorem s_d_if_gt {v : Int} (C : s_Cx S G TW p s m args meth c r) (hv : 0 ≤ v) (hdg : decode (s_b r) pc = .ok (.ifCond .gt (v - (pc : Int)), n)) (hn : n = 3) (hs : s_x (.ifCond .gt v) pc n L st h = some q) (k : s_W S G p l e R s m args below meth c Q N0 M0 q.1 q.2.1 q.2.2.1 q.2.2.2) : s_W S G p l e R s m args below meth c Q N0 M0 pc L st h := by
  obtain ⟨hx, hb, hml, hown, hts, hI, hini⟩ := C
  subst hn
  dsimp only [s_x] at hs
  split at hs
  · cases hs
    intro hlen H locs ls hW hS hL
    have k := k hlen H locs ls hW hS hL
    refine lv_if_gt (tgt := v.toNat) hx hb hdg (by omega) (fun hc => ?_) (fun hc => ?_)
    · simp only [s_cnd, decide_eq_true_eq] at k
      rw [if_pos hc] at k
      exact k
    · simp only [s_cnd, decide_eq_true_eq] at k
      rw [if_neg (by first | exact hc | exact not_not_intro hc)] at k
      exact k
  · cases hs
theorem s_d_if_le {v : Int} (C : s_Cx S G TW p s m args meth c r) (hv : 0 ≤ v) (hdg : decode (s_b r) pc = .ok (.ifCond .le (v - (pc : Int)), n)) (hn : n = 3) (hs : s_x (.ifCond .le v) pc n L st h = some q) (k : s_W S G p l e R s m args below meth c Q N0 M0 q.1 q.2.1 q.2.2.1 q.2.2.2) : s_W S G p l e R s m args below meth c Q N0 M0 pc L st h := by
  obtain ⟨hx, hb, hml, hown, hts, hI, hini⟩ := C
  subst hn
  dsimp only [s_x] at hs
  split at hs
  · cases hs
    intro hlen H locs ls hW hS hL
    have k := k hlen H locs ls hW hS hL
    refine lv_if_le (tgt := v.toNat) hx hb hdg (by omega) (fun hc => ?_) (fun hc => ?_)
    · simp only [s_cnd, decide_eq_true_eq] at k
      rw [if_pos hc] at k
      exact k
    · simp only [s_cnd, decide_eq_true_eq] at k
      rw [if_neg (by first | exact hc | exact not_not_intro hc)] at k
      exact k
  · cases hs
theorem s_d_icmp_eq {v : Int} (C : s_Cx S G TW p s m args meth c r) (hv : 0 ≤ v) (hdg : decode (s_b r) pc = .ok (.if_icmp .eq (v - (pc : Int)), n)) (hn : n = 3) (hs : s_x (.if_icmp .eq v) pc n L st h = some q) (k : s_W S G p l e R s m args below meth c Q N0 M0 q.1 q.2.1 q.2.2.1 q.2.2.2) : s_W S G p l e R s m args below meth c Q N0 M0 pc L st h := by
  obtain ⟨hx, hb, hml, hown, hts, hI, hini⟩ := C
  subst hn
  dsimp only [s_x] at hs
  split at hs
  · cases hs
    intro hlen H locs ls hW hS hL
    have k := k hlen H locs ls hW hS hL
    refine lv_icmp_eq (tgt := v.toNat) hx hb hdg (by omega) (fun hc => ?_) (fun hc => ?_)
    · simp only [s_cnd, decide_eq_true_eq] at k
      rw [if_pos hc] at k
      exact k
    · simp only [s_cnd, decide_eq_true_eq] at k
      rw [if_neg (by first | exact hc | exact not_not_intro hc)] at k
      exact k
  · cases hs
theorem s_d_icmp_ne {v : Int} (C : s_Cx S G TW p s m args meth c r) (hv : 0 ≤ v) (hdg : decode (s_b r) pc = .ok (.if_icmp .ne (v - (pc : Int)), n)) (hn : n = 3) (hs : s_x (.if_icmp .ne v) pc n L st h = some q) (k : s_W S G p l e R s m args below meth c Q N0 M0 q.1 q.2.1 q.2.2.1 q.2.2.2) : s_W S G p l e R s m args below meth c Q N0 M0 pc L st h := by
  obtain ⟨hx, hb, hml, hown, hts, hI, hini⟩ := C
  subst hn
  dsimp only [s_x] at hs
  split at hs
  · cases hs
    intro hlen H locs ls hW hS hL
    have k := k hlen H locs ls hW hS hL
    refine lv_icmp_ne (tgt := v.toNat) hx hb hdg (by omega) (fun hc => ?_) (fun hc => ?_)
    · simp only [s_cnd, decide_eq_true_eq] at k
      rw [if_pos hc] at k
      exact k
    · simp only [s_cnd, decide_eq_true_eq] at k
      rw [if_neg (by first | exact hc | exact not_not_intro hc)] at k
      exact k
  · cases hs
theorem s_d_icmp_lt {v : Int} (C : s_Cx S G TW p s m args meth c r) (hv : 0 ≤ v) (hdg : decode (s_b r) pc = .ok (.if_icmp .lt (v - (pc : Int)), n)) (hn : n = 3) (hs : s_x (.if_icmp .lt v) pc n L st h = some q) (k : s_W S G p l e R s m args below meth c Q N0 M0 q.1 q.2.1 q.2.2.1 q.2.2.2) : s_W S G p l e R s m args below meth c Q N0 M0 pc L st h := by
  obtain ⟨hx, hb, hml, hown, hts, hI, hini⟩ := C
  subst hn
  dsimp only [s_x] at hs
  split at hs
  · cases hs
    intro hlen H locs ls hW hS hL
    have k := k hlen H locs ls hW hS hL
    refine lv_icmp_lt (tgt := v.toNat) hx hb hdg (by omega) (fun hc => ?_) (fun hc => ?_)
    · simp only [s_cnd, decide_eq_true_eq] at k
      rw [if_pos hc] at k
      exact k
    · simp only [s_cnd, decide_eq_true_eq] at k
      rw [if_neg (by first | exact hc | exact not_not_intro hc)] at k
      exact k
  · cases hs
theorem s_d_icmp_ge {v : Int} (C : s_Cx S G TW p s m args meth c r) (hv : 0 ≤ v) (hdg : decode (s_b r) pc = .ok (.if_icmp .ge (v - (pc : Int)), n)) (hn : n = 3) (hs : s_x (.if_icmp .ge v) pc n L st h = some q) (k : s_W S G p l e R s m args below meth c Q N0 M0 q.1 q.2.1 q.2.2.1 q.2.2.2) : s_W S G p l e R s m args below meth c Q N0 M0 pc L st h := by
  obtain ⟨hx, hb, hml, hown, hts, hI, hini⟩ := C
  subst hn
  dsimp only [s_x] at hs
  split at hs
  · cases hs
    intro hlen H locs ls hW hS hL
    have k := k hlen H locs ls hW hS hL
    refine lv_icmp_ge (tgt := v.toNat) hx hb hdg (by omega) (fun hc => ?_) (fun hc => ?_)
    · simp only [s_cnd, decide_eq_true_eq] at k
      rw [if_pos hc] at k
      exact k
    · simp only [s_cnd, decide_eq_true_eq] at k
      rw [if_neg (by first | exact hc | exact not_not_intro hc)] at k
      exact k
  · cases hs
theorem s_d_icmp_gt {v : Int} (C : s_Cx S G TW p s m args meth c r) (hv : 0 ≤ v) (hdg : decode (s_b r) pc = .ok (.if_icmp .gt (v - (pc : Int)), n)) (hn : n = 3) (hs : s_x (.if_icmp .gt v) pc n L st h = some q) (k : s_W S G p l e R s m args below meth c Q N0 M0 q.1 q.2.1 q.2.2.1 q.2.2.2) : s_W S G p l e R s m args below meth c Q N0 M0 pc L st h := by
  obtain ⟨hx, hb, hml, hown, hts, hI, hini⟩ := C
  subst hn
  dsimp only [s_x] at hs
  split at hs
  · cases hs
    intro hlen H locs ls hW hS hL
    have k := k hlen H locs ls hW hS hL
    refine lv_icmp_gt (tgt := v.toNat) hx hb hdg (by omega) (fun hc => ?_) (fun hc => ?_)
    · simp only [s_cnd, decide_eq_true_eq] at k
      rw [if_pos hc] at k
      exact k
    · simp only [s_cnd, decide_eq_true_eq] at k
      rw [if_neg (by first | exact hc | exact not_not_intro hc)] at k
      exact k
  · cases hs
theorem s_d_icmp_le {v : Int} (C : s_Cx S G TW p s m args meth c r) (hv : 0 ≤ v) (hdg : decode (s_b r) pc = .ok (.if_icmp .le (v - (pc : Int)), n)) (hn : n = 3) (hs : s_x (.if_icmp .le v) pc n L st h = some q) (k : s_W S G p l e R s m args below meth c Q N0 M0 q.1 q.2.1 q.2.2.1 q.2.2.2) : s_W S G p l e R s m args below meth c Q N0 M0 pc L st h := by
  obtain ⟨hx, hb, hml, hown, hts, hI, hini⟩ := C
  subst hn
  dsimp only [s_x] at hs
  split at hs
  · cases hs
    intro hlen H locs ls hW hS hL
    have k := k hlen H locs ls hW hS hL
    refine lv_icmp_le (tgt := v.toNat) hx hb hdg (by omega) (fun hc => ?_) (fun hc => ?_)
    · simp only [s_cnd, decide_eq_true_eq] at k
      rw [if_pos hc] at k
      exact k
    · simp only [s_cnd, decide_eq_true_eq] at k
      rw [if_neg (by first | exact hc | exact not_not_intro hc)] at k
      exact k
  · cases hs
theorem s_d_goto {v : Int} (C : s_Cx S G TW p s m args meth c r) (hv : 0 ≤ v) (hdg : decode (s_b r) pc = .ok (.goto (v - (pc : Int)), n)) (hn : n = 3) (hs : s_x (.goto v) pc n L st h = some q) (k : s_W S G p l e R s m args below meth c Q N0 M0 q.1 q.2.1 q.2.2.1 q.2.2.2) : s_W S G p l e R s m args below meth c Q N0 M0 pc L st h := by
  obtain ⟨hx, hb, hml, hown, hts, hI, hini⟩ := C
  subst hn
  cases hs
  intro hlen H locs ls hW hS hL
  exact lv_goto hx hb hdg (by omega) (k hlen H locs ls hW hS hL)
theorem s_d_ifnull {v : Int} (C : s_Cx S G TW p s m args meth c r) (hv : 0 ≤ v) (hdg : decode (s_b r) pc = .ok (.ifnull (v - (pc : Int)), n)) (hn : n = 3) (hs : s_x (.ifnull v) pc n L st h = some q) (k : s_W S G p l e R s m args below meth c Q N0 M0 q.1 q.2.1 q.2.2.1 q.2.2.2) : s_W S G p l e R s m args below meth c Q N0 M0 pc L st h := by
  obtain ⟨hx, hb, hml, hown, hts, hI, hini⟩ := C
  subst hn
  dsimp only [s_x] at hs
  split at hs
  · cases hs
    intro hlen H locs ls hW hS hL
    exact lv_ifnullN hx hb hdg (by omega) (k hlen H locs ls hW hS hL)
  · cases hs
    intro hlen H locs ls hW hS hL
    exact lv_ifnull hx hb hdg (k hlen H locs ls hW hS hL)
  · cases hs
theorem s_d_ifnonnull {v : Int} (C : s_Cx S G TW p s m args meth c r) (hv : 0 ≤ v) (hdg : decode (s_b r) pc = .ok (.ifnonnull (v - (pc : Int)), n)) (hn : n = 3) (hs : s_x (.ifnonnull v) pc n L st h = some q) (k : s_W S G p l e R s m args below meth c Q N0 M0 q.1 q.2.1 q.2.2.1 q.2.2.2) : s_W S G p l e R s m args below meth c Q N0 M0 pc L st h := by
  obtain ⟨hx, hb, hml, hown, hts, hI, hini⟩ := C
  subst hn
  dsimp only [s_x] at hs
  split at hs
  · cases hs
    intro hlen H locs ls hW hS hL
    exact lv_ifnonnullN hx hb hdg (k hlen H locs ls hW hS hL)
  · cases hs
    intro hlen H locs ls hW hS hL
    exact lv_ifnonnull hx hb hdg (by omega) (k hlen H locs ls hW hS hL)
  · cases hs
theorem s_d_table {d lo hi : Int} {o : Array Int} (C : s_Cx S G TW p s m args meth c r) (hd : 0 ≤ d) (ho : ∀ t ∈ o.toList, 0 ≤ t) (hdg : decode (s_b r) pc = .ok (.tableswitch (d - (pc : Int)) lo hi (o.map (fun t => t - (pc : Int))), n)) (hs : s_x (.tableswitch d lo hi o) pc n L st h = some q) (k : s_W S G p l e R s m args below meth c Q N0 M0 q.1 q.2.1 q.2.2.1 q.2.2.2) : s_W S G p l e R s m args below meth c Q N0 M0 pc L st h := by
  obtain ⟨hx, hb, hml, hown, hts, hI, hini⟩ := C
  dsimp only [s_x] at hs
  split at hs
  · split at hs
    next hc =>
      cases hs
      intro hlen H locs ls hW hS hL
      exact lv_tableOut hx hb hdg hc (by omega) (k hlen H locs ls hW hS hL)
    next x r0 hc =>
      split at hs
      next t heq =>
        cases hs
        intro hlen H locs ls hW hS hL
        have h1 : ¬ x.toInt < lo := fun z => hc (Or.inl z)
        have h2 : ¬ hi < x.toInt := fun z => hc (Or.inr z)
        rw [s_nth_eq] at heq
        have h3 := ho t (List.mem_of_getElem? heq)
        rw [Array.getElem?_toList] at heq
        exact lv_tableIn (off := t - (pc : Int)) hx hb hdg h1 h2 (by rw [Array.getElem?_map, heq]; rfl) (by omega) (k hlen H locs ls hW hS hL)
      · cases hs
  · cases hs
theorem s_off (d z : Int) (pc : Nat) (hd : 0 ≤ d) : ∀ l : List (Int × Int), (∀ q ∈ l, 0 ≤ q.2) → Op.lookupswitch.offset (l.map fun q => (q.1, q.2 - (pc : Int))) (d - (pc : Int)) z = Op.lookupswitch.offset l d z - (pc : Int) ∧ 0 ≤ Op.lookupswitch.offset l d z
  | [], _ => ⟨rfl, hd⟩
  | (a, b) :: l, hl => by
    have ih := s_off d z pc hd l (fun q hq => hl q (List.mem_cons_of_mem _ hq))
    rw [List.map_cons, Op.lookupswitch.offset_cons, Op.lookupswitch.offset_cons]
    split
    · exact ⟨rfl, hl _ List.mem_cons_self⟩
    · exact ih
theorem s_d_look {d : Int} {o : Array (Int × Int)} (C : s_Cx S G TW p s m args meth c r) (hd : 0 ≤ d) (ho : ∀ t ∈ o.toList, 0 ≤ t.2) (hso : ((o.map fun q => (q.1, q.2 - (pc : Int))).toList.zip ((o.map fun q => (q.1, q.2 - (pc : Int))).toList.drop 1)).all (fun (a, next) => a.1 < next.1) = true) (hdg : decode (s_b r) pc = .ok (.lookupswitch (d - (pc : Int)) (o.map fun q => (q.1, q.2 - (pc : Int))), n)) (hs : s_x (.lookupswitch d o) pc n L st h = some q) (k : s_W S G p l e R s m args below meth c Q N0 M0 q.1 q.2.1 q.2.2.1 q.2.2.2) : s_W S G p l e R s m args below meth c Q N0 M0 pc L st h := by
  obtain ⟨hx, hb, hml, hown, hts, hI, hini⟩ := C
  dsimp only [s_x] at hs
  split at hs
  next x r0 =>
    cases hs
    intro hlen H locs ls hW hS hL
    have h1 := s_off d x.toInt pc hd o.toList ho
    exact lv_lookup (off := Op.lookupswitch.offset o.toList d x.toInt - (pc : Int)) hx hb hdg hso (by rw [← h1.1, Array.toList_map]) (by omega) (k hlen H locs ls hW hS hL)
  · cases hs
end STP
