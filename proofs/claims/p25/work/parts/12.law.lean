/-! THE CLAIM OUT OF ONE WALK OF THE LAW'S BODY. Your part is whole_start (and what it stands on); all else here is the same for every law, but numbers. -/
def R_law : String := "LeaningTreesLaw"
def lw_P (b : Addr) (xs : List Int32) (args : Array Value) (s : State) : Prop := args = #[.ref b] ∧ s.IntsAt b xs ∧ xs.length ≤ 260 ∧ (Jvm.Cond.and given_1 narrow_1).before args s = true
def lw_Q (_ : Array Value) (s : State) (o : Outcome) (t : State) : Prop := o = .returned (some (.int 1)) ∧ Framed s o t [] 600000 7302250
def lw_Z (below : List Frame) (a : Array Value) (s : State) : State → Prop := fun t => ∃ o, t.status = .running ∧ Ended t below o ∧ lw_Q a s o t
/-- the law's own end, with 1 on the stack, nothing written that was there before, its room as the claim has it -/
theorem lw_ret {p : Program} {l : Launch} {e : Env} {s : State} {m : MethodId} {below : List Frame} {meth : Method} {c : Code} {b : Nat} (hx : p.tables.exec = Jvm.exec) (hb : c.code = code) (hr : meth.sig.returnType = ret) (hlocks : meth.locks = false) {pc : Nat} {H : Heap} {ls : Array Slot} (hdg : decode code pc = .ok (.ireturn, 1)) : W p l e room_1 s m #[Value.ref b] below meth c H [] 600000 7302250 (lw_Z below #[Value.ref b] s) (F0 m pc ls [.int 1]) := by
  intro T hT X
  obtain ⟨fs, hret, hrun, hended, hW, hframe⟩ := X.leave (v := some (.int 1)) (hlocks := hlocks) (fun h => by rw [hr] at h; cases h)
  have hmeth' : T.vm.method? m = some meth := X.method'
  refine ⟨T.setFrames fs, ?_, .returned (some (.int 1)), hrun, hended, rfl, ⟨_, rfl⟩, hW, hframe⟩
  jvm_step X.here [X.here.top, hx, hb, hdg, hmeth', hr, ret, narrow_b1]
  (try refine ⟨rfl, ?_⟩); (try refine ⟨rfl, ?_⟩)
  first | (intro acts; rw [hret _ acts rfl rfl rfl]) | rw [hret _ _ rfl rfl rfl]
  exact Steps.refl _
/-- what holds at the law's entry: the machine, the code, the tables' words (any of lw_tbl by 'hts w (by decide +kernel)'), the script of L ints xs at the cell b, what the Statement gives of the start (any of its parts by flat_of_before) -/
def lw_At (p : Program) (s : State) (m : MethodId) (meth : Method) (c : Code) (b L : Nat) (xs : Nat → Int32) : Prop :=
  p.tables.exec = Jvm.exec ∧ c.code = code ∧ meth.sig.returnType = ret ∧ c.maxLocals = 5 ∧ s.vm.findClass R_law = some m.cls ∧ (∀ w ∈ lw_tbl, w.before #[Value.ref b] s = true) ∧ va_X b L xs s s.heap ∧ b < s.heap.size ∧ meth.locks = false ∧ (Jvm.Cond.and given_1 narrow_1).before #[Value.ref b] s = true
/-! THE LAW'S START: the real walk out of the small machine's run -/
def s_3 (a b c : Int32) : Nat → Int32 := fun j => if j = 0 then a else if j = 1 then b else c
def s_Z0 (xs : Nat → Int32) : Nat → Nat → Int32 := fun i => if i = 0 then s_3 70 40 2 else if i = 1 then s_3 55 10 0 else if i = 2 then s_3 95 90 9 else if i = 3 then xs else fun _ => 0
def s_h0 (L : Nat) (xs : Nat → Int32) : sHp := (s_Z0 xs, fun _ _ => none, [(1, 3), (1, 3), (1, 3), (1, L)])
/-- WHAT IS LEFT: on every script the small machine comes to its end with 1, in its room -/
def s_Goal : Prop := ∀ (L : Nat) (xs : Nat → Int32), L ≤ 260 → ∃ (f : Nat) (h : sHp), s_run s_T f 95 0 [.ref 3, s_no, s_no, s_no, s_no] [] (s_h0 L xs) = some (some (.int 1), h) ∧ h.2.2.length ≤ 600000 ∧ s_sz s_S h.2.2 ≤ 7302250
theorem s_TWhas {w : Jvm.Cond} {i : Nat} (h : lw_tbl[i]? = some w) (hg : goodWord w = true) : w ∈ s_TW lw_tbl := List.mem_filter.mpr ⟨List.mem_of_getElem? h, hg⟩
theorem s_uw {ws : List Jvm.Cond} {pl : List Nat} (h : ws.map some = pl.map (fun i => lw_tbl[i]?)) (hg : ws.all goodWord = true) : ∀ w ∈ ws, w ∈ s_TW lw_tbl := by
  intro w hw
  refine List.mem_filter.mpr ⟨?_, List.all_eq_true.mp hg w hw⟩
  have : some w ∈ pl.map (fun i => lw_tbl[i]?) := by
    rw [← h]
    exact List.mem_map.mpr ⟨w, hw, rfl⟩
  obtain ⟨j, -, hj⟩ := List.mem_map.mp this
  exact List.mem_of_getElem? hj
theorem s_u0 : ∀ w ∈ u_ws RX0 TX0 2, w ∈ s_TW lw_tbl := s_uw (pl := [110, 112]) (by decide +kernel) (by decide +kernel)
theorem s_u1 : ∀ w ∈ u_ws RX1 TX1 5, w ∈ s_TW lw_tbl := s_uw (pl := [138, 140, 142, 144, 146]) (by decide +kernel) (by decide +kernel)
theorem s_u2 : ∀ w ∈ u_ws RX2 TX2 2, w ∈ s_TW lw_tbl := s_uw (pl := [127, 129]) (by decide +kernel) (by decide +kernel)
theorem s_u3 : ∀ w ∈ u_ws RX3 TX3 1, w ∈ s_TW lw_tbl := s_uw (pl := [45]) (by decide +kernel) (by decide +kernel)
theorem s_u4 : ∀ w ∈ u_ws RX4 TX4 2, w ∈ s_TW lw_tbl := s_uw (pl := [157, 159]) (by decide +kernel) (by decide +kernel)
theorem s_u5 : ∀ w ∈ u_ws RX5 TX5 11, w ∈ s_TW lw_tbl := s_uw (pl := [75, 77, 79, 81, 83, 85, 87, 89, 91, 93, 95]) (by decide +kernel) (by decide +kernel)
theorem s_u6 : ∀ w ∈ u_ws RX6 TX6 5, w ∈ s_TW lw_tbl := s_uw (pl := [167, 169, 171, 173, 175]) (by decide +kernel) (by decide +kernel)
theorem s_SOKs : s_SOK s_S (s_TW lw_tbl) := by
  intro c q hq
  have hq : s_vw[c]? = some q := hq
  match c, hq with
  | 0, hq => cases hq; exact ⟨s_u0, tyX0_ok, nmX0⟩
  | 1, hq => cases hq; exact ⟨s_u1, tyX1_ok, nmX1⟩
  | 2, hq => cases hq; exact ⟨s_u2, tyX2_ok, nmX2⟩
  | 3, hq => cases hq; exact ⟨s_u3, tyX3_ok, nmX3⟩
  | 4, hq => cases hq; exact ⟨s_u4, tyX4_ok, nmX4⟩
  | 5, hq => cases hq; exact ⟨s_u5, tyX5_ok, nmX5⟩
  | 6, hq => cases hq; exact ⟨s_u6, tyX6_ok, nmX6⟩
  | k + 7, hq => exact absurd (List.getElem?_eq_some_iff.mp hq).1 (by show ¬ k + 7 < 7; omega)
theorem s_insts : ∀ q ∈ s_vw, Jvm.Cond.instantiable q.1 q.2.2 ∈ lw_tbl := by
  intro q hq
  have hq2 : q ∈ s_vw := hq
  unfold s_vw at hq2
  simp only [List.mem_cons, List.not_mem_nil, or_false] at hq2
  rcases hq2 with rfl | rfl | rfl | rfl | rfl | rfl | rfl
  · exact List.mem_of_getElem? (i := 99) (by decide +kernel)
  · exact List.mem_of_getElem? (i := 133) (by decide +kernel)
  · exact List.mem_of_getElem? (i := 118) (by decide +kernel)
  · exact List.mem_of_getElem? (i := 37) (by decide +kernel)
  · exact List.mem_of_getElem? (i := 149) (by decide +kernel)
  · exact List.mem_of_getElem? (i := 31) (by decide +kernel)
  · exact List.mem_of_getElem? (i := 23) (by decide +kernel)
theorem s_SDs : s_SD s_S := by
  refine ⟨by decide +kernel, fun c k hk => ?_⟩
  rcases Nat.lt_or_ge c 7 with hc | hc
  · have h1 : ∀ c, c < 7 → ∀ k, k < s_N s_S c → defaultValue (s_ty s_S c k) = if s_kd (s_ty s_S c k) = 2 then .null else .int 0 := by decide +kernel
    exact h1 c hc k hk
  · have : s_vw[c]? = none := List.getElem?_eq_none (by exact hc)
    unfold s_N at hk
    rw [show (s_cl s_S)[c]? = none from this] at hk
    exact absurd hk (Nat.not_lt_zero _)
theorem s_FX : s_Fix s_S s_T lw_tbl s_host := ⟨s_SOKs, s_SDs, s_CK, by decide +kernel⟩
theorem s_static {args : Array Value} {s : State} {C n : String} {v0 v1 v2 : Int32} (hl : (Jvm.Cond.laysStatic C n "[I").before args s = true) (hini : (Jvm.Cond.initialized C).before args s = true) (harr : (Jvm.Cond.arrayOf (.static C n "[I") .int).before args s = true) (hlen : (Jvm.Cond.eq (.length (.static C n "[I")) (.int 3)).before args s = true)
    (h0 : (Jvm.Cond.eq (.elem (.static C n "[I") (.int 0)) (.int v0)).before args s = true) (h1 : (Jvm.Cond.eq (.elem (.static C n "[I") (.int 1)) (.int v1)).before args s = true) (h2 : (Jvm.Cond.eq (.elem (.static C n "[I") (.int 2)) (.int v2)).before args s = true) :
    ∃ t : Nat, va_Z C n "[I" (.ref t) (fun q => s.heap.size ≤ q) s s.heap ∧ va_T .int t 3 (fun j => .int (s_3 v0 v1 v2 j)) (fun q => s.heap.size ≤ q) s s.heap := by
  have hA : ∀ a : Nat, a < s.heap.size → ¬ (fun q => s.heap.size ≤ q) a := fun a h => Nat.not_le.mpr h
  obtain ⟨t, ht, hT⟩ := va_Tof (tm := .static C n "[I") (ty := .int) (N := 3) (f := fun j => .int (s_3 v0 v1 v2 j)) (by decide) harr (va_eqt hlen) (fun j hj => by
    match j, hj with
    | 0, _ => exact va_eqt h0
    | 1, _ => exact va_eqt h1
    | 2, _ => exact va_eqt h2) hA
  exact ⟨t, va_Zof hl hini ht hA, hT⟩
theorem s_nwTrue {args : Array Value} {s : State} (hts : ∀ w ∈ lw_tbl, w.before args s = true) : ∀ w ∈ s_nwl, va_Nw w s := by
  intro w hw
  unfold s_nwl at hw
  simp only [List.mem_cons, List.not_mem_nil, or_false] at hw
  rcases hw with rfl | rfl | rfl | rfl | rfl | rfl
  · exact va_tabs rfl rfl (hts _ (List.mem_of_getElem? (i := 119) (by decide +kernel)))
  · exact va_tabs rfl rfl (hts _ (List.mem_of_getElem? (i := 134) (by decide +kernel)))
  · exact va_tabs rfl rfl (hts _ (List.mem_of_getElem? (i := 150) (by decide +kernel)))
  · exact va_tabs rfl rfl (hts _ (List.mem_of_getElem? (i := 38) (by decide +kernel)))
  · exact va_AO.of (hts _ (List.mem_of_getElem? (i := 116) (by decide +kernel)))
  · exact va_AO.of (hts _ (List.mem_of_getElem? (i := 105) (by decide +kernel)))
/-- the small machine's run gives the walk -/
theorem s_whole (HG : s_Goal) {p : Program} {e : Env} {s : State} {m : MethodId} {below : List Frame} {meth : Method} {c : Code} (l : Launch) {b L : Nat} {xs : Nat → Int32} (hL : L ≤ 260) (C0 : lw_At p s m meth c b L xs) : W p l e room_1 s m #[Value.ref b] below meth c s.heap [] 0 0 (lw_Z below #[Value.ref b] s) (entryFrame m ([Value.ref b] : List Value).toArray 5) := by
  obtain ⟨hx, hb, hr, hml, hown, hts, hX, hbl, hlocks, hgv⟩ := C0
  have hs := flat_of_before _ hgv
  obtain ⟨f, h1, hrun, hroom1, hroom2⟩ := HG L xs hL
  obtain ⟨t0, hZ0, hT0⟩ := s_static (C := "LeaningTrees") (n := "FIRST_SETTINGS") (v0 := 70) (v1 := 40) (v2 := 2) (hts _ (List.mem_of_getElem? (i := 39) (by decide +kernel))) (hts _ (List.mem_of_getElem? (i := 13) (by decide +kernel))) (hs _ (by decide +kernel)) (hs _ (by decide +kernel)) (hs _ (by decide +kernel)) (hs _ (by decide +kernel)) (hs _ (by decide +kernel))
  obtain ⟨t1, hZ1, hT1⟩ := s_static (C := "LeaningTrees") (n := "LEAST_SETTINGS") (v0 := 55) (v1 := 10) (v2 := 0) (hts _ (List.mem_of_getElem? (i := 394) (by decide +kernel))) (hts _ (List.mem_of_getElem? (i := 13) (by decide +kernel))) (hs _ (by decide +kernel)) (hs _ (by decide +kernel)) (hs _ (by decide +kernel)) (hs _ (by decide +kernel)) (hs _ (by decide +kernel))
  obtain ⟨t2, hZ2, hT2⟩ := s_static (C := "LeaningTrees") (n := "GREATEST_SETTINGS") (v0 := 95) (v1 := 90) (v2 := 9) (hts _ (List.mem_of_getElem? (i := 396) (by decide +kernel))) (hts _ (List.mem_of_getElem? (i := 13) (by decide +kernel))) (hs _ (by decide +kernel)) (hs _ (by decide +kernel)) (hs _ (by decide +kernel)) (hs _ (by decide +kernel)) (hs _ (by decide +kernel))
  have hcls : ∀ k : Nat, ∃ (cC : ClassId) (iS : Nat → Nat), ∀ q : vw_C, s_vw[k]? = some q → u_Kn s q.1 q.2.1 q.2.2 cC iS := by
    intro k
    cases hk : s_vw[k]? with
    | none => exact ⟨0, fun _ => 0, fun q h => by cases h⟩
    | some q0 =>
      obtain ⟨c0, i0, hK0⟩ := u_known (C := q0.1) (T := q0.2.1) (N := q0.2.2) (n := q0.2.2) (ws := s_TW lw_tbl) (fun w hw => hts w (List.mem_filter.mp hw).1) (s_SOKs k q0 hk).1 (hts _ (s_insts q0 (List.mem_of_getElem? hk)))
      exact ⟨c0, i0, fun q h => by cases h; exact hK0⟩
  obtain ⟨dC, hdC⟩ : ∃ dC : Nat → ClassId, ∀ k : Nat, ∃ iS : Nat → Nat, ∀ q : vw_C, s_vw[k]? = some q → u_Kn s q.1 q.2.1 q.2.2 (dC k) iS := ⟨fun k => Classical.choose (hcls k), fun k => Classical.choose_spec (hcls k)⟩
  obtain ⟨dI, hdI⟩ : ∃ dI : Nat → Nat → Nat, ∀ (k : Nat) (q : vw_C), s_vw[k]? = some q → u_Kn s q.1 q.2.1 q.2.2 (dC k) (dI k) := ⟨fun k => Classical.choose (hdC k), fun k => Classical.choose_spec (hdC k)⟩
  obtain ⟨cI, kI, cmI, hI1, hI2, hI3⟩ := Cond.arrayClass_spec (type := .int) (hts _ (List.mem_of_getElem? (i := 48) (by decide +kernel)))
  have harr : ∀ t : Nat, ∃ cA : ClassId, t ∈ s_rkl → ArrOfT s cA (.object (s_cn s_S t)) ∧ va_RA s cA (.object (s_cn s_S t)) := by
    intro t
    by_cases ht : t ∈ s_rkl
    · have hw : Jvm.Cond.arrayOver (.object (s_cn s_S t)) ∈ lw_tbl := by
        simp only [s_rkl, List.mem_cons, List.not_mem_nil, or_false] at ht
        rcases ht with rfl | rfl
        · exact List.mem_of_getElem? (i := 116) (by decide +kernel)
        · exact List.mem_of_getElem? (i := 105) (by decide +kernel)
      obtain ⟨comp, cA, kA, g1, g2, g3, g4, g5⟩ := Cond.arrayOver_spec (hts _ hw)
      exact ⟨cA, fun _ => ⟨fun n z => ⟨(fun k h => by cases h), kA, g3, comp, g4⟩, kA, comp, g3, g4, g1, g5⟩⟩
    · exact ⟨0, fun h => absurd h ht⟩
  obtain ⟨cA, hcA⟩ : ∃ cA : Nat → ClassId, ∀ t : Nat, t ∈ s_rkl → ArrOfT s (cA t) (.object (s_cn s_S t)) ∧ va_RA s (cA t) (.object (s_cn s_S t)) := ⟨fun t => Classical.choose (harr t), fun t => Classical.choose_spec (harr t)⟩
  let G : s_DG := ((dC, dI), (fun t => if t = 1 then cI else cA (t - 2)), (fun i => if i = 0 then t0 else if i = 1 then t1 else if i = 2 then t2 else if i = 3 then b else s.heap.size + (i - 4)), s.heap.size, (fun i => if i = 3 then L else 3), s_Z0 xs)
  have hA : ∀ a : Nat, a < s.heap.size → ¬ s_A G a := fun a h => Nat.not_le.mpr h
  have hlt : ∀ {t : Nat} {f : Nat → Value} {n : Nat}, va_T .int t n f (fun q => s.heap.size ≤ q) s s.heap → t < s.heap.size := fun hT => by
    obtain ⟨cell, g1, -⟩ := hT
    exact (Array.getElem?_eq_some_iff.mp g1).1
  have hT3 : va_T .int b L (fun j => .int (xs j)) (fun q => s.heap.size ≤ q) s s.heap := by
    obtain ⟨scr, g1, g2, g3, g4, g5⟩ := hX
    exact ⟨scr, g1, g2, g3, Nat.le_of_eq g4.symm, by rw [g4], g5, Nat.not_le.mpr hbl⟩
  have hIn : s_In s_S G s := by
    refine ⟨⟨fun k q h => hdI k q h, fun k q h => ?_⟩, fun i hi => ?_, fun j hj => ?_, fun j => ?_, s_nwTrue hts⟩
    · have hm := List.mem_of_getElem? h
      rcases List.mem_cons.mp hm with rfl | hm
      · exact ⟨fun n z => ⟨(fun k h => by cases h), kI, hI2, cmI, hI3⟩, hI1⟩
      · obtain ⟨t, ht, rfl⟩ := List.mem_map.mp hm
        have hz : s_cA G (t + 2) = cA t := by
          show (if t + 2 = 1 then cI else cA (t + 2 - 2)) = cA t
          rw [if_neg (by omega), Nat.add_sub_cancel]
        rw [hz]
        exact hcA t ht
    · match i, hi with
      | 0, _ => exact ⟨hT0, hlt hT0⟩
      | 1, _ => exact ⟨hT1, hlt hT1⟩
      | 2, _ => exact ⟨hT2, hlt hT2⟩
      | 3, _ => exact ⟨hT3, hlt hT3⟩
    · match j, hj with
      | 0, _ => exact ⟨by decide, hZ0⟩
      | 1, _ => exact ⟨by decide, hZ1⟩
      | 2, _ => exact ⟨by decide, hZ2⟩
    · show (if j + 4 = 0 then t0 else if j + 4 = 1 then t1 else if j + 4 = 2 then t2 else if j + 4 = 3 then b else s.heap.size + (j + 4 - 4)) = s.heap.size + j
      rw [if_neg (by omega), if_neg (by omega), if_neg (by omega), if_neg (by omega), Nat.add_sub_cancel]
  have hW0 : s_Wd s_S G (s_h0 L xs) s.heap := by
    refine ⟨Nat.le_refl 4, fun k q h => ?_, fun i hi => ?_, fun i t n h => ?_⟩
    · have h0 : (s_ws s_S G (s_h0 L xs)) = [] := rfl
      rw [h0] at h
      cases h
    · match i, hi with
      | 0, _ => exact ⟨rfl, rfl⟩
      | 1, _ => exact ⟨rfl, rfl⟩
      | 2, _ => exact ⟨rfl, rfl⟩
      | 3, _ => exact ⟨rfl, rfl⟩
    · match i, h with
      | 0, h => cases h
      | 1, h => cases h
      | 2, h => cases h
      | 3, h => cases h
      | i + 4, h => cases h
  have C : s_Cx s_S G (s_TW lw_tbl) p s m #[Value.ref b] meth c s_m95 := ⟨hx, hb, hml, hown, fun w hw => hts w (List.mem_filter.mp hw).1, hIn, fun z => absurd z (by decide +kernel)⟩
  have hl := lv_entry ([.ref b]) (n := 5) (Nat.le_of_ble_eq_true rfl)
  rw [lg_entry_eq]
  generalize (lg_sl ([.ref b]) ++ List.replicate (5 - (lg_sl ([.ref b])).length) Slot.unset).toArray = ls at hl ⊢
  have hLR : s_LR G ls [.ref 3, s_no, s_no, s_no, s_no] := s_LR_ent (G := G) (vs := [.ref 3]) (n := 5) (Nat.le_of_ble_eq_true rfl) hl
  have key := s_body (G := G) (l := l) s_FX f p e room_1 s m #[Value.ref b] below meth c (lw_Z below #[Value.ref b] s) 95 s_m95 none 4 (s_sz s_S (s_h0 L xs).2.2) 0 [.ref 3, s_no, s_no, s_no, s_no] [] (s_h0 L xs) (some (.int 1), h1) (by rfl) C hrun (Nat.le_of_ble_eq_true rfl) (Nat.le_of_ble_eq_true rfl) rfl (Nat.le_refl 4) (Nat.le_refl 4) (Nat.le_refl _) ⟨by show _ - 4 ≤ 600000; dsimp only; omega, by show _ ≤ 7302250; dsimp only; omega⟩ ?_ hml.symm s.heap [] ls hW0 va_S.rf hLR
  · rw [show (s_h0 L xs).2.2.length - 4 = 0 from rfl, Nat.sub_self] at key
    exact key
  · intro ri pc2 L2 st2 hdg hrx hlen2 H locs ls2 hW2 hS2 hL2
    have hst : ri = .ireturn ∧ st2 = [.int 1] := by
      unfold s_rx at hrx
      split at hrx
      next heq => cases heq
      next heq => cases heq
      next v heq =>
        split at hrx
        · cases hrx; exact ⟨rfl, rfl⟩
        · cases hrx
      next heq => cases heq
      next heq => cases heq
      next heq => cases heq
      · cases hrx
    obtain ⟨rfl, rfl⟩ := hst
    refine va_forget (fun q hq => hS2.2.2 q hq) ?_
    refine W.widen (k := 600000) (n := 7302250) (by show _ - 4 ≤ _; dsimp only; omega) (by dsimp only; omega) ?_
    exact lw_ret hx hb hr hlocks hdg
