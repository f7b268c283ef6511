section MKS
variable {p : Program} {l : Launch} {e : Env} {R : Room} {s : State} {m : MethodId} {args : Array Value} {below : List Frame} {meth : Method} {c : Code} {Q : State → Prop}
variable {S : s_SG} {G : s_DG} {TW : List Jvm.Cond} {r : sM} {N0 M0 pc n idx : Nat} {L st : List Value} {h : sHp} {q : sC}
theorem s_cell_new {t k i : Nat} (hi : i < h.2.2.length) : s_cell S G (s_new h t k) i = s_cell S G h i := by
  have e1 : (s_new h t k).2.2[i]? = h.2.2[i]? := by
    show (h.2.2 ++ [(t, k)])[i]? = _
    rw [List.getElem?_append_left hi]
  have e2 : (s_new h t k).1 i = h.1 i := if_neg (by omega)
  have e3 : (s_new h t k).2.1 i = h.2.1 i := if_neg (by omega)
  have e4 : ∀ cc, s_fv S G (s_new h t k) i cc = s_fv S G h i cc := fun cc => by funext x; unfold s_fv; rw [e2, e3]
  unfold s_cell
  rw [e1, e2, e3]
  simp only [e4]
theorem s_ws_new {t k : Nat} (h4 : 4 ≤ h.2.2.length) : s_ws S G (s_new h t k) = s_ws S G h ++ [(s_ad G h.2.2.length, s_cell S G (s_new h t k) h.2.2.length)] := by
  have hl : (s_new h t k).2.2.length = h.2.2.length + 1 := by show (h.2.2 ++ [(t, k)]).length = _; simp
  unfold s_ws
  rw [hl, show h.2.2.length + 1 - 4 = (h.2.2.length - 4) + 1 by omega, List.range_succ, List.map_append]
  congr 1
  · apply List.map_congr_left
    intro j hj
    rw [s_cell_new (by have := List.mem_range.mp hj; omega)]
  · rw [List.map_cons, List.map_nil, show h.2.2.length - 4 + 4 = h.2.2.length by omega]
theorem s_new_at {t k : Nat} : (s_new h t k).2.2[h.2.2.length]? = some (t, k) := by
  show (h.2.2 ++ [(t, k)])[h.2.2.length]? = _
  simp
theorem s_Wd_new {H H1 : Heap} {t k : Nat} (hW : s_Wd S G h H) (hrk : ∀ x, t = x + 2 → x ∈ s_rk S) (hP : va_P (s_D G) (s_cl S) (s_ws S G h ++ [(s_ad G h.2.2.length, s_cell S G (s_new h t k) h.2.2.length)]) H1) : s_Wd S G (s_new h t k) H1 := by
  have hl : (s_new h t k).2.2.length = h.2.2.length + 1 := by show (h.2.2 ++ [(t, k)]).length = _; simp
  have h4 := hW.1
  refine ⟨by rw [hl]; omega, by rw [s_ws_new h4]; exact hP, fun i hi => ?_, fun i x y hi => ?_⟩
  · have e1 : (s_new h t k).2.2[i]? = h.2.2[i]? := by
      show (h.2.2 ++ [(t, k)])[i]? = _
      rw [List.getElem?_append_left (by omega)]
    have e2 : (s_new h t k).1 i = h.1 i := if_neg (by omega)
    rw [e1, e2]
    exact hW.2.2.1 i hi
  · rcases Nat.lt_or_ge i h.2.2.length with z | z
    · have e1 : (s_new h t k).2.2[i]? = h.2.2[i]? := by
        show (h.2.2 ++ [(t, k)])[i]? = _
        rw [List.getElem?_append_left z]
      rw [e1] at hi
      exact hW.2.2.2 i x y hi
    · have hlt := (List.getElem?_eq_some_iff.mp hi).1
      rw [hl] at hlt
      have : i = h.2.2.length := by omega
      subst this
      rw [s_new_at] at hi
      cases hi
      exact hrk x rfl
/-- a new cell comes just behind the others -/
theorem s_at_end {T : State} {H1 : Heap} {locs : List Loc} {k1 n1 a : Nat} {ev : va_E} (hI : s_In S G s) (hsz : s.heap.size = s_B G + (N0 - 4)) (hN : 4 ≤ N0) (hN2 : N0 ≤ h.2.2.length) (hk1 : k1 = h.2.2.length - N0 + 1) (hP : va_P (s_D G) (s_cl S) (s_ws S G h ++ [(a, ev)]) H1) (hD : va_D (s_A G) (s_ws S G h ++ [(a, ev)])) (hT : T.heap = H1) (X : Stand p l e R s m args below meth c T locs k1 n1) : a = s_ad G h.2.2.length := by
  have hlen := s_ws_len S G h
  have hlast : (s_ws S G h ++ [(a, ev)])[h.2.2.length - 4]? = some (a, ev) := by
    rw [← hlen]
    simp
  have h1 := (hP _ _ hlast).lt
  have h2 := X.heapSize
  rw [hT] at h2
  have h3 : s_B G ≤ a := hD.2 _ _ hlast
  rw [s_ad_ge hI (by omega)]
  rcases Nat.lt_or_ge a (s_B G + (h.2.2.length - 4)) with z | z
  · exfalso
    have hj : (s_ws S G h ++ [(a, ev)])[a - s_B G]? = some (s_ad G (a - s_B G + 4), s_cell S G h (a - s_B G + 4)) := by
      rw [List.getElem?_append_left (by omega), s_ws_get, if_pos (by omega)]
    have := hD.1 _ _ _ _ hj hlast (by show s_ad G _ = a; rw [hI.2.2.2.1]; omega)
    omega
  · dsimp only at h1 h3
    omega
theorem s_d_new {ci : Nat} (C : s_Cx S G TW p s m args meth c r) (SK : s_SOK S TW) (hdf : ∀ k, k < s_N S ci → defaultValue (s_ty S ci k) = if s_kd (s_ty S ci k) = 2 then .null else .int 0) (hci : 0 < s_N S ci) (hsz : s.heap.size = s_B G + (N0 - 4)) (hN : 4 ≤ N0) (hN2 : N0 ≤ h.2.2.length) (hM2 : M0 ≤ s_sz S h.2.2) (hroom : q.2.2.2.2.2.length - N0 ≤ R.cells ∧ s_sz S q.2.2.2.2.2 - M0 ≤ R.slots) (hw1 : (Jvm.Cond.classLink (s_y r).cls idx (s_cn S ci)).before args s = true) (hw2 : (Jvm.Cond.instantiable (s_cn S ci) (s_N S ci)).before args s = true) (hw3 : (Jvm.Cond.initialized (s_cn S ci)).before args s = true) (hdg : decode (s_b r) pc = .ok (.new idx, n)) (hn : n = 3) (hs : s_x (.new ci) pc n L st h = some q) (k : s_W S G p l e R s m args below meth c Q N0 M0 q.1 q.2.1 q.2.2.1 q.2.2.2) : s_W S G p l e R s m args below meth c Q N0 M0 pc L st h := by
  obtain ⟨hx, hb, hml, hown, hts, hI, hini⟩ := C
  subst hn
  cases hs
  intro hlen H locs ls hW hS hL
  obtain ⟨qc, e1, e2, e3, e4⟩ := s_cl_of hci
  have hl : (s_new h 0 ci).2.2.length = h.2.2.length + 1 := by show (h.2.2 ++ [(0, ci)]).length = _; simp
  have hz : s_sz S (s_new h 0 ci).2.2 = s_sz S h.2.2 + s_N S ci := by
    show s_sz S (h.2.2 ++ [(0, ci)]) = _
    rw [s_sz_app]; rfl
  dsimp only at hroom k
  rw [hl, hz] at hroom
  rw [e4] at hw1 hw2 hw3
  rw [e2] at hw2
  have h4 := hW.1
  have hcell : s_cell S G (s_new h 0 ci) h.2.2.length = .inr (ci, (List.range (s_N S ci)).map (s_fv S G (s_new h 0 ci) h.2.2.length ci)) := s_cell_o s_new_at
  refine va_new (ci := ci) (fs := (List.range (s_N S ci)).map (s_fv S G (s_new h 0 ci) h.2.2.length ci)) (C := qc.1) (T := qc.2.1) (N := qc.2.2) hx hb hts (SK _ _ e1).1 (s_ty S ci) (SK _ _ e1).2.1 hown hw1 hw2 hw3 hI.1 hW.2.1 (s_ws_D hI h) hS (fun z hz => (by show s_B G ≤ z; omega)) e1 (fun j hj => ?_) (by omega) (by rw [← e2]; omega) hdg (fun a H1 hP1 hD1 hS1 => ?_)
  · rw [← e2] at hj
    rw [hdf j hj]
    unfold vp_V
    rw [List.getD_eq_getElem?_getD, s_fs_at hj]
    show _ = s_fv S G (s_new h 0 ci) h.2.2.length ci j
    unfold s_fv
    have z1 : (s_new h 0 ci).1 h.2.2.length j = 0 := by show (if _ then _ else _ : Nat → Int32) j = 0; rw [if_pos rfl]
    have z2 : (s_new h 0 ci).2.1 h.2.2.length j = none := by show (if _ then _ else _ : Nat → Option Nat) j = none; rw [if_pos rfl]
    rw [z1, z2]
    rfl
  · intro T hT X
    have ha := s_at_end hI hsz hN hN2 rfl hP1 hD1 hT X
    subst ha
    rw [← hcell] at hP1
    have hW1 := s_Wd_new hW (fun x hx => (by cases hx)) hP1
    have kk := k hlen H1 locs ls hW1 hS1 hL
    rw [hl, hz, e2, show h.2.2.length + 1 - N0 = h.2.2.length - N0 + 1 by omega, show s_sz S h.2.2 + qc.2.2 - M0 = s_sz S h.2.2 - M0 + qc.2.2 by omega] at kk
    exact kk T hT X
theorem s_d_newa (C : s_Cx S G TW p s m args meth c r) (hsz : s.heap.size = s_B G + (N0 - 4)) (hN : 4 ≤ N0) (hN2 : N0 ≤ h.2.2.length) (hM2 : M0 ≤ s_sz S h.2.2) (hroom : q.2.2.2.2.2.length - N0 ≤ R.cells ∧ s_sz S q.2.2.2.2.2 - M0 ≤ R.slots) (hw1 : (Jvm.Cond.arrayClass .int).before args s = true) (hdg : decode (s_b r) pc = .ok (.newarray .int, n)) (hn : n = 2) (hs : s_x (.newarray .int) pc n L st h = some q) (k : s_W S G p l e R s m args below meth c Q N0 M0 q.1 q.2.1 q.2.2.1 q.2.2.2) : s_W S G p l e R s m args below meth c Q N0 M0 pc L st h := by
  obtain ⟨hx, hb, hml, hown, hts, hI, hini⟩ := C
  subst hn
  dsimp only [s_x] at hs
  split at hs
  next z r0 =>
    split at hs
    · cases hs
    next hz0 =>
      cases hs
      intro hlen H locs ls hW hS hL
      have hl : (s_new h 1 z.toNatClampNeg).2.2.length = h.2.2.length + 1 := by show (h.2.2 ++ [_]).length = _; simp
      have hz : s_sz S (s_new h 1 z.toNatClampNeg).2.2 = s_sz S h.2.2 + z.toNatClampNeg := by
        show s_sz S (h.2.2 ++ [(1, _)]) = _
        rw [s_sz_app]; rfl
      dsimp only at hroom k
      rw [hl, hz] at hroom
      have h4 := hW.1
      have hcell : s_cell S G (s_new h 1 z.toNatClampNeg) h.2.2.length = .inl (s_cA G 1, z.toNatClampNeg, .inl (fun _ => 0)) := by
        rw [s_cell_i s_new_at]
        have z1 : (s_new h 1 z.toNatClampNeg).1 h.2.2.length = fun _ => 0 := if_pos rfl
        rw [z1]
      have hle : z.toNatClampNeg ≤ 65536 := by
        have h9 : z.toInt ≤ 65536 := Int.not_lt.mp (fun y => hz0 (Or.inr (Int32.lt_iff_toInt_lt.mpr y)))
        show z.toInt.toNat ≤ 65536
        omega
      refine va_newa (atype := .int) (ty := .int) (a0 := (z.toNatClampNeg, .inl (fun _ => 0))) hx hb hw1 rfl hI.1 hW.2.1 (s_ws_D hI h) hS (fun y hy => (by show s_B G ≤ y; omega)) (fun cA => rfl) (fun y => hz0 (Or.inl y)) rfl (by show _ * 4 ≤ _; omega) (by omega) (by omega) hdg (fun a cA H1 hK1 hP1 hD1 hS1 => ?_)
      intro T hT X
      have ha := s_at_end hI hsz hN hN2 rfl hP1 hD1 hT X
      subst ha
      have hcA : cA = s_cA G 1 := by
        have g1 := (hK1.2 (s_tys S G).length (cA, .int) (by simp)).2
        have g2 := (hI.1.2 0 (s_cA G 1, .int) rfl).2
        exact Option.some.inj (g1.symm.trans g2)
      subst hcA
      rw [← hcell] at hP1
      have hW1 := s_Wd_new hW (fun x hx => (by cases hx)) hP1
      have kk := k hlen H1 locs ls hW1 hS1 hL
      rw [hl, hz, show h.2.2.length + 1 - N0 = h.2.2.length - N0 + 1 by omega, show s_sz S h.2.2 + z.toNatClampNeg - M0 = s_sz S h.2.2 - M0 + z.toNatClampNeg by omega] at kk
      exact kk T hT X
  · cases hs
theorem s_d_newq {t : Nat} (C : s_Cx S G TW p s m args meth c r) (ht : t ∈ s_rk S) (hsz : s.heap.size = s_B G + (N0 - 4)) (hN : 4 ≤ N0) (hN2 : N0 ≤ h.2.2.length) (hM2 : M0 ≤ s_sz S h.2.2) (hroom : q.2.2.2.2.2.length - N0 ≤ R.cells ∧ s_sz S q.2.2.2.2.2 - M0 ≤ R.slots) (hw1 : (Jvm.Cond.classLink (s_y r).cls idx (s_cn S t)).before args s = true) (hw2 : va_Nw (.arrayOver (.object (s_cn S t))) s) (hdg : decode (s_b r) pc = .ok (.anewarray idx, n)) (hn : n = 3) (hs : s_x (.anewarray t) pc n L st h = some q) (k : s_W S G p l e R s m args below meth c Q N0 M0 q.1 q.2.1 q.2.2.1 q.2.2.2) : s_W S G p l e R s m args below meth c Q N0 M0 pc L st h := by
  obtain ⟨hx, hb, hml, hown, hts, hI, hini⟩ := C
  subst hn
  dsimp only [s_x] at hs
  split at hs
  next z r0 =>
    split at hs
    · cases hs
    next hz0 =>
      cases hs
      intro hlen H locs ls hW hS hL
      have hl : (s_new h (t + 2) z.toNatClampNeg).2.2.length = h.2.2.length + 1 := by show (h.2.2 ++ [_]).length = _; simp
      have hz : s_sz S (s_new h (t + 2) z.toNatClampNeg).2.2 = s_sz S h.2.2 + z.toNatClampNeg := by
        show s_sz S (h.2.2 ++ [(t + 2, _)]) = _
        rw [s_sz_app]; rfl
      dsimp only at hroom k
      rw [hl, hz] at hroom
      have h4 := hW.1
      have hcell : s_cell S G (s_new h (t + 2) z.toNatClampNeg) h.2.2.length = .inl (s_cA G (t + 2), z.toNatClampNeg, .inr (.inr (.inr (.inr (fun _ => none))))) := by
        rw [s_cell_r s_new_at]
        have z1 : (s_new h (t + 2) z.toNatClampNeg).2.1 h.2.2.length = fun _ => none := if_pos rfl
        rw [z1]
        rfl
      have hle : z.toNatClampNeg ≤ 65536 := by
        have h9 : z.toInt ≤ 65536 := Int.not_lt.mp (fun y => hz0 (Or.inr (Int32.lt_iff_toInt_lt.mpr y)))
        show z.toInt.toNat ≤ 65536
        omega
      refine va_newq hx hb hown hw1 hw2 hI.1 hW.2.1 (s_ws_D hI h) hS (fun y hy => (by show s_B G ≤ y; omega)) (fun y => hz0 (Or.inl y)) rfl (by omega) (by omega) (by omega) hdg (fun a cA H1 hK1 hP1 hD1 hS1 => ?_)
      intro T hT X
      have ha := s_at_end hI hsz hN hN2 rfl hP1 hD1 hT X
      subst ha
      have hcA : cA = s_cA G (t + 2) := by
        obtain ⟨_, _, _, _, _, g1⟩ := (hK1.2 (s_tys S G).length (cA, .object (s_cn S t)) (by simp)).2
        obtain ⟨j, hj⟩ := s_tys_r G ht
        obtain ⟨_, _, _, _, _, g2⟩ := (hI.1.2 j _ hj).2
        exact Option.some.inj (g1.symm.trans g2)
      subst hcA
      rw [← hcell] at hP1
      have hW1 := s_Wd_new hW (fun x hx => (by cases hx; exact ht)) hP1
      have kk := k hlen H1 locs ls hW1 hS1 hL
      rw [hl, hz, show h.2.2.length + 1 - N0 = h.2.2.length - N0 + 1 by omega, show s_sz S h.2.2 + z.toNatClampNeg - M0 = s_sz S h.2.2 - M0 + z.toNatClampNeg by omega] at kk
      exact kk T hT X
  · cases hs
theorem s_d_obj (C : s_Cx S G TW p s m args meth c r) (hRf : 1 ≤ R.frames) (hRl : 26 ≤ R.locals) (hw1 : (Jvm.Cond.methodLink (s_y r).cls idx Lib.objectInit).before args s = true) (hw2 : (Jvm.Cond.instanceMethod Lib.objectInit).before args s = true) (hw3 : (Jvm.Cond.code Lib.objectInit ⟨#[0xb1]⟩ 1 none).before args s = true) (hdg : decode (s_b r) pc = .ok (.invokespecial idx, n)) (hn : n = 3) (hs : s_x (.monitorenter) pc n L st h = some q) (k : s_W S G p l e R s m args below meth c Q N0 M0 q.1 q.2.1 q.2.2.1 q.2.2.2) : s_W S G p l e R s m args below meth c Q N0 M0 pc L st h := by
  obtain ⟨hx, hb, hml, hown, hts, hI, hini⟩ := C
  subst hn
  dsimp only [s_x] at hs
  split at hs
  next a r0 =>
    split at hs
    · cases hs
    next hc =>
      cases hs
      intro hlen H locs ls hW hS hL
      have h1 := s_cat_sum G r0
      refine W.objInit (g := F0 m pc ls (.ref (s_ad G a) :: r0.map (s_vc G))) hx hb hown hw1 hw2 hw3 rfl (by show ls.size = _; rw [hL.1, hlen]) rfl hdg hRf (by show 2 * 0 + _ + 12 ≤ _; omega) ?_
      exact W.eq rfl (k hlen H locs ls hW hS hL)
  · cases hs
theorem s_d_d2r (C : s_Cx S G TW p s m args meth c r) (hRf : 1 ≤ R.frames) (hRl : 26 ≤ R.locals) (hw1 : (Jvm.Cond.methodLink (s_y r).cls idx ⟨"java/lang/Double", "doubleToRawLongBits", "(D)J"⟩).before args s = true) (hw2 : (Jvm.Cond.native ⟨"java/lang/Double", "doubleToRawLongBits", "(D)J"⟩).before args s = true) (hw3 : (Jvm.Cond.static ⟨"java/lang/Double", "doubleToRawLongBits", "(D)J"⟩).before args s = true) (hw4 : (Jvm.Cond.initialized "java/lang/Double").before args s = true) (hdg : decode (s_b r) pc = .ok (.invokestatic idx, n)) (hn : n = 3) (hs : s_x (.nop) pc n L st h = some q) (k : s_W S G p l e R s m args below meth c Q N0 M0 q.1 q.2.1 q.2.2.1 q.2.2.2) : s_W S G p l e R s m args below meth c Q N0 M0 pc L st h := by
  obtain ⟨hx, hb, hml, hown, hts, hI, hini⟩ := C
  subst hn
  dsimp only [s_x] at hs
  split at hs
  next a r0 =>
    split at hs
    · cases hs
    next hc =>
      cases hs
      intro hlen H locs ls hW hS hL
      have h1 := s_cat_sum G r0
      exact vn_d2l hx hb (by rw [hL.1, hlen]) hown hw1 hw2 hw3 hw4 hRf (by omega) hdg (k hlen H locs ls hW hS hL)
  · cases hs
theorem s_d_f2r (C : s_Cx S G TW p s m args meth c r) (hRf : 1 ≤ R.frames) (hRl : 26 ≤ R.locals) (hw1 : (Jvm.Cond.methodLink (s_y r).cls idx ⟨"java/lang/Float", "floatToRawIntBits", "(F)I"⟩).before args s = true) (hw2 : (Jvm.Cond.native ⟨"java/lang/Float", "floatToRawIntBits", "(F)I"⟩).before args s = true) (hw3 : (Jvm.Cond.static ⟨"java/lang/Float", "floatToRawIntBits", "(F)I"⟩).before args s = true) (hw4 : (Jvm.Cond.initialized "java/lang/Float").before args s = true) (hdg : decode (s_b r) pc = .ok (.invokestatic idx, n)) (hn : n = 3) (hs : s_x (.swap) pc n L st h = some q) (k : s_W S G p l e R s m args below meth c Q N0 M0 q.1 q.2.1 q.2.2.1 q.2.2.2) : s_W S G p l e R s m args below meth c Q N0 M0 pc L st h := by
  obtain ⟨hx, hb, hml, hown, hts, hI, hini⟩ := C
  subst hn
  dsimp only [s_x] at hs
  split at hs
  next a r0 =>
    split at hs
    · cases hs
    next hc =>
      cases hs
      intro hlen H locs ls hW hS hL
      have h1 := s_cat_sum G r0
      exact vn_f2i hx hb (by rw [hL.1, hlen]) hown hw1 hw2 hw3 hw4 hRf (by omega) hdg (k hlen H locs ls hW hS hL)
  · cases hs
theorem s_d_acpy (C : s_Cx S G TW p s m args meth c r) (hRf : 1 ≤ R.frames) (hRl : 26 ≤ R.locals) (hw1 : (Jvm.Cond.methodLink (s_y r).cls idx arraycopyName).before args s = true) (hw2 : (Jvm.Cond.native arraycopyName).before args s = true) (hw3 : (Jvm.Cond.static arraycopyName).before args s = true) (hw4 : (Jvm.Cond.initialized "java/lang/System").before args s = true) (hdg : decode (s_b r) pc = .ok (.invokestatic idx, n)) (hn : n = 3) (hs : s_x (.monitorexit) pc n L st h = some q) (k : s_W S G p l e R s m args below meth c Q N0 M0 q.1 q.2.1 q.2.2.1 q.2.2.2) : s_W S G p l e R s m args below meth c Q N0 M0 pc L st h := by
  obtain ⟨hx, hb, hml, hown, hts, hI, hini⟩ := C
  subst hn
  dsimp only [s_x] at hs
  split at hs
  next kn dp b sp a r0 =>
    split at hs
    next na nb heq heq2 =>
      split at hs
      · cases hs
      next hc =>
        cases hs
        intro hlen H locs ls hW hS hL
        simp only [not_or, Nat.not_lt] at hc
        obtain ⟨c1, c2, c3, c4, c5, c6, c7, c8⟩ := hc
        obtain ⟨h1, h2, -⟩ := s_Wd_len hW heq
        obtain ⟨g1, g2, -⟩ := s_Wd_len hW heq2
        have h5 := s_ws_at S G h c7 h2
        rw [s_cell_i h1] at h5
        have g5 := s_ws_at S G h c8 g2
        rw [s_cell_i g1] at g5
        have hcat := s_cat_sum G r0
        have hnf : nativeFrameWords "java/lang/System" "arraycopy" 5 = 7 := by decide +kernel
        refine va_copyi (ty := .int) hx hb (by rw [hL.1, hlen]) hown hw1 hw2 hw3 hw4 hI.1 hW.2.1 (s_ws_D hI h) hS (a - 4) (b - 4) 0 0 h5 g5 (s_tys_0 S G) (s_tys_0 S G) rfl c2 c3 c4 c5 c6 (fun i hi => rfl) hRf (by omega) hdg (fun H1 locs1 hP1 _ hS1 => ?_)
        refine k hlen H1 locs1 ls (s_Wd_put (h2 := (fun i => if i = b then va_cpy (h.1 a) (h.1 b) sp.toNatClampNeg dp.toNatClampNeg kn.toNatClampNeg else h.1 i, h.2)) hW c8 g2 rfl (fun j hj => ⟨if_neg hj, rfl⟩) ?_ hP1) hS1 hL
        rw [s_cell_i (by exact g1)]
        show _ = Sum.inl (s_cA G 1, nb, Sum.inl (if b = b then _ else _))
        rw [if_pos rfl]
    · cases hs
  · cases hs
theorem s_ldcwf {v : UInt32} {cc : ByteArray} {H : Heap} {locs : List Loc} {ls : Array Slot} {rest : List Value} {cells slots : Nat} (hexec : p.tables.exec = Jvm.exec) (hb : c.code = cc) {own : String} {index : Nat} (hown : s.vm.findClass own = some m.cls) (hconst : (Jvm.Cond.constantFloat own index v).before args s = true) (hdg : decode cc pc = .ok (.ldc_w index, 3)) (k : W p l e R s m args below meth c H locs cells slots Q (F0 m (pc + 3) ls (.float v :: rest))) : W p l e R s m args below meth c H locs cells slots Q (F0 m pc ls rest) := by
  intro T hT X
  obtain ⟨t, a, b⟩ := k T hT X
  refine ⟨t, ?_, b⟩
  obtain ⟨k0, cf, hk, hcf, hcp⟩ := Cond.constantFloat_spec hown hconst
  obtain ⟨k', hk', he⟩ := X.warmed.alike.2.2 _ _ hk
  subst hb
  jvm_step X.here [hexec, hdg, ldc_w.wp_float (s := T) (f := F0 m pc ls rest) X.here.top hk' (by rw [he]; exact hcf) hcp]
  exact a
theorem s_d_ldcwf {v z : Nat} (C : s_Cx S G TW p s m args meth c r) (hw : (Jvm.Cond.constantFloat (s_y r).cls idx (UInt32.ofNat v)).before args s = true) (hdg : decode (s_b r) pc = .ok (.ldc_w idx, n)) (hn : n = 3) (hs : s_x (.multianewarray v z) pc n L st h = some q) (k : s_W S G p l e R s m args below meth c Q N0 M0 q.1 q.2.1 q.2.2.1 q.2.2.2) : s_W S G p l e R s m args below meth c Q N0 M0 pc L st h := by
  obtain ⟨hx, hb, hml, hown, hts, hI, hini⟩ := C
  subst hn
  cases hs
  intro hlen H locs ls hW hS hL
  exact s_ldcwf hx hb hown hw hdg (k hlen H locs ls hW hS hL)
theorem s_d_mmax {z : Int} (C : s_Cx S G TW p s m args meth c r) (hRf : 1 ≤ R.frames) (hRl : 26 ≤ R.locals) (hroom : q.2.2.2.2.2.length - N0 ≤ R.cells ∧ s_sz S q.2.2.2.2.2 - M0 ≤ R.slots) (hw1 : (Jvm.Cond.methodLink (s_y r).cls idx Lib.Math.max.name).before args s = true) (hw2 : (Jvm.Cond.static Lib.Math.max.name).before args s = true) (hw3 : (Jvm.Cond.initialized "java/lang/Math").before args s = true) (hw4 : (Jvm.Cond.code Lib.Math.max.name Lib.Math.max.code 2 (some .int)).before args s = true) (hdg : decode (s_b r) pc = .ok (.invokestatic idx, n)) (hn : n = 3) (hs : s_x (.jsr z) pc n L st h = some q) (k : s_W S G p l e R s m args below meth c Q N0 M0 q.1 q.2.1 q.2.2.1 q.2.2.2) : s_W S G p l e R s m args below meth c Q N0 M0 pc L st h := by
  obtain ⟨hx, hb, hml, hown, hts, hI, hini⟩ := C
  subst hn
  dsimp only [s_x] at hs
  split at hs
  next y x r0 =>
    split at hs
    · cases hs
    next hc =>
      cases hs
      intro hlen H locs ls hW hS hL
      have h1 := s_cat_sum G r0
      exact va_mmax hx hb (by rw [hL.1, hlen]) hown hw1 hw2 hw3 hw4 hRf (by omega) hroom.1 hroom.2 hdg (k hlen H locs ls hW hS hL)
  · cases hs
theorem s_d_mmin {z : Int} (C : s_Cx S G TW p s m args meth c r) (hRf : 1 ≤ R.frames) (hRl : 26 ≤ R.locals) (hroom : q.2.2.2.2.2.length - N0 ≤ R.cells ∧ s_sz S q.2.2.2.2.2 - M0 ≤ R.slots) (hw1 : (Jvm.Cond.methodLink (s_y r).cls idx Lib.Math.min.name).before args s = true) (hw2 : (Jvm.Cond.static Lib.Math.min.name).before args s = true) (hw3 : (Jvm.Cond.initialized "java/lang/Math").before args s = true) (hw4 : (Jvm.Cond.code Lib.Math.min.name Lib.Math.min.code 2 (some .int)).before args s = true) (hdg : decode (s_b r) pc = .ok (.invokestatic idx, n)) (hn : n = 3) (hs : s_x (.jsr_w z) pc n L st h = some q) (k : s_W S G p l e R s m args below meth c Q N0 M0 q.1 q.2.1 q.2.2.1 q.2.2.2) : s_W S G p l e R s m args below meth c Q N0 M0 pc L st h := by
  obtain ⟨hx, hb, hml, hown, hts, hI, hini⟩ := C
  subst hn
  dsimp only [s_x] at hs
  split at hs
  next y x r0 =>
    split at hs
    · cases hs
    next hc =>
      cases hs
      intro hlen H locs ls hW hS hL
      have h1 := s_cat_sum G r0
      exact va_mmin hx hb (by rw [hL.1, hlen]) hown hw1 hw2 hw3 hw4 hRf (by omega) hroom.1 hroom.2 hdg (k hlen H locs ls hW hS hL)
  · cases hs
end MKS
