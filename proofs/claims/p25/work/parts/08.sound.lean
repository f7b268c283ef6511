/-! THE WHOLE RUN -/
theorem s_x_ext {i : Instr} {pc n : Nat} {L st : List Value} {h : sHp} {q : sC} (hs : s_x i pc n L st h = some q) : ∃ l : List (Nat × Nat), q.2.2.2.2.2 = h.2.2 ++ l := by
  have nil : ∀ {z : sHp}, z.2.2 = h.2.2 → ∃ l : List (Nat × Nat), z.2.2 = h.2.2 ++ l := fun e => ⟨[], by rw [e, List.append_nil]⟩
  cases i <;> dsimp only [s_x] at hs <;> (repeat' split at hs) <;> cases hs <;> first | exact nil rfl | exact ⟨_, rfl⟩
theorem s_run_ext {MT : sMT} : ∀ (f k pc : Nat) (L st : List Value) (h : sHp) (o : Option Value × sHp), s_run MT f k pc L st h = some o → ∃ l : List (Nat × Nat), o.2.2.2 = h.2.2 ++ l
  | 0, _, _, _, _, _, _, hr => by cases hr
  | f + 1, k, pc, L, st, h, o, hr => by
    unfold s_run at hr
    split at hr
    · cases hr
    split at hr
    · cases hr
    split at hr
    · split at hr
      · cases hr
      split at hr
      · cases hr
      split at hr
      · cases hr
      next o1 h1 =>
        obtain ⟨l1, e1⟩ := s_run_ext f _ _ _ _ _ _ h1
        obtain ⟨l2, e2⟩ := s_run_ext f _ _ _ _ _ _ hr
        exact ⟨l1 ++ l2, by rw [e2, e1, List.append_assoc]⟩
    · split at hr
      · cases hr; exact ⟨[], by rw [List.append_nil]⟩
      · split at hr
        · cases hr
        next c1 h1 =>
          obtain ⟨l1, e1⟩ := s_x_ext h1
          obtain ⟨l2, e2⟩ := s_run_ext f _ _ _ _ _ _ hr
          exact ⟨l1 ++ l2, by rw [e2, e1, List.append_assoc]⟩
theorem s_sz_le (S : s_SG) : ∀ a b : List (Nat × Nat), s_sz S a ≤ s_sz S (a ++ b)
  | [], b => Nat.zero_le _
  | (0, c) :: a, b => by
    rw [List.cons_append, s_sz, s_sz]
    exact Nat.add_le_add_left (s_sz_le S a b) _
  | (t + 1, c) :: a, b => by
    rw [List.cons_append, s_sz, s_sz]
    exact Nat.add_le_add_left (s_sz_le S a b) _
theorem s_ext_le {S : s_SG} {h h1 : sHp} (he : ∃ l : List (Nat × Nat), h1.2.2 = h.2.2 ++ l) : h.2.2.length ≤ h1.2.2.length ∧ s_sz S h.2.2 ≤ s_sz S h1.2.2 := by
  obtain ⟨l, e⟩ := he
  rw [e]
  exact ⟨by rw [List.length_append]; omega, s_sz_le S _ _⟩
/-- the words that are told one by one stay true -/
def s_nwk : Jvm.Cond → Bool
  | .methodLinkNest _ _ _ _ => true
  | .fieldLinkNest _ _ _ _ _ _ => true
  | .arrayOver (.object _) => true
  | _ => false
theorem s_nw_warm {w : Jvm.Cond} {s U : State} (hk : s_nwk w = true) (hW : s.WarmedH U.vm) (h : va_Nw w s) : va_Nw w U := by
  cases w with
  | methodLinkNest a i x y => exact va_Nw.warmM hW h
  | fieldLinkNest a i b n d y => exact va_Nw.warmF hW h
  | arrayOver ty => cases ty with
    | object C => exact va_AO.moved (C := C) hW.alike h
    | _ => cases hk
  | _ => cases hk
theorem s_In_moved {S : s_SG} {G : s_DG} {s U : State} (hnw : ∀ w ∈ s_nw S, s_nwk w = true) (hW : s.WarmedH U.vm) (hk : ∀ a : Nat, a < s.heap.size → ¬ s_A G a → U.heap[a]? = s.heap[a]?) (h : s_In S G s) : s_In S G U := by
  obtain ⟨h1, h2, h3, h4, h5⟩ := h
  refine ⟨va_K.moved hW.alike h1, fun i hi => ⟨?_, (h2 i hi).2⟩, fun j hj => ⟨(h3 j hj).1, va_Z.moved hW.alike (va_Z.kept (h3 j hj).2 hk)⟩, h4, fun w hw => s_nw_warm (hnw w hw) hW (h5 w hw)⟩
  exact va_T.moved hW.alike (va_T.kept (h2 i hi).1 hk)
def s_Pc (S : s_SG) (G : s_DG) (as : List Value) (h : sHp) : Array Value → State → Prop := fun v U => v = (as.map (s_vc G)).toArray ∧ s_In S G U ∧ s_Wd S G h U.heap ∧ U.heap.size = s_B G + (h.2.2.length - 4)
def s_Qc (S : s_SG) (G : s_DG) (o : Option Value × sHp) : Array Value → State → Outcome → State → Prop := fun _ st oc t => oc = .returned (o.1.map (s_vc G)) ∧ s_Wd S G o.2 t.heap ∧ va_F (s_A G) st t
def s_wsl (big : List Jvm.Cond) (r : sM) : List Jvm.Cond := .code (s_y r) (s_b r) (s_mL r) (s_rt r) :: s_TW big
def s_rm (S : s_SG) (r : sM) (h h1 : sHp) : Room := { frames := s_fr r, cells := h1.2.2.length - h.2.2.length, slots := s_sz S h1.2.2 - s_sz S h.2.2, locals := s_lo r }
def s_Meets (S : s_SG) (G : s_DG) (big : List Jvm.Cond) (l : Launch) (r : sM) (as : List Value) (h : sHp) (o : Option Value × sHp) : Prop :=
  Met l (s_y r) (s_wsl big r) (s_rm S r h o.2) (s_Pc S G as h) (s_Qc S G o) (o.2.2.2.length - h.2.2.length) (s_sz S o.2.2.2 - s_sz S h.2.2) (s_A G)
/-- all that is fixed -/
def s_Fix (S : s_SG) (MT : sMT) (big : List Jvm.Cond) (host : String) : Prop := s_SOK S (s_TW big) ∧ s_SD S ∧ s_Chk S MT big host ∧ ∀ w ∈ s_nw S, s_nwk w = true
def s_MetAt (S : s_SG) (G : s_DG) (MT : sMT) (big : List Jvm.Cond) (l : Launch) (f : Nat) : Prop :=
  ∀ (k : Nat) (r : sM) (cn : Option Nat) (as : List Value) (h : sHp) (o : Option Value × sHp), MT k = some (r, cn) → s_cat as ≤ s_mL r → s_run MT f k 0 (s_ent as (s_mL r)) [] h = some o → s_Meets S G big l r as h o
def s_BodyAt (S : s_SG) (G : s_DG) (MT : sMT) (big : List Jvm.Cond) (l : Launch) (f : Nat) : Prop :=
  ∀ (p : Program) (e : Env) (R : Room) (s : State) (m : MethodId) (args : Array Value) (below : List Frame) (meth : Method) (c : Code) (Q : State → Prop) (k : Nat) (r : sM) (cn : Option Nat) (N0 M0 pc : Nat) (L st : List Value) (h : sHp) (o : Option Value × sHp),
    MT k = some (r, cn) → s_Cx S G (s_TW big) p s m args meth c r → s_run MT f k pc L st h = some o → s_fr r ≤ R.frames → s_lo r ≤ R.locals → s.heap.size = s_B G + (N0 - 4) → 4 ≤ N0 → N0 ≤ h.2.2.length → M0 ≤ s_sz S h.2.2 → o.2.2.2.length - N0 ≤ R.cells ∧ s_sz S o.2.2.2 - M0 ≤ R.slots →
    (∀ (ri : Instr) (pc2 : Nat) (L2 st2 : List Value), decode (s_b r) pc2 = .ok (ri, 1) → s_rx ri (s_rt r) st2 = some o.1 → s_W S G p l e R s m args below meth c Q N0 M0 pc2 L2 st2 o.2) →
    s_W S G p l e R s m args below meth c Q N0 M0 pc L st h
section SDS
variable {S : s_SG} {G : s_DG} {MT : sMT} {big : List Jvm.Cond} {host : String} {l : Launch}
theorem s_cat_sl (G : s_DG) : ∀ as : List Value, (lg_sl (as.map (s_vc G))).length = s_cat as
  | [] => rfl
  | v :: as => by
    have ih := s_cat_sl G as
    unfold lg_sl at ih ⊢
    rw [List.map_cons, List.flatMap_cons, List.length_append, ih, s_vc_cat, s_cat]
    by_cases ht : s_two v = true
    · rw [if_pos ht, if_pos rfl]; rfl
    · rw [if_neg ht, if_neg (by decide)]; rfl
theorem s_ofWF {l : Launch} {y : MethodName} {ws ws' : List Cond} {rm : Room} {Pc : Array Value → State → Prop} {Qc : Array Value → State → Outcome → State → Prop} {mc ms : Nat} {free : Addr → Prop} {cc : ByteArray} {maxL : Nat} {ret : Option FieldType}
    (hy : plainFor y = true) (hw : ws = Cond.code y cc maxL ret :: ws')
    (body : ∀ p e s m args below meth c s₁, BodyLoose p l y (headSpec ws rm) cc maxL ret e s m args below meth c s₁ → c.maxLocals = maxL → Pc args s →
      W p l e (headSpec ws rm).room s m args below meth c s.heap [] 0 0 (MQ below Qc args s mc ms free) (entryFrame m args maxL)) : Met l y ws rm Pc Qc mc ms free := by
  refine MetFree.of_bodySF (code := cc) (maxLocals := maxL) (ret := ret) hy ?_ ?_
  · intro args s m h hn
    obtain ⟨meth, c, h1, h2, h3, h4, h5, h6, -, -⟩ := Cond.code_spec hn (atoms_spec (ws := ws) h _ (by rw [hw]; exact List.mem_cons_self))
    exact ⟨meth, c, h1, h2, h3, h4, h5, h6⟩
  · intro p e s m args below meth c s₁ B hml hP _
    have hh0 : s₁.heap = s.heap := by rw [B.state]; rfl
    obtain ⟨t, a1, o, b1, b2, b3⟩ := body p e s m args below meth c s₁ B hml hP s₁ hh0 (Stand.of_body B)
    exact ⟨t, o, a1, b1, b2, ⟨b3.1, b3.2⟩⟩
theorem s_met_of_body (FX : s_Fix S MT big host) {f : Nat} (hB : s_BodyAt S G MT big l f) : s_MetAt S G MT big l f := by
  intro k r cn as h o hk hcat hrun
  obtain ⟨SK, SD, CK, NW⟩ := FX
  obtain ⟨ck1, ck2, ck3⟩ := CK k r cn hk
  have hext := s_run_ext _ _ _ _ _ _ _ hrun
  have hle := s_ext_le (S := S) hext
  unfold s_Meets
  refine s_ofWF (cc := s_b r) (maxL := s_mL r) (ret := s_rt r) ck2 rfl ?_
  intro p e s m args below meth c s₁ B hml hv
  obtain ⟨rfl, hI, hW, hsz⟩ := hv
  have hts := atoms_spec (ws := s_wsl big r) B.pre
  have hnm : meth.name = (s_y r).name := (name_of_methodNamed B.named B.method).1
  have C : s_Cx S G (s_TW big) p s m (as.map (s_vc G)).toArray meth c r := ⟨B.exec, B.bytes, hml, findClass_of_methodNamed B.named, fun w hw => hts w (List.mem_cons_of_mem _ hw), hI, fun z => hnm.trans z⟩
  have hsl : (lg_sl (as.map (s_vc G))).length ≤ s_mL r := by rw [s_cat_sl]; exact hcat
  have hl := lv_entry (as.map (s_vc G)) (n := s_mL r) hsl
  rw [lg_entry_eq]
  generalize (lg_sl (as.map (s_vc G)) ++ List.replicate (s_mL r - (lg_sl (as.map (s_vc G))).length) Slot.unset).toArray = ls at hl ⊢
  have hL := s_LR_ent (G := G) hsl hl
  have hlen : (s_ent as (s_mL r)).length = c.maxLocals := (s_ent_len G as _ hsl).trans hml.symm
  have key := hB p e (s_rm S r h o.2) s m (as.map (s_vc G)).toArray below meth c (MQ below (s_Qc S G o) (as.map (s_vc G)).toArray s (o.2.2.2.length - h.2.2.length) (s_sz S o.2.2.2 - s_sz S h.2.2) (s_A G)) k r cn h.2.2.length (s_sz S h.2.2) 0 (s_ent as (s_mL r)) [] h o hk C hrun (Nat.le_refl _) (Nat.le_refl _) hsz hW.1 (Nat.le_refl _) (Nat.le_refl _) ⟨Nat.le_refl _, Nat.le_refl _⟩ ?_ hlen s.heap [] ls hW va_S.rf hL
  · rw [Nat.sub_self, Nat.sub_self] at key
    exact key
  · intro ri pc2 L2 st2 hdg hrx hlen2 H locs ls2 hW2 hS2 hL2
    have hx := B.exec
    have hb := B.bytes
    have hr := B.returns
    have hlk := B.notSynchronized
    unfold s_rx at hrx
    split at hrx
    next hrt =>
      rw [hrt] at hr
      have ho : o.1 = none := (Option.some.inj hrx).symm
      exact W.vret hx hb hr (fun t ht hWm => ⟨by rw [ho]; rfl, by rw [ht]; exact hW2, hS2.F ht⟩) hS2.2.2 hdg hlk
    next v hrt =>
      rw [hrt] at hr
      have ho : o.1 = some (.int v) := (Option.some.inj hrx).symm
      exact W.iret (v := v) hx hb hr (fun t ht hWm => ⟨by rw [ho]; rfl, by rw [ht]; exact hW2, hS2.F ht⟩) hS2.2.2 hdg hlk
    next v hrt =>
      split at hrx
      next h01 =>
        rw [hrt] at hr
        have ho : o.1 = some (.int v) := (Option.some.inj hrx).symm
        exact W.zret (v := v) (ty := .boolean) hx hb hr (by rcases h01 with rfl | rfl <;> rfl) (fun t ht hWm => ⟨by rw [ho]; rfl, by rw [ht]; exact hW2, hS2.F ht⟩) hS2.2.2 hdg hlk
      · cases hrx
    next v hrt =>
      rw [hrt] at hr
      have ho : o.1 = some (.long v) := (Option.some.inj hrx).symm
      exact W.lret (v := v) hx hb hr (fun t ht hWm => ⟨by rw [ho]; rfl, by rw [ht]; exact hW2, hS2.F ht⟩) hS2.2.2 hdg hlk
    next nm a hrt =>
      rw [hrt] at hr
      have ho : o.1 = some (.ref a) := (Option.some.inj hrx).symm
      exact W.aret (v := .ref (s_ad G a)) (rt := .object nm) hx hb hr (Or.inl ⟨nm, rfl⟩) (Or.inr ⟨_, rfl⟩) (fun t ht hWm => ⟨by rw [ho]; rfl, by rw [ht]; exact hW2, hS2.F ht⟩) hS2.2.2 hdg hlk
    next nm hrt =>
      rw [hrt] at hr
      have ho : o.1 = some .null := (Option.some.inj hrx).symm
      exact W.aret (v := .null) (rt := .object nm) hx hb hr (Or.inl ⟨nm, rfl⟩) (Or.inl rfl) (fun t ht hWm => ⟨by rw [ho]; rfl, by rw [ht]; exact hW2, hS2.F ht⟩) hS2.2.2 hdg hlk
    · cases hrx
/-- how many cells there are -/
theorem s_size {s T : State} {p : Program} {e : Env} {R : Room} {m : MethodId} {args : Array Value} {below : List Frame} {meth : Method} {c : Code} {H : Heap} {locs : List Loc} {h : sHp} {N0 n1 : Nat} (hI : s_In S G s) (hsz : s.heap.size = s_B G + (N0 - 4)) (hN : 4 ≤ N0) (hN2 : N0 ≤ h.2.2.length) (hW : s_Wd S G h H) (hS : va_S (s_A G) s.heap H locs) (hT : T.heap = H) (X : Stand p l e R s m args below meth c T locs (h.2.2.length - N0) n1) : H.size = s_B G + (h.2.2.length - 4) := by
  have h2 := X.heapSize
  rw [hT] at h2
  have h3 := hS.1
  rcases Nat.lt_or_ge 4 h.2.2.length with z | z
  · have h4 := s_ws_at S G h (a := h.2.2.length - 1) (by omega) (by omega)
    have h5 := (hW.2.1 _ _ h4).lt
    dsimp only at h5
    rw [s_ad_ge hI (by omega)] at h5
    omega
  · omega
theorem s_blind (NW : ∀ w ∈ s_nw S, s_nwk w = true) (as : List Value) (h : sHp) : FrameBlind (s_Pc S G as h) := by
  intro a U g mk hp
  obtain ⟨h1, h2, h3, h4⟩ := hp
  exact ⟨h1, s_In_moved (U := U.calling g mk a) NW (State.WarmedH.refl U) (fun _ _ _ => rfl) h2, h3, h4⟩
/-- behind a call -/
theorem s_call {p : Program} {e : Env} {R : Room} {s : State} {m : MethodId} {args : Array Value} {below : List Frame} {meth : Method} {c : Code} {Q : State → Prop} {N0 M0 pc : Nat} {L rest : List Value} {st0 : List Value} {h : sHp} {o : Option Value × sHp} {H : Heap} {locs : List Loc} {ls : Array Slot} {a : Array Value}
    (hr : va_Run p l e R s m args below meth c H locs (h.2.2.length - N0) (s_sz S h.2.2 - M0) (o.2.2.2.length - h.2.2.length) (s_sz S o.2.2.2 - s_sz S h.2.2) (F0 m pc ls st0) (rest.map (s_vc G)) (s_Qc S G o a) (s_A G)) (hle : h.2.2.length ≤ o.2.2.2.length ∧ s_sz S h.2.2 ≤ s_sz S o.2.2.2) (hN2 : N0 ≤ h.2.2.length) (hM2 : M0 ≤ s_sz S h.2.2)
    (hlen : L.length = c.maxLocals) (hS : va_S (s_A G) s.heap H locs) (hL : s_LR G ls L) (k : s_W S G p l e R s m args below meth c Q N0 M0 (pc + 3) L (o.1.toList ++ rest) o.2) : W p l e R s m args below meth c H locs (h.2.2.length - N0) (s_sz S h.2.2 - M0) Q (F0 m pc ls st0) := by
  intro T hT X
  obtain ⟨v, st₀, t, T', L1, h0, X', hL1, e1, e2, ⟨hv, hW1, hz, hk⟩, st⟩ := hr T hT X
  have hv : v = o.1.map (s_vc G) := Outcome.returned.inj hv
  subst hv
  rw [h0] at hz hk
  rw [← e1] at hz hk hW1
  have hS1 : va_S (s_A G) s.heap T'.heap (locs ++ L1) := ⟨Nat.le_trans hS.1 hz, fun q h1 h2 => by rw [hk q (Nat.lt_of_lt_of_le h1 hS.1) h2]; exact hS.2.1 q h1 h2, fun q hq => by
    rcases List.mem_append.mp hq with h | h
    · exact hS.2.2 q h
    · exact hL1 q h⟩
  have kk := k hlen T'.heap (locs ++ L1) ls hW1 hS1 hL T' rfl (by
    rw [show o.2.2.2.length - N0 = h.2.2.length - N0 + (o.2.2.2.length - h.2.2.length) by omega, show s_sz S o.2.2.2 - M0 = s_sz S h.2.2 - M0 + (s_sz S o.2.2.2 - s_sz S h.2.2) by omega]
    exact X')
  obtain ⟨t2, a1, b1⟩ := kk
  refine ⟨t2, st t2 ?_, b1⟩
  have : (Option.map (s_vc G) o.1).toList ++ rest.map (s_vc G) = (o.1.toList ++ rest).map (s_vc G) := by
    rw [List.map_append]
    cases o.1 <;> rfl
  rw [this]
  exact a1
end SDS
