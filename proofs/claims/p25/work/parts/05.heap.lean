section HPS
variable {p : Program} {l : Launch} {e : Env} {R : Room} {s : State} {m : MethodId} {args : Array Value} {below : List Frame} {meth : Method} {c : Code} {Q : State → Prop}
variable {S : s_SG} {G : s_DG} {TW : List Jvm.Cond} {r : sM} {N0 M0 pc n idx : Nat} {L st : List Value} {h : sHp} {q : sC}
theorem s_cell_o {i k : Nat} (hi : h.2.2[i]? = some (0, k)) : s_cell S G h i = .inr (k, (List.range (s_N S k)).map (s_fv S G h i k)) := by unfold s_cell; rw [hi]
theorem s_cell_i {i k : Nat} (hi : h.2.2[i]? = some (1, k)) : s_cell S G h i = .inl (s_cA G 1, k, .inl (h.1 i)) := by unfold s_cell; rw [hi]
theorem s_cell_r {i t k : Nat} (hi : h.2.2[i]? = some (t + 2, k)) : s_cell S G h i = .inl (s_cA G (t + 2), k, .inr (.inr (.inr (.inr (fun j => (h.2.1 i j).map (s_ad G)))))) := by unfold s_cell; rw [hi]
theorem s_cl_of {k j : Nat} (hk : j < s_N S k) : ∃ q : vw_C, (s_cl S)[k]? = some q ∧ s_N S k = q.2.2 ∧ s_F S k = q.2.1 ∧ s_cn S k = q.1 := by
  unfold s_N at hk
  cases hq : (s_cl S)[k]? with
  | none => rw [hq] at hk; exact absurd hk (Nat.not_lt_zero _)
  | some q => exact ⟨q, rfl, by unfold s_N; rw [hq], by unfold s_F; rw [hq], by unfold s_cn; rw [hq]⟩
theorem s_fs_at {i k j : Nat} (hj : j < s_N S k) : ((List.range (s_N S k)).map (s_fv S G h i k))[j]? = some (s_fv S G h i k j) := by
  rw [List.getElem?_map, List.getElem?_range hj]; rfl
theorem s_fs_set {h2 : sHp} {i k j : Nat} {v : Value} (hv : s_fv S G h2 i k j = v) (ho : ∀ x, x ≠ j → s_fv S G h2 i k x = s_fv S G h i k x) : ((List.range (s_N S k)).map (s_fv S G h i k)).set j v = (List.range (s_N S k)).map (s_fv S G h2 i k) := by
  apply List.ext_getElem?
  intro x
  by_cases hx : x = j
  · subst hx
    by_cases hl : x < s_N S k
    · rw [List.getElem?_set_self (by simpa using hl), s_fs_at hl, hv]
    · rw [List.getElem?_eq_none (by simpa using hl), List.getElem?_eq_none (by simpa using hl)]
  · rw [List.getElem?_set_ne (Ne.symm hx), List.getElem?_map, List.getElem?_map]
    by_cases hl : x < s_N S k
    · rw [List.getElem?_range hl]
      show some _ = some _
      rw [ho x hx]
    · rw [List.getElem?_eq_none (by simpa using hl)]; rfl
theorem s_d_get {ev : Nat} (C : s_Cx S G TW p s m args meth c r) (SK : s_SOK S TW) (hk : ev % 1024 / 8 < s_N S (ev / 1024)) (hkd : ev % 8 = s_kd (s_ty S (ev / 1024) (ev % 1024 / 8))) (hw : (Jvm.Cond.fieldLink (s_y r).cls idx (s_F S (ev / 1024) (ev % 1024 / 8)).1 (s_F S (ev / 1024) (ev % 1024 / 8)).2.1 (s_F S (ev / 1024) (ev % 1024 / 8)).2.2.1).before args s = true) (hdg : decode (s_b r) pc = .ok (.getfield idx, n)) (hn : n = 3) (hs : s_x (.getfield ev) pc n L st h = some q) (k : s_W S G p l e R s m args below meth c Q N0 M0 q.1 q.2.1 q.2.2.1 q.2.2.2) : s_W S G p l e R s m args below meth c Q N0 M0 pc L st h := by
  obtain ⟨hx, hb, hml, hown, hts, hI, hini⟩ := C
  subst hn
  dsimp only [s_x] at hs
  split at hs
  next a r0 =>
    split at hs
    next c0 heq =>
      split at hs
      next hc0 =>
        subst hc0
        intro hlen H locs ls hW hS hL
        obtain ⟨h1, h2, h3⟩ := s_Wd_len hW heq
        have h4 := h3 (by decide)
        obtain ⟨qc, e1, e2, e3, e4⟩ := s_cl_of hk
        have hk2 : ev % 1024 / 8 < qc.2.2 := by rw [← e2]; exact hk
        rw [e3] at hw
        have hv : s_W S G p l e R s m args below meth c Q N0 M0 (pc + 3) L ((if s_kd (s_ty S (ev / 1024) (ev % 1024 / 8)) = 2 then (match h.2.1 a (ev % 1024 / 8) with | some b => .ref b | none => .null) else .int (h.1 a (ev % 1024 / 8))) :: r0) h := by
          rw [hkd] at hs
          split at hs
          next hkk =>
            rw [if_pos hkk]
            split at hs
            next b hb2 => rw [hb2]; cases hs; exact k
            next hb2 => rw [hb2]; cases hs; exact k
          next hkk =>
            rw [if_neg hkk]
            cases hs
            exact k
        refine va_get (D := s_D G) (ci := ev / 1024) (C := qc.1) (T := qc.2.1) (N := qc.2.2) hx hb hts (SK _ _ e1).1 hown hI.1 hW.2.1 (a - 4) (fs := (List.range (s_N S (ev / 1024))).map (s_fv S G h a (ev / 1024))) (by rw [← s_cell_o h1]; exact s_ws_at S G h h4 h2) e1 (ev % 1024 / 8) hk2 hw (fun _ h9 => h9) (s_fs_at hk) hdg ?_
        have e5 : s_fv S G h a (ev / 1024) (ev % 1024 / 8) = s_vc G (if s_kd (s_ty S (ev / 1024) (ev % 1024 / 8)) = 2 then (match h.2.1 a (ev % 1024 / 8) with | some b => .ref b | none => .null) else .int (h.1 a (ev % 1024 / 8))) := by
          unfold s_fv
          split
          · cases h.2.1 a (ev % 1024 / 8) <;> rfl
          · rfl
        rw [e5]
        exact hv hlen H locs ls hW hS hL
      · cases hs
    · cases hs
  · cases hs
theorem s_put_w {ev a : Nat} {v w : Value} {r0 : List Value} {h2 : sHp} (C : s_Cx S G TW p s m args meth c r) (SK : s_SOK S TW) (hk : ev % 1024 / 8 < s_N S (ev / 1024)) (hfin : (s_F S (ev / 1024) (ev % 1024 / 8)).2.2.2 = true → (s_y r).name = "<init>" ∧ (s_F S (ev / 1024) (ev % 1024 / 8)).1 = (s_y r).cls) (hw : (Jvm.Cond.fieldLink (s_y r).cls idx (s_F S (ev / 1024) (ev % 1024 / 8)).1 (s_F S (ev / 1024) (ev % 1024 / 8)).2.1 (s_F S (ev / 1024) (ev % 1024 / 8)).2.2.1).before args s = true) (hdg : decode (s_b r) pc = .ok (.putfield idx, 3))
    (h1 : h.2.2[a]? = some (0, ev / 1024)) (hl : a < h.2.2.length) (h4 : 4 ≤ a) (hvw : v = s_vc G w) (hn : narrow (s_ty S (ev / 1024) (ev % 1024 / 8)) v = v) (hfit : fits (s_ty S (ev / 1024) (ev % 1024 / 8)) v = true) (hs2 : h2.2.2 = h.2.2) (ho : ∀ i : Nat, i ≠ a → h2.1 i = h.1 i ∧ h2.2.1 i = h.2.1 i) (hv2 : s_fv S G h2 a (ev / 1024) (ev % 1024 / 8) = v) (ho2 : ∀ x, x ≠ ev % 1024 / 8 → s_fv S G h2 a (ev / 1024) x = s_fv S G h a (ev / 1024) x)
    (k : s_W S G p l e R s m args below meth c Q N0 M0 (pc + 3) L r0 h2) : s_W S G p l e R s m args below meth c Q N0 M0 pc L (w :: .ref a :: r0) h := by
  obtain ⟨hx, hb, hml, hown, hts, hI, hini⟩ := C
  intro hlen H locs ls hW hS hL
  obtain ⟨qc, e1, e2, e3, e4⟩ := s_cl_of hk
  have hk2 : ev % 1024 / 8 < qc.2.2 := by rw [← e2]; exact hk
  rw [e3] at hw hfin
  have hd := (SK _ _ e1).2.1 _ hk2
  have hws := s_ws_at S G h h4 hl
  rw [s_cell_o h1] at hws
  have hkk : ∀ (H1 : Heap) (locs1 : List Loc), va_P (s_D G) (s_cl S) ((s_ws S G h).set (a - 4) (s_ad G a, .inr (ev / 1024, ((List.range (s_N S (ev / 1024))).map (s_fv S G h a (ev / 1024))).set (ev % 1024 / 8) v))) H1 → va_D (s_A G) ((s_ws S G h).set (a - 4) (s_ad G a, .inr (ev / 1024, ((List.range (s_N S (ev / 1024))).map (s_fv S G h a (ev / 1024))).set (ev % 1024 / 8) v))) → va_S (s_A G) s.heap H1 locs1 → W p l e R s m args below meth c H1 locs1 (h.2.2.length - N0) (s_sz S h.2.2 - M0) Q (F0 m (pc + 3) ls (r0.map (s_vc G))) := by
    intro H1 locs1 hP1 _ hS1
    have hW1 := s_Wd_put hW h4 hl hs2 ho (e := .inr (ev / 1024, ((List.range (s_N S (ev / 1024))).map (s_fv S G h a (ev / 1024))).set (ev % 1024 / 8) v)) (by rw [s_fs_set hv2 ho2, s_cell_o (by rw [hs2]; exact h1)]) hP1
    have := k hlen H1 locs1 ls hW1 hS1 hL
    rw [hs2] at this
    exact this
  show W p l e R s m args below meth c H locs (h.2.2.length - N0) (s_sz S h.2.2 - M0) Q (F0 m pc ls (s_vc G w :: .ref (s_ad G a) :: r0.map (s_vc G)))
  rw [← hvw]
  have hlen2 : ev % 1024 / 8 < ((List.range (s_N S (ev / 1024))).map (s_fv S G h a (ev / 1024))).length := by simpa using hk
  cases hf : (qc.2.1 (ev % 1024 / 8)).2.2.2 with
  | false => exact va_put (D := s_D G) (ci := ev / 1024) (C := qc.1) (T := qc.2.1) (N := qc.2.2) hx hb hts (SK _ _ e1).1 (s_ty S (ev / 1024)) (SK _ _ e1).2.1 (SK _ _ e1).2.2 hown hI.1 hW.2.1 (s_ws_D hI h) hS (a - 4) hws e1 (ev % 1024 / 8) hk2 hw (fun _ h9 => h9) hf hd hn hfit hlen2 hdg hkk
  | true => exact va_putF (D := s_D G) (ci := ev / 1024) (C := qc.1) (T := qc.2.1) (N := qc.2.2) hx hb hts (SK _ _ e1).1 (s_ty S (ev / 1024)) (SK _ _ e1).2.1 (SK _ _ e1).2.2 hown hI.1 hW.2.1 (s_ws_D hI h) hS (a - 4) hws e1 (ev % 1024 / 8) hk2 hw (fun _ h9 => h9) hf (hini (hfin hf).1) (hfin hf).2 hd hn hfit hlen2 hdg hkk
theorem s_fv_upd {a i k j x : Nat} {v : Int32} (hj : x ≠ j) : s_fv S G (s_upd h.1 a j v, h.2) i k x = s_fv S G h i k x := by
  unfold s_fv
  split
  · rfl
  · show Value.int (s_upd h.1 a j v i x) = _
    unfold s_upd
    split
    · rw [show upd (h.1 i) j v x = h.1 i x from if_neg hj]
    · rfl
theorem s_fv_updR {a i k j x : Nat} {v : Option Nat} (hj : x ≠ j) : s_fv S G (h.1, s_updR h.2.1 a j v, h.2.2) i k x = s_fv S G h i k x := by
  unfold s_fv
  split
  · show va_rf ((s_updR h.2.1 a j v i x).map _) = _
    unfold s_updR
    split
    · rw [show va_up (h.2.1 i) j v x = h.2.1 i x from if_neg hj]
    · rfl
  · rfl
theorem s_d_put {ev : Nat} (C : s_Cx S G TW p s m args meth c r) (SK : s_SOK S TW) (hk : ev % 1024 / 8 < s_N S (ev / 1024)) (hkd : ev % 8 = s_kd (s_ty S (ev / 1024) (ev % 1024 / 8))) (hty : ev % 8 = 2 → ∃ nm, s_ty S (ev / 1024) (ev % 1024 / 8) = .object nm ∨ ∃ t, s_ty S (ev / 1024) (ev % 1024 / 8) = .array t) (hfin : (s_F S (ev / 1024) (ev % 1024 / 8)).2.2.2 = true → (s_y r).name = "<init>" ∧ (s_F S (ev / 1024) (ev % 1024 / 8)).1 = (s_y r).cls) (hw : (Jvm.Cond.fieldLink (s_y r).cls idx (s_F S (ev / 1024) (ev % 1024 / 8)).1 (s_F S (ev / 1024) (ev % 1024 / 8)).2.1 (s_F S (ev / 1024) (ev % 1024 / 8)).2.2.1).before args s = true) (hdg : decode (s_b r) pc = .ok (.putfield idx, n)) (hn : n = 3) (hs : s_x (.putfield ev) pc n L st h = some q) (k : s_W S G p l e R s m args below meth c Q N0 M0 q.1 q.2.1 q.2.2.1 q.2.2.2) : s_W S G p l e R s m args below meth c Q N0 M0 pc L st h := by
  subst hn
  dsimp only [s_x] at hs
  split at hs
  next x a r0 =>
    split at hs
    next c0 heq =>
      split at hs
      next hc0 =>
        subst hc0
        intro hlen H locs ls hW hS hL
        obtain ⟨h1, h2, h3⟩ := s_Wd_len hW heq
        have h4 := h3 (by decide)
        refine s_put_w (v := .int x) (h2 := (s_upd h.1 a (ev % 1024 / 8) x, h.2)) C SK hk hfin hw hdg h1 h2 h4 rfl ?_ ?_ rfl (fun i hi => ⟨if_neg hi, rfl⟩) ?_ (fun x hx => s_fv_upd hx) ?_ hlen H locs ls hW hS hL
        · split at hs
          next h0 => rw [hkd] at h0; cases ht : s_ty S (ev / 1024) (ev % 1024 / 8) <;> rw [ht] at h0 <;> simp [s_kd] at h0 <;> rfl
          next h0 =>
            split at hs
            next h01 =>
              split at hs
              next hx =>
                rw [hkd] at h01
                cases ht : s_ty S (ev / 1024) (ev % 1024 / 8) <;> rw [ht] at h01 <;> simp [s_kd] at h01
                rcases hx with rfl | rfl <;> rfl
              · cases hs
            · cases hs
        · split at hs
          next h0 => rw [hkd] at h0; cases ht : s_ty S (ev / 1024) (ev % 1024 / 8) <;> rw [ht] at h0 <;> simp [s_kd] at h0 <;> rfl
          next h0 =>
            split at hs
            next h01 =>
              split at hs
              next hx =>
                rw [hkd] at h01
                cases ht : s_ty S (ev / 1024) (ev % 1024 / 8) <;> rw [ht] at h01 <;> simp [s_kd] at h01
                rcases hx with rfl | rfl <;> rfl
              · cases hs
            · cases hs
        · have : ¬ s_kd (s_ty S (ev / 1024) (ev % 1024 / 8)) = 2 := by
            rw [← hkd]
            intro z
            rw [if_neg (by omega), if_neg (by omega)] at hs
            cases hs
          unfold s_fv
          rw [if_neg this]
          show Value.int (s_upd h.1 a (ev % 1024 / 8) x a (ev % 1024 / 8)) = _
          simp [s_upd, upd]
        · split at hs
          · cases hs; exact k
          · split at hs
            · split at hs
              · cases hs; exact k
              · cases hs
            · cases hs
      · cases hs
    · cases hs
  next b a r0 =>
    split at hs
    next c0 heq =>
      split at hs
      next hc0 =>
        subst hc0
        split at hs
        next hk2 =>
          cases hs
          intro hlen H locs ls hW hS hL
          obtain ⟨h1, h2, h3⟩ := s_Wd_len hW heq
          have h4 := h3 (by decide)
          obtain ⟨nm, ht⟩ := hty hk2
          refine s_put_w (v := .ref (s_ad G b)) (h2 := (h.1, s_updR h.2.1 a (ev % 1024 / 8) (some b), h.2.2)) C SK hk hfin hw hdg h1 h2 h4 rfl ?_ ?_ rfl (fun i hi => ⟨rfl, if_neg hi⟩) ?_ (fun x hx => s_fv_updR hx) k hlen H locs ls hW hS hL
          · rcases ht with ht | ⟨t, ht⟩ <;> rw [ht] <;> rfl
          · rcases ht with ht | ⟨t, ht⟩ <;> rw [ht] <;> rfl
          · unfold s_fv
            rw [if_pos (by rw [← hkd]; exact hk2)]
            show va_rf ((s_updR h.2.1 a (ev % 1024 / 8) (some b) a (ev % 1024 / 8)).map _) = _
            simp [s_updR, va_up, va_rf]
        · cases hs
      · cases hs
    · cases hs
  · cases hs
theorem s_d_gets {j : Nat} (C : s_Cx S G TW p s m args meth c r) (hj : j < s_ns S) (hw : (Jvm.Cond.fieldLink (s_y r).cls idx (s_sn S j).1 (s_sn S j).2.1 (s_sn S j).2.2).before args s = true) (hdg : decode (s_b r) pc = .ok (.getstatic idx, n)) (hn : n = 3) (hs : s_x (.getstatic j) pc n L st h = some q) (k : s_W S G p l e R s m args below meth c Q N0 M0 q.1 q.2.1 q.2.2.1 q.2.2.2) : s_W S G p l e R s m args below meth c Q N0 M0 pc L st h := by
  obtain ⟨hx, hb, hml, hown, hts, hI, hini⟩ := C
  subst hn
  cases hs
  intro hlen H locs ls hW hS hL
  exact va_gets hx hb (hI.2.2.1 j hj).2 hS hown hw (fun _ h9 => h9) hdg (k hlen H locs ls hW hS hL)
theorem s_d_getsN {j : Nat} {host : String} (C : s_Cx S G TW p s m args meth c r) (hj : j < s_ns S) (hw : va_Nw (.fieldLinkNest (s_y r).cls idx (s_sn S j).1 (s_sn S j).2.1 (s_sn S j).2.2 host) s) (hdg : decode (s_b r) pc = .ok (.getstatic idx, n)) (hn : n = 3) (hs : s_x (.instanceof j) pc n L st h = some q) (k : s_W S G p l e R s m args below meth c Q N0 M0 q.1 q.2.1 q.2.2.1 q.2.2.2) : s_W S G p l e R s m args below meth c Q N0 M0 pc L st h := by
  obtain ⟨hx, hb, hml, hown, hts, hI, hini⟩ := C
  subst hn
  cases hs
  intro hlen H locs ls hW hS hL
  exact va_getsN hx hb (hI.2.2.1 j hj).2 hS hown (va_Nw.use rfl hw) (fun _ h9 => h9) hdg (k hlen H locs ls hW hS hL)
theorem s_d_alen (C : s_Cx S G TW p s m args meth c r) (hdg : decode (s_b r) pc = .ok (.arraylength, n)) (hn : n = 1) (hs : s_x .arraylength pc n L st h = some q) (k : s_W S G p l e R s m args below meth c Q N0 M0 q.1 q.2.1 q.2.2.1 q.2.2.2) : s_W S G p l e R s m args below meth c Q N0 M0 pc L st h := by
  obtain ⟨hx, hb, hml, hown, hts, hI, hini⟩ := C
  subst hn
  dsimp only [s_x] at hs
  split at hs
  next a r0 =>
    split at hs
    next t z heq =>
      cases hs
      intro hlen H locs ls hW hS hL
      obtain ⟨h1, h2, h3⟩ := s_Wd_len hW heq
      have kk := k hlen H locs ls hW hS hL
      rcases Nat.lt_or_ge a 4 with h4 | h4
      · obtain ⟨h5, h6⟩ := hW.2.2.1 a h4
        have e1 := h5.symm.trans h1
        cases e1
        obtain ⟨⟨scr, g1, g2, g3, g4, g5, g6, g7⟩, hlt⟩ := hI.2.1 a h4
        exact W.alen (n := Int32.ofNat (s_Lc G a)) hx hb (by rw [hS.2.1 _ (Array.getElem?_eq_some_iff.mp g1).1 g7]; exact g1) g2 g5 rfl rfl hdg kk
      · have h5 := s_ws_at S G h h4 h2
        match t, h1 with
        | 0, h1 =>
          rw [s_cell_i h1] at h5
          exact va_alen hx hb hI.1 hW.2.1 (a - 4) 0 h5 (s_tys_0 S G) rfl hdg kk
        | t + 1, h1 =>
          rw [s_cell_r h1] at h5
          obtain ⟨j, hj⟩ := s_tys_r G (hW.2.2.2 a t z h1)
          exact va_alen hx hb hI.1 hW.2.1 (a - 4) j h5 hj rfl hdg kk
    · cases hs
  · cases hs
theorem s_d_iald (C : s_Cx S G TW p s m args meth c r) (hdg : decode (s_b r) pc = .ok (.iaload, n)) (hn : n = 1) (hs : s_x .iaload pc n L st h = some q) (k : s_W S G p l e R s m args below meth c Q N0 M0 q.1 q.2.1 q.2.2.1 q.2.2.2) : s_W S G p l e R s m args below meth c Q N0 M0 pc L st h := by
  obtain ⟨hx, hb, hml, hown, hts, hI, hini⟩ := C
  subst hn
  dsimp only [s_x] at hs
  split at hs
  next i a r0 =>
    split at hs
    next z heq =>
      split at hs
      · cases hs
      next ho =>
        cases hs
        intro hlen H locs ls hW hS hL
        obtain ⟨h1, h2, h3⟩ := s_Wd_len hW heq
        have kk := k hlen H locs ls hW hS hL
        rcases Nat.lt_or_ge a 4 with h4 | h4
        · obtain ⟨h5, h6⟩ := hW.2.2.1 a h4
          have e1 := h5.symm.trans h1
          cases e1
          obtain ⟨⟨scr, g1, g2, g3, g4, g5, g6, g7⟩, hlt⟩ := hI.2.1 a h4
          dsimp only at kk
          rw [h6] at kk
          have hin := s_vp_in ho
          have hlt2 : i.toNatClampNeg < s_Lc G a := Nat.not_le.mp fun q => hin (Or.inr q)
          exact W.iald (v := .int (s_xs G a i.toNatClampNeg)) hx hb (by rw [hS.2.1 _ (Array.getElem?_eq_some_iff.mp g1).1 g7]; exact g1) g2 g3 (fun z => hin (z.imp id (fun y => Nat.le_trans g4 y))) (g6 _ hlt2) rfl rfl hdg kk
        · have h5 := s_ws_at S G h h4 h2
          rw [s_cell_i h1] at h5
          exact va_iald hx hb hI.1 hW.2.1 (a - 4) 0 h5 (s_tys_0 S G) (s_vp_in ho) hdg kk
    · cases hs
  · cases hs
theorem s_d_iast (C : s_Cx S G TW p s m args meth c r) (hdg : decode (s_b r) pc = .ok (.iastore, n)) (hn : n = 1) (hs : s_x .iastore pc n L st h = some q) (k : s_W S G p l e R s m args below meth c Q N0 M0 q.1 q.2.1 q.2.2.1 q.2.2.2) : s_W S G p l e R s m args below meth c Q N0 M0 pc L st h := by
  obtain ⟨hx, hb, hml, hown, hts, hI, hini⟩ := C
  subst hn
  dsimp only [s_x] at hs
  split at hs
  next x i a r0 =>
    split at hs
    next z heq =>
      split at hs
      · cases hs
      next ho =>
        cases hs
        intro hlen H locs ls hW hS hL
        obtain ⟨h1, h2, h3⟩ := s_Wd_len hW heq
        have h4 : 4 ≤ a := Nat.not_lt.mp fun y => ho (Or.inr y)
        have h5 := s_ws_at S G h h4 h2
        rw [s_cell_i h1] at h5
        refine va_iast hx hb hI.1 hW.2.1 (s_ws_D hI h) hS (a - 4) 0 h5 (s_tys_0 S G) (s_vp_in fun y => ho (Or.inl y)) hdg (fun H1 locs1 hP1 _ hS1 => ?_)
        exact k hlen H1 locs1 ls (s_Wd_put (h2 := (s_upd h.1 a i.toNatClampNeg x, h.2)) hW h4 h2 rfl (fun j hj => ⟨if_neg hj, rfl⟩) (by rw [s_cell_i (by exact h1)]; show _ = Sum.inl (s_cA G 1, z, Sum.inl (s_upd h.1 a i.toNatClampNeg x a)); unfold s_upd; rw [if_pos rfl]) hP1) hS1 hL
    · cases hs
  · cases hs
theorem s_d_aald (C : s_Cx S G TW p s m args meth c r) (hdg : decode (s_b r) pc = .ok (.aaload, n)) (hn : n = 1) (hs : s_x .aaload pc n L st h = some q) (k : s_W S G p l e R s m args below meth c Q N0 M0 q.1 q.2.1 q.2.2.1 q.2.2.2) : s_W S G p l e R s m args below meth c Q N0 M0 pc L st h := by
  obtain ⟨hx, hb, hml, hown, hts, hI, hini⟩ := C
  subst hn
  dsimp only [s_x] at hs
  split at hs
  next i a r0 =>
    split at hs
    next t z heq =>
      split at hs
      · cases hs
      next ho =>
        intro hlen H locs ls hW hS hL
        obtain ⟨h1, h2, h3⟩ := s_Wd_len hW heq
        have h4 : 4 ≤ a := Nat.not_lt.mp fun y => ho (Or.inr y)
        have h5 := s_ws_at S G h h4 h2
        rw [s_cell_r h1] at h5
        obtain ⟨j, hj⟩ := s_tys_r G (hW.2.2.2 a t z h1)
        refine va_aldq hx hb hI.1 hW.2.1 (a - 4) j h5 hj (s_vp_in fun y => ho (Or.inl y)) hdg ?_
        split at hs
        next b hb2 =>
          cases hs
          rw [hb2]
          exact k hlen H locs ls hW hS hL
        next hb2 =>
          cases hs
          rw [hb2]
          exact k hlen H locs ls hW hS hL
    · cases hs
  · cases hs
theorem s_d_aast (C : s_Cx S G TW p s m args meth c r) (hrk : ∀ t ∈ s_rk S, 0 < s_N S t) (hdg : decode (s_b r) pc = .ok (.aastore, n)) (hn : n = 1) (hs : s_x .aastore pc n L st h = some q) (k : s_W S G p l e R s m args below meth c Q N0 M0 q.1 q.2.1 q.2.2.1 q.2.2.2) : s_W S G p l e R s m args below meth c Q N0 M0 pc L st h := by
  obtain ⟨hx, hb, hml, hown, hts, hI, hini⟩ := C
  subst hn
  dsimp only [s_x] at hs
  split at hs
  next b i a r0 =>
    split at hs
    next t z cc heq heq2 =>
      split at hs
      · cases hs
      next ho =>
        cases hs
        intro hlen H locs ls hW hS hL
        obtain ⟨h1, h2, h3⟩ := s_Wd_len hW heq
        obtain ⟨g1, g2, g3⟩ := s_Wd_len hW heq2
        have h4 : 4 ≤ a := Nat.not_lt.mp fun y => ho (Or.inr (Or.inl y))
        have g4 : 4 ≤ b := Nat.not_lt.mp fun y => ho (Or.inr (Or.inr (Or.inl y)))
        have hct : cc = t := Classical.byContradiction fun y => ho (Or.inr (Or.inr (Or.inr y)))
        subst hct
        have h5 := s_ws_at S G h h4 h2
        rw [s_cell_r h1] at h5
        have g5 := s_ws_at S G h g4 g2
        rw [s_cell_o g1] at g5
        have hmem := hW.2.2.2 a cc z h1
        obtain ⟨j, hj⟩ := s_tys_r G hmem
        obtain ⟨qc, e1, e2, e3, e4⟩ := s_cl_of (hrk _ hmem)
        rw [e4] at hj
        refine va_astq hx hb hI.1 hW.2.1 (s_ws_D hI h) hS (a - 4) j (b - 4) cc h5 hj g5 e1 (s_vp_in fun y => ho (Or.inl y)) hdg (fun H1 locs1 hP1 _ hS1 => ?_)
        refine k hlen H1 locs1 ls (s_Wd_put (h2 := (h.1, s_updR h.2.1 a i.toNatClampNeg (some b), h.2.2)) hW h4 h2 rfl (fun j hj => ⟨rfl, if_neg hj⟩) ?_ hP1) hS1 hL
        rw [s_cell_r (by exact h1)]
        have : (fun x => Option.map (s_ad G) (s_updR h.2.1 a i.toNatClampNeg (some b) a x)) = va_up (fun x => Option.map (s_ad G) (h.2.1 a x)) i.toNatClampNeg (some (s_ad G b)) := by
          funext x
          unfold s_updR va_up
          rw [if_pos rfl]
          by_cases y : x = i.toNatClampNeg
          · rw [if_pos y, if_pos y]; rfl
          · rw [if_neg y, if_neg y]
        show _ = Sum.inl (s_cA G (cc + 2), z, Sum.inr (Sum.inr (Sum.inr (Sum.inr (fun x => Option.map (s_ad G) (s_updR h.2.1 a i.toNatClampNeg (some b) a x))))))
        rw [this]
    · cases hs
  · cases hs
end HPS
