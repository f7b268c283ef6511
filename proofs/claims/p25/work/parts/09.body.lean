section BDS
variable {S : s_SG} {G : s_DG} {MT : sMT} {big : List Jvm.Cond} {host : String} {l : Launch}
theorem s_GI {big ws : List Jvm.Cond} (h : ∀ w ∈ ws, w ∈ s_TW big) : GoodIn (s_TW big) ws := fun w hw => ⟨h w hw, good_of_word (s_TW_good big w (h w hw))⟩
theorem s_split (G : s_DG) (st : List Value) (n : Nat) : st.map (s_vc G) = (((st.take n).reverse).map (s_vc G)).reverse ++ (st.drop n).map (s_vc G) := by
  rw [List.map_reverse, List.reverse_reverse, ← List.map_append, List.take_append_drop]
theorem s_rc_0 {cn : Option Nat} {h : sHp} {as : List Value} (c4 : s_rc 0 cn h as = true) : ∃ (a c : Nat) (as2 : List Value), as = .ref a :: as2 ∧ s_nth h.2.2 a = some (0, c) ∧ cn = some c := by
  simp only [s_rc] at c4
  split at c4
  next a as2 =>
    split at c4
    next cc c2 heq =>
      have hcc : cc = c2 := Nat.eq_of_beq_eq_true c4
      subst hcc
      exact ⟨_, _, _, rfl, heq, rfl⟩
    · cases c4
  · cases c4
theorem s_rc_2 {cn : Option Nat} {h : sHp} {as : List Value} (c4 : s_rc 2 cn h as = true ∨ s_rc 3 cn h as = true) : ∃ (a : Nat) (as2 : List Value), as = .ref a :: as2 := by
  simp only [s_rc, or_self] at c4
  split at c4
  next a as2 => exact ⟨_, _, rfl⟩
  · cases c4
theorem s_body_succ (FX : s_Fix S MT big host) {f : Nat} (hM : s_MetAt S G MT big l f) (hB : s_BodyAt S G MT big l f) : s_BodyAt S G MT big l (f + 1) := by
  intro p e R s m args below meth c Q k r cn N0 M0 pc L st h o hk C hrun hRf hRl hsz hN hN2 hM2 hroom K
  have FX0 := FX
  obtain ⟨SK, SD, CK, NW⟩ := FX
  unfold s_run at hrun
  rw [hk] at hrun
  dsimp only at hrun
  split at hrun
  · cases hrun
  next ev hat =>
  obtain ⟨hmem, hpc⟩ := s_at_mem hat
  subst hpc
  have hck := (CK k r cn hk).1 ev hmem
  split at hrun
  next q hci =>
    split at hrun
    · cases hrun
    next r2p hk2 =>
    split at hrun
    · cases hrun
    next hcond =>
    split at hrun
    · cases hrun
    next o1 h1 =>
    obtain ⟨r2, cn2⟩ := r2p
    dsimp only at hrun h1 hcond
    simp only [not_or, Nat.not_lt, Bool.not_eq_false] at hcond
    obtain ⟨c1, c2, c3, c4⟩ := hcond
    have hle := s_ext_le (S := S) (s_run_ext _ _ _ _ _ _ _ h1)
    have hle2 := s_ext_le (S := S) (s_run_ext _ _ _ _ _ _ _ hrun)
    have Mt := hM q.2 r2 cn2 _ h o1 hk2 c2 h1
    have kk := hB p e R s m args below meth c Q k r cn N0 M0 (ev.1 + 3) L _ o1.2 o hk C hrun hRf hRl hsz hN (Nat.le_trans hN2 hle.1) (Nat.le_trans hM2 hle.2) hroom K
    intro hlen H locs ls hW hS hL T hT X
    have hI := C.2.2.2.2.2.1
    have hsize := s_size hI hsz hN hN2 hW hS hT X
    refine (?_ : W p l e R s m args below meth c H locs (h.2.2.length - N0) (s_sz S h.2.2 - M0) Q (F0 m ev.1 ls (st.map (s_vc G)))) T hT X
    have hx := C.1
    have hb := C.2.1
    have hml := C.2.2.1
    have hown := C.2.2.2.1
    have hts := C.2.2.2.2.1
    have hcat : ((List.map (s_vc G) (st.drop (s_na r2))).map fun v => v.category).sum ≤ 8 := by rw [s_cat_sum]; exact c3
    have hlsz : ls.size = s_mL r := by rw [hL.1, hlen, hml]
    have hpre : ∀ U : State, U.heap = H → s.WarmedH U.vm → s_Pc S G (st.take (s_na r2)).reverse h ((st.take (s_na r2)).reverse.map (s_vc G)).toArray U := fun U hU hWm =>
      ⟨rfl, s_In_moved NW hWm (fun a ha hna => by rw [hU]; exact hS.2.1 a ha hna) hI, by rw [hU]; exact hW, by rw [hU]; exact hsize⟩
    have hfit : h.2.2.length - N0 + (o1.2.2.2.length - h.2.2.length) ≤ R.cells ∧ s_sz S h.2.2 - M0 + (s_sz S o1.2.2.2 - s_sz S h.2.2) ≤ R.slots := by omega
    have hstk := s_split G st (s_na r2)
    unfold s_chk at hck
    simp only [Bool.and_eq_true, decide_eq_true_eq, Bool.or_eq_true] at hck
    obtain ⟨⟨⟨⟨⟨hdg, hln⟩, hw1⟩, hw2⟩, hsd⟩, hso⟩ := hck
    have hw := s_wds_in hw1 hw2
    clear hw1 hw2 hso
    obtain ⟨pc, i, n, idx, pl⟩ := ev
    dsimp only at hdg hln hw hsd hci kk ⊢
    have hlt : (st.take (s_na r2)).reverse.length = s_na r2 := by rw [List.length_reverse, List.length_take]; omega
    generalize hasE : (st.take (s_na r2)).reverse = as at *
    generalize hrsE : st.drop (s_na r2) = rest at *
    cases i with
    | invokevirtual k2 =>
      cases hci
      have hn3 : n = 3 := hln.resolve_left (Nat.succ_ne_zero _)
      subst hn3
      dsimp only at hk2 c4
      dsimp only [s_sd] at hsd
      dsimp only [s_wds, s_wc] at hw
      rw [hk2] at hsd hw
      dsimp only at hsd hw
      obtain ⟨a, cc, as2, rfl, heq, rfl⟩ := s_rc_0 c4
      simp only [s_okc, Bool.and_eq_true, decide_eq_true_eq] at hsd
      obtain ⟨⟨⟨hna, ⟨⟨⟨⟨hf1, hf2⟩, hy1⟩, hy2⟩, hd⟩, -⟩, hcn⟩, hc0⟩ := hsd
      obtain ⟨g1, g2, g3⟩ := s_Wd_len hW heq
      have g4 := g3 (by decide)
      have g5 := s_ws_at S G h g4 g2
      rw [s_cell_o g1] at g5
      obtain ⟨qc, e1, e2, e3, e4⟩ := s_cl_of hc0
      have hrecv := va_recv hI.1 hW.2.1 e1 g5
      rw [← e4, hcn] at hrecv
      refine s_call (o := o1) (rest := rest) (a := ((Value.ref a :: as2).map (s_vc G)).toArray) ?_ hle hN2 hM2 hlen hS hL kk
      exact va_runV (C := (s_y r2).cls) (b := s_ad G a) (As := as2.map (s_vc G)) (rest := rest.map (s_vc G)) (g := F0 m pc ls (st.map (s_vc G))) (Ts := s_TW big) (n := s_na r2 - 1) ⟨hx, hb, hml, hown, hts⟩ Mt (cwV (s_na r2 - 1) hts (s_GI (fun w hq => by
        rcases List.mem_append.mp hq with z | z
        · refine hw w ?_
          simp only [List.mem_cons, List.not_mem_nil, or_false] at z ⊢
          rcases z with z | z | z | z <;> simp [z]
        · rcases List.mem_cons.mp z with z | z
          · refine hw w ?_
            simp [z]
          · exact z)) rfl rfl rfl ⟨rfl, hy1, hy2, hd⟩ ⟨by show s_fr r2 + 1 ≤ _; omega, by show _ + _ + s_lo r2 ≤ _; omega⟩) ⟨s_blind NW _ h, hrecv, hpre⟩ rfl (by rw [List.length_map]; simp only [List.length_cons] at hlt; omega) hlsz (by show st.map (s_vc G) = _; rw [hstk]; simp [s_vc]) (lv_room hcat) hdg hfit
    | invokestatic k2 =>
      cases hci
      have hn3 : n = 3 := hln.resolve_left (Nat.succ_ne_zero _)
      subst hn3
      dsimp only at hk2 c4
      dsimp only [s_sd] at hsd
      dsimp only [s_wds, s_wc] at hw
      rw [hk2] at hsd hw
      dsimp only at hsd hw
      simp only [s_okc, Bool.and_eq_true, decide_eq_true_eq] at hsd
      obtain ⟨⟨⟨⟨⟨hf1, hf2⟩, hy1⟩, hy2⟩, hd⟩, -⟩ := hsd
      refine s_call (o := o1) (rest := rest) (a := (as.map (s_vc G)).toArray) ?_ hle hN2 hM2 hlen hS hL kk
      exact va_runS (As := as.map (s_vc G)) (rest := rest.map (s_vc G)) (g := F0 m pc ls (st.map (s_vc G))) (Ts := s_TW big) (n := s_na r2) ⟨hx, hb, hml, hown, hts⟩ Mt (va_cwS (s_na r2) hts (s_GI (fun w hq => by
            rcases List.mem_append.mp hq with z | z
            · refine hw w ?_
              simp only [List.mem_cons, List.not_mem_nil, or_false] at z ⊢
              rcases z with z | z | z <;> simp [z]
            · rcases List.mem_cons.mp z with z | z
              · refine hw w ?_
                simp [z]
              · exact z)) rfl rfl rfl ⟨hy1, hy2, hd⟩ ⟨by show s_fr r2 + 1 ≤ _; omega, by show _ + _ + s_lo r2 ≤ _; omega⟩) ⟨s_blind NW _ h, hpre⟩ rfl (by rw [List.length_map]; exact hlt) hlsz hstk (lv_room hcat) hdg hfit
    | invokespecial k2 =>
      cases hci
      have hn3 : n = 3 := hln.resolve_left (Nat.succ_ne_zero _)
      subst hn3
      dsimp only at hk2 c4
      dsimp only [s_sd] at hsd
      dsimp only [s_wds, s_wc] at hw
      rw [hk2] at hsd hw
      dsimp only at hsd hw
      obtain ⟨a, as2, rfl⟩ := s_rc_2 (Or.inl c4)
      simp only [s_okc, Bool.and_eq_true, decide_eq_true_eq, Bool.or_eq_true, Bool.not_true, Bool.false_eq_true, false_or] at hsd
      obtain ⟨hna, ⟨⟨⟨⟨hf1, hf2⟩, hy1⟩, hy2⟩, hd⟩, hin1, hin2⟩ := hsd
      rw [hin2] at hw
      have Mt2 : Met l (s_y r2) (.code (s_y r2) (s_b r2) (s_mL r2) none :: s_TW big) (s_rm S r2 h o1.2) (s_Pc S G (.ref a :: as2) h) (s_Qc S G o1) (o1.2.2.2.length - h.2.2.length) (s_sz S o1.2.2.2 - s_sz S h.2.2) (s_A G) := by
        have := Mt
        unfold s_Meets s_wsl at this
        rw [hin2] at this
        exact this
      refine s_call (o := o1) (rest := rest) (a := ((Value.ref a :: as2).map (s_vc G)).toArray) ?_ hle hN2 hM2 hlen hS hL kk
      exact va_runI (b := s_ad G a) (As := as2.map (s_vc G)) (rest := rest.map (s_vc G)) (g := F0 m pc ls (st.map (s_vc G))) (Ts := s_TW big) (n := s_na r2 - 1) ⟨hx, hb, hml, hown, hts⟩ Mt2 (cwI (s_na r2 - 1) hts (s_GI (fun w z => by
          rcases List.mem_cons.mp z with z | z
          · refine hw w ?_
            simp [z]
          · exact z)) rfl rfl rfl (hts _ (hw _ (by simp))) (hts _ (hw _ (by simp))) (hts _ (hw _ (by simp))) hin1 ⟨hy1, hy2, hd⟩ ⟨by show s_fr r2 + 1 ≤ _; omega, by show _ + _ + s_lo r2 ≤ _; omega⟩) ⟨s_blind NW _ h, hpre⟩ rfl (by rw [List.length_map]; simp only [List.length_cons] at hlt; omega) hlsz (by show st.map (s_vc G) = _; rw [hstk]; simp [s_vc]) (lv_room hcat) hdg hfit
    | invokeinterface k2 z2 =>
      cases hci
      have hn3 : n = 3 := hln.resolve_left (Nat.succ_ne_zero _)
      subst hn3
      dsimp only at hk2 c4
      dsimp only [s_sd] at hsd
      dsimp only [s_wds, s_wc] at hw
      rw [hk2] at hsd hw
      dsimp only at hsd hw
      obtain ⟨a, as2, rfl⟩ := s_rc_2 (Or.inr c4)
      simp only [s_okc, Bool.and_eq_true, decide_eq_true_eq, Bool.or_eq_true, Bool.not_true, Bool.false_eq_true, false_or] at hsd
      obtain ⟨⟨hna, ⟨⟨⟨⟨hf1, hf2⟩, hy1⟩, hy2⟩, hd⟩, hin1, hin2⟩, hnw⟩ := hsd
      rw [hin2] at hw
      have Mt2 : Met l (s_y r2) (.code (s_y r2) (s_b r2) (s_mL r2) none :: s_TW big) (s_rm S r2 h o1.2) (s_Pc S G (.ref a :: as2) h) (s_Qc S G o1) (o1.2.2.2.length - h.2.2.length) (s_sz S o1.2.2.2 - s_sz S h.2.2) (s_A G) := by
        have := Mt
        unfold s_Meets s_wsl at this
        rw [hin2] at this
        exact this
      refine s_call (o := o1) (rest := rest) (a := ((Value.ref a :: as2).map (s_vc G)).toArray) ?_ hle hN2 hM2 hlen hS hL kk
      exact va_runIN (host := host) (b := s_ad G a) (As := as2.map (s_vc G)) (rest := rest.map (s_vc G)) (g := F0 m pc ls (st.map (s_vc G))) (Ts := s_TW big) (n := s_na r2 - 1) ⟨hx, hb, hml, hown, hts⟩ Mt2 ⟨va_cnB (s_na r2 - 1) hts (s_GI (fun w z => by
          rcases List.mem_cons.mp z with z | z
          · refine hw w ?_
            simp [z]
          · exact z)) rfl rfl rfl (hI.2.2.2.2 _ hnw) (hts _ (hw _ (by simp))) ⟨hy1, hy2, hd⟩ ⟨by show s_fr r2 + 1 ≤ _; omega, by show _ + _ + s_lo r2 ≤ _; omega⟩, hin1, hts _ (hw _ (by simp))⟩ ⟨s_blind NW _ h, hpre⟩ rfl (by rw [List.length_map]; simp only [List.length_cons] at hlt; omega) hlsz (by show st.map (s_vc G) = _; rw [hstk]; simp [s_vc]) (lv_room hcat) hdg hfit
    | _ => cases hci
  next hci =>
    split at hrun
    next v hrx =>
      cases hrun
      have hdg : decode (s_b r) ev.1 = .ok (ev.2.1, 1) := by
        unfold s_chk at hck
        simp only [Bool.and_eq_true, decide_eq_true_eq, Bool.or_eq_true] at hck
        obtain ⟨⟨⟨⟨⟨hdg, hln⟩, -⟩, -⟩, -⟩, -⟩ := hck
        obtain ⟨pc, i, n, idx, pl⟩ := ev
        dsimp only at hdg hln hrx ⊢
        unfold s_rx at hrx
        split at hrx <;> first
          | (cases hrx; done)
          | (have hn : n = 1 := hln.resolve_left (Nat.succ_ne_zero _)
             subst hn
             exact hdg)
      exact K ev.2.1 ev.1 L st hdg hrx
    next hrx =>
      split at hrun
      · cases hrun
      next q hx1 =>
      have hle2 := s_ext_le (S := S) (s_run_ext _ _ _ _ _ _ _ hrun)
      have hle := s_ext_le (S := S) (s_x_ext hx1)
      have kk := hB p e R s m args below meth c Q k r cn N0 M0 q.1 q.2.1 q.2.2.1 q.2.2.2 o hk C hrun hRf hRl hsz hN (Nat.le_trans hN2 hle.1) (Nat.le_trans hM2 hle.2) hroom K
      exact s_one C SK SD hck hRf hRl hsz hN hN2 hM2 ⟨by omega, by omega⟩ hx1 kk
/-- THE SMALL MACHINE IS RIGHT -/
theorem s_body (FX : s_Fix S MT big host) : ∀ f : Nat, s_BodyAt S G MT big l f
  | 0 => fun p e R s m args below meth c Q k r cn N0 M0 pc L st h o hk C hrun => by cases hrun
  | f + 1 => s_body_succ FX (s_met_of_body FX (s_body FX f)) (s_body FX f)
end BDS
