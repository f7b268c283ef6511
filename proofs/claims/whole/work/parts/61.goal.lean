/-! THE GOAL -/
set_option maxRecDepth 20000 in
theorem K_R0 {xs : Nat → Int32} : K_R (z_0 xs) p_0 := by
  refine ⟨0, 0, 0, ⟨⟨rfl, rfl⟩, ⟨rfl, rfl, rfl, rfl⟩, ⟨rfl, rfl, rfl⟩, fun i hi => absurd hi (Nat.not_lt_zero i)⟩, ⟨by decide, fun i hi => absurd hi (Nat.not_lt_zero i), fun i j _ hj => absurd hj (Nat.not_lt_zero j), fun i hi => absurd hi (Nat.not_lt_zero i), ⟨?_, ?_, ?_⟩, DT_nil⟩, ⟨by decide, rfl, rfl, fun j hj => ?_, fun i j _ _ h => ?_, fun j hj => absurd hj (Nat.not_lt_zero j)⟩, ⟨Or.inl ⟨rfl, rfl⟩, Or.inl ⟨rfl, rfl⟩⟩, ⟨by decide, rfl, rfl, fun i hi => absurd hi (Nat.not_lt_zero i)⟩, Or.inl rfl, rfl, rfl⟩
  · show (0 : Int32) ≤ 70
    decide
  · show (0 : Int32) ≤ 40
    decide
  · show (0 : Int32) ≤ 2
    decide
  · unfold t_hs p_0
    omega
  · unfold p_0 at h
    omega
set_option maxRecDepth 20000 in
theorem w_start {L : Nat} {xs : Nat → Int32} {v : Option Value} {h2 : sHp} (h : e_r 152 18 [.ref 3, .ref 4, .ref 131, .int 0] [] (hp (z_0 xs) p_0 L) v h2) : e_r 152 0 [.ref 3, s_no, s_no, s_no] [] (c_h xs L 0 0 4) v h2 := by
  refine e_newo hk_152 rfl rfl rfl (rU_fresh (by decide +kernel)) rfl rfl ?_
  show e_r 152 3 [.ref 3, s_no, s_no, s_no] [.ref 4] (c_h xs L 0 0 5) _ _
  refine e_go hk_152 1 (c := (4, [.ref 3, s_no, s_no, s_no], [.ref 4, .ref 4], c_h xs L 0 0 5)) rfl ?_
  refine e_call hk_152 (as := [.ref 4]) (rest := [.ref 4]) rfl rfl hk_56 rfl (Nat.le_of_ble_eq_true rfl) rfl k_56_4 ?_
  show e_r 152 7 [.ref 3, s_no, s_no, s_no] [.ref 4] (c_h xs L 27 126 131) _ _
  refine e_go hk_152 1 (c := (8, [.ref 3, .ref 4, s_no, s_no], [], c_h xs L 27 126 131)) rfl ?_
  refine e_newo hk_152 rfl rfl rfl (rU_fresh (by decide +kernel)) rfl rfl ?_
  show e_r 152 11 [.ref 3, .ref 4, s_no, s_no] [.ref 131] (c_h xs L 27 126 132) _ _
  refine e_go hk_152 1 (c := (12, [.ref 3, .ref 4, s_no, s_no], [.ref 131, .ref 131], c_h xs L 27 126 132)) rfl ?_
  refine e_call hk_152 (as := [.ref 131]) (rest := [.ref 131]) rfl rfl hk_89 rfl (Nat.le_of_ble_eq_true rfl) rfl k_89_131 ?_
  show e_r 152 15 [.ref 3, .ref 4, s_no, s_no] [.ref 131] (c_h xs L 30 135 141) _ _
  refine e_go hk_152 3 (c := (18, [.ref 3, .ref 4, .ref 131, .int 0], [], c_h xs L 30 135 141)) rfl ?_
  have e : c_h xs L 30 135 141 = hp (z_0 xs) p_0 L := by
    show (zW xs 30, rU 135, (s_SH L).take 141) = (z_0 xs, s_RR p_0, s_SH L)
    rw [rU_fin]
    rfl
  rw [e]
  exact h
set_option maxRecDepth 20000 in
theorem s_goal : s_Goal := by
  intro L xs hL
  obtain ⟨Z2, P2, h⟩ := law_l hL L 0 (z_0 xs) p_0 K_R0 (by omega) (by omega)
  obtain ⟨f, hf⟩ := w_start (show e_r 152 18 [.ref 3, .ref 4, .ref 131, .int 0] [] (hp (z_0 xs) p_0 L) (some (.int 1)) (hp Z2 P2 L) from h)
  refine ⟨f, hp Z2 P2 L, hf, Nat.le_of_ble_eq_true rfl, ?_⟩
  show 3 + (3 + (3 + (L + s_sz s_S ((s_SH 0).drop 4)))) ≤ 7302250
  have h4 : s_sz s_S ((s_SH 0).drop 4) ≤ 7000000 := by decide +kernel
  omega
