/-! History; printed by wip/whole/gen/hist.py -/
def t_at (x : Nat) : Prop := x = 5 ∨ x = 20 ∨ x = 33 ∨ x = 46 ∨ x = 59 ∨ x = 72 ∨ x = 85 ∨ x = 104 ∨ x = 118
theorem t_at_is {Z : Nat → Nat → Int32} {P : Nat → Nat} {L x : Nat} (h : t_at x) : t_is (hp Z P L) x := by
  rcases h with rfl | rfl | rfl | rfl | rfl | rfl | rfl | rfl | rfl <;> exact ⟨rfl, ⟨rfl, rfl, rfl, rfl, rfl, rfl⟩, ⟨rfl, rfl, rfl, rfl, rfl, rfl⟩, ⟨rfl, rfl, rfl, rfl, rfl, rfl⟩, ⟨rfl, rfl, rfl, rfl, rfl, rfl⟩⟩
theorem t_at4 {x : Nat} (h : t_at x) : 4 ≤ x := by unfold t_at at h; omega
theorem t_at_sh {L x : Nat} (h : t_at x) : s_nth (s_SH L) x = some (0, 5) := by
  rcases h with rfl | rfl | rfl | rfl | rfl | rfl | rfl | rfl | rfl <;> rfl
/-- the history's array: which tree stands at j -/
def y_pu (P : Nat → Nat) (j b : Nat) : Nat → Nat := fun i => if i = j then b else P i
theorem s_RR19 {P : Nat → Nat} {j : Nat} (hj : j < 6) : s_RR P 19 j = some (P j) := by
  unfold s_RR
  rw [show Nat.beq 19 19 = true from rfl]
  dsimp only
  rw [show Nat.blt j 6 = true from by simpa [Nat.blt_eq] using hj]
theorem s_RRput {P : Nat → Nat} {j b : Nat} (hj : j < 6) : s_updR (s_RR P) 19 j (some b) = s_RR (y_pu P j b) := by
  funext i k
  unfold s_updR va_up
  by_cases h1 : i = 19
  · rw [if_pos h1, h1]
    by_cases h2 : k = j
    · rw [if_pos h2, h2, s_RR19 hj, y_pu, if_pos rfl]
    · rw [if_neg h2]
      by_cases h3 : k < 6
      · rw [s_RR19 h3, s_RR19 h3, y_pu, if_neg h2]
      · unfold s_RR
        rw [show Nat.beq 19 19 = true from rfl]
        dsimp only
        rw [show Nat.blt k 6 = false from by cases hq : Nat.blt k 6 with | false => rfl | true => exact absurd (by simpa [Nat.blt_eq] using hq) h3]
  · rw [if_neg h1]
    unfold s_RR
    rw [show Nat.beq i 19 = false from by cases hq : Nat.beq i 19 with | false => rfl | true => exact absurd (Nat.eq_of_beq_eq_true hq) h1]
theorem e_hld {k pc : Nat} {r : sM} {cn : Option Nat} {ls rest : List Value} {h2 : sHp} {v : Option Value} {Z : Nat → Nat → Int32} {P : Nat → Nat} {L : Nat} (hk : s_T k = some (r, cn)) {e : sE} {j : Nat} (hat : s_at (s_cd r) pc = some e) (hi : e.2.1 = .aaload) (hj : j < 6) (kk : e_r k (pc + e.2.2.1) ls (.ref (P j) :: rest) (hp Z P L) v h2) : e_r k pc ls (.int (nI j) :: .ref 19 :: rest) (hp Z P L) v h2 := by
  refine e_step (c := (pc + e.2.2.1, ls, .ref (P j) :: rest, hp Z P L)) hk hat (by rw [hi]; rfl) (by rw [hi]; rfl) ?_ kk
  rw [hi]
  show (if s_outb (nI j) 6 = true ∨ 19 < 4 then none else (match s_RR P 19 (nI j).toNatClampNeg with | some b => some (pc + e.2.2.1, ls, Value.ref b :: rest, hp Z P L) | none => some (pc + e.2.2.1, ls, Value.null :: rest, hp Z P L))) = _
  rw [if_neg (by rw [not_or]; exact ⟨s_outb_nI hj (by decide), by decide⟩), nI_clamp (by omega), s_RR19 hj]
theorem e_hst {k pc : Nat} {r : sM} {cn : Option Nat} {ls rest : List Value} {h2 : sHp} {v : Option Value} {Z : Nat → Nat → Int32} {P : Nat → Nat} {L : Nat} (hk : s_T k = some (r, cn)) {e : sE} {j b : Nat} (hat : s_at (s_cd r) pc = some e) (hi : e.2.1 = .aastore) (hj : j < 6) (hb : t_at b) (kk : e_r k (pc + e.2.2.1) ls rest (hp Z (y_pu P j b) L) v h2) : e_r k pc ls (.ref b :: .int (nI j) :: .ref 19 :: rest) (hp Z P L) v h2 := by
  refine e_step (c := (pc + e.2.2.1, ls, rest, hp Z (y_pu P j b) L)) hk hat (by rw [hi]; rfl) (by rw [hi]; rfl) ?_ kk
  rw [hi]
  dsimp only [s_x]
  rw [t_at_sh hb]
  show (if s_outb (nI j) 6 = true ∨ 19 < 4 ∨ b < 4 ∨ 5 ≠ 5 then none else some (pc + e.2.2.1, ls, rest, (Z, s_updR (s_RR P) 19 (nI j).toNatClampNeg (some b), s_SH L))) = _
  have := t_at4 hb
  rw [if_neg (by simp only [not_or]; exact ⟨s_outb_nI hj (by decide), by decide, by omega, by decide⟩), nI_clamp (by omega), s_RRput hj]
def t_rot (P : Nat → Nat) : Nat → Nat := fun j => if j < 5 then P (j + 1) else if j = 5 then P 0 else P j
theorem x_state {Z : Nat → Nat → Int32} {P : Nat → Nat} {L : Nat} {j : Nat} (hj : j < 6) : m_r 4 [.ref 18, .int (nI j)] (hp Z P L) (some (.ref (P j))) (hp Z P L) := by
  refine m_of (ls := [.ref 18, .int (nI j)]) hk_4 rfl rfl rfl ?_
  refine e_go hk_4 2 (c := (if s_cnd .lt (nI j) 0 = true then 22 else 4, [.ref 18, .int (nI j)], [], hp Z P L)) rfl ?_
  refine e_lt (a := 22) (b := 4) (x := nI j) (y := 0) (fun hc1 => absurd hc1 (nI_pos (by omega))) (fun hc1 => ?_)
  refine e_go hk_4 5 (c := (if s_cnd .ge (nI j) 6 = true then 22 else 13, [.ref 18, .int (nI j)], [], hp Z P L)) rfl ?_
  refine e_ge (a := 22) (b := 13) (x := nI j) (y := 6) (fun hc10 => absurd hc10 (nI_ge hj (by decide))) (fun hc10 => ?_)
  refine e_go hk_4 3 (c := (18, [.ref 18, .int (nI j)], [.int (nI j), .ref 19], hp Z P L)) rfl ?_
  refine e_hld hk_4 (j := j) rfl rfl hj ?_
  show e_r 4 19 [.ref 18, .int (nI j)] [.ref (P j)] (hp Z P L) _ _
  refine e_go hk_4 1 (c := (23, [.ref 18, .int (nI j)], [.ref (P j)], hp Z P L)) rfl ?_
  exact e_ret hk_4 rfl rfl rfl rfl rfl
theorem x_state_m {Z : Nat → Nat → Int32} {P : Nat → Nat} {L : Nat} : m_r 4 [.ref 18, .int (-1)] (hp Z P L) (some .null) (hp Z P L) := by
  refine m_of (ls := [.ref 18, .int ((-1))]) hk_4 rfl rfl rfl ?_
  refine e_go hk_4 2 (c := (if s_cnd .lt ((-1)) 0 = true then 22 else 4, [.ref 18, .int ((-1))], [], hp Z P L)) rfl ?_
  refine e_lt (a := 22) (b := 4) (x := (-1)) (y := 0) (fun hc1 => ?_) (fun hc1 => absurd (by decide) hc1)
  refine e_go hk_4 1 (c := (23, [.ref 18, .int ((-1))], [.null], hp Z P L)) rfl ?_
  exact e_ret hk_4 rfl rfl rfl rfl rfl
theorem x_turn_1 {Z : Nat → Nat → Int32} {P : Nat → Nat} {L : Nat} {i : Nat} {q : Nat} {h2 : sHp} (hi : i + 1 < 6) (hQ : ∀ j, j < 6 → t_at (P j)) (kk : e_r 3 8 [.ref 18, .ref q, .int (nI (i + 2))] [] (hp Z (y_pu P i (P (i + 1))) L) none h2) : e_r 3 8 [.ref 18, .ref q, .int (nI (i + 1))] [] (hp Z P L) none h2 := by
  refine e_go hk_3 5 (c := (if s_cnd .ge (nI (i + 1)) 6 = true then 37 else 17, [.ref 18, .ref q, .int (nI (i + 1))], [], hp Z P L)) rfl ?_
  refine e_ge (a := 37) (b := 17) (x := nI (i + 1)) (y := 6) (fun hc14 => absurd hc14 (nI_ge (by omega) (by decide))) (fun hc14 => ?_)
  refine e_go hk_3 8 (c := (29, [.ref 18, .ref q, .int (nI (i + 1))], [.int (nI (i + 1)), .ref 19, .int ((nI (i + 1)) - 1), .ref 19], hp Z P L)) rfl ?_
  refine e_hld hk_3 (j := i + 1) rfl rfl (by omega) ?_
  show e_r 3 30 [.ref 18, .ref q, .int (nI (i + 1))] [.ref (P (i + 1)), .int ((nI (i + 1)) - 1), .ref 19] (hp Z P L) _ _
  rw [show ((nI (i + 1)) - 1) = nI i from (nI_pred i)]
  refine e_hst hk_3 (j := i) rfl rfl (by omega) (hQ (i + 1) (by omega)) ?_
  show e_r 3 31 [.ref 18, .ref q, .int (nI (i + 1))] [] (hp Z ((y_pu P i (P (i + 1)))) L) _ _
  refine e_go hk_3 2 (c := (8, [.ref 18, .ref q, .int ((nI (i + 1)) + 1)], [], hp Z ((y_pu P i (P (i + 1)))) L)) rfl ?_
  rw [nI_1]
  exact kk
theorem y_pu_at {P : Nat → Nat} {i b : Nat} (hP : ∀ j, j < 6 → t_at (P j)) (hb : t_at b) : ∀ j, j < 6 → t_at (y_pu P i b j) := by
  intro j hj
  unfold y_pu
  split
  · exact hb
  · exact hP j hj
theorem t_rot_eq {P : Nat → Nat} : y_pu (y_pu (y_pu (y_pu (y_pu (y_pu P 0 (P 1)) 1 (P 2)) 2 (P 3)) 3 (P 4)) 4 (P 5)) 5 (P 0) = t_rot P := by
  funext j
  unfold t_rot y_pu
  rcases Nat.lt_or_ge j 6 with h | h
  · have : j = 0 ∨ j = 1 ∨ j = 2 ∨ j = 3 ∨ j = 4 ∨ j = 5 := by omega
    rcases this with rfl | rfl | rfl | rfl | rfl | rfl <;> rfl
  · rw [if_neg (by omega), if_neg (by omega), if_neg (by omega), if_neg (by omega), if_neg (by omega), if_neg (by omega), if_neg (by omega), if_neg (by omega)]
theorem x_turn_2 {Z : Nat → Nat → Int32} {P : Nat → Nat} {L : Nat} (hP : ∀ j, j < 6 → t_at (P j)) : e_r 3 8 [.ref 18, .ref (P 0), .int (nI 6)] [] (hp Z (y_pu (y_pu (y_pu (y_pu (y_pu P 0 (P 1)) 1 (P 2)) 2 (P 3)) 3 (P 4)) 4 (P 5)) L) none (hp (s_upd Z 18 1 5) (t_rot P) L) := by
    refine e_go hk_3 5 (c := (if s_cnd .ge (nI 6) 6 = true then 37 else 17, [.ref 18, .ref (P 0), .int (nI 6)], [], hp Z ((y_pu (y_pu (y_pu (y_pu (y_pu P 0 (P 1)) 1 (P 2)) 2 (P 3)) 3 (P 4)) 4 (P 5))) L)) rfl ?_
    refine e_ge (a := 37) (b := 17) (x := nI 6) (y := 6) (fun hc14 => ?_) (fun hc14 => absurd (by decide) hc14)
    refine e_go hk_3 10 (c := (if s_cnd .lt (6 - 1) 0 = true then 65 else 55, [.ref 18, .ref (P 0), .int (nI 6)], [], hp (s_upd Z 18 1 (6 - 1)) ((y_pu (y_pu (y_pu (y_pu (y_pu P 0 (P 1)) 1 (P 2)) 2 (P 3)) 3 (P 4)) 4 (P 5))) L)) rfl ?_
    refine e_lt (a := 65) (b := 55) (x := 6 - 1) (y := 0) (fun hc52 => absurd hc52 (by decide)) (fun hc52 => ?_)
    refine e_go hk_3 5 (c := (64, [.ref 18, .ref (P 0), .int (nI 6)], [.ref (P 0), .int (6 - 1), .ref 19], hp (s_upd Z 18 1 (6 - 1)) ((y_pu (y_pu (y_pu (y_pu (y_pu P 0 (P 1)) 1 (P 2)) 2 (P 3)) 3 (P 4)) 4 (P 5))) L)) rfl ?_
    rw [show (6 - 1) = nI 5 from (show s_upd Z 18 1 (nI 6 - 1) 18 1 = nI 5 from rfl)]
    refine e_hst hk_3 (j := 5) rfl rfl (by omega) (hP 0 (by omega)) ?_
    show e_r 3 65 [.ref 18, .ref (P 0), .int (nI 6)] [] (hp (s_upd Z 18 1 (6 - 1)) ((y_pu ((y_pu (y_pu (y_pu (y_pu (y_pu P 0 (P 1)) 1 (P 2)) 2 (P 3)) 3 (P 4)) 4 (P 5))) 5 (P 0))) L) _ _
    exact e_ret hk_3 rfl rfl rfl rfl (by rw [t_rot_eq]; rfl)
theorem x_turn {Z : Nat → Nat → Int32} {P : Nat → Nat} {L : Nat} (hP : ∀ j, j < 6 → t_at (P j)) : m_r 3 [.ref 18] (hp Z P L) none (hp (s_upd Z 18 1 5) (t_rot P) L) := by
  refine m_of (ls := [.ref 18, s_no, s_no]) hk_3 rfl rfl rfl ?_
  refine e_go hk_3 2 (c := (2, [.ref 18, s_no, s_no], [.int 0, .ref 18], hp Z P L)) rfl ?_
  refine e_call hk_3 (as := [.ref 18, .int (nI 0)]) (rest := []) rfl rfl hk_4 rfl (Nat.le_of_ble_eq_true rfl) rfl (x_state (P := P) (j := 0) (by omega)) ?_
  show e_r 3 5 [.ref 18, s_no, s_no] [.ref (P 0)] (hp Z P L) _ _
  refine e_go hk_3 3 (c := (8, [.ref 18, .ref (P 0), .int 1], [], hp Z P L)) rfl ?_
  have h0 := hP
  have h1 : ∀ j, j < 6 → t_at ((y_pu P 0 (P 1)) j) := y_pu_at h0 (hP 1 (by omega))
  have h2 : ∀ j, j < 6 → t_at ((y_pu (y_pu P 0 (P 1)) 1 (P 2)) j) := y_pu_at h1 (hP 2 (by omega))
  have h3 : ∀ j, j < 6 → t_at ((y_pu (y_pu (y_pu P 0 (P 1)) 1 (P 2)) 2 (P 3)) j) := y_pu_at h2 (hP 3 (by omega))
  have h4 : ∀ j, j < 6 → t_at ((y_pu (y_pu (y_pu (y_pu P 0 (P 1)) 1 (P 2)) 2 (P 3)) 3 (P 4)) j) := y_pu_at h3 (hP 4 (by omega))
  have h5 : ∀ j, j < 6 → t_at ((y_pu (y_pu (y_pu (y_pu (y_pu P 0 (P 1)) 1 (P 2)) 2 (P 3)) 3 (P 4)) 4 (P 5)) j) := y_pu_at h4 (hP 5 (by omega))
  refine x_turn_1 (i := 0) (by omega) h0 ?_
  refine x_turn_1 (i := 1) (by omega) h1 ?_
  refine x_turn_1 (i := 2) (by omega) h2 ?_
  refine x_turn_1 (i := 3) (by omega) h3 ?_
  refine x_turn_1 (i := 4) (by omega) h4 ?_
  show e_r 3 8 [.ref 18, .ref (P 0), .int (nI 6)] [] (hp Z (y_pu (y_pu (y_pu (y_pu (y_pu P 0 (P 1)) 1 (P 2)) 2 (P 3)) 3 (P 4)) 4 (P 5)) L) _ _
  exact x_turn_2 hP
def t_k1 (Z : Nat → Nat → Int32) (x : Nat) : Nat → Nat → Int32 := s_upd (t_bc Z x 5) 18 1 (t_bc Z x 5 18 1 + 1)
def t_kZ (Z : Nat → Nat → Int32) (P : Nat → Nat) (m : Nat) : Nat → Nat → Int32 := if m < 6 then t_k1 Z (P m) else t_k1 (s_upd Z 18 1 5) (P 0)
def t_kP (P : Nat → Nat) (m : Nat) : Nat → Nat := if m < 6 then P else t_rot P
theorem x_keep_1 {Z : Nat → Nat → Int32} {P : Nat → Nat} {L : Nat} (hP : ∀ j, j < 6 → t_at (P j)) {m : Nat} (hM : Z 18 1 = nI m) (hm : m < 6) : m_r 1 [.ref 18, .ref 5] (hp Z P L) none (hp (t_kZ Z P m) (t_kP P m) L) := by
  have hA := hP m hm
  refine m_of (ls := [.ref 18, .ref 5, s_no]) hk_1 rfl rfl rfl ?_
  refine e_go hk_1 6 (c := (if s_cnd .lt (Z 18 1) 6 = true then 16 else 12, [.ref 18, .ref 5, s_no], [], hp Z P L)) rfl ?_
  refine e_lt (a := 16) (b := 12) (x := Z 18 1) (y := 6) (fun hc9 => ?_) (fun hc9 => absurd (by rw [hM, show (6 : Int32) = nI 6 from rfl]; exact (y_lt (by omega) (by decide)).mpr hm) hc9)
  refine e_go hk_1 3 (c := (21, [.ref 18, .ref 5, s_no], [.int (Z 18 1), .ref 18], hp Z P L)) rfl ?_
  rw [hM]
  refine e_call hk_1 (as := [.ref 18, .int (nI m)]) (rest := []) rfl rfl hk_4 rfl (Nat.le_of_ble_eq_true rfl) rfl (x_state (P := P) (j := m) (by omega)) ?_
  show e_r 1 24 [.ref 18, .ref 5, s_no] [.ref (P m)] (hp Z P L) _ _
  refine e_go hk_1 5 (c := (31, [.ref 18, .ref 5, .ref (P m)], [.ref 5, .ref (P m)], hp Z P L)) rfl ?_
  refine e_call hk_1 (as := [.ref (P m), .ref 5]) (rest := []) rfl rfl hk_29 rfl (Nat.le_of_ble_eq_true rfl) (s_rc_of (t_at_sh hA)) (x_tbec (x := P m) (y := 5) (h := hp Z P L) (t_at_is hA) (t_at_is (Or.inl rfl)) (t_at4 hA) (t_at4 (Or.inl rfl))) ?_
  show e_r 1 34 [.ref 18, .ref 5, .ref (P m)] [] (hp ((t_bc Z (P m) 5)) P L) _ _
  refine e_go hk_1 6 (c := (44, [.ref 18, .ref 5, .ref (P m)], [], hp (s_upd ((t_bc Z (P m) 5)) 18 1 ((((t_bc Z (P m) 5)) 18 1) + 1)) P L)) rfl ?_
  exact e_ret hk_1 rfl rfl rfl rfl (by rw [t_kZ, t_kP, if_pos hm, if_pos hm]; rfl)
theorem x_keep_2 {Z : Nat → Nat → Int32} {P : Nat → Nat} {L : Nat} (hP : ∀ j, j < 6 → t_at (P j)) (hM : Z 18 1 = nI 6) : m_r 1 [.ref 18, .ref 5] (hp Z P L) none (hp (t_kZ Z P 6) (t_kP P 6) L) := by
  have hA := hP 0 (by omega)
  refine m_of (ls := [.ref 18, .ref 5, s_no]) hk_1 rfl rfl rfl ?_
  refine e_go hk_1 6 (c := (if s_cnd .lt (Z 18 1) 6 = true then 16 else 12, [.ref 18, .ref 5, s_no], [], hp Z P L)) rfl ?_
  refine e_lt (a := 16) (b := 12) (x := Z 18 1) (y := 6) (fun hc9 => absurd hc9 (by rw [hM]; decide)) (fun hc9 => ?_)
  refine e_go hk_1 1 (c := (13, [.ref 18, .ref 5, s_no], [.ref 18], hp Z P L)) rfl ?_
  refine e_call hk_1 (as := [.ref 18]) (rest := []) rfl rfl hk_3 rfl (Nat.le_of_ble_eq_true rfl) rfl (x_turn hP) ?_
  show e_r 1 16 [.ref 18, .ref 5, s_no] [] (hp (s_upd Z 18 1 5) ((t_rot P)) L) _ _
  refine e_go hk_1 3 (c := (21, [.ref 18, .ref 5, s_no], [.int 5, .ref 18], hp (s_upd Z 18 1 5) ((t_rot P)) L)) rfl ?_
  refine e_call hk_1 (as := [.ref 18, .int (nI 5)]) (rest := []) rfl rfl hk_4 rfl (Nat.le_of_ble_eq_true rfl) rfl (x_state (P := t_rot P) (j := 5) (by omega)) ?_
  show e_r 1 24 [.ref 18, .ref 5, s_no] [.ref (P 0)] (hp (s_upd Z 18 1 5) ((t_rot P)) L) _ _
  refine e_go hk_1 5 (c := (31, [.ref 18, .ref 5, .ref (P 0)], [.ref 5, .ref (P 0)], hp (s_upd Z 18 1 5) ((t_rot P)) L)) rfl ?_
  refine e_call hk_1 (as := [.ref (P 0), .ref 5]) (rest := []) rfl rfl hk_29 rfl (Nat.le_of_ble_eq_true rfl) (s_rc_of (t_at_sh hA)) (x_tbec (x := P 0) (y := 5) (h := hp (s_upd Z 18 1 5) ((t_rot P)) L) (t_at_is hA) (t_at_is (Or.inl rfl)) (t_at4 hA) (t_at4 (Or.inl rfl))) ?_
  show e_r 1 34 [.ref 18, .ref 5, .ref (P 0)] [] (hp ((t_bc (s_upd Z 18 1 5) (P 0) 5)) ((t_rot P)) L) _ _
  refine e_go hk_1 6 (c := (44, [.ref 18, .ref 5, .ref (P 0)], [], hp (s_upd ((t_bc (s_upd Z 18 1 5) (P 0) 5)) 18 1 ((((t_bc (s_upd Z 18 1 5) (P 0) 5)) 18 1) + 1)) ((t_rot P)) L)) rfl ?_
  exact e_ret hk_1 rfl rfl rfl rfl rfl
theorem x_keep {Z : Nat → Nat → Int32} {P : Nat → Nat} {L : Nat} (hP : ∀ j, j < 6 → t_at (P j)) {m : Nat} (hM : Z 18 1 = nI m) (hm : m ≤ 6) : m_r 1 [.ref 18, .ref 5] (hp Z P L) none (hp (t_kZ Z P m) (t_kP P m) L) := by
  rcases Nat.lt_or_ge m 6 with h | h
  · exact x_keep_1 hP hM h
  · have h6 : m = 6 := by omega
    subst h6
    exact x_keep_2 hP hM
def t_tk (Z : Nat → Nat → Int32) (P : Nat → Nat) : Nat → Int32 × (Nat → Nat → Int32)
  | 0 => (0, Z)
  | m + 1 => (1, s_upd (t_bc Z 5 (P m)) 18 1 (t_bc Z 5 (P m) 18 1 - 1))
theorem x_take_0 {Z : Nat → Nat → Int32} {P : Nat → Nat} {L : Nat} (hP : ∀ j, j < 6 → t_at (P j)) (hM : Z 18 1 = nI 0) : m_r 2 [.ref 18, .ref 5] (hp Z P L) (some (.int (t_tk Z P 0).1)) (hp (t_tk Z P 0).2 P L) := by
  refine m_of (ls := [.ref 18, .ref 5, s_no]) hk_2 rfl rfl rfl ?_
  refine e_go hk_2 5 (c := (7, [.ref 18, .ref 5, s_no], [.int ((Z 18 1) - 1), .ref 18], hp Z P L)) rfl ?_
  rw [hM, show nI 0 - 1 = -1 from rfl]
  refine e_call hk_2 (as := [.ref 18, .int ((-1))]) (rest := []) rfl rfl hk_4 rfl (Nat.le_of_ble_eq_true rfl) rfl x_state_m ?_
  show e_r 2 10 [.ref 18, .ref 5, s_no] [.null] (hp Z P L) _ _
  refine e_go hk_2 4 (c := (16, [.ref 18, .ref 5, .null], [.int 0], hp Z P L)) rfl ?_
  exact e_ret hk_2 rfl rfl rfl rfl rfl
theorem x_take_s {Z : Nat → Nat → Int32} {P : Nat → Nat} {L : Nat} (hP : ∀ j, j < 6 → t_at (P j)) {m : Nat} (hM : Z 18 1 = nI (m + 1)) (hm : m < 6) : m_r 2 [.ref 18, .ref 5] (hp Z P L) (some (.int (t_tk Z P (m + 1)).1)) (hp (t_tk Z P (m + 1)).2 P L) := by
  have hA := hP m hm
  refine m_of (ls := [.ref 18, .ref 5, s_no]) hk_2 rfl rfl rfl ?_
  refine e_go hk_2 5 (c := (7, [.ref 18, .ref 5, s_no], [.int ((Z 18 1) - 1), .ref 18], hp Z P L)) rfl ?_
  rw [hM, nI_pred]
  refine e_call hk_2 (as := [.ref 18, .int (nI m)]) (rest := []) rfl rfl hk_4 rfl (Nat.le_of_ble_eq_true rfl) rfl (x_state (P := P) (j := m) (by omega)) ?_
  show e_r 2 10 [.ref 18, .ref 5, s_no] [.ref (P m)] (hp Z P L) _ _
  refine e_go hk_2 5 (c := (19, [.ref 18, .ref 5, .ref (P m)], [.ref (P m), .ref 5], hp Z P L)) rfl ?_
  refine e_call hk_2 (as := [.ref 5, .ref (P m)]) (rest := []) rfl rfl hk_29 rfl (Nat.le_of_ble_eq_true rfl) rfl (x_tbec (x := 5) (y := P m) (h := hp Z P L) (t_at_is (Or.inl rfl)) (t_at_is hA) (t_at4 (Or.inl rfl)) (t_at4 hA)) ?_
  show e_r 2 22 [.ref 18, .ref 5, .ref (P m)] [] (hp ((t_bc Z 5 (P m))) P L) _ _
  refine e_go hk_2 7 (c := (33, [.ref 18, .ref 5, .ref (P m)], [.int 1], hp (s_upd ((t_bc Z 5 (P m))) 18 1 ((((t_bc Z 5 (P m))) 18 1) - 1)) P L)) rfl ?_
  exact e_ret hk_2 rfl rfl rfl rfl rfl
theorem x_take {Z : Nat → Nat → Int32} {P : Nat → Nat} {L : Nat} (hP : ∀ j, j < 6 → t_at (P j)) {m : Nat} (hM : Z 18 1 = nI m) (hm : m ≤ 6) : m_r 2 [.ref 18, .ref 5] (hp Z P L) (some (.int (t_tk Z P m).1)) (hp (t_tk Z P m).2 P L) := by
  cases m with
  | zero => exact x_take_0 hP hM
  | succ m => exact x_take_s hP hM (by omega)
