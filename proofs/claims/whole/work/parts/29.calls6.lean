/-! The calls: carryOut; printed by wip/whole/gen/calls6.py -/
def t_cd (Z : Nat → Nat → Int32) (g i : Nat) : Int32 := if i < g then Z 101 i else 59
def t_co (g : Nat) : Nat → Nat → (Nat → Nat → Int32) → Int32 → Int32 × (Nat → Nat → Int32)
  | 0, _, Z, a => (a, s_upd Z 99 1 0)
  | k + 1, i, Z, a => if t_cd Z g i = 59 then (if (t_ans Z).1 < 0 then (a, s_upd (t_ans Z).2 99 1 0) else t_co g k (i + 1) (t_rdr (t_ans Z).2 (t_cd Z g i)).2 (a + 1)) else t_co g k (i + 1) (t_rdr Z (t_cd Z g i)).2 a
theorem y_T_r {Z : Nat → Nat → Int32} {c : Int32} (h : y_T Z) : y_T (t_rdr Z c).2 := by
  obtain ⟨n, hn, hN, hF⟩ := h
  exact ⟨n, hn, by rw [t_r_o (by decide)]; exact hN, fun i hi => by rw [t_r_o (by decide)]; exact hF i hi⟩
theorem t_fa_o {c : Nat} (hc : c ≠ 102) : ∀ (k i : Nat) (Z : Nat → Nat → Int32), (t_fa i k Z).2 c = Z c
  | 0, i, Z => rfl
  | k + 1, i, Z => by
    rw [t_fa]
    split
    · rw [t_fa_o hc k, t_r_o hc]
    · exact t_r_o hc
theorem x_co_l {P : Nat → Nat} {L g : Nat} (hg : g ≤ 80)  : ∀ (k i : Nat) (Z : Nat → Nat → Int32) (a : Int32) (y3 : Value), y_T Z → Z 99 1 = nI g → (Z 102 1 = 0 ∨ Z 102 1 = 1 ∨ Z 102 1 = 2) → i + k = g + 1 → e_r 75 34 [.ref 4, .int a, .int (nI i), y3] [] (hp Z P L) (some (.int (t_co g k i Z a).1)) (hp (t_co g k i Z a).2 P L)
  | 0, i, Z, a, y3, hT, hG, hS, hi2 => by
    refine e_go hk_75 5 (c := (if s_cnd .gt (nI i) (Z 99 1) = true then 107 else 45, [.ref 4, .int a, .int (nI i), y3], [], hp Z P L)) rfl ?_
    refine e_gt (a := 107) (b := 45) (x := nI i) (y := Z 99 1) (fun hc42 => ?_) (fun hc42 => absurd (by rw [hG]; exact (y_lt (by omega) (by omega)).mpr (by omega)) hc42)
    refine e_go hk_75 5 (c := (116, [.ref 4, .int a, .int (nI i), y3], [.int a], hp (s_upd Z 99 1 0) P L)) rfl ?_
    exact e_ret hk_75 rfl rfl rfl rfl rfl
  | k + 1, i, Z, a, y3, hT, hG, hS, hi2 => by
    refine e_go hk_75 5 (c := (if s_cnd .gt (nI i) (Z 99 1) = true then 107 else 45, [.ref 4, .int a, .int (nI i), y3], [], hp Z P L)) rfl ?_
    refine e_gt (a := 107) (b := 45) (x := nI i) (y := Z 99 1) (fun hc42 => absurd hc42 (by rw [hG]; exact fun z => absurd ((y_lt (by omega) (by omega)).mp z) (by omega))) (fun hc42 => ?_)
    refine e_go hk_75 5 (c := (if s_cnd .ge (nI i) (Z 99 1) = true then 70 else 56, [.ref 4, .int a, .int (nI i), y3], [], hp Z P L)) rfl ?_
    refine e_ge (a := 70) (b := 56) (x := nI i) (y := Z 99 1) (fun hc53 => ?_) (fun hc53 => ?_)
    · skip
      have hig : ¬ i < g := fun z => by rw [hG] at hc53; exact absurd ((y_le (by omega) (by omega)).mp hc53) (by omega)
      refine e_go hk_75 1 (c := (72, [.ref 4, .int a, .int (nI i), y3], [.int 59], hp Z P L)) rfl ?_
      rw [show e_r 75 72 [.ref 4, .int a, .int (nI i), y3] [.int 59] (hp Z P L) = e_r 75 72 [.ref 4, .int a, .int (nI i), y3] [.int (t_cd Z g i)] (hp Z P L) from by rw [t_cd, if_neg hig]]
      refine e_go hk_75 4 (c := (if s_cnd .ne (t_cd Z g i) 59 = true then 92 else 79, [.ref 4, .int a, .int (nI i), .int (t_cd Z g i)], [], hp Z P L)) rfl ?_
      refine e_ne (a := 92) (b := 79) (x := t_cd Z g i) (y := 59) (fun hc76 => ?_) (fun hc76 => ?_)
      · skip
        refine e_go hk_75 3 (c := (97, [.ref 4, .int a, .int (nI i), .int (t_cd Z g i)], [.int (t_cd Z g i), .ref 102], hp Z P L)) rfl ?_
        refine e_call hk_75 (as := [.ref 102, .int (t_cd Z g i)]) (rest := []) rfl rfl hk_7 rfl (Nat.le_of_ble_eq_true rfl) rfl (x_rd (Z := Z) (c := t_cd Z g i) hS) ?_
        show e_r 75 100 [.ref 4, .int a, .int (nI i), .int (t_cd Z g i)] [.int (y_b (t_rdr Z (t_cd Z g i)).1)] (hp ((t_rdr Z (t_cd Z g i)).2) P L) _ _
        refine e_go hk_75 3 (c := (34, [.ref 4, .int a, .int ((nI i) + 1), .int (t_cd Z g i)], [], hp ((t_rdr Z (t_cd Z g i)).2) P L)) rfl ?_
        rw [t_co, if_neg hc76, nI_1]
        exact x_co_l hg k (i + 1) _ _ _ (y_T_r hT) (by rw [t_r_o (by decide)]; exact hG) (t_r_s hS) (by omega)
      · skip
        refine e_go hk_75 1 (c := (80, [.ref 4, .int a, .int (nI i), .int (t_cd Z g i)], [.ref 4], hp Z P L)) rfl ?_
        refine e_call hk_75 (as := [.ref 4]) (rest := []) rfl rfl hk_86 rfl (Nat.le_of_ble_eq_true rfl) rfl (x_ans hT) ?_
        show e_r 75 83 [.ref 4, .int a, .int (nI i), .int (t_cd Z g i)] [.int ((t_ans Z).1)] (hp ((t_ans Z).2) P L) _ _
        refine e_go hk_75 1 (c := (if s_cnd .ge ((t_ans Z).1) 0 = true then 89 else 86, [.ref 4, .int a, .int (nI i), .int (t_cd Z g i)], [], hp ((t_ans Z).2) P L)) rfl ?_
        refine e_ge (a := 89) (b := 86) (x := (t_ans Z).1) (y := 0) (fun hc83 => ?_) (fun hc83 => ?_)
        · skip
          refine e_go hk_75 4 (c := (97, [.ref 4, .int (a + 1), .int (nI i), .int (t_cd Z g i)], [.int (t_cd Z g i), .ref 102], hp ((t_ans Z).2) P L)) rfl ?_
          refine e_call hk_75 (as := [.ref 102, .int (t_cd Z g i)]) (rest := []) rfl rfl hk_7 rfl (Nat.le_of_ble_eq_true rfl) rfl (x_rd (Z := (t_ans Z).2) (c := t_cd Z g i) (by rw [t_ans_o (by decide)]; exact hS)) ?_
          show e_r 75 100 [.ref 4, .int (a + 1), .int (nI i), .int (t_cd Z g i)] [.int (y_b (t_rdr ((t_ans Z).2) (t_cd Z g i)).1)] (hp ((t_rdr ((t_ans Z).2) (t_cd Z g i)).2) P L) _ _
          refine e_go hk_75 3 (c := (34, [.ref 4, .int (a + 1), .int ((nI i) + 1), .int (t_cd Z g i)], [], hp ((t_rdr ((t_ans Z).2) (t_cd Z g i)).2) P L)) rfl ?_
          rw [t_co, if_pos hc76, if_neg (Int32.not_lt.mpr hc83), nI_1]
          exact x_co_l hg k (i + 1) _ _ _ (y_T_r (t_ans_T hT)) (by rw [t_r_o (by decide), t_ans_o (by decide)]; exact hG) (t_r_s (by rw [t_ans_o (by decide)]; exact hS)) (by omega)
        · skip
          refine e_go hk_75 6 (c := (116, [.ref 4, .int a, .int (nI i), .int (t_cd Z g i)], [.int a], hp (s_upd ((t_ans Z).2) 99 1 0) P L)) rfl ?_
          exact e_ret hk_75 rfl rfl rfl (by rw [t_co, if_pos hc76, if_pos (Int32.not_le.mp hc83)]) (by rw [t_co, if_pos hc76, if_pos (Int32.not_le.mp hc83)])
    · skip
      have hig : i < g := by rw [hG, y_le (by omega) (by omega)] at hc53; omega
      refine e_go hk_75 4 (c := (64, [.ref 4, .int a, .int (nI i), y3], [.int (nI i), .ref 100], hp Z P L)) rfl ?_
      refine e_call hk_75 (as := [.ref 100, .int (nI i)]) (rest := []) rfl rfl hk_22 rfl (Nat.le_of_ble_eq_true rfl) rfl (x_at (r := 100) (a := 101) (n := 80) rfl rfl rfl (by decide) (j := i) (by omega)) ?_
      show e_r 75 67 [.ref 4, .int a, .int (nI i), y3] [.int (Z 101 i)] (hp Z P L) _ _
      refine e_go hk_75 1 (c := (72, [.ref 4, .int a, .int (nI i), y3], [.int (Z 101 i)], hp Z P L)) rfl ?_
      rw [show e_r 75 72 [.ref 4, .int a, .int (nI i), y3] [.int (Z 101 i)] (hp Z P L) = e_r 75 72 [.ref 4, .int a, .int (nI i), y3] [.int (t_cd Z g i)] (hp Z P L) from by rw [t_cd, if_pos hig]]
      refine e_go hk_75 4 (c := (if s_cnd .ne (t_cd Z g i) 59 = true then 92 else 79, [.ref 4, .int a, .int (nI i), .int (t_cd Z g i)], [], hp Z P L)) rfl ?_
      refine e_ne (a := 92) (b := 79) (x := t_cd Z g i) (y := 59) (fun hc76 => ?_) (fun hc76 => ?_)
      · skip
        refine e_go hk_75 3 (c := (97, [.ref 4, .int a, .int (nI i), .int (t_cd Z g i)], [.int (t_cd Z g i), .ref 102], hp Z P L)) rfl ?_
        refine e_call hk_75 (as := [.ref 102, .int (t_cd Z g i)]) (rest := []) rfl rfl hk_7 rfl (Nat.le_of_ble_eq_true rfl) rfl (x_rd (Z := Z) (c := t_cd Z g i) hS) ?_
        show e_r 75 100 [.ref 4, .int a, .int (nI i), .int (t_cd Z g i)] [.int (y_b (t_rdr Z (t_cd Z g i)).1)] (hp ((t_rdr Z (t_cd Z g i)).2) P L) _ _
        refine e_go hk_75 3 (c := (34, [.ref 4, .int a, .int ((nI i) + 1), .int (t_cd Z g i)], [], hp ((t_rdr Z (t_cd Z g i)).2) P L)) rfl ?_
        rw [t_co, if_neg hc76, nI_1]
        exact x_co_l hg k (i + 1) _ _ _ (y_T_r hT) (by rw [t_r_o (by decide)]; exact hG) (t_r_s hS) (by omega)
      · skip
        refine e_go hk_75 1 (c := (80, [.ref 4, .int a, .int (nI i), .int (t_cd Z g i)], [.ref 4], hp Z P L)) rfl ?_
        refine e_call hk_75 (as := [.ref 4]) (rest := []) rfl rfl hk_86 rfl (Nat.le_of_ble_eq_true rfl) rfl (x_ans hT) ?_
        show e_r 75 83 [.ref 4, .int a, .int (nI i), .int (t_cd Z g i)] [.int ((t_ans Z).1)] (hp ((t_ans Z).2) P L) _ _
        refine e_go hk_75 1 (c := (if s_cnd .ge ((t_ans Z).1) 0 = true then 89 else 86, [.ref 4, .int a, .int (nI i), .int (t_cd Z g i)], [], hp ((t_ans Z).2) P L)) rfl ?_
        refine e_ge (a := 89) (b := 86) (x := (t_ans Z).1) (y := 0) (fun hc83 => ?_) (fun hc83 => ?_)
        · skip
          refine e_go hk_75 4 (c := (97, [.ref 4, .int (a + 1), .int (nI i), .int (t_cd Z g i)], [.int (t_cd Z g i), .ref 102], hp ((t_ans Z).2) P L)) rfl ?_
          refine e_call hk_75 (as := [.ref 102, .int (t_cd Z g i)]) (rest := []) rfl rfl hk_7 rfl (Nat.le_of_ble_eq_true rfl) rfl (x_rd (Z := (t_ans Z).2) (c := t_cd Z g i) (by rw [t_ans_o (by decide)]; exact hS)) ?_
          show e_r 75 100 [.ref 4, .int (a + 1), .int (nI i), .int (t_cd Z g i)] [.int (y_b (t_rdr ((t_ans Z).2) (t_cd Z g i)).1)] (hp ((t_rdr ((t_ans Z).2) (t_cd Z g i)).2) P L) _ _
          refine e_go hk_75 3 (c := (34, [.ref 4, .int (a + 1), .int ((nI i) + 1), .int (t_cd Z g i)], [], hp ((t_rdr ((t_ans Z).2) (t_cd Z g i)).2) P L)) rfl ?_
          rw [t_co, if_pos hc76, if_neg (Int32.not_lt.mpr hc83), nI_1]
          exact x_co_l hg k (i + 1) _ _ _ (y_T_r (t_ans_T hT)) (by rw [t_r_o (by decide), t_ans_o (by decide)]; exact hG) (t_r_s (by rw [t_ans_o (by decide)]; exact hS)) (by omega)
        · skip
          refine e_go hk_75 6 (c := (116, [.ref 4, .int a, .int (nI i), .int (t_cd Z g i)], [.int a], hp (s_upd ((t_ans Z).2) 99 1 0) P L)) rfl ?_
          exact e_ret hk_75 rfl rfl rfl (by rw [t_co, if_pos hc76, if_pos (Int32.not_le.mp hc83)]) (by rw [t_co, if_pos hc76, if_pos (Int32.not_le.mp hc83)])
def t_zf (Z : Nat → Nat → Int32) (g : Nat) : Int32 × (Nat → Nat → Int32) := t_fa 0 g (s_upd Z 102 1 0)
def c_carry (Z : Nat → Nat → Int32) (P : Nat → Nat) (m g : Nat) : Int32 × (Nat → Nat → Int32) × (Nat → Nat) := if (t_zf Z g).1 = -6 then ((t_co g (g + 1) 0 (s_upd (t_kZ (t_zf Z g).2 P m) 102 1 0) 0).1, (t_co g (g + 1) 0 (s_upd (t_kZ (t_zf Z g).2 P m) 102 1 0) 0).2, t_kP P m) else (-3, (t_zf Z g).2, P)
theorem t_zf_o {Z : Nat → Nat → Int32} {g c : Nat} (hc : c ≠ 102) : (t_zf Z g).2 c = Z c := by
  unfold t_zf
  rw [t_fa_o hc, s_upd_o hc]
theorem x_carry {Z : Nat → Nat → Int32} {P : Nat → Nat} {L : Nat} {m g : Nat} (hT : y_T Z) (hP : ∀ j, j < 6 → t_hs (P j)) (hM : Z 18 1 = nI m) (hm : m ≤ 6) (hG : Z 99 1 = nI g) (hg : g ≤ 80) : m_r 75 [.ref 4] (hp Z P L) (some (.int (c_carry Z P m g).1)) (hp (c_carry Z P m g).2.1 (c_carry Z P m g).2.2 L) := by
  refine m_of (ls := [.ref 4, s_no, s_no, s_no]) hk_75 rfl rfl rfl ?_
  refine e_go hk_75 1 (c := (1, [.ref 4, s_no, s_no, s_no], [.ref 4], hp Z P L)) rfl ?_
  refine e_call hk_75 (as := [.ref 4]) (rest := []) rfl rfl hk_74 rfl (Nat.le_of_ble_eq_true rfl) rfl (x_fault hG hg) ?_
  show e_r 75 4 [.ref 4, s_no, s_no, s_no] [.int ((t_zf Z g).1)] (hp ((t_zf Z g).2) P L) _ _
  refine e_go hk_75 2 (c := (if s_cnd .eq ((t_zf Z g).1) ((-6)) = true then 12 else 9, [.ref 4, s_no, s_no, s_no], [], hp ((t_zf Z g).2) P L)) rfl ?_
  refine e_eq (a := 12) (b := 9) (x := (t_zf Z g).1) (y := (-6)) (fun hc6 => ?_) (fun hc6 => ?_)
  · skip
    rw [c_carry, if_pos hc6]
    refine e_go hk_75 4 (c := (20, [.ref 4, s_no, s_no, s_no], [.ref 5, .ref 18], hp ((t_zf Z g).2) P L)) rfl ?_
    refine e_call hk_75 (as := [.ref 18, .ref 5]) (rest := []) rfl rfl hk_1 rfl (Nat.le_of_ble_eq_true rfl) rfl (x_keep (Z := (t_zf Z g).2) (fun j hj => t_hs_at (hP j hj)) (by rw [t_zf_o (by decide)]; exact hM) hm) ?_
    show e_r 75 23 [.ref 4, s_no, s_no, s_no] [] (hp ((t_kZ (t_zf Z g).2 P m)) ((t_kP P m)) L) _ _
    refine e_go hk_75 4 (c := (29, [.ref 4, .int 0, s_no, s_no], [.ref 102], hp ((t_kZ (t_zf Z g).2 P m)) ((t_kP P m)) L)) rfl ?_
    refine e_call hk_75 (as := [.ref 102]) (rest := []) rfl rfl hk_6 rfl (Nat.le_of_ble_eq_true rfl) rfl x_begin ?_
    show e_r 75 32 [.ref 4, .int 0, s_no, s_no] [] (hp (s_upd ((t_kZ (t_zf Z g).2 P m)) 102 1 0) ((t_kP P m)) L) _ _
    refine e_go hk_75 2 (c := (34, [.ref 4, .int 0, .int 0, s_no], [], hp (s_upd ((t_kZ (t_zf Z g).2 P m)) 102 1 0) ((t_kP P m)) L)) rfl ?_
    refine x_co_l hg (g + 1) 0 _ 0 _ ?_ ?_ (Or.inl rfl) (by omega)
    · obtain ⟨n, hn, hN, hF⟩ := hT
      exact ⟨n, hn, by rw [s_upd_o (by decide), t_kZ_o hP (by decide), t_zf_o (by decide)]; exact hN, fun i hi => by rw [s_upd_o (by decide), t_kZ_o hP (by decide), t_zf_o (by decide)]; exact hF i hi⟩
    · rw [s_upd_o (by decide), t_kZ_o hP (by decide), t_zf_o (by decide)]; exact hG
  · skip
    rw [c_carry, if_neg hc6]
    refine e_go hk_75 1 (c := (11, [.ref 4, s_no, s_no, s_no], [.int ((-3))], hp ((t_zf Z g).2) P L)) rfl ?_
    exact e_ret hk_75 rfl rfl rfl rfl rfl
