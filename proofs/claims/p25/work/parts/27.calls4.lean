/-! The calls: node, count; printed by wip/whole/gen/calls4.py -/
def t_ktp (Z : Nat → Nat → Int32) (l u : Nat) (d : Int32) : Int32 := if u ≤ l then -6 else Z 9 (t_tp (Z 15) d l (u - 1 - l))
theorem x_ktp {Z : Nat → Nat → Int32} {P : Nat → Nat} {L : Nat} {l u : Nat} {d : Int32} (hl : l ≤ 60) (hu : u ≤ 60) : m_r 85 [.ref 4, .int (nI l), .int (nI u - 1), .int d] (hp Z P L) (some (.int (t_ktp Z l u d))) (hp Z P L) := by
  refine m_of (ls := [.ref 4, .int (nI l), .int (nI u - 1), .int d]) hk_85 rfl rfl rfl ?_
  refine e_go hk_85 3 (c := (if s_cnd .le (nI l) (nI u - 1) = true then 10 else 5, [.ref 4, .int (nI l), .int (nI u - 1), .int d], [], hp Z P L)) rfl ?_
  refine e_le (a := 10) (b := 5) (x := nI l) (y := nI u - 1) (fun hc2 => ?_) (fun hc2 => ?_)
  · skip
    have hul : ¬ u ≤ l := fun z => absurd hc2 (Int32.not_le.mpr ((y_m1lt (by omega) (by omega)).mpr z))
    refine e_go hk_85 8 (c := (24, [.ref 4, .int (nI l), .int (nI u - 1), .int d], [.int d, .int (nI u - 1), .int (nI l), .ref 5, .ref 8], hp Z P L)) rfl ?_
    rw [y_m1s (u := u) (by omega)]
    refine e_call hk_85 (as := [.ref 5, .int (nI l), .int (nI (u - 1)), .int d]) (rest := [.ref 8]) rfl rfl hk_39 rfl (Nat.le_of_ble_eq_true rfl) rfl (x_top (l := l) (u := u - 1) (by omega) (by omega)) ?_
    show e_r 85 27 [.ref 4, .int (nI l), .int (nI (u - 1)), .int d] [.int (nI (t_tp (Z 15) d l (u - 1 - l))), .ref 8] (hp Z P L) _ _
    have htp := t_tp_le (Z 15) d (u - 1 - l) l
    refine e_call hk_85 (as := [.ref 8, .int (nI (t_tp (Z 15) d l (u - 1 - l)))]) (rest := []) rfl rfl hk_22 rfl (Nat.le_of_ble_eq_true rfl) rfl (x_at (r := 8) (a := 9) (n := 60) rfl rfl rfl (by decide) (j := t_tp (Z 15) d l (u - 1 - l)) (by omega)) ?_
    show e_r 85 30 [.ref 4, .int (nI l), .int (nI (u - 1)), .int d] [.int (Z 9 (t_tp (Z 15) d l (u - 1 - l)))] (hp Z P L) _ _
    exact e_ret hk_85 rfl rfl rfl (by rw [t_ktp, if_neg hul]) rfl
  · skip
    have hul : u ≤ l := (y_m1lt (by omega) (by omega)).mp (Int32.not_le.mp hc2)
    refine e_go hk_85 2 (c := (30, [.ref 4, .int (nI l), .int (nI u - 1), .int d], [.int ((-6))], hp Z P L)) rfl ?_
    exact e_ret hk_85 rfl rfl rfl (by rw [t_ktp, if_pos hul]) rfl
def c_count (Z : Nat → Nat → Int32) (n : Nat) : Nat → Int32
  | 0 => nI n
  | 1 => t_sm (Z 17) 0 n 0
  | 2 => t_ktp Z 0 n 0
  | 3 => if n = 0 then -6 else t_mx (Z 15) 0 (n - 0) (Z 15 0)
  | 4 => Z 5 7
  | 5 => Z 5 8 + 1000000
  | 6 => t_sm (Z 13) 0 (n - 0) 0
  | 7 => Z 5 9
  | 8 => Z 5 10
  | 9 => t_lnc Z n 0 n 0
  | 10 => Z 7 0
  | 11 => Z 7 1
  | 12 => Z 7 2
  | 13 => Z 99 1
  | 14 => Z 18 1
  | _ => -2
theorem x_shape0 {Z : Nat → Nat → Int32} {P : Nat → Nat} {L n : Nat} (hN : Z 5 6 = nI n) (hn : n ≤ 60) : m_r 83 [.ref 4, .int 0] (hp Z P L) (some (.int (c_count Z n 0))) (hp Z P L) := by
  refine m_of (ls := [.ref 4, .int 0, s_no]) hk_83 rfl rfl rfl ?_
  refine e_go hk_83 6 (c := (10, [.ref 4, .int 0, .int ((Z 5 6) - 1)], [], hp Z P L)) rfl ?_
  rw [hN]
  refine e_go hk_83 5 (c := (43, [.ref 4, .int 0, .int (nI n - 1)], [.int (Z 5 6)], hp Z P L)) rfl ?_
  exact e_ret hk_83 rfl rfl rfl (by rw [hN]; rfl) rfl
theorem x_count0 {Z : Nat → Nat → Int32} {P : Nat → Nat} {L n : Nat} (hN : Z 5 6 = nI n) (hn : n ≤ 60) : m_r 63 [.ref 4, .int 0] (hp Z P L) (some (.int (c_count Z n 0))) (hp Z P L) := by
  refine m_of (ls := [.ref 4, .int 0]) hk_63 rfl rfl rfl ?_
  refine e_go hk_63 2 (c := (if s_cnd .lt 0 0 = true then 10 else 4, [.ref 4, .int 0], [], hp Z P L)) rfl ?_
  refine e_lt (a := 10) (b := 4) (x := 0) (y := 0) (fun hc1 => absurd hc1 (by decide)) (fun hc1 => ?_)
  refine e_go hk_63 3 (c := (if s_cnd .le 0 14 = true then 13 else 10, [.ref 4, .int 0], [], hp Z P L)) rfl ?_
  refine e_le (a := 13) (b := 10) (x := 0) (y := 14) (fun hc7 => ?_) (fun hc7 => absurd (by decide) hc7)
  refine e_go hk_63 5 (c := (if s_cnd .ge 0 4 = true then 69 else 61, [.ref 4, .int 0], [], hp Z P L)) rfl ?_
  refine e_ge (a := 69) (b := 61) (x := 0) (y := 4) (fun hc58 => absurd hc58 (by decide)) (fun hc58 => ?_)
  refine e_go hk_63 2 (c := (63, [.ref 4, .int 0], [.int 0, .ref 4], hp Z P L)) rfl ?_
  refine e_call hk_63 (as := [.ref 4, .int 0]) (rest := []) rfl rfl hk_83 rfl (Nat.le_of_ble_eq_true rfl) rfl (x_shape0 hN hn) ?_
  show e_r 63 66 [.ref 4, .int 0] [.int (c_count Z n 0)] (hp Z P L) _ _
  refine e_go hk_63 1 (c := (74, [.ref 4, .int 0], [.int (c_count Z n 0)], hp Z P L)) rfl ?_
  exact e_ret hk_63 rfl rfl rfl rfl rfl
theorem x_shape1 {Z : Nat → Nat → Int32} {P : Nat → Nat} {L n : Nat} (hN : Z 5 6 = nI n) (hn : n ≤ 60) : m_r 83 [.ref 4, .int 1] (hp Z P L) (some (.int (c_count Z n 1))) (hp Z P L) := by
  refine m_of (ls := [.ref 4, .int 1, s_no]) hk_83 rfl rfl rfl ?_
  refine e_go hk_83 6 (c := (10, [.ref 4, .int 1, .int ((Z 5 6) - 1)], [], hp Z P L)) rfl ?_
  rw [hN]
  refine e_go hk_83 4 (c := (48, [.ref 4, .int 1, .int (nI n - 1)], [.ref 5], hp Z P L)) rfl ?_
  refine e_call hk_83 (as := [.ref 5]) (rest := []) rfl rfl hk_34 rfl (Nat.le_of_ble_eq_true rfl) rfl (x_all hN hn) ?_
  show e_r 83 51 [.ref 4, .int 1, .int (nI n - 1)] [.int (t_sm (Z 17) 0 n 0)] (hp Z P L) _ _
  exact e_ret hk_83 rfl rfl rfl rfl rfl
theorem x_count1 {Z : Nat → Nat → Int32} {P : Nat → Nat} {L n : Nat} (hN : Z 5 6 = nI n) (hn : n ≤ 60) : m_r 63 [.ref 4, .int 1] (hp Z P L) (some (.int (c_count Z n 1))) (hp Z P L) := by
  refine m_of (ls := [.ref 4, .int 1]) hk_63 rfl rfl rfl ?_
  refine e_go hk_63 2 (c := (if s_cnd .lt 1 0 = true then 10 else 4, [.ref 4, .int 1], [], hp Z P L)) rfl ?_
  refine e_lt (a := 10) (b := 4) (x := 1) (y := 0) (fun hc1 => absurd hc1 (by decide)) (fun hc1 => ?_)
  refine e_go hk_63 3 (c := (if s_cnd .le 1 14 = true then 13 else 10, [.ref 4, .int 1], [], hp Z P L)) rfl ?_
  refine e_le (a := 13) (b := 10) (x := 1) (y := 14) (fun hc7 => ?_) (fun hc7 => absurd (by decide) hc7)
  refine e_go hk_63 5 (c := (if s_cnd .ge 1 4 = true then 69 else 61, [.ref 4, .int 1], [], hp Z P L)) rfl ?_
  refine e_ge (a := 69) (b := 61) (x := 1) (y := 4) (fun hc58 => absurd hc58 (by decide)) (fun hc58 => ?_)
  refine e_go hk_63 2 (c := (63, [.ref 4, .int 1], [.int 1, .ref 4], hp Z P L)) rfl ?_
  refine e_call hk_63 (as := [.ref 4, .int 1]) (rest := []) rfl rfl hk_83 rfl (Nat.le_of_ble_eq_true rfl) rfl (x_shape1 hN hn) ?_
  show e_r 63 66 [.ref 4, .int 1] [.int (c_count Z n 1)] (hp Z P L) _ _
  refine e_go hk_63 1 (c := (74, [.ref 4, .int 1], [.int (c_count Z n 1)], hp Z P L)) rfl ?_
  exact e_ret hk_63 rfl rfl rfl rfl rfl
theorem x_shape2 {Z : Nat → Nat → Int32} {P : Nat → Nat} {L n : Nat} (hN : Z 5 6 = nI n) (hn : n ≤ 60) : m_r 83 [.ref 4, .int 2] (hp Z P L) (some (.int (c_count Z n 2))) (hp Z P L) := by
  refine m_of (ls := [.ref 4, .int 2, s_no]) hk_83 rfl rfl rfl ?_
  refine e_go hk_83 6 (c := (10, [.ref 4, .int 2, .int ((Z 5 6) - 1)], [], hp Z P L)) rfl ?_
  rw [hN]
  refine e_go hk_83 6 (c := (56, [.ref 4, .int 2, .int (nI n - 1)], [.int 0, .int (nI n - 1), .int 0, .ref 4], hp Z P L)) rfl ?_
  refine e_call hk_83 (as := [.ref 4, .int (nI 0), .int (nI n - 1), .int 0]) (rest := []) rfl rfl hk_85 rfl (Nat.le_of_ble_eq_true rfl) rfl (x_ktp (l := 0) (u := n) (by omega) hn) ?_
  show e_r 83 59 [.ref 4, .int 2, .int (nI n - 1)] [.int (t_ktp Z 0 n 0)] (hp Z P L) _ _
  exact e_ret hk_83 rfl rfl rfl rfl rfl
theorem x_count2 {Z : Nat → Nat → Int32} {P : Nat → Nat} {L n : Nat} (hN : Z 5 6 = nI n) (hn : n ≤ 60) : m_r 63 [.ref 4, .int 2] (hp Z P L) (some (.int (c_count Z n 2))) (hp Z P L) := by
  refine m_of (ls := [.ref 4, .int 2]) hk_63 rfl rfl rfl ?_
  refine e_go hk_63 2 (c := (if s_cnd .lt 2 0 = true then 10 else 4, [.ref 4, .int 2], [], hp Z P L)) rfl ?_
  refine e_lt (a := 10) (b := 4) (x := 2) (y := 0) (fun hc1 => absurd hc1 (by decide)) (fun hc1 => ?_)
  refine e_go hk_63 3 (c := (if s_cnd .le 2 14 = true then 13 else 10, [.ref 4, .int 2], [], hp Z P L)) rfl ?_
  refine e_le (a := 13) (b := 10) (x := 2) (y := 14) (fun hc7 => ?_) (fun hc7 => absurd (by decide) hc7)
  refine e_go hk_63 5 (c := (if s_cnd .ge 2 4 = true then 69 else 61, [.ref 4, .int 2], [], hp Z P L)) rfl ?_
  refine e_ge (a := 69) (b := 61) (x := 2) (y := 4) (fun hc58 => absurd hc58 (by decide)) (fun hc58 => ?_)
  refine e_go hk_63 2 (c := (63, [.ref 4, .int 2], [.int 2, .ref 4], hp Z P L)) rfl ?_
  refine e_call hk_63 (as := [.ref 4, .int 2]) (rest := []) rfl rfl hk_83 rfl (Nat.le_of_ble_eq_true rfl) rfl (x_shape2 hN hn) ?_
  show e_r 63 66 [.ref 4, .int 2] [.int (c_count Z n 2)] (hp Z P L) _ _
  refine e_go hk_63 1 (c := (74, [.ref 4, .int 2], [.int (c_count Z n 2)], hp Z P L)) rfl ?_
  exact e_ret hk_63 rfl rfl rfl rfl rfl
theorem x_shape3 {Z : Nat → Nat → Int32} {P : Nat → Nat} {L n : Nat} (hN : Z 5 6 = nI n) (hn : n ≤ 60) : m_r 83 [.ref 4, .int 3] (hp Z P L) (some (.int (c_count Z n 3))) (hp Z P L) := by
  refine m_of (ls := [.ref 4, .int 3, s_no]) hk_83 rfl rfl rfl ?_
  refine e_go hk_83 6 (c := (10, [.ref 4, .int 3, .int ((Z 5 6) - 1)], [], hp Z P L)) rfl ?_
  rw [hN]
  refine e_go hk_83 6 (c := (if s_cnd .ne (Z 5 6) 0 = true then 75 else 70, [.ref 4, .int 3, .int (nI n - 1)], [], hp Z P L)) rfl ?_
  refine e_ne (a := 75) (b := 70) (x := Z 5 6) (y := 0) (fun hc67 => ?_) (fun hc67 => ?_)
  · skip
    have h0 : ¬ n = 0 := fun z => hc67 (by rw [hN, z]; rfl)
    refine e_go hk_83 5 (c := (84, [.ref 4, .int 3, .int (nI n - 1)], [.int (nI n - 1), .int 0, .ref 14], hp Z P L)) rfl ?_
    refine e_call hk_83 (as := [.ref 14, .int (nI 0), .int (nI n - 1)]) (rest := []) rfl rfl hk_26 rfl (Nat.le_of_ble_eq_true rfl) rfl (x_great (r := 14) (a := 15) (n := 60) rfl rfl rfl (by decide) (l := 0) (u := n) (by omega) hn) ?_
    show e_r 83 87 [.ref 4, .int 3, .int (nI n - 1)] [.int (t_mx (Z 15) 0 (n - 0) (Z 15 0))] (hp Z P L) _ _
    exact e_ret hk_83 rfl rfl rfl (by rw [c_count, if_neg h0]) rfl
  · skip
    have h0 : n = 0 := (nI_eq (by omega) (by decide)).mp (show nI n = nI 0 by rw [← hN]; exact hc67)
    refine e_go hk_83 2 (c := (87, [.ref 4, .int 3, .int (nI n - 1)], [.int ((-6))], hp Z P L)) rfl ?_
    exact e_ret hk_83 rfl rfl rfl (by rw [c_count, if_pos h0]) rfl
theorem x_count3 {Z : Nat → Nat → Int32} {P : Nat → Nat} {L n : Nat} (hN : Z 5 6 = nI n) (hn : n ≤ 60) : m_r 63 [.ref 4, .int 3] (hp Z P L) (some (.int (c_count Z n 3))) (hp Z P L) := by
  refine m_of (ls := [.ref 4, .int 3]) hk_63 rfl rfl rfl ?_
  refine e_go hk_63 2 (c := (if s_cnd .lt 3 0 = true then 10 else 4, [.ref 4, .int 3], [], hp Z P L)) rfl ?_
  refine e_lt (a := 10) (b := 4) (x := 3) (y := 0) (fun hc1 => absurd hc1 (by decide)) (fun hc1 => ?_)
  refine e_go hk_63 3 (c := (if s_cnd .le 3 14 = true then 13 else 10, [.ref 4, .int 3], [], hp Z P L)) rfl ?_
  refine e_le (a := 13) (b := 10) (x := 3) (y := 14) (fun hc7 => ?_) (fun hc7 => absurd (by decide) hc7)
  refine e_go hk_63 5 (c := (if s_cnd .ge 3 4 = true then 69 else 61, [.ref 4, .int 3], [], hp Z P L)) rfl ?_
  refine e_ge (a := 69) (b := 61) (x := 3) (y := 4) (fun hc58 => absurd hc58 (by decide)) (fun hc58 => ?_)
  refine e_go hk_63 2 (c := (63, [.ref 4, .int 3], [.int 3, .ref 4], hp Z P L)) rfl ?_
  refine e_call hk_63 (as := [.ref 4, .int 3]) (rest := []) rfl rfl hk_83 rfl (Nat.le_of_ble_eq_true rfl) rfl (x_shape3 hN hn) ?_
  show e_r 63 66 [.ref 4, .int 3] [.int (c_count Z n 3)] (hp Z P L) _ _
  refine e_go hk_63 1 (c := (74, [.ref 4, .int 3], [.int (c_count Z n 3)], hp Z P L)) rfl ?_
  exact e_ret hk_63 rfl rfl rfl rfl rfl
theorem x_books4 {Z : Nat → Nat → Int32} {P : Nat → Nat} {L n : Nat} (hN : Z 5 6 = nI n) (hn : n ≤ 60) : m_r 84 [.ref 4, .int 4] (hp Z P L) (some (.int (c_count Z n 4))) (hp Z P L) := by
  refine m_of (ls := [.ref 4, .int 4]) hk_84 rfl rfl rfl ?_
  refine e_go hk_84 5 (c := (47, [.ref 4, .int 4], [.int (Z 5 7)], hp Z P L)) rfl ?_
  exact e_ret hk_84 rfl rfl rfl rfl rfl
theorem x_count4 {Z : Nat → Nat → Int32} {P : Nat → Nat} {L n : Nat} (hN : Z 5 6 = nI n) (hn : n ≤ 60) : m_r 63 [.ref 4, .int 4] (hp Z P L) (some (.int (c_count Z n 4))) (hp Z P L) := by
  refine m_of (ls := [.ref 4, .int 4]) hk_63 rfl rfl rfl ?_
  refine e_go hk_63 2 (c := (if s_cnd .lt 4 0 = true then 10 else 4, [.ref 4, .int 4], [], hp Z P L)) rfl ?_
  refine e_lt (a := 10) (b := 4) (x := 4) (y := 0) (fun hc1 => absurd hc1 (by decide)) (fun hc1 => ?_)
  refine e_go hk_63 3 (c := (if s_cnd .le 4 14 = true then 13 else 10, [.ref 4, .int 4], [], hp Z P L)) rfl ?_
  refine e_le (a := 13) (b := 10) (x := 4) (y := 14) (fun hc7 => ?_) (fun hc7 => absurd (by decide) hc7)
  refine e_go hk_63 5 (c := (if s_cnd .ge 4 4 = true then 69 else 61, [.ref 4, .int 4], [], hp Z P L)) rfl ?_
  refine e_ge (a := 69) (b := 61) (x := 4) (y := 4) (fun hc58 => ?_) (fun hc58 => absurd (by decide) hc58)
  refine e_go hk_63 2 (c := (71, [.ref 4, .int 4], [.int 4, .ref 4], hp Z P L)) rfl ?_
  refine e_call hk_63 (as := [.ref 4, .int 4]) (rest := []) rfl rfl hk_84 rfl (Nat.le_of_ble_eq_true rfl) rfl (x_books4 hN hn) ?_
  show e_r 63 74 [.ref 4, .int 4] [.int (c_count Z n 4)] (hp Z P L) _ _
  exact e_ret hk_63 rfl rfl rfl rfl rfl
theorem x_books5 {Z : Nat → Nat → Int32} {P : Nat → Nat} {L n : Nat} (hN : Z 5 6 = nI n) (hn : n ≤ 60) : m_r 84 [.ref 4, .int 5] (hp Z P L) (some (.int (c_count Z n 5))) (hp Z P L) := by
  refine m_of (ls := [.ref 4, .int 5]) hk_84 rfl rfl rfl ?_
  refine e_go hk_84 7 (c := (58, [.ref 4, .int 5], [.int ((Z 5 8) + 1000000)], hp Z P L)) rfl ?_
  exact e_ret hk_84 rfl rfl rfl rfl rfl
theorem x_count5 {Z : Nat → Nat → Int32} {P : Nat → Nat} {L n : Nat} (hN : Z 5 6 = nI n) (hn : n ≤ 60) : m_r 63 [.ref 4, .int 5] (hp Z P L) (some (.int (c_count Z n 5))) (hp Z P L) := by
  refine m_of (ls := [.ref 4, .int 5]) hk_63 rfl rfl rfl ?_
  refine e_go hk_63 2 (c := (if s_cnd .lt 5 0 = true then 10 else 4, [.ref 4, .int 5], [], hp Z P L)) rfl ?_
  refine e_lt (a := 10) (b := 4) (x := 5) (y := 0) (fun hc1 => absurd hc1 (by decide)) (fun hc1 => ?_)
  refine e_go hk_63 3 (c := (if s_cnd .le 5 14 = true then 13 else 10, [.ref 4, .int 5], [], hp Z P L)) rfl ?_
  refine e_le (a := 13) (b := 10) (x := 5) (y := 14) (fun hc7 => ?_) (fun hc7 => absurd (by decide) hc7)
  refine e_go hk_63 5 (c := (if s_cnd .ge 5 4 = true then 69 else 61, [.ref 4, .int 5], [], hp Z P L)) rfl ?_
  refine e_ge (a := 69) (b := 61) (x := 5) (y := 4) (fun hc58 => ?_) (fun hc58 => absurd (by decide) hc58)
  refine e_go hk_63 2 (c := (71, [.ref 4, .int 5], [.int 5, .ref 4], hp Z P L)) rfl ?_
  refine e_call hk_63 (as := [.ref 4, .int 5]) (rest := []) rfl rfl hk_84 rfl (Nat.le_of_ble_eq_true rfl) rfl (x_books5 hN hn) ?_
  show e_r 63 74 [.ref 4, .int 5] [.int (c_count Z n 5)] (hp Z P L) _ _
  exact e_ret hk_63 rfl rfl rfl rfl rfl
theorem x_books6 {Z : Nat → Nat → Int32} {P : Nat → Nat} {L n : Nat} (hN : Z 5 6 = nI n) (hn : n ≤ 60) : m_r 84 [.ref 4, .int 6] (hp Z P L) (some (.int (c_count Z n 6))) (hp Z P L) := by
  refine m_of (ls := [.ref 4, .int 6]) hk_84 rfl rfl rfl ?_
  refine e_go hk_84 11 (c := (76, [.ref 4, .int 6], [.int ((Z 5 6) - 1), .int 0, .ref 12], hp Z P L)) rfl ?_
  rw [hN]
  refine e_call hk_84 (as := [.ref 12, .int (nI 0), .int (nI n - 1)]) (rest := []) rfl rfl hk_25 rfl (Nat.le_of_ble_eq_true rfl) rfl (x_total (r := 12) (a := 13) (n := 60) rfl rfl rfl (by decide) (l := 0) (u := n) (by omega) hn) ?_
  show e_r 84 79 [.ref 4, .int 6] [.int (t_sm (Z 13) 0 (n - 0) 0)] (hp Z P L) _ _
  exact e_ret hk_84 rfl rfl rfl rfl rfl
theorem x_count6 {Z : Nat → Nat → Int32} {P : Nat → Nat} {L n : Nat} (hN : Z 5 6 = nI n) (hn : n ≤ 60) : m_r 63 [.ref 4, .int 6] (hp Z P L) (some (.int (c_count Z n 6))) (hp Z P L) := by
  refine m_of (ls := [.ref 4, .int 6]) hk_63 rfl rfl rfl ?_
  refine e_go hk_63 2 (c := (if s_cnd .lt 6 0 = true then 10 else 4, [.ref 4, .int 6], [], hp Z P L)) rfl ?_
  refine e_lt (a := 10) (b := 4) (x := 6) (y := 0) (fun hc1 => absurd hc1 (by decide)) (fun hc1 => ?_)
  refine e_go hk_63 3 (c := (if s_cnd .le 6 14 = true then 13 else 10, [.ref 4, .int 6], [], hp Z P L)) rfl ?_
  refine e_le (a := 13) (b := 10) (x := 6) (y := 14) (fun hc7 => ?_) (fun hc7 => absurd (by decide) hc7)
  refine e_go hk_63 5 (c := (if s_cnd .ge 6 4 = true then 69 else 61, [.ref 4, .int 6], [], hp Z P L)) rfl ?_
  refine e_ge (a := 69) (b := 61) (x := 6) (y := 4) (fun hc58 => ?_) (fun hc58 => absurd (by decide) hc58)
  refine e_go hk_63 2 (c := (71, [.ref 4, .int 6], [.int 6, .ref 4], hp Z P L)) rfl ?_
  refine e_call hk_63 (as := [.ref 4, .int 6]) (rest := []) rfl rfl hk_84 rfl (Nat.le_of_ble_eq_true rfl) rfl (x_books6 hN hn) ?_
  show e_r 63 74 [.ref 4, .int 6] [.int (c_count Z n 6)] (hp Z P L) _ _
  exact e_ret hk_63 rfl rfl rfl rfl rfl
theorem x_books7 {Z : Nat → Nat → Int32} {P : Nat → Nat} {L n : Nat} (hN : Z 5 6 = nI n) (hn : n ≤ 60) : m_r 84 [.ref 4, .int 7] (hp Z P L) (some (.int (c_count Z n 7))) (hp Z P L) := by
  refine m_of (ls := [.ref 4, .int 7]) hk_84 rfl rfl rfl ?_
  refine e_go hk_84 5 (c := (87, [.ref 4, .int 7], [.int (Z 5 9)], hp Z P L)) rfl ?_
  exact e_ret hk_84 rfl rfl rfl rfl rfl
theorem x_count7 {Z : Nat → Nat → Int32} {P : Nat → Nat} {L n : Nat} (hN : Z 5 6 = nI n) (hn : n ≤ 60) : m_r 63 [.ref 4, .int 7] (hp Z P L) (some (.int (c_count Z n 7))) (hp Z P L) := by
  refine m_of (ls := [.ref 4, .int 7]) hk_63 rfl rfl rfl ?_
  refine e_go hk_63 2 (c := (if s_cnd .lt 7 0 = true then 10 else 4, [.ref 4, .int 7], [], hp Z P L)) rfl ?_
  refine e_lt (a := 10) (b := 4) (x := 7) (y := 0) (fun hc1 => absurd hc1 (by decide)) (fun hc1 => ?_)
  refine e_go hk_63 3 (c := (if s_cnd .le 7 14 = true then 13 else 10, [.ref 4, .int 7], [], hp Z P L)) rfl ?_
  refine e_le (a := 13) (b := 10) (x := 7) (y := 14) (fun hc7 => ?_) (fun hc7 => absurd (by decide) hc7)
  refine e_go hk_63 5 (c := (if s_cnd .ge 7 4 = true then 69 else 61, [.ref 4, .int 7], [], hp Z P L)) rfl ?_
  refine e_ge (a := 69) (b := 61) (x := 7) (y := 4) (fun hc58 => ?_) (fun hc58 => absurd (by decide) hc58)
  refine e_go hk_63 2 (c := (71, [.ref 4, .int 7], [.int 7, .ref 4], hp Z P L)) rfl ?_
  refine e_call hk_63 (as := [.ref 4, .int 7]) (rest := []) rfl rfl hk_84 rfl (Nat.le_of_ble_eq_true rfl) rfl (x_books7 hN hn) ?_
  show e_r 63 74 [.ref 4, .int 7] [.int (c_count Z n 7)] (hp Z P L) _ _
  exact e_ret hk_63 rfl rfl rfl rfl rfl
theorem x_books8 {Z : Nat → Nat → Int32} {P : Nat → Nat} {L n : Nat} (hN : Z 5 6 = nI n) (hn : n ≤ 60) : m_r 84 [.ref 4, .int 8] (hp Z P L) (some (.int (c_count Z n 8))) (hp Z P L) := by
  refine m_of (ls := [.ref 4, .int 8]) hk_84 rfl rfl rfl ?_
  refine e_go hk_84 5 (c := (95, [.ref 4, .int 8], [.int (Z 5 10)], hp Z P L)) rfl ?_
  exact e_ret hk_84 rfl rfl rfl rfl rfl
theorem x_count8 {Z : Nat → Nat → Int32} {P : Nat → Nat} {L n : Nat} (hN : Z 5 6 = nI n) (hn : n ≤ 60) : m_r 63 [.ref 4, .int 8] (hp Z P L) (some (.int (c_count Z n 8))) (hp Z P L) := by
  refine m_of (ls := [.ref 4, .int 8]) hk_63 rfl rfl rfl ?_
  refine e_go hk_63 2 (c := (if s_cnd .lt 8 0 = true then 10 else 4, [.ref 4, .int 8], [], hp Z P L)) rfl ?_
  refine e_lt (a := 10) (b := 4) (x := 8) (y := 0) (fun hc1 => absurd hc1 (by decide)) (fun hc1 => ?_)
  refine e_go hk_63 3 (c := (if s_cnd .le 8 14 = true then 13 else 10, [.ref 4, .int 8], [], hp Z P L)) rfl ?_
  refine e_le (a := 13) (b := 10) (x := 8) (y := 14) (fun hc7 => ?_) (fun hc7 => absurd (by decide) hc7)
  refine e_go hk_63 5 (c := (if s_cnd .ge 8 4 = true then 69 else 61, [.ref 4, .int 8], [], hp Z P L)) rfl ?_
  refine e_ge (a := 69) (b := 61) (x := 8) (y := 4) (fun hc58 => ?_) (fun hc58 => absurd (by decide) hc58)
  refine e_go hk_63 2 (c := (71, [.ref 4, .int 8], [.int 8, .ref 4], hp Z P L)) rfl ?_
  refine e_call hk_63 (as := [.ref 4, .int 8]) (rest := []) rfl rfl hk_84 rfl (Nat.le_of_ble_eq_true rfl) rfl (x_books8 hN hn) ?_
  show e_r 63 74 [.ref 4, .int 8] [.int (c_count Z n 8)] (hp Z P L) _ _
  exact e_ret hk_63 rfl rfl rfl rfl rfl
theorem x_books9 {Z : Nat → Nat → Int32} {P : Nat → Nat} {L n : Nat} (hN : Z 5 6 = nI n) (hn : n ≤ 60) : m_r 84 [.ref 4, .int 9] (hp Z P L) (some (.int (c_count Z n 9))) (hp Z P L) := by
  refine m_of (ls := [.ref 4, .int 9]) hk_84 rfl rfl rfl ?_
  refine e_go hk_84 4 (c := (100, [.ref 4, .int 9], [.ref 5], hp Z P L)) rfl ?_
  refine e_call hk_84 (as := [.ref 5]) (rest := []) rfl rfl hk_42 rfl (Nat.le_of_ble_eq_true rfl) rfl (x_lnodes hN hn) ?_
  show e_r 84 103 [.ref 4, .int 9] [.int (t_lnc Z n 0 n 0)] (hp Z P L) _ _
  exact e_ret hk_84 rfl rfl rfl rfl rfl
theorem x_count9 {Z : Nat → Nat → Int32} {P : Nat → Nat} {L n : Nat} (hN : Z 5 6 = nI n) (hn : n ≤ 60) : m_r 63 [.ref 4, .int 9] (hp Z P L) (some (.int (c_count Z n 9))) (hp Z P L) := by
  refine m_of (ls := [.ref 4, .int 9]) hk_63 rfl rfl rfl ?_
  refine e_go hk_63 2 (c := (if s_cnd .lt 9 0 = true then 10 else 4, [.ref 4, .int 9], [], hp Z P L)) rfl ?_
  refine e_lt (a := 10) (b := 4) (x := 9) (y := 0) (fun hc1 => absurd hc1 (by decide)) (fun hc1 => ?_)
  refine e_go hk_63 3 (c := (if s_cnd .le 9 14 = true then 13 else 10, [.ref 4, .int 9], [], hp Z P L)) rfl ?_
  refine e_le (a := 13) (b := 10) (x := 9) (y := 14) (fun hc7 => ?_) (fun hc7 => absurd (by decide) hc7)
  refine e_go hk_63 5 (c := (if s_cnd .ge 9 4 = true then 69 else 61, [.ref 4, .int 9], [], hp Z P L)) rfl ?_
  refine e_ge (a := 69) (b := 61) (x := 9) (y := 4) (fun hc58 => ?_) (fun hc58 => absurd (by decide) hc58)
  refine e_go hk_63 2 (c := (71, [.ref 4, .int 9], [.int 9, .ref 4], hp Z P L)) rfl ?_
  refine e_call hk_63 (as := [.ref 4, .int 9]) (rest := []) rfl rfl hk_84 rfl (Nat.le_of_ble_eq_true rfl) rfl (x_books9 hN hn) ?_
  show e_r 63 74 [.ref 4, .int 9] [.int (c_count Z n 9)] (hp Z P L) _ _
  exact e_ret hk_63 rfl rfl rfl rfl rfl
theorem x_books10 {Z : Nat → Nat → Int32} {P : Nat → Nat} {L n : Nat} (hN : Z 5 6 = nI n) (hn : n ≤ 60) : m_r 84 [.ref 4, .int 10] (hp Z P L) (some (.int (c_count Z n 10))) (hp Z P L) := by
  refine m_of (ls := [.ref 4, .int 10]) hk_84 rfl rfl rfl ?_
  refine e_go hk_84 8 (c := (115, [.ref 4, .int 10], [.int (10 - 10), .ref 6], hp Z P L)) rfl ?_
  refine e_call hk_84 (as := [.ref 6, .int (nI 0)]) (rest := []) rfl rfl hk_22 rfl (Nat.le_of_ble_eq_true rfl) rfl (x_at (r := 6) (a := 7) (n := 3) rfl rfl rfl (by decide) (j := 0) (by decide)) ?_
  show e_r 84 118 [.ref 4, .int 10] [.int (Z 7 0)] (hp Z P L) _ _
  exact e_ret hk_84 rfl rfl rfl rfl rfl
theorem x_count10 {Z : Nat → Nat → Int32} {P : Nat → Nat} {L n : Nat} (hN : Z 5 6 = nI n) (hn : n ≤ 60) : m_r 63 [.ref 4, .int 10] (hp Z P L) (some (.int (c_count Z n 10))) (hp Z P L) := by
  refine m_of (ls := [.ref 4, .int 10]) hk_63 rfl rfl rfl ?_
  refine e_go hk_63 2 (c := (if s_cnd .lt 10 0 = true then 10 else 4, [.ref 4, .int 10], [], hp Z P L)) rfl ?_
  refine e_lt (a := 10) (b := 4) (x := 10) (y := 0) (fun hc1 => absurd hc1 (by decide)) (fun hc1 => ?_)
  refine e_go hk_63 3 (c := (if s_cnd .le 10 14 = true then 13 else 10, [.ref 4, .int 10], [], hp Z P L)) rfl ?_
  refine e_le (a := 13) (b := 10) (x := 10) (y := 14) (fun hc7 => ?_) (fun hc7 => absurd (by decide) hc7)
  refine e_go hk_63 5 (c := (if s_cnd .ge 10 4 = true then 69 else 61, [.ref 4, .int 10], [], hp Z P L)) rfl ?_
  refine e_ge (a := 69) (b := 61) (x := 10) (y := 4) (fun hc58 => ?_) (fun hc58 => absurd (by decide) hc58)
  refine e_go hk_63 2 (c := (71, [.ref 4, .int 10], [.int 10, .ref 4], hp Z P L)) rfl ?_
  refine e_call hk_63 (as := [.ref 4, .int 10]) (rest := []) rfl rfl hk_84 rfl (Nat.le_of_ble_eq_true rfl) rfl (x_books10 hN hn) ?_
  show e_r 63 74 [.ref 4, .int 10] [.int (c_count Z n 10)] (hp Z P L) _ _
  exact e_ret hk_63 rfl rfl rfl rfl rfl
theorem x_books11 {Z : Nat → Nat → Int32} {P : Nat → Nat} {L n : Nat} (hN : Z 5 6 = nI n) (hn : n ≤ 60) : m_r 84 [.ref 4, .int 11] (hp Z P L) (some (.int (c_count Z n 11))) (hp Z P L) := by
  refine m_of (ls := [.ref 4, .int 11]) hk_84 rfl rfl rfl ?_
  refine e_go hk_84 8 (c := (115, [.ref 4, .int 11], [.int (11 - 10), .ref 6], hp Z P L)) rfl ?_
  refine e_call hk_84 (as := [.ref 6, .int (nI 1)]) (rest := []) rfl rfl hk_22 rfl (Nat.le_of_ble_eq_true rfl) rfl (x_at (r := 6) (a := 7) (n := 3) rfl rfl rfl (by decide) (j := 1) (by decide)) ?_
  show e_r 84 118 [.ref 4, .int 11] [.int (Z 7 1)] (hp Z P L) _ _
  exact e_ret hk_84 rfl rfl rfl rfl rfl
theorem x_count11 {Z : Nat → Nat → Int32} {P : Nat → Nat} {L n : Nat} (hN : Z 5 6 = nI n) (hn : n ≤ 60) : m_r 63 [.ref 4, .int 11] (hp Z P L) (some (.int (c_count Z n 11))) (hp Z P L) := by
  refine m_of (ls := [.ref 4, .int 11]) hk_63 rfl rfl rfl ?_
  refine e_go hk_63 2 (c := (if s_cnd .lt 11 0 = true then 10 else 4, [.ref 4, .int 11], [], hp Z P L)) rfl ?_
  refine e_lt (a := 10) (b := 4) (x := 11) (y := 0) (fun hc1 => absurd hc1 (by decide)) (fun hc1 => ?_)
  refine e_go hk_63 3 (c := (if s_cnd .le 11 14 = true then 13 else 10, [.ref 4, .int 11], [], hp Z P L)) rfl ?_
  refine e_le (a := 13) (b := 10) (x := 11) (y := 14) (fun hc7 => ?_) (fun hc7 => absurd (by decide) hc7)
  refine e_go hk_63 5 (c := (if s_cnd .ge 11 4 = true then 69 else 61, [.ref 4, .int 11], [], hp Z P L)) rfl ?_
  refine e_ge (a := 69) (b := 61) (x := 11) (y := 4) (fun hc58 => ?_) (fun hc58 => absurd (by decide) hc58)
  refine e_go hk_63 2 (c := (71, [.ref 4, .int 11], [.int 11, .ref 4], hp Z P L)) rfl ?_
  refine e_call hk_63 (as := [.ref 4, .int 11]) (rest := []) rfl rfl hk_84 rfl (Nat.le_of_ble_eq_true rfl) rfl (x_books11 hN hn) ?_
  show e_r 63 74 [.ref 4, .int 11] [.int (c_count Z n 11)] (hp Z P L) _ _
  exact e_ret hk_63 rfl rfl rfl rfl rfl
theorem x_books12 {Z : Nat → Nat → Int32} {P : Nat → Nat} {L n : Nat} (hN : Z 5 6 = nI n) (hn : n ≤ 60) : m_r 84 [.ref 4, .int 12] (hp Z P L) (some (.int (c_count Z n 12))) (hp Z P L) := by
  refine m_of (ls := [.ref 4, .int 12]) hk_84 rfl rfl rfl ?_
  refine e_go hk_84 8 (c := (115, [.ref 4, .int 12], [.int (12 - 10), .ref 6], hp Z P L)) rfl ?_
  refine e_call hk_84 (as := [.ref 6, .int (nI 2)]) (rest := []) rfl rfl hk_22 rfl (Nat.le_of_ble_eq_true rfl) rfl (x_at (r := 6) (a := 7) (n := 3) rfl rfl rfl (by decide) (j := 2) (by decide)) ?_
  show e_r 84 118 [.ref 4, .int 12] [.int (Z 7 2)] (hp Z P L) _ _
  exact e_ret hk_84 rfl rfl rfl rfl rfl
theorem x_count12 {Z : Nat → Nat → Int32} {P : Nat → Nat} {L n : Nat} (hN : Z 5 6 = nI n) (hn : n ≤ 60) : m_r 63 [.ref 4, .int 12] (hp Z P L) (some (.int (c_count Z n 12))) (hp Z P L) := by
  refine m_of (ls := [.ref 4, .int 12]) hk_63 rfl rfl rfl ?_
  refine e_go hk_63 2 (c := (if s_cnd .lt 12 0 = true then 10 else 4, [.ref 4, .int 12], [], hp Z P L)) rfl ?_
  refine e_lt (a := 10) (b := 4) (x := 12) (y := 0) (fun hc1 => absurd hc1 (by decide)) (fun hc1 => ?_)
  refine e_go hk_63 3 (c := (if s_cnd .le 12 14 = true then 13 else 10, [.ref 4, .int 12], [], hp Z P L)) rfl ?_
  refine e_le (a := 13) (b := 10) (x := 12) (y := 14) (fun hc7 => ?_) (fun hc7 => absurd (by decide) hc7)
  refine e_go hk_63 5 (c := (if s_cnd .ge 12 4 = true then 69 else 61, [.ref 4, .int 12], [], hp Z P L)) rfl ?_
  refine e_ge (a := 69) (b := 61) (x := 12) (y := 4) (fun hc58 => ?_) (fun hc58 => absurd (by decide) hc58)
  refine e_go hk_63 2 (c := (71, [.ref 4, .int 12], [.int 12, .ref 4], hp Z P L)) rfl ?_
  refine e_call hk_63 (as := [.ref 4, .int 12]) (rest := []) rfl rfl hk_84 rfl (Nat.le_of_ble_eq_true rfl) rfl (x_books12 hN hn) ?_
  show e_r 63 74 [.ref 4, .int 12] [.int (c_count Z n 12)] (hp Z P L) _ _
  exact e_ret hk_63 rfl rfl rfl rfl rfl
theorem x_count13 {Z : Nat → Nat → Int32} {P : Nat → Nat} {L n : Nat} (hN : Z 5 6 = nI n) (hn : n ≤ 60) : m_r 63 [.ref 4, .int 13] (hp Z P L) (some (.int (c_count Z n 13))) (hp Z P L) := by
  refine m_of (ls := [.ref 4, .int 13]) hk_63 rfl rfl rfl ?_
  refine e_go hk_63 2 (c := (if s_cnd .lt 13 0 = true then 10 else 4, [.ref 4, .int 13], [], hp Z P L)) rfl ?_
  refine e_lt (a := 10) (b := 4) (x := 13) (y := 0) (fun hc1 => absurd hc1 (by decide)) (fun hc1 => ?_)
  refine e_go hk_63 3 (c := (if s_cnd .le 13 14 = true then 13 else 10, [.ref 4, .int 13], [], hp Z P L)) rfl ?_
  refine e_le (a := 13) (b := 10) (x := 13) (y := 14) (fun hc7 => ?_) (fun hc7 => absurd (by decide) hc7)
  refine e_go hk_63 5 (c := (47, [.ref 4, .int 13], [.int (Z 99 1)], hp Z P L)) rfl ?_
  exact e_ret hk_63 rfl rfl rfl rfl rfl
theorem x_count14 {Z : Nat → Nat → Int32} {P : Nat → Nat} {L n : Nat} (hN : Z 5 6 = nI n) (hn : n ≤ 60) : m_r 63 [.ref 4, .int 14] (hp Z P L) (some (.int (c_count Z n 14))) (hp Z P L) := by
  refine m_of (ls := [.ref 4, .int 14]) hk_63 rfl rfl rfl ?_
  refine e_go hk_63 2 (c := (if s_cnd .lt 14 0 = true then 10 else 4, [.ref 4, .int 14], [], hp Z P L)) rfl ?_
  refine e_lt (a := 10) (b := 4) (x := 14) (y := 0) (fun hc1 => absurd hc1 (by decide)) (fun hc1 => ?_)
  refine e_go hk_63 3 (c := (if s_cnd .le 14 14 = true then 13 else 10, [.ref 4, .int 14], [], hp Z P L)) rfl ?_
  refine e_le (a := 13) (b := 10) (x := 14) (y := 14) (fun hc7 => ?_) (fun hc7 => absurd (by decide) hc7)
  refine e_go hk_63 5 (c := (55, [.ref 4, .int 14], [.int (Z 18 1)], hp Z P L)) rfl ?_
  exact e_ret hk_63 rfl rfl rfl rfl rfl
theorem x_count_no {Z : Nat → Nat → Int32} {P : Nat → Nat} {L : Nat} {k : Int32} (hk : k < 0 ∨ 14 < k) : m_r 63 [.ref 4, .int k] (hp Z P L) (some (.int (-2))) (hp Z P L) := by
  refine m_of (ls := [.ref 4, .int k]) hk_63 rfl rfl rfl ?_
  refine e_go hk_63 2 (c := (if s_cnd .lt k 0 = true then 10 else 4, [.ref 4, .int k], [], hp Z P L)) rfl ?_
  refine e_lt (a := 10) (b := 4) (x := k) (y := 0) (fun hc1 => ?_) (fun hc1 => ?_)
  · skip
    refine e_go hk_63 1 (c := (12, [.ref 4, .int k], [.int ((-2))], hp Z P L)) rfl ?_
    exact e_ret hk_63 rfl rfl rfl rfl rfl
  · skip
    have h3 : 14 < k := hk.elim (fun z => absurd z hc1) id
    refine e_go hk_63 3 (c := (if s_cnd .le k 14 = true then 13 else 10, [.ref 4, .int k], [], hp Z P L)) rfl ?_
    refine e_le (a := 13) (b := 10) (x := k) (y := 14) (fun hc7 => absurd hc7 (Int32.not_le.mpr h3)) (fun hc7 => ?_)
    refine e_go hk_63 1 (c := (12, [.ref 4, .int k], [.int ((-2))], hp Z P L)) rfl ?_
    exact e_ret hk_63 rfl rfl rfl rfl rfl
def c_abt (Z : Nat → Nat → Int32) (n j : Nat) : Nat → Int32
  | 0 => t_ktp Z (t_L Z j) j (Z 15 j + 1)
  | 1 => t_ktp Z (j + 1) (t_H Z n j + 1) (Z 15 j + 1)
  | 2 => t_wt Z n j
  | 3 => Z 15 j
  | 4 => Z 13 j
  | 5 => y_b (decide (Z 17 j = 1))
  | 6 => t_sm (Z 17) (t_L Z j) (t_H Z n j + 1 - t_L Z j) 0
  | 7 => y_b (t_ln Z n j)
  | 8 => t_mx (Z 15) (t_L Z j) (t_H Z n j + 1 - t_L Z j) (Z 15 (t_L Z j)) - Z 15 j
  | _ => -2
theorem x_abt0 {Z : Nat → Nat → Int32} {P : Nat → Nat} {L n : Nat} (hN : Z 5 6 = nI n) (hn : n ≤ 60) {j : Nat} (hj : j < n) : m_r 82 [.ref 4, .int (nI j), .int 0] (hp Z P L) (some (.int (c_abt Z n j 0))) (hp Z P L) := by
  have hlo : t_L Z j ≤ j := t_lo_le (Z 15) (Z 15 j) j
  have hhi : j ≤ t_H Z n j ∧ t_H Z n j ≤ j + (n - 1 - j) := t_hi_le (Z 15) (Z 15 j) (n - 1 - j) j
  refine m_of (ls := [.ref 4, .int (nI j), .int 0, s_no, s_no, s_no]) hk_82 rfl rfl rfl ?_
  refine e_go hk_82 3 (c := (5, [.ref 4, .int (nI j), .int 0, s_no, s_no, s_no], [.int (nI j), .ref 5], hp Z P L)) rfl ?_
  refine e_call hk_82 (as := [.ref 5, .int (nI j)]) (rest := []) rfl rfl hk_37 rfl (Nat.le_of_ble_eq_true rfl) rfl (x_low (j := j) (by omega)) ?_
  show e_r 82 8 [.ref 4, .int (nI j), .int 0, s_no, s_no, s_no] [.int (nI (t_L Z j))] (hp Z P L) _ _
  refine e_go hk_82 4 (c := (14, [.ref 4, .int (nI j), .int 0, .int (nI (t_L Z j)), s_no, s_no], [.int (nI j), .ref 5], hp Z P L)) rfl ?_
  refine e_call hk_82 (as := [.ref 5, .int (nI j)]) (rest := []) rfl rfl hk_38 rfl (Nat.le_of_ble_eq_true rfl) rfl (x_high hN hn (j := j) (by omega)) ?_
  show e_r 82 17 [.ref 4, .int (nI j), .int 0, .int (nI (t_L Z j)), s_no, s_no] [.int (nI (t_H Z n j))] (hp Z P L) _ _
  refine e_go hk_82 5 (c := (27, [.ref 4, .int (nI j), .int 0, .int (nI (t_L Z j)), .int (nI (t_H Z n j)), s_no], [.int (nI j), .ref 14], hp Z P L)) rfl ?_
  refine e_call hk_82 (as := [.ref 14, .int (nI j)]) (rest := []) rfl rfl hk_22 rfl (Nat.le_of_ble_eq_true rfl) rfl (x_at (r := 14) (a := 15) (n := 60) rfl rfl rfl (by decide) (j := j) (by omega)) ?_
  show e_r 82 30 [.ref 4, .int (nI j), .int 0, .int (nI (t_L Z j)), .int (nI (t_H Z n j)), s_no] [.int (Z 15 j)] (hp Z P L) _ _
  refine e_go hk_82 11 (c := (89, [.ref 4, .int (nI j), .int 0, .int (nI (t_L Z j)), .int (nI (t_H Z n j)), .int (Z 15 j)], [.int ((Z 15 j) + 1), .int ((nI j) - 1), .int (nI (t_L Z j)), .ref 4], hp Z P L)) rfl ?_
  refine e_call hk_82 (as := [.ref 4, .int (nI (t_L Z j)), .int ((nI j) - 1), .int ((Z 15 j) + 1)]) (rest := []) rfl rfl hk_85 rfl (Nat.le_of_ble_eq_true rfl) rfl (x_ktp (l := t_L Z j) (u := j) (by omega) (by omega)) ?_
  show e_r 82 92 [.ref 4, .int (nI j), .int 0, .int (nI (t_L Z j)), .int (nI (t_H Z n j)), .int (Z 15 j)] [.int (t_ktp Z (t_L Z j) j (Z 15 j + 1))] (hp Z P L) _ _
  exact e_ret hk_82 rfl rfl rfl rfl rfl
theorem x_abt1 {Z : Nat → Nat → Int32} {P : Nat → Nat} {L n : Nat} (hN : Z 5 6 = nI n) (hn : n ≤ 60) {j : Nat} (hj : j < n) : m_r 82 [.ref 4, .int (nI j), .int 1] (hp Z P L) (some (.int (c_abt Z n j 1))) (hp Z P L) := by
  have hlo : t_L Z j ≤ j := t_lo_le (Z 15) (Z 15 j) j
  have hhi : j ≤ t_H Z n j ∧ t_H Z n j ≤ j + (n - 1 - j) := t_hi_le (Z 15) (Z 15 j) (n - 1 - j) j
  refine m_of (ls := [.ref 4, .int (nI j), .int 1, s_no, s_no, s_no]) hk_82 rfl rfl rfl ?_
  refine e_go hk_82 3 (c := (5, [.ref 4, .int (nI j), .int 1, s_no, s_no, s_no], [.int (nI j), .ref 5], hp Z P L)) rfl ?_
  refine e_call hk_82 (as := [.ref 5, .int (nI j)]) (rest := []) rfl rfl hk_37 rfl (Nat.le_of_ble_eq_true rfl) rfl (x_low (j := j) (by omega)) ?_
  show e_r 82 8 [.ref 4, .int (nI j), .int 1, s_no, s_no, s_no] [.int (nI (t_L Z j))] (hp Z P L) _ _
  refine e_go hk_82 4 (c := (14, [.ref 4, .int (nI j), .int 1, .int (nI (t_L Z j)), s_no, s_no], [.int (nI j), .ref 5], hp Z P L)) rfl ?_
  refine e_call hk_82 (as := [.ref 5, .int (nI j)]) (rest := []) rfl rfl hk_38 rfl (Nat.le_of_ble_eq_true rfl) rfl (x_high hN hn (j := j) (by omega)) ?_
  show e_r 82 17 [.ref 4, .int (nI j), .int 1, .int (nI (t_L Z j)), s_no, s_no] [.int (nI (t_H Z n j))] (hp Z P L) _ _
  refine e_go hk_82 5 (c := (27, [.ref 4, .int (nI j), .int 1, .int (nI (t_L Z j)), .int (nI (t_H Z n j)), s_no], [.int (nI j), .ref 14], hp Z P L)) rfl ?_
  refine e_call hk_82 (as := [.ref 14, .int (nI j)]) (rest := []) rfl rfl hk_22 rfl (Nat.le_of_ble_eq_true rfl) rfl (x_at (r := 14) (a := 15) (n := 60) rfl rfl rfl (by decide) (j := j) (by omega)) ?_
  show e_r 82 30 [.ref 4, .int (nI j), .int 1, .int (nI (t_L Z j)), .int (nI (t_H Z n j)), s_no] [.int (Z 15 j)] (hp Z P L) _ _
  refine e_go hk_82 11 (c := (103, [.ref 4, .int (nI j), .int 1, .int (nI (t_L Z j)), .int (nI (t_H Z n j)), .int (Z 15 j)], [.int ((Z 15 j) + 1), .int (nI (t_H Z n j)), .int ((nI j) + 1), .ref 4], hp Z P L)) rfl ?_
  refine e_call hk_82 (as := [.ref 4, .int ((nI j) + 1), .int (nI (t_H Z n j)), .int ((Z 15 j) + 1)]) (rest := []) rfl rfl hk_85 rfl (Nat.le_of_ble_eq_true rfl) rfl (show m_r 85 [.ref 4, .int (nI j + 1), .int (nI (t_H Z n j)), .int (Z 15 j + 1)] (hp Z P L) (some (.int (t_ktp Z (j + 1) (t_H Z n j + 1) (Z 15 j + 1)))) (hp Z P L) from by have := x_ktp (Z := Z) (P := P) (L := L) (l := j + 1) (u := t_H Z n j + 1) (d := Z 15 j + 1) (by omega) (by omega); rw [nI_pred, ← nI_1 j] at this; exact this) ?_
  show e_r 82 106 [.ref 4, .int (nI j), .int 1, .int (nI (t_L Z j)), .int (nI (t_H Z n j)), .int (Z 15 j)] [.int (t_ktp Z (j + 1) (t_H Z n j + 1) (Z 15 j + 1))] (hp Z P L) _ _
  exact e_ret hk_82 rfl rfl rfl rfl rfl
theorem x_abt2 {Z : Nat → Nat → Int32} {P : Nat → Nat} {L n : Nat} (hN : Z 5 6 = nI n) (hn : n ≤ 60) {j : Nat} (hj : j < n) : m_r 82 [.ref 4, .int (nI j), .int 2] (hp Z P L) (some (.int (c_abt Z n j 2))) (hp Z P L) := by
  have hlo : t_L Z j ≤ j := t_lo_le (Z 15) (Z 15 j) j
  have hhi : j ≤ t_H Z n j ∧ t_H Z n j ≤ j + (n - 1 - j) := t_hi_le (Z 15) (Z 15 j) (n - 1 - j) j
  refine m_of (ls := [.ref 4, .int (nI j), .int 2, s_no, s_no, s_no]) hk_82 rfl rfl rfl ?_
  refine e_go hk_82 3 (c := (5, [.ref 4, .int (nI j), .int 2, s_no, s_no, s_no], [.int (nI j), .ref 5], hp Z P L)) rfl ?_
  refine e_call hk_82 (as := [.ref 5, .int (nI j)]) (rest := []) rfl rfl hk_37 rfl (Nat.le_of_ble_eq_true rfl) rfl (x_low (j := j) (by omega)) ?_
  show e_r 82 8 [.ref 4, .int (nI j), .int 2, s_no, s_no, s_no] [.int (nI (t_L Z j))] (hp Z P L) _ _
  refine e_go hk_82 4 (c := (14, [.ref 4, .int (nI j), .int 2, .int (nI (t_L Z j)), s_no, s_no], [.int (nI j), .ref 5], hp Z P L)) rfl ?_
  refine e_call hk_82 (as := [.ref 5, .int (nI j)]) (rest := []) rfl rfl hk_38 rfl (Nat.le_of_ble_eq_true rfl) rfl (x_high hN hn (j := j) (by omega)) ?_
  show e_r 82 17 [.ref 4, .int (nI j), .int 2, .int (nI (t_L Z j)), s_no, s_no] [.int (nI (t_H Z n j))] (hp Z P L) _ _
  refine e_go hk_82 5 (c := (27, [.ref 4, .int (nI j), .int 2, .int (nI (t_L Z j)), .int (nI (t_H Z n j)), s_no], [.int (nI j), .ref 14], hp Z P L)) rfl ?_
  refine e_call hk_82 (as := [.ref 14, .int (nI j)]) (rest := []) rfl rfl hk_22 rfl (Nat.le_of_ble_eq_true rfl) rfl (x_at (r := 14) (a := 15) (n := 60) rfl rfl rfl (by decide) (j := j) (by omega)) ?_
  show e_r 82 30 [.ref 4, .int (nI j), .int 2, .int (nI (t_L Z j)), .int (nI (t_H Z n j)), s_no] [.int (Z 15 j)] (hp Z P L) _ _
  refine e_go hk_82 8 (c := (113, [.ref 4, .int (nI j), .int 2, .int (nI (t_L Z j)), .int (nI (t_H Z n j)), .int (Z 15 j)], [.int (((nI (t_H Z n j)) - (nI (t_L Z j))) + 1)], hp Z P L)) rfl ?_
  exact e_ret hk_82 rfl rfl rfl rfl rfl
theorem x_abt3 {Z : Nat → Nat → Int32} {P : Nat → Nat} {L n : Nat} (hN : Z 5 6 = nI n) (hn : n ≤ 60) {j : Nat} (hj : j < n) : m_r 82 [.ref 4, .int (nI j), .int 3] (hp Z P L) (some (.int (c_abt Z n j 3))) (hp Z P L) := by
  have hlo : t_L Z j ≤ j := t_lo_le (Z 15) (Z 15 j) j
  have hhi : j ≤ t_H Z n j ∧ t_H Z n j ≤ j + (n - 1 - j) := t_hi_le (Z 15) (Z 15 j) (n - 1 - j) j
  refine m_of (ls := [.ref 4, .int (nI j), .int 3, s_no, s_no, s_no]) hk_82 rfl rfl rfl ?_
  refine e_go hk_82 3 (c := (5, [.ref 4, .int (nI j), .int 3, s_no, s_no, s_no], [.int (nI j), .ref 5], hp Z P L)) rfl ?_
  refine e_call hk_82 (as := [.ref 5, .int (nI j)]) (rest := []) rfl rfl hk_37 rfl (Nat.le_of_ble_eq_true rfl) rfl (x_low (j := j) (by omega)) ?_
  show e_r 82 8 [.ref 4, .int (nI j), .int 3, s_no, s_no, s_no] [.int (nI (t_L Z j))] (hp Z P L) _ _
  refine e_go hk_82 4 (c := (14, [.ref 4, .int (nI j), .int 3, .int (nI (t_L Z j)), s_no, s_no], [.int (nI j), .ref 5], hp Z P L)) rfl ?_
  refine e_call hk_82 (as := [.ref 5, .int (nI j)]) (rest := []) rfl rfl hk_38 rfl (Nat.le_of_ble_eq_true rfl) rfl (x_high hN hn (j := j) (by omega)) ?_
  show e_r 82 17 [.ref 4, .int (nI j), .int 3, .int (nI (t_L Z j)), s_no, s_no] [.int (nI (t_H Z n j))] (hp Z P L) _ _
  refine e_go hk_82 5 (c := (27, [.ref 4, .int (nI j), .int 3, .int (nI (t_L Z j)), .int (nI (t_H Z n j)), s_no], [.int (nI j), .ref 14], hp Z P L)) rfl ?_
  refine e_call hk_82 (as := [.ref 14, .int (nI j)]) (rest := []) rfl rfl hk_22 rfl (Nat.le_of_ble_eq_true rfl) rfl (x_at (r := 14) (a := 15) (n := 60) rfl rfl rfl (by decide) (j := j) (by omega)) ?_
  show e_r 82 30 [.ref 4, .int (nI j), .int 3, .int (nI (t_L Z j)), .int (nI (t_H Z n j)), s_no] [.int (Z 15 j)] (hp Z P L) _ _
  refine e_go hk_82 4 (c := (116, [.ref 4, .int (nI j), .int 3, .int (nI (t_L Z j)), .int (nI (t_H Z n j)), .int (Z 15 j)], [.int (Z 15 j)], hp Z P L)) rfl ?_
  exact e_ret hk_82 rfl rfl rfl rfl rfl
theorem x_abt4 {Z : Nat → Nat → Int32} {P : Nat → Nat} {L n : Nat} (hN : Z 5 6 = nI n) (hn : n ≤ 60) {j : Nat} (hj : j < n) : m_r 82 [.ref 4, .int (nI j), .int 4] (hp Z P L) (some (.int (c_abt Z n j 4))) (hp Z P L) := by
  have hlo : t_L Z j ≤ j := t_lo_le (Z 15) (Z 15 j) j
  have hhi : j ≤ t_H Z n j ∧ t_H Z n j ≤ j + (n - 1 - j) := t_hi_le (Z 15) (Z 15 j) (n - 1 - j) j
  refine m_of (ls := [.ref 4, .int (nI j), .int 4, s_no, s_no, s_no]) hk_82 rfl rfl rfl ?_
  refine e_go hk_82 3 (c := (5, [.ref 4, .int (nI j), .int 4, s_no, s_no, s_no], [.int (nI j), .ref 5], hp Z P L)) rfl ?_
  refine e_call hk_82 (as := [.ref 5, .int (nI j)]) (rest := []) rfl rfl hk_37 rfl (Nat.le_of_ble_eq_true rfl) rfl (x_low (j := j) (by omega)) ?_
  show e_r 82 8 [.ref 4, .int (nI j), .int 4, s_no, s_no, s_no] [.int (nI (t_L Z j))] (hp Z P L) _ _
  refine e_go hk_82 4 (c := (14, [.ref 4, .int (nI j), .int 4, .int (nI (t_L Z j)), s_no, s_no], [.int (nI j), .ref 5], hp Z P L)) rfl ?_
  refine e_call hk_82 (as := [.ref 5, .int (nI j)]) (rest := []) rfl rfl hk_38 rfl (Nat.le_of_ble_eq_true rfl) rfl (x_high hN hn (j := j) (by omega)) ?_
  show e_r 82 17 [.ref 4, .int (nI j), .int 4, .int (nI (t_L Z j)), s_no, s_no] [.int (nI (t_H Z n j))] (hp Z P L) _ _
  refine e_go hk_82 5 (c := (27, [.ref 4, .int (nI j), .int 4, .int (nI (t_L Z j)), .int (nI (t_H Z n j)), s_no], [.int (nI j), .ref 14], hp Z P L)) rfl ?_
  refine e_call hk_82 (as := [.ref 14, .int (nI j)]) (rest := []) rfl rfl hk_22 rfl (Nat.le_of_ble_eq_true rfl) rfl (x_at (r := 14) (a := 15) (n := 60) rfl rfl rfl (by decide) (j := j) (by omega)) ?_
  show e_r 82 30 [.ref 4, .int (nI j), .int 4, .int (nI (t_L Z j)), .int (nI (t_H Z n j)), s_no] [.int (Z 15 j)] (hp Z P L) _ _
  refine e_go hk_82 7 (c := (125, [.ref 4, .int (nI j), .int 4, .int (nI (t_L Z j)), .int (nI (t_H Z n j)), .int (Z 15 j)], [.int (nI j), .ref 12], hp Z P L)) rfl ?_
  refine e_call hk_82 (as := [.ref 12, .int (nI j)]) (rest := []) rfl rfl hk_22 rfl (Nat.le_of_ble_eq_true rfl) rfl (x_at (r := 12) (a := 13) (n := 60) rfl rfl rfl (by decide) (j := j) (by omega)) ?_
  show e_r 82 128 [.ref 4, .int (nI j), .int 4, .int (nI (t_L Z j)), .int (nI (t_H Z n j)), .int (Z 15 j)] [.int (Z 13 j)] (hp Z P L) _ _
  exact e_ret hk_82 rfl rfl rfl rfl rfl
theorem x_abt5 {Z : Nat → Nat → Int32} {P : Nat → Nat} {L n : Nat} (hN : Z 5 6 = nI n) (hn : n ≤ 60) {j : Nat} (hj : j < n) : m_r 82 [.ref 4, .int (nI j), .int 5] (hp Z P L) (some (.int (c_abt Z n j 5))) (hp Z P L) := by
  have hlo : t_L Z j ≤ j := t_lo_le (Z 15) (Z 15 j) j
  have hhi : j ≤ t_H Z n j ∧ t_H Z n j ≤ j + (n - 1 - j) := t_hi_le (Z 15) (Z 15 j) (n - 1 - j) j
  refine m_of (ls := [.ref 4, .int (nI j), .int 5, s_no, s_no, s_no]) hk_82 rfl rfl rfl ?_
  refine e_go hk_82 3 (c := (5, [.ref 4, .int (nI j), .int 5, s_no, s_no, s_no], [.int (nI j), .ref 5], hp Z P L)) rfl ?_
  refine e_call hk_82 (as := [.ref 5, .int (nI j)]) (rest := []) rfl rfl hk_37 rfl (Nat.le_of_ble_eq_true rfl) rfl (x_low (j := j) (by omega)) ?_
  show e_r 82 8 [.ref 4, .int (nI j), .int 5, s_no, s_no, s_no] [.int (nI (t_L Z j))] (hp Z P L) _ _
  refine e_go hk_82 4 (c := (14, [.ref 4, .int (nI j), .int 5, .int (nI (t_L Z j)), s_no, s_no], [.int (nI j), .ref 5], hp Z P L)) rfl ?_
  refine e_call hk_82 (as := [.ref 5, .int (nI j)]) (rest := []) rfl rfl hk_38 rfl (Nat.le_of_ble_eq_true rfl) rfl (x_high hN hn (j := j) (by omega)) ?_
  show e_r 82 17 [.ref 4, .int (nI j), .int 5, .int (nI (t_L Z j)), s_no, s_no] [.int (nI (t_H Z n j))] (hp Z P L) _ _
  refine e_go hk_82 5 (c := (27, [.ref 4, .int (nI j), .int 5, .int (nI (t_L Z j)), .int (nI (t_H Z n j)), s_no], [.int (nI j), .ref 14], hp Z P L)) rfl ?_
  refine e_call hk_82 (as := [.ref 14, .int (nI j)]) (rest := []) rfl rfl hk_22 rfl (Nat.le_of_ble_eq_true rfl) rfl (x_at (r := 14) (a := 15) (n := 60) rfl rfl rfl (by decide) (j := j) (by omega)) ?_
  show e_r 82 30 [.ref 4, .int (nI j), .int 5, .int (nI (t_L Z j)), .int (nI (t_H Z n j)), s_no] [.int (Z 15 j)] (hp Z P L) _ _
  refine e_go hk_82 6 (c := (134, [.ref 4, .int (nI j), .int 5, .int (nI (t_L Z j)), .int (nI (t_H Z n j)), .int (Z 15 j)], [.int (nI j), .ref 5], hp Z P L)) rfl ?_
  refine e_call hk_82 (as := [.ref 5, .int (nI j)]) (rest := []) rfl rfl hk_33 rfl (Nat.le_of_ble_eq_true rfl) rfl (x_isfull (j := j) (by omega)) ?_
  show e_r 82 137 [.ref 4, .int (nI j), .int 5, .int (nI (t_L Z j)), .int (nI (t_H Z n j)), .int (Z 15 j)] [.int (y_b (decide (Z 17 j = 1)))] (hp Z P L) _ _
  refine e_go hk_82 1 (c := (if s_cnd .eq (y_b (decide (Z 17 j = 1))) 0 = true then 144 else 140, [.ref 4, .int (nI j), .int 5, .int (nI (t_L Z j)), .int (nI (t_H Z n j)), .int (Z 15 j)], [], hp Z P L)) rfl ?_
  refine e_eq (a := 144) (b := 140) (x := y_b (decide (Z 17 j = 1))) (y := 0) (fun hc137 => ?_) (fun hc137 => ?_)
  · skip
    rw [y_d0] at hc137
    refine e_go hk_82 1 (c := (145, [.ref 4, .int (nI j), .int 5, .int (nI (t_L Z j)), .int (nI (t_H Z n j)), .int (Z 15 j)], [.int 0], hp Z P L)) rfl ?_
    exact e_ret hk_82 rfl rfl rfl (by rw [c_abt, y_cf hc137]) rfl
  · skip
    rw [y_d1] at hc137
    refine e_go hk_82 2 (c := (145, [.ref 4, .int (nI j), .int 5, .int (nI (t_L Z j)), .int (nI (t_H Z n j)), .int (Z 15 j)], [.int 1], hp Z P L)) rfl ?_
    exact e_ret hk_82 rfl rfl rfl (by rw [c_abt, y_ct hc137]) rfl
theorem x_abt6 {Z : Nat → Nat → Int32} {P : Nat → Nat} {L n : Nat} (hN : Z 5 6 = nI n) (hn : n ≤ 60) {j : Nat} (hj : j < n) : m_r 82 [.ref 4, .int (nI j), .int 6] (hp Z P L) (some (.int (c_abt Z n j 6))) (hp Z P L) := by
  have hlo : t_L Z j ≤ j := t_lo_le (Z 15) (Z 15 j) j
  have hhi : j ≤ t_H Z n j ∧ t_H Z n j ≤ j + (n - 1 - j) := t_hi_le (Z 15) (Z 15 j) (n - 1 - j) j
  refine m_of (ls := [.ref 4, .int (nI j), .int 6, s_no, s_no, s_no]) hk_82 rfl rfl rfl ?_
  refine e_go hk_82 3 (c := (5, [.ref 4, .int (nI j), .int 6, s_no, s_no, s_no], [.int (nI j), .ref 5], hp Z P L)) rfl ?_
  refine e_call hk_82 (as := [.ref 5, .int (nI j)]) (rest := []) rfl rfl hk_37 rfl (Nat.le_of_ble_eq_true rfl) rfl (x_low (j := j) (by omega)) ?_
  show e_r 82 8 [.ref 4, .int (nI j), .int 6, s_no, s_no, s_no] [.int (nI (t_L Z j))] (hp Z P L) _ _
  refine e_go hk_82 4 (c := (14, [.ref 4, .int (nI j), .int 6, .int (nI (t_L Z j)), s_no, s_no], [.int (nI j), .ref 5], hp Z P L)) rfl ?_
  refine e_call hk_82 (as := [.ref 5, .int (nI j)]) (rest := []) rfl rfl hk_38 rfl (Nat.le_of_ble_eq_true rfl) rfl (x_high hN hn (j := j) (by omega)) ?_
  show e_r 82 17 [.ref 4, .int (nI j), .int 6, .int (nI (t_L Z j)), s_no, s_no] [.int (nI (t_H Z n j))] (hp Z P L) _ _
  refine e_go hk_82 5 (c := (27, [.ref 4, .int (nI j), .int 6, .int (nI (t_L Z j)), .int (nI (t_H Z n j)), s_no], [.int (nI j), .ref 14], hp Z P L)) rfl ?_
  refine e_call hk_82 (as := [.ref 14, .int (nI j)]) (rest := []) rfl rfl hk_22 rfl (Nat.le_of_ble_eq_true rfl) rfl (x_at (r := 14) (a := 15) (n := 60) rfl rfl rfl (by decide) (j := j) (by omega)) ?_
  show e_r 82 30 [.ref 4, .int (nI j), .int 6, .int (nI (t_L Z j)), .int (nI (t_H Z n j)), s_no] [.int (Z 15 j)] (hp Z P L) _ _
  refine e_go hk_82 8 (c := (156, [.ref 4, .int (nI j), .int 6, .int (nI (t_L Z j)), .int (nI (t_H Z n j)), .int (Z 15 j)], [.int (nI (t_H Z n j)), .int (nI (t_L Z j)), .ref 16], hp Z P L)) rfl ?_
  refine e_call hk_82 (as := [.ref 16, .int (nI (t_L Z j)), .int (nI (t_H Z n j))]) (rest := []) rfl rfl hk_25 rfl (Nat.le_of_ble_eq_true rfl) rfl (x_total2 (r := 16) (a := 17) (n := 60) rfl rfl rfl (by decide) (l := t_L Z j) (u := t_H Z n j) (by omega) (by omega)) ?_
  show e_r 82 159 [.ref 4, .int (nI j), .int 6, .int (nI (t_L Z j)), .int (nI (t_H Z n j)), .int (Z 15 j)] [.int (t_sm (Z 17) (t_L Z j) (t_H Z n j + 1 - t_L Z j) 0)] (hp Z P L) _ _
  exact e_ret hk_82 rfl rfl rfl rfl rfl
theorem x_abt7 {Z : Nat → Nat → Int32} {P : Nat → Nat} {L n : Nat} (hN : Z 5 6 = nI n) (hn : n ≤ 60) {j : Nat} (hj : j < n) : m_r 82 [.ref 4, .int (nI j), .int 7] (hp Z P L) (some (.int (c_abt Z n j 7))) (hp Z P L) := by
  have hlo : t_L Z j ≤ j := t_lo_le (Z 15) (Z 15 j) j
  have hhi : j ≤ t_H Z n j ∧ t_H Z n j ≤ j + (n - 1 - j) := t_hi_le (Z 15) (Z 15 j) (n - 1 - j) j
  refine m_of (ls := [.ref 4, .int (nI j), .int 7, s_no, s_no, s_no]) hk_82 rfl rfl rfl ?_
  refine e_go hk_82 3 (c := (5, [.ref 4, .int (nI j), .int 7, s_no, s_no, s_no], [.int (nI j), .ref 5], hp Z P L)) rfl ?_
  refine e_call hk_82 (as := [.ref 5, .int (nI j)]) (rest := []) rfl rfl hk_37 rfl (Nat.le_of_ble_eq_true rfl) rfl (x_low (j := j) (by omega)) ?_
  show e_r 82 8 [.ref 4, .int (nI j), .int 7, s_no, s_no, s_no] [.int (nI (t_L Z j))] (hp Z P L) _ _
  refine e_go hk_82 4 (c := (14, [.ref 4, .int (nI j), .int 7, .int (nI (t_L Z j)), s_no, s_no], [.int (nI j), .ref 5], hp Z P L)) rfl ?_
  refine e_call hk_82 (as := [.ref 5, .int (nI j)]) (rest := []) rfl rfl hk_38 rfl (Nat.le_of_ble_eq_true rfl) rfl (x_high hN hn (j := j) (by omega)) ?_
  show e_r 82 17 [.ref 4, .int (nI j), .int 7, .int (nI (t_L Z j)), s_no, s_no] [.int (nI (t_H Z n j))] (hp Z P L) _ _
  refine e_go hk_82 5 (c := (27, [.ref 4, .int (nI j), .int 7, .int (nI (t_L Z j)), .int (nI (t_H Z n j)), s_no], [.int (nI j), .ref 14], hp Z P L)) rfl ?_
  refine e_call hk_82 (as := [.ref 14, .int (nI j)]) (rest := []) rfl rfl hk_22 rfl (Nat.le_of_ble_eq_true rfl) rfl (x_at (r := 14) (a := 15) (n := 60) rfl rfl rfl (by decide) (j := j) (by omega)) ?_
  show e_r 82 30 [.ref 4, .int (nI j), .int 7, .int (nI (t_L Z j)), .int (nI (t_H Z n j)), s_no] [.int (Z 15 j)] (hp Z P L) _ _
  refine e_go hk_82 6 (c := (165, [.ref 4, .int (nI j), .int 7, .int (nI (t_L Z j)), .int (nI (t_H Z n j)), .int (Z 15 j)], [.int (nI j), .ref 5], hp Z P L)) rfl ?_
  refine e_call hk_82 (as := [.ref 5, .int (nI j)]) (rest := []) rfl rfl hk_41 rfl (Nat.le_of_ble_eq_true rfl) rfl (x_leans hN hn (j := j) (by omega)) ?_
  show e_r 82 168 [.ref 4, .int (nI j), .int 7, .int (nI (t_L Z j)), .int (nI (t_H Z n j)), .int (Z 15 j)] [.int (y_b (t_ln Z n j))] (hp Z P L) _ _
  refine e_go hk_82 1 (c := (if s_cnd .eq (y_b (t_ln Z n j)) 0 = true then 175 else 171, [.ref 4, .int (nI j), .int 7, .int (nI (t_L Z j)), .int (nI (t_H Z n j)), .int (Z 15 j)], [], hp Z P L)) rfl ?_
  refine e_eq (a := 175) (b := 171) (x := y_b (t_ln Z n j)) (y := 0) (fun hc168 => ?_) (fun hc168 => ?_)
  · skip
    rw [y_b0] at hc168
    refine e_go hk_82 1 (c := (176, [.ref 4, .int (nI j), .int 7, .int (nI (t_L Z j)), .int (nI (t_H Z n j)), .int (Z 15 j)], [.int 0], hp Z P L)) rfl ?_
    exact e_ret hk_82 rfl rfl rfl (by rw [c_abt, hc168]; rfl) rfl
  · skip
    rw [y_b1] at hc168
    refine e_go hk_82 2 (c := (176, [.ref 4, .int (nI j), .int 7, .int (nI (t_L Z j)), .int (nI (t_H Z n j)), .int (Z 15 j)], [.int 1], hp Z P L)) rfl ?_
    exact e_ret hk_82 rfl rfl rfl (by rw [c_abt, hc168]; rfl) rfl
theorem x_abt8 {Z : Nat → Nat → Int32} {P : Nat → Nat} {L n : Nat} (hN : Z 5 6 = nI n) (hn : n ≤ 60) {j : Nat} (hj : j < n) : m_r 82 [.ref 4, .int (nI j), .int 8] (hp Z P L) (some (.int (c_abt Z n j 8))) (hp Z P L) := by
  have hlo : t_L Z j ≤ j := t_lo_le (Z 15) (Z 15 j) j
  have hhi : j ≤ t_H Z n j ∧ t_H Z n j ≤ j + (n - 1 - j) := t_hi_le (Z 15) (Z 15 j) (n - 1 - j) j
  refine m_of (ls := [.ref 4, .int (nI j), .int 8, s_no, s_no, s_no]) hk_82 rfl rfl rfl ?_
  refine e_go hk_82 3 (c := (5, [.ref 4, .int (nI j), .int 8, s_no, s_no, s_no], [.int (nI j), .ref 5], hp Z P L)) rfl ?_
  refine e_call hk_82 (as := [.ref 5, .int (nI j)]) (rest := []) rfl rfl hk_37 rfl (Nat.le_of_ble_eq_true rfl) rfl (x_low (j := j) (by omega)) ?_
  show e_r 82 8 [.ref 4, .int (nI j), .int 8, s_no, s_no, s_no] [.int (nI (t_L Z j))] (hp Z P L) _ _
  refine e_go hk_82 4 (c := (14, [.ref 4, .int (nI j), .int 8, .int (nI (t_L Z j)), s_no, s_no], [.int (nI j), .ref 5], hp Z P L)) rfl ?_
  refine e_call hk_82 (as := [.ref 5, .int (nI j)]) (rest := []) rfl rfl hk_38 rfl (Nat.le_of_ble_eq_true rfl) rfl (x_high hN hn (j := j) (by omega)) ?_
  show e_r 82 17 [.ref 4, .int (nI j), .int 8, .int (nI (t_L Z j)), s_no, s_no] [.int (nI (t_H Z n j))] (hp Z P L) _ _
  refine e_go hk_82 5 (c := (27, [.ref 4, .int (nI j), .int 8, .int (nI (t_L Z j)), .int (nI (t_H Z n j)), s_no], [.int (nI j), .ref 14], hp Z P L)) rfl ?_
  refine e_call hk_82 (as := [.ref 14, .int (nI j)]) (rest := []) rfl rfl hk_22 rfl (Nat.le_of_ble_eq_true rfl) rfl (x_at (r := 14) (a := 15) (n := 60) rfl rfl rfl (by decide) (j := j) (by omega)) ?_
  show e_r 82 30 [.ref 4, .int (nI j), .int 8, .int (nI (t_L Z j)), .int (nI (t_H Z n j)), s_no] [.int (Z 15 j)] (hp Z P L) _ _
  refine e_go hk_82 8 (c := (187, [.ref 4, .int (nI j), .int 8, .int (nI (t_L Z j)), .int (nI (t_H Z n j)), .int (Z 15 j)], [.int (nI (t_H Z n j)), .int (nI (t_L Z j)), .ref 14], hp Z P L)) rfl ?_
  refine e_call hk_82 (as := [.ref 14, .int (nI (t_L Z j)), .int (nI (t_H Z n j))]) (rest := []) rfl rfl hk_26 rfl (Nat.le_of_ble_eq_true rfl) rfl (show m_r 26 [.ref 14, .int (nI (t_L Z j)), .int (nI (t_H Z n j))] (hp Z P L) (some (.int (t_mx (Z 15) (t_L Z j) (t_H Z n j + 1 - t_L Z j) (Z 15 (t_L Z j))))) (hp Z P L) from by have := x_great (h := hp Z P L) (r := 14) (a := 15) (n := 60) rfl rfl rfl (by decide) (l := t_L Z j) (u := t_H Z n j + 1) (by omega) (by omega); rw [nI_pred] at this; exact this) ?_
  show e_r 82 190 [.ref 4, .int (nI j), .int 8, .int (nI (t_L Z j)), .int (nI (t_H Z n j)), .int (Z 15 j)] [.int (t_mx (Z 15) (t_L Z j) (t_H Z n j + 1 - t_L Z j) (Z 15 (t_L Z j)))] (hp Z P L) _ _
  refine e_go hk_82 2 (c := (193, [.ref 4, .int (nI j), .int 8, .int (nI (t_L Z j)), .int (nI (t_H Z n j)), .int (Z 15 j)], [.int ((t_mx (Z 15) (t_L Z j) (t_H Z n j + 1 - t_L Z j) (Z 15 (t_L Z j))) - (Z 15 j))], hp Z P L)) rfl ?_
  exact e_ret hk_82 rfl rfl rfl rfl rfl
def c_node (Z : Nat → Nat → Int32) (n : Nat) (key : Int32) (k : Nat) : Int32 := if y_nm key = true then (match t_nd (Z 9) n key with
  | none => -1
  | some j => c_abt Z n j k) else -2
theorem x_cnode0 {Z : Nat → Nat → Int32} {P : Nat → Nat} {L n : Nat} (hN : Z 5 6 = nI n) (hn : n ≤ 60) {key : Int32} : m_r 62 [.ref 4, .int key, .int 0] (hp Z P L) (some (.int (c_node Z n key 0))) (hp Z P L) := by
  refine m_of (ls := [.ref 4, .int key, .int 0, s_no]) hk_62 rfl rfl rfl ?_
  refine e_go hk_62 1 (c := (1, [.ref 4, .int key, .int 0, s_no], [.int key], hp Z P L)) rfl ?_
  refine e_call hk_62 (as := [.int key]) (rest := []) rfl rfl hk_79 rfl (Nat.le_of_ble_eq_true rfl) rfl (x_num (k := key)) ?_
  show e_r 62 4 [.ref 4, .int key, .int 0, s_no] [.int (y_b (y_nm key))] (hp Z P L) _ _
  refine e_go hk_62 1 (c := (if s_cnd .eq (y_b (y_nm key)) 0 = true then 17 else 7, [.ref 4, .int key, .int 0, s_no], [], hp Z P L)) rfl ?_
  refine e_eq (a := 17) (b := 7) (x := y_b (y_nm key)) (y := 0) (fun hc4 => ?_) (fun hc4 => ?_)
  · skip
    rw [y_b0] at hc4
    refine e_go hk_62 1 (c := (19, [.ref 4, .int key, .int 0, s_no], [.int ((-2))], hp Z P L)) rfl ?_
    exact e_ret hk_62 rfl rfl rfl (by rw [c_node, if_neg (by rw [hc4]; decide)]) rfl
  · skip
    rw [y_b1] at hc4
    refine e_go hk_62 2 (c := (if s_cnd .lt 0 0 = true then 17 else 11, [.ref 4, .int key, .int 0, s_no], [], hp Z P L)) rfl ?_
    refine e_lt (a := 17) (b := 11) (x := 0) (y := 0) (fun hc8 => absurd hc8 (by decide)) (fun hc8 => ?_)
    refine e_go hk_62 3 (c := (if s_cnd .le 0 8 = true then 20 else 17, [.ref 4, .int key, .int 0, s_no], [], hp Z P L)) rfl ?_
    refine e_le (a := 20) (b := 17) (x := 0) (y := 8) (fun hc14 => ?_) (fun hc14 => absurd (by decide) hc14)
    refine e_go hk_62 3 (c := (25, [.ref 4, .int key, .int 0, s_no], [.int key, .ref 5], hp Z P L)) rfl ?_
    refine e_call hk_62 (as := [.ref 5, .int key]) (rest := []) rfl rfl hk_31 rfl (Nat.le_of_ble_eq_true rfl) rfl (x_node hN hn) ?_
    show e_r 62 28 [.ref 4, .int key, .int 0, s_no] [.int (y_o (t_nd (Z 9) n key))] (hp Z P L) _ _
    refine e_go hk_62 4 (c := (if s_cnd .ne (y_o (t_nd (Z 9) n key)) ((-6)) = true then 39 else 35, [.ref 4, .int key, .int 0, .int (y_o (t_nd (Z 9) n key))], [], hp Z P L)) rfl ?_
    refine e_ne (a := 39) (b := 35) (x := y_o (t_nd (Z 9) n key)) (y := (-6)) (fun hc32 => ?_) (fun hc32 => ?_)
    · skip
      rw [y_o_none (fun j hj => by have := (t_nd_lt hj).1; omega)] at hc32
      refine e_go hk_62 3 (c := (42, [.ref 4, .int key, .int 0, .int (y_o (t_nd (Z 9) n key))], [.int 0, .int (y_o (t_nd (Z 9) n key)), .ref 4], hp Z P L)) rfl ?_
      obtain ⟨j, hj⟩ := Option.ne_none_iff_exists'.mp hc32
      have hjn := (fun z => (t_nd_lt z).1) hj
      rw [hj]
      refine e_call hk_62 (as := [.ref 4, .int (nI j), .int 0]) (rest := []) rfl rfl hk_82 rfl (Nat.le_of_ble_eq_true rfl) rfl (x_abt0 hN hn hjn) ?_
      show e_r 62 45 [.ref 4, .int key, .int 0, .int (nI j)] [.int (c_abt Z n j 0)] (hp Z P L) _ _
      exact e_ret hk_62 rfl rfl rfl (by rw [c_node, if_pos hc4, hj]) rfl
    · skip
      rw [y_o_none (fun j hj => by have := (t_nd_lt hj).1; omega)] at hc32
      refine e_go hk_62 2 (c := (45, [.ref 4, .int key, .int 0, .int (y_o (t_nd (Z 9) n key))], [.int ((-1))], hp Z P L)) rfl ?_
      exact e_ret hk_62 rfl rfl rfl (by rw [c_node, if_pos hc4, hc32]) rfl
theorem x_cnode1 {Z : Nat → Nat → Int32} {P : Nat → Nat} {L n : Nat} (hN : Z 5 6 = nI n) (hn : n ≤ 60) {key : Int32} : m_r 62 [.ref 4, .int key, .int 1] (hp Z P L) (some (.int (c_node Z n key 1))) (hp Z P L) := by
  refine m_of (ls := [.ref 4, .int key, .int 1, s_no]) hk_62 rfl rfl rfl ?_
  refine e_go hk_62 1 (c := (1, [.ref 4, .int key, .int 1, s_no], [.int key], hp Z P L)) rfl ?_
  refine e_call hk_62 (as := [.int key]) (rest := []) rfl rfl hk_79 rfl (Nat.le_of_ble_eq_true rfl) rfl (x_num (k := key)) ?_
  show e_r 62 4 [.ref 4, .int key, .int 1, s_no] [.int (y_b (y_nm key))] (hp Z P L) _ _
  refine e_go hk_62 1 (c := (if s_cnd .eq (y_b (y_nm key)) 0 = true then 17 else 7, [.ref 4, .int key, .int 1, s_no], [], hp Z P L)) rfl ?_
  refine e_eq (a := 17) (b := 7) (x := y_b (y_nm key)) (y := 0) (fun hc4 => ?_) (fun hc4 => ?_)
  · skip
    rw [y_b0] at hc4
    refine e_go hk_62 1 (c := (19, [.ref 4, .int key, .int 1, s_no], [.int ((-2))], hp Z P L)) rfl ?_
    exact e_ret hk_62 rfl rfl rfl (by rw [c_node, if_neg (by rw [hc4]; decide)]) rfl
  · skip
    rw [y_b1] at hc4
    refine e_go hk_62 2 (c := (if s_cnd .lt 1 0 = true then 17 else 11, [.ref 4, .int key, .int 1, s_no], [], hp Z P L)) rfl ?_
    refine e_lt (a := 17) (b := 11) (x := 1) (y := 0) (fun hc8 => absurd hc8 (by decide)) (fun hc8 => ?_)
    refine e_go hk_62 3 (c := (if s_cnd .le 1 8 = true then 20 else 17, [.ref 4, .int key, .int 1, s_no], [], hp Z P L)) rfl ?_
    refine e_le (a := 20) (b := 17) (x := 1) (y := 8) (fun hc14 => ?_) (fun hc14 => absurd (by decide) hc14)
    refine e_go hk_62 3 (c := (25, [.ref 4, .int key, .int 1, s_no], [.int key, .ref 5], hp Z P L)) rfl ?_
    refine e_call hk_62 (as := [.ref 5, .int key]) (rest := []) rfl rfl hk_31 rfl (Nat.le_of_ble_eq_true rfl) rfl (x_node hN hn) ?_
    show e_r 62 28 [.ref 4, .int key, .int 1, s_no] [.int (y_o (t_nd (Z 9) n key))] (hp Z P L) _ _
    refine e_go hk_62 4 (c := (if s_cnd .ne (y_o (t_nd (Z 9) n key)) ((-6)) = true then 39 else 35, [.ref 4, .int key, .int 1, .int (y_o (t_nd (Z 9) n key))], [], hp Z P L)) rfl ?_
    refine e_ne (a := 39) (b := 35) (x := y_o (t_nd (Z 9) n key)) (y := (-6)) (fun hc32 => ?_) (fun hc32 => ?_)
    · skip
      rw [y_o_none (fun j hj => by have := (t_nd_lt hj).1; omega)] at hc32
      refine e_go hk_62 3 (c := (42, [.ref 4, .int key, .int 1, .int (y_o (t_nd (Z 9) n key))], [.int 1, .int (y_o (t_nd (Z 9) n key)), .ref 4], hp Z P L)) rfl ?_
      obtain ⟨j, hj⟩ := Option.ne_none_iff_exists'.mp hc32
      have hjn := (fun z => (t_nd_lt z).1) hj
      rw [hj]
      refine e_call hk_62 (as := [.ref 4, .int (nI j), .int 1]) (rest := []) rfl rfl hk_82 rfl (Nat.le_of_ble_eq_true rfl) rfl (x_abt1 hN hn hjn) ?_
      show e_r 62 45 [.ref 4, .int key, .int 1, .int (nI j)] [.int (c_abt Z n j 1)] (hp Z P L) _ _
      exact e_ret hk_62 rfl rfl rfl (by rw [c_node, if_pos hc4, hj]) rfl
    · skip
      rw [y_o_none (fun j hj => by have := (t_nd_lt hj).1; omega)] at hc32
      refine e_go hk_62 2 (c := (45, [.ref 4, .int key, .int 1, .int (y_o (t_nd (Z 9) n key))], [.int ((-1))], hp Z P L)) rfl ?_
      exact e_ret hk_62 rfl rfl rfl (by rw [c_node, if_pos hc4, hc32]) rfl
theorem x_cnode2 {Z : Nat → Nat → Int32} {P : Nat → Nat} {L n : Nat} (hN : Z 5 6 = nI n) (hn : n ≤ 60) {key : Int32} : m_r 62 [.ref 4, .int key, .int 2] (hp Z P L) (some (.int (c_node Z n key 2))) (hp Z P L) := by
  refine m_of (ls := [.ref 4, .int key, .int 2, s_no]) hk_62 rfl rfl rfl ?_
  refine e_go hk_62 1 (c := (1, [.ref 4, .int key, .int 2, s_no], [.int key], hp Z P L)) rfl ?_
  refine e_call hk_62 (as := [.int key]) (rest := []) rfl rfl hk_79 rfl (Nat.le_of_ble_eq_true rfl) rfl (x_num (k := key)) ?_
  show e_r 62 4 [.ref 4, .int key, .int 2, s_no] [.int (y_b (y_nm key))] (hp Z P L) _ _
  refine e_go hk_62 1 (c := (if s_cnd .eq (y_b (y_nm key)) 0 = true then 17 else 7, [.ref 4, .int key, .int 2, s_no], [], hp Z P L)) rfl ?_
  refine e_eq (a := 17) (b := 7) (x := y_b (y_nm key)) (y := 0) (fun hc4 => ?_) (fun hc4 => ?_)
  · skip
    rw [y_b0] at hc4
    refine e_go hk_62 1 (c := (19, [.ref 4, .int key, .int 2, s_no], [.int ((-2))], hp Z P L)) rfl ?_
    exact e_ret hk_62 rfl rfl rfl (by rw [c_node, if_neg (by rw [hc4]; decide)]) rfl
  · skip
    rw [y_b1] at hc4
    refine e_go hk_62 2 (c := (if s_cnd .lt 2 0 = true then 17 else 11, [.ref 4, .int key, .int 2, s_no], [], hp Z P L)) rfl ?_
    refine e_lt (a := 17) (b := 11) (x := 2) (y := 0) (fun hc8 => absurd hc8 (by decide)) (fun hc8 => ?_)
    refine e_go hk_62 3 (c := (if s_cnd .le 2 8 = true then 20 else 17, [.ref 4, .int key, .int 2, s_no], [], hp Z P L)) rfl ?_
    refine e_le (a := 20) (b := 17) (x := 2) (y := 8) (fun hc14 => ?_) (fun hc14 => absurd (by decide) hc14)
    refine e_go hk_62 3 (c := (25, [.ref 4, .int key, .int 2, s_no], [.int key, .ref 5], hp Z P L)) rfl ?_
    refine e_call hk_62 (as := [.ref 5, .int key]) (rest := []) rfl rfl hk_31 rfl (Nat.le_of_ble_eq_true rfl) rfl (x_node hN hn) ?_
    show e_r 62 28 [.ref 4, .int key, .int 2, s_no] [.int (y_o (t_nd (Z 9) n key))] (hp Z P L) _ _
    refine e_go hk_62 4 (c := (if s_cnd .ne (y_o (t_nd (Z 9) n key)) ((-6)) = true then 39 else 35, [.ref 4, .int key, .int 2, .int (y_o (t_nd (Z 9) n key))], [], hp Z P L)) rfl ?_
    refine e_ne (a := 39) (b := 35) (x := y_o (t_nd (Z 9) n key)) (y := (-6)) (fun hc32 => ?_) (fun hc32 => ?_)
    · skip
      rw [y_o_none (fun j hj => by have := (t_nd_lt hj).1; omega)] at hc32
      refine e_go hk_62 3 (c := (42, [.ref 4, .int key, .int 2, .int (y_o (t_nd (Z 9) n key))], [.int 2, .int (y_o (t_nd (Z 9) n key)), .ref 4], hp Z P L)) rfl ?_
      obtain ⟨j, hj⟩ := Option.ne_none_iff_exists'.mp hc32
      have hjn := (fun z => (t_nd_lt z).1) hj
      rw [hj]
      refine e_call hk_62 (as := [.ref 4, .int (nI j), .int 2]) (rest := []) rfl rfl hk_82 rfl (Nat.le_of_ble_eq_true rfl) rfl (x_abt2 hN hn hjn) ?_
      show e_r 62 45 [.ref 4, .int key, .int 2, .int (nI j)] [.int (c_abt Z n j 2)] (hp Z P L) _ _
      exact e_ret hk_62 rfl rfl rfl (by rw [c_node, if_pos hc4, hj]) rfl
    · skip
      rw [y_o_none (fun j hj => by have := (t_nd_lt hj).1; omega)] at hc32
      refine e_go hk_62 2 (c := (45, [.ref 4, .int key, .int 2, .int (y_o (t_nd (Z 9) n key))], [.int ((-1))], hp Z P L)) rfl ?_
      exact e_ret hk_62 rfl rfl rfl (by rw [c_node, if_pos hc4, hc32]) rfl
theorem x_cnode3 {Z : Nat → Nat → Int32} {P : Nat → Nat} {L n : Nat} (hN : Z 5 6 = nI n) (hn : n ≤ 60) {key : Int32} : m_r 62 [.ref 4, .int key, .int 3] (hp Z P L) (some (.int (c_node Z n key 3))) (hp Z P L) := by
  refine m_of (ls := [.ref 4, .int key, .int 3, s_no]) hk_62 rfl rfl rfl ?_
  refine e_go hk_62 1 (c := (1, [.ref 4, .int key, .int 3, s_no], [.int key], hp Z P L)) rfl ?_
  refine e_call hk_62 (as := [.int key]) (rest := []) rfl rfl hk_79 rfl (Nat.le_of_ble_eq_true rfl) rfl (x_num (k := key)) ?_
  show e_r 62 4 [.ref 4, .int key, .int 3, s_no] [.int (y_b (y_nm key))] (hp Z P L) _ _
  refine e_go hk_62 1 (c := (if s_cnd .eq (y_b (y_nm key)) 0 = true then 17 else 7, [.ref 4, .int key, .int 3, s_no], [], hp Z P L)) rfl ?_
  refine e_eq (a := 17) (b := 7) (x := y_b (y_nm key)) (y := 0) (fun hc4 => ?_) (fun hc4 => ?_)
  · skip
    rw [y_b0] at hc4
    refine e_go hk_62 1 (c := (19, [.ref 4, .int key, .int 3, s_no], [.int ((-2))], hp Z P L)) rfl ?_
    exact e_ret hk_62 rfl rfl rfl (by rw [c_node, if_neg (by rw [hc4]; decide)]) rfl
  · skip
    rw [y_b1] at hc4
    refine e_go hk_62 2 (c := (if s_cnd .lt 3 0 = true then 17 else 11, [.ref 4, .int key, .int 3, s_no], [], hp Z P L)) rfl ?_
    refine e_lt (a := 17) (b := 11) (x := 3) (y := 0) (fun hc8 => absurd hc8 (by decide)) (fun hc8 => ?_)
    refine e_go hk_62 3 (c := (if s_cnd .le 3 8 = true then 20 else 17, [.ref 4, .int key, .int 3, s_no], [], hp Z P L)) rfl ?_
    refine e_le (a := 20) (b := 17) (x := 3) (y := 8) (fun hc14 => ?_) (fun hc14 => absurd (by decide) hc14)
    refine e_go hk_62 3 (c := (25, [.ref 4, .int key, .int 3, s_no], [.int key, .ref 5], hp Z P L)) rfl ?_
    refine e_call hk_62 (as := [.ref 5, .int key]) (rest := []) rfl rfl hk_31 rfl (Nat.le_of_ble_eq_true rfl) rfl (x_node hN hn) ?_
    show e_r 62 28 [.ref 4, .int key, .int 3, s_no] [.int (y_o (t_nd (Z 9) n key))] (hp Z P L) _ _
    refine e_go hk_62 4 (c := (if s_cnd .ne (y_o (t_nd (Z 9) n key)) ((-6)) = true then 39 else 35, [.ref 4, .int key, .int 3, .int (y_o (t_nd (Z 9) n key))], [], hp Z P L)) rfl ?_
    refine e_ne (a := 39) (b := 35) (x := y_o (t_nd (Z 9) n key)) (y := (-6)) (fun hc32 => ?_) (fun hc32 => ?_)
    · skip
      rw [y_o_none (fun j hj => by have := (t_nd_lt hj).1; omega)] at hc32
      refine e_go hk_62 3 (c := (42, [.ref 4, .int key, .int 3, .int (y_o (t_nd (Z 9) n key))], [.int 3, .int (y_o (t_nd (Z 9) n key)), .ref 4], hp Z P L)) rfl ?_
      obtain ⟨j, hj⟩ := Option.ne_none_iff_exists'.mp hc32
      have hjn := (fun z => (t_nd_lt z).1) hj
      rw [hj]
      refine e_call hk_62 (as := [.ref 4, .int (nI j), .int 3]) (rest := []) rfl rfl hk_82 rfl (Nat.le_of_ble_eq_true rfl) rfl (x_abt3 hN hn hjn) ?_
      show e_r 62 45 [.ref 4, .int key, .int 3, .int (nI j)] [.int (c_abt Z n j 3)] (hp Z P L) _ _
      exact e_ret hk_62 rfl rfl rfl (by rw [c_node, if_pos hc4, hj]) rfl
    · skip
      rw [y_o_none (fun j hj => by have := (t_nd_lt hj).1; omega)] at hc32
      refine e_go hk_62 2 (c := (45, [.ref 4, .int key, .int 3, .int (y_o (t_nd (Z 9) n key))], [.int ((-1))], hp Z P L)) rfl ?_
      exact e_ret hk_62 rfl rfl rfl (by rw [c_node, if_pos hc4, hc32]) rfl
theorem x_cnode4 {Z : Nat → Nat → Int32} {P : Nat → Nat} {L n : Nat} (hN : Z 5 6 = nI n) (hn : n ≤ 60) {key : Int32} : m_r 62 [.ref 4, .int key, .int 4] (hp Z P L) (some (.int (c_node Z n key 4))) (hp Z P L) := by
  refine m_of (ls := [.ref 4, .int key, .int 4, s_no]) hk_62 rfl rfl rfl ?_
  refine e_go hk_62 1 (c := (1, [.ref 4, .int key, .int 4, s_no], [.int key], hp Z P L)) rfl ?_
  refine e_call hk_62 (as := [.int key]) (rest := []) rfl rfl hk_79 rfl (Nat.le_of_ble_eq_true rfl) rfl (x_num (k := key)) ?_
  show e_r 62 4 [.ref 4, .int key, .int 4, s_no] [.int (y_b (y_nm key))] (hp Z P L) _ _
  refine e_go hk_62 1 (c := (if s_cnd .eq (y_b (y_nm key)) 0 = true then 17 else 7, [.ref 4, .int key, .int 4, s_no], [], hp Z P L)) rfl ?_
  refine e_eq (a := 17) (b := 7) (x := y_b (y_nm key)) (y := 0) (fun hc4 => ?_) (fun hc4 => ?_)
  · skip
    rw [y_b0] at hc4
    refine e_go hk_62 1 (c := (19, [.ref 4, .int key, .int 4, s_no], [.int ((-2))], hp Z P L)) rfl ?_
    exact e_ret hk_62 rfl rfl rfl (by rw [c_node, if_neg (by rw [hc4]; decide)]) rfl
  · skip
    rw [y_b1] at hc4
    refine e_go hk_62 2 (c := (if s_cnd .lt 4 0 = true then 17 else 11, [.ref 4, .int key, .int 4, s_no], [], hp Z P L)) rfl ?_
    refine e_lt (a := 17) (b := 11) (x := 4) (y := 0) (fun hc8 => absurd hc8 (by decide)) (fun hc8 => ?_)
    refine e_go hk_62 3 (c := (if s_cnd .le 4 8 = true then 20 else 17, [.ref 4, .int key, .int 4, s_no], [], hp Z P L)) rfl ?_
    refine e_le (a := 20) (b := 17) (x := 4) (y := 8) (fun hc14 => ?_) (fun hc14 => absurd (by decide) hc14)
    refine e_go hk_62 3 (c := (25, [.ref 4, .int key, .int 4, s_no], [.int key, .ref 5], hp Z P L)) rfl ?_
    refine e_call hk_62 (as := [.ref 5, .int key]) (rest := []) rfl rfl hk_31 rfl (Nat.le_of_ble_eq_true rfl) rfl (x_node hN hn) ?_
    show e_r 62 28 [.ref 4, .int key, .int 4, s_no] [.int (y_o (t_nd (Z 9) n key))] (hp Z P L) _ _
    refine e_go hk_62 4 (c := (if s_cnd .ne (y_o (t_nd (Z 9) n key)) ((-6)) = true then 39 else 35, [.ref 4, .int key, .int 4, .int (y_o (t_nd (Z 9) n key))], [], hp Z P L)) rfl ?_
    refine e_ne (a := 39) (b := 35) (x := y_o (t_nd (Z 9) n key)) (y := (-6)) (fun hc32 => ?_) (fun hc32 => ?_)
    · skip
      rw [y_o_none (fun j hj => by have := (t_nd_lt hj).1; omega)] at hc32
      refine e_go hk_62 3 (c := (42, [.ref 4, .int key, .int 4, .int (y_o (t_nd (Z 9) n key))], [.int 4, .int (y_o (t_nd (Z 9) n key)), .ref 4], hp Z P L)) rfl ?_
      obtain ⟨j, hj⟩ := Option.ne_none_iff_exists'.mp hc32
      have hjn := (fun z => (t_nd_lt z).1) hj
      rw [hj]
      refine e_call hk_62 (as := [.ref 4, .int (nI j), .int 4]) (rest := []) rfl rfl hk_82 rfl (Nat.le_of_ble_eq_true rfl) rfl (x_abt4 hN hn hjn) ?_
      show e_r 62 45 [.ref 4, .int key, .int 4, .int (nI j)] [.int (c_abt Z n j 4)] (hp Z P L) _ _
      exact e_ret hk_62 rfl rfl rfl (by rw [c_node, if_pos hc4, hj]) rfl
    · skip
      rw [y_o_none (fun j hj => by have := (t_nd_lt hj).1; omega)] at hc32
      refine e_go hk_62 2 (c := (45, [.ref 4, .int key, .int 4, .int (y_o (t_nd (Z 9) n key))], [.int ((-1))], hp Z P L)) rfl ?_
      exact e_ret hk_62 rfl rfl rfl (by rw [c_node, if_pos hc4, hc32]) rfl
theorem x_cnode5 {Z : Nat → Nat → Int32} {P : Nat → Nat} {L n : Nat} (hN : Z 5 6 = nI n) (hn : n ≤ 60) {key : Int32} : m_r 62 [.ref 4, .int key, .int 5] (hp Z P L) (some (.int (c_node Z n key 5))) (hp Z P L) := by
  refine m_of (ls := [.ref 4, .int key, .int 5, s_no]) hk_62 rfl rfl rfl ?_
  refine e_go hk_62 1 (c := (1, [.ref 4, .int key, .int 5, s_no], [.int key], hp Z P L)) rfl ?_
  refine e_call hk_62 (as := [.int key]) (rest := []) rfl rfl hk_79 rfl (Nat.le_of_ble_eq_true rfl) rfl (x_num (k := key)) ?_
  show e_r 62 4 [.ref 4, .int key, .int 5, s_no] [.int (y_b (y_nm key))] (hp Z P L) _ _
  refine e_go hk_62 1 (c := (if s_cnd .eq (y_b (y_nm key)) 0 = true then 17 else 7, [.ref 4, .int key, .int 5, s_no], [], hp Z P L)) rfl ?_
  refine e_eq (a := 17) (b := 7) (x := y_b (y_nm key)) (y := 0) (fun hc4 => ?_) (fun hc4 => ?_)
  · skip
    rw [y_b0] at hc4
    refine e_go hk_62 1 (c := (19, [.ref 4, .int key, .int 5, s_no], [.int ((-2))], hp Z P L)) rfl ?_
    exact e_ret hk_62 rfl rfl rfl (by rw [c_node, if_neg (by rw [hc4]; decide)]) rfl
  · skip
    rw [y_b1] at hc4
    refine e_go hk_62 2 (c := (if s_cnd .lt 5 0 = true then 17 else 11, [.ref 4, .int key, .int 5, s_no], [], hp Z P L)) rfl ?_
    refine e_lt (a := 17) (b := 11) (x := 5) (y := 0) (fun hc8 => absurd hc8 (by decide)) (fun hc8 => ?_)
    refine e_go hk_62 3 (c := (if s_cnd .le 5 8 = true then 20 else 17, [.ref 4, .int key, .int 5, s_no], [], hp Z P L)) rfl ?_
    refine e_le (a := 20) (b := 17) (x := 5) (y := 8) (fun hc14 => ?_) (fun hc14 => absurd (by decide) hc14)
    refine e_go hk_62 3 (c := (25, [.ref 4, .int key, .int 5, s_no], [.int key, .ref 5], hp Z P L)) rfl ?_
    refine e_call hk_62 (as := [.ref 5, .int key]) (rest := []) rfl rfl hk_31 rfl (Nat.le_of_ble_eq_true rfl) rfl (x_node hN hn) ?_
    show e_r 62 28 [.ref 4, .int key, .int 5, s_no] [.int (y_o (t_nd (Z 9) n key))] (hp Z P L) _ _
    refine e_go hk_62 4 (c := (if s_cnd .ne (y_o (t_nd (Z 9) n key)) ((-6)) = true then 39 else 35, [.ref 4, .int key, .int 5, .int (y_o (t_nd (Z 9) n key))], [], hp Z P L)) rfl ?_
    refine e_ne (a := 39) (b := 35) (x := y_o (t_nd (Z 9) n key)) (y := (-6)) (fun hc32 => ?_) (fun hc32 => ?_)
    · skip
      rw [y_o_none (fun j hj => by have := (t_nd_lt hj).1; omega)] at hc32
      refine e_go hk_62 3 (c := (42, [.ref 4, .int key, .int 5, .int (y_o (t_nd (Z 9) n key))], [.int 5, .int (y_o (t_nd (Z 9) n key)), .ref 4], hp Z P L)) rfl ?_
      obtain ⟨j, hj⟩ := Option.ne_none_iff_exists'.mp hc32
      have hjn := (fun z => (t_nd_lt z).1) hj
      rw [hj]
      refine e_call hk_62 (as := [.ref 4, .int (nI j), .int 5]) (rest := []) rfl rfl hk_82 rfl (Nat.le_of_ble_eq_true rfl) rfl (x_abt5 hN hn hjn) ?_
      show e_r 62 45 [.ref 4, .int key, .int 5, .int (nI j)] [.int (c_abt Z n j 5)] (hp Z P L) _ _
      exact e_ret hk_62 rfl rfl rfl (by rw [c_node, if_pos hc4, hj]) rfl
    · skip
      rw [y_o_none (fun j hj => by have := (t_nd_lt hj).1; omega)] at hc32
      refine e_go hk_62 2 (c := (45, [.ref 4, .int key, .int 5, .int (y_o (t_nd (Z 9) n key))], [.int ((-1))], hp Z P L)) rfl ?_
      exact e_ret hk_62 rfl rfl rfl (by rw [c_node, if_pos hc4, hc32]) rfl
theorem x_cnode6 {Z : Nat → Nat → Int32} {P : Nat → Nat} {L n : Nat} (hN : Z 5 6 = nI n) (hn : n ≤ 60) {key : Int32} : m_r 62 [.ref 4, .int key, .int 6] (hp Z P L) (some (.int (c_node Z n key 6))) (hp Z P L) := by
  refine m_of (ls := [.ref 4, .int key, .int 6, s_no]) hk_62 rfl rfl rfl ?_
  refine e_go hk_62 1 (c := (1, [.ref 4, .int key, .int 6, s_no], [.int key], hp Z P L)) rfl ?_
  refine e_call hk_62 (as := [.int key]) (rest := []) rfl rfl hk_79 rfl (Nat.le_of_ble_eq_true rfl) rfl (x_num (k := key)) ?_
  show e_r 62 4 [.ref 4, .int key, .int 6, s_no] [.int (y_b (y_nm key))] (hp Z P L) _ _
  refine e_go hk_62 1 (c := (if s_cnd .eq (y_b (y_nm key)) 0 = true then 17 else 7, [.ref 4, .int key, .int 6, s_no], [], hp Z P L)) rfl ?_
  refine e_eq (a := 17) (b := 7) (x := y_b (y_nm key)) (y := 0) (fun hc4 => ?_) (fun hc4 => ?_)
  · skip
    rw [y_b0] at hc4
    refine e_go hk_62 1 (c := (19, [.ref 4, .int key, .int 6, s_no], [.int ((-2))], hp Z P L)) rfl ?_
    exact e_ret hk_62 rfl rfl rfl (by rw [c_node, if_neg (by rw [hc4]; decide)]) rfl
  · skip
    rw [y_b1] at hc4
    refine e_go hk_62 2 (c := (if s_cnd .lt 6 0 = true then 17 else 11, [.ref 4, .int key, .int 6, s_no], [], hp Z P L)) rfl ?_
    refine e_lt (a := 17) (b := 11) (x := 6) (y := 0) (fun hc8 => absurd hc8 (by decide)) (fun hc8 => ?_)
    refine e_go hk_62 3 (c := (if s_cnd .le 6 8 = true then 20 else 17, [.ref 4, .int key, .int 6, s_no], [], hp Z P L)) rfl ?_
    refine e_le (a := 20) (b := 17) (x := 6) (y := 8) (fun hc14 => ?_) (fun hc14 => absurd (by decide) hc14)
    refine e_go hk_62 3 (c := (25, [.ref 4, .int key, .int 6, s_no], [.int key, .ref 5], hp Z P L)) rfl ?_
    refine e_call hk_62 (as := [.ref 5, .int key]) (rest := []) rfl rfl hk_31 rfl (Nat.le_of_ble_eq_true rfl) rfl (x_node hN hn) ?_
    show e_r 62 28 [.ref 4, .int key, .int 6, s_no] [.int (y_o (t_nd (Z 9) n key))] (hp Z P L) _ _
    refine e_go hk_62 4 (c := (if s_cnd .ne (y_o (t_nd (Z 9) n key)) ((-6)) = true then 39 else 35, [.ref 4, .int key, .int 6, .int (y_o (t_nd (Z 9) n key))], [], hp Z P L)) rfl ?_
    refine e_ne (a := 39) (b := 35) (x := y_o (t_nd (Z 9) n key)) (y := (-6)) (fun hc32 => ?_) (fun hc32 => ?_)
    · skip
      rw [y_o_none (fun j hj => by have := (t_nd_lt hj).1; omega)] at hc32
      refine e_go hk_62 3 (c := (42, [.ref 4, .int key, .int 6, .int (y_o (t_nd (Z 9) n key))], [.int 6, .int (y_o (t_nd (Z 9) n key)), .ref 4], hp Z P L)) rfl ?_
      obtain ⟨j, hj⟩ := Option.ne_none_iff_exists'.mp hc32
      have hjn := (fun z => (t_nd_lt z).1) hj
      rw [hj]
      refine e_call hk_62 (as := [.ref 4, .int (nI j), .int 6]) (rest := []) rfl rfl hk_82 rfl (Nat.le_of_ble_eq_true rfl) rfl (x_abt6 hN hn hjn) ?_
      show e_r 62 45 [.ref 4, .int key, .int 6, .int (nI j)] [.int (c_abt Z n j 6)] (hp Z P L) _ _
      exact e_ret hk_62 rfl rfl rfl (by rw [c_node, if_pos hc4, hj]) rfl
    · skip
      rw [y_o_none (fun j hj => by have := (t_nd_lt hj).1; omega)] at hc32
      refine e_go hk_62 2 (c := (45, [.ref 4, .int key, .int 6, .int (y_o (t_nd (Z 9) n key))], [.int ((-1))], hp Z P L)) rfl ?_
      exact e_ret hk_62 rfl rfl rfl (by rw [c_node, if_pos hc4, hc32]) rfl
theorem x_cnode7 {Z : Nat → Nat → Int32} {P : Nat → Nat} {L n : Nat} (hN : Z 5 6 = nI n) (hn : n ≤ 60) {key : Int32} : m_r 62 [.ref 4, .int key, .int 7] (hp Z P L) (some (.int (c_node Z n key 7))) (hp Z P L) := by
  refine m_of (ls := [.ref 4, .int key, .int 7, s_no]) hk_62 rfl rfl rfl ?_
  refine e_go hk_62 1 (c := (1, [.ref 4, .int key, .int 7, s_no], [.int key], hp Z P L)) rfl ?_
  refine e_call hk_62 (as := [.int key]) (rest := []) rfl rfl hk_79 rfl (Nat.le_of_ble_eq_true rfl) rfl (x_num (k := key)) ?_
  show e_r 62 4 [.ref 4, .int key, .int 7, s_no] [.int (y_b (y_nm key))] (hp Z P L) _ _
  refine e_go hk_62 1 (c := (if s_cnd .eq (y_b (y_nm key)) 0 = true then 17 else 7, [.ref 4, .int key, .int 7, s_no], [], hp Z P L)) rfl ?_
  refine e_eq (a := 17) (b := 7) (x := y_b (y_nm key)) (y := 0) (fun hc4 => ?_) (fun hc4 => ?_)
  · skip
    rw [y_b0] at hc4
    refine e_go hk_62 1 (c := (19, [.ref 4, .int key, .int 7, s_no], [.int ((-2))], hp Z P L)) rfl ?_
    exact e_ret hk_62 rfl rfl rfl (by rw [c_node, if_neg (by rw [hc4]; decide)]) rfl
  · skip
    rw [y_b1] at hc4
    refine e_go hk_62 2 (c := (if s_cnd .lt 7 0 = true then 17 else 11, [.ref 4, .int key, .int 7, s_no], [], hp Z P L)) rfl ?_
    refine e_lt (a := 17) (b := 11) (x := 7) (y := 0) (fun hc8 => absurd hc8 (by decide)) (fun hc8 => ?_)
    refine e_go hk_62 3 (c := (if s_cnd .le 7 8 = true then 20 else 17, [.ref 4, .int key, .int 7, s_no], [], hp Z P L)) rfl ?_
    refine e_le (a := 20) (b := 17) (x := 7) (y := 8) (fun hc14 => ?_) (fun hc14 => absurd (by decide) hc14)
    refine e_go hk_62 3 (c := (25, [.ref 4, .int key, .int 7, s_no], [.int key, .ref 5], hp Z P L)) rfl ?_
    refine e_call hk_62 (as := [.ref 5, .int key]) (rest := []) rfl rfl hk_31 rfl (Nat.le_of_ble_eq_true rfl) rfl (x_node hN hn) ?_
    show e_r 62 28 [.ref 4, .int key, .int 7, s_no] [.int (y_o (t_nd (Z 9) n key))] (hp Z P L) _ _
    refine e_go hk_62 4 (c := (if s_cnd .ne (y_o (t_nd (Z 9) n key)) ((-6)) = true then 39 else 35, [.ref 4, .int key, .int 7, .int (y_o (t_nd (Z 9) n key))], [], hp Z P L)) rfl ?_
    refine e_ne (a := 39) (b := 35) (x := y_o (t_nd (Z 9) n key)) (y := (-6)) (fun hc32 => ?_) (fun hc32 => ?_)
    · skip
      rw [y_o_none (fun j hj => by have := (t_nd_lt hj).1; omega)] at hc32
      refine e_go hk_62 3 (c := (42, [.ref 4, .int key, .int 7, .int (y_o (t_nd (Z 9) n key))], [.int 7, .int (y_o (t_nd (Z 9) n key)), .ref 4], hp Z P L)) rfl ?_
      obtain ⟨j, hj⟩ := Option.ne_none_iff_exists'.mp hc32
      have hjn := (fun z => (t_nd_lt z).1) hj
      rw [hj]
      refine e_call hk_62 (as := [.ref 4, .int (nI j), .int 7]) (rest := []) rfl rfl hk_82 rfl (Nat.le_of_ble_eq_true rfl) rfl (x_abt7 hN hn hjn) ?_
      show e_r 62 45 [.ref 4, .int key, .int 7, .int (nI j)] [.int (c_abt Z n j 7)] (hp Z P L) _ _
      exact e_ret hk_62 rfl rfl rfl (by rw [c_node, if_pos hc4, hj]) rfl
    · skip
      rw [y_o_none (fun j hj => by have := (t_nd_lt hj).1; omega)] at hc32
      refine e_go hk_62 2 (c := (45, [.ref 4, .int key, .int 7, .int (y_o (t_nd (Z 9) n key))], [.int ((-1))], hp Z P L)) rfl ?_
      exact e_ret hk_62 rfl rfl rfl (by rw [c_node, if_pos hc4, hc32]) rfl
theorem x_cnode8 {Z : Nat → Nat → Int32} {P : Nat → Nat} {L n : Nat} (hN : Z 5 6 = nI n) (hn : n ≤ 60) {key : Int32} : m_r 62 [.ref 4, .int key, .int 8] (hp Z P L) (some (.int (c_node Z n key 8))) (hp Z P L) := by
  refine m_of (ls := [.ref 4, .int key, .int 8, s_no]) hk_62 rfl rfl rfl ?_
  refine e_go hk_62 1 (c := (1, [.ref 4, .int key, .int 8, s_no], [.int key], hp Z P L)) rfl ?_
  refine e_call hk_62 (as := [.int key]) (rest := []) rfl rfl hk_79 rfl (Nat.le_of_ble_eq_true rfl) rfl (x_num (k := key)) ?_
  show e_r 62 4 [.ref 4, .int key, .int 8, s_no] [.int (y_b (y_nm key))] (hp Z P L) _ _
  refine e_go hk_62 1 (c := (if s_cnd .eq (y_b (y_nm key)) 0 = true then 17 else 7, [.ref 4, .int key, .int 8, s_no], [], hp Z P L)) rfl ?_
  refine e_eq (a := 17) (b := 7) (x := y_b (y_nm key)) (y := 0) (fun hc4 => ?_) (fun hc4 => ?_)
  · skip
    rw [y_b0] at hc4
    refine e_go hk_62 1 (c := (19, [.ref 4, .int key, .int 8, s_no], [.int ((-2))], hp Z P L)) rfl ?_
    exact e_ret hk_62 rfl rfl rfl (by rw [c_node, if_neg (by rw [hc4]; decide)]) rfl
  · skip
    rw [y_b1] at hc4
    refine e_go hk_62 2 (c := (if s_cnd .lt 8 0 = true then 17 else 11, [.ref 4, .int key, .int 8, s_no], [], hp Z P L)) rfl ?_
    refine e_lt (a := 17) (b := 11) (x := 8) (y := 0) (fun hc8 => absurd hc8 (by decide)) (fun hc8 => ?_)
    refine e_go hk_62 3 (c := (if s_cnd .le 8 8 = true then 20 else 17, [.ref 4, .int key, .int 8, s_no], [], hp Z P L)) rfl ?_
    refine e_le (a := 20) (b := 17) (x := 8) (y := 8) (fun hc14 => ?_) (fun hc14 => absurd (by decide) hc14)
    refine e_go hk_62 3 (c := (25, [.ref 4, .int key, .int 8, s_no], [.int key, .ref 5], hp Z P L)) rfl ?_
    refine e_call hk_62 (as := [.ref 5, .int key]) (rest := []) rfl rfl hk_31 rfl (Nat.le_of_ble_eq_true rfl) rfl (x_node hN hn) ?_
    show e_r 62 28 [.ref 4, .int key, .int 8, s_no] [.int (y_o (t_nd (Z 9) n key))] (hp Z P L) _ _
    refine e_go hk_62 4 (c := (if s_cnd .ne (y_o (t_nd (Z 9) n key)) ((-6)) = true then 39 else 35, [.ref 4, .int key, .int 8, .int (y_o (t_nd (Z 9) n key))], [], hp Z P L)) rfl ?_
    refine e_ne (a := 39) (b := 35) (x := y_o (t_nd (Z 9) n key)) (y := (-6)) (fun hc32 => ?_) (fun hc32 => ?_)
    · skip
      rw [y_o_none (fun j hj => by have := (t_nd_lt hj).1; omega)] at hc32
      refine e_go hk_62 3 (c := (42, [.ref 4, .int key, .int 8, .int (y_o (t_nd (Z 9) n key))], [.int 8, .int (y_o (t_nd (Z 9) n key)), .ref 4], hp Z P L)) rfl ?_
      obtain ⟨j, hj⟩ := Option.ne_none_iff_exists'.mp hc32
      have hjn := (fun z => (t_nd_lt z).1) hj
      rw [hj]
      refine e_call hk_62 (as := [.ref 4, .int (nI j), .int 8]) (rest := []) rfl rfl hk_82 rfl (Nat.le_of_ble_eq_true rfl) rfl (x_abt8 hN hn hjn) ?_
      show e_r 62 45 [.ref 4, .int key, .int 8, .int (nI j)] [.int (c_abt Z n j 8)] (hp Z P L) _ _
      exact e_ret hk_62 rfl rfl rfl (by rw [c_node, if_pos hc4, hj]) rfl
    · skip
      rw [y_o_none (fun j hj => by have := (t_nd_lt hj).1; omega)] at hc32
      refine e_go hk_62 2 (c := (45, [.ref 4, .int key, .int 8, .int (y_o (t_nd (Z 9) n key))], [.int ((-1))], hp Z P L)) rfl ?_
      exact e_ret hk_62 rfl rfl rfl (by rw [c_node, if_pos hc4, hc32]) rfl
theorem x_cnode_no {Z : Nat → Nat → Int32} {P : Nat → Nat} {L : Nat} {key k : Int32} (hk : k < 0 ∨ 8 < k) : m_r 62 [.ref 4, .int key, .int k] (hp Z P L) (some (.int (-2))) (hp Z P L) := by
  refine m_of (ls := [.ref 4, .int key, .int k, s_no]) hk_62 rfl rfl rfl ?_
  refine e_go hk_62 1 (c := (1, [.ref 4, .int key, .int k, s_no], [.int key], hp Z P L)) rfl ?_
  refine e_call hk_62 (as := [.int key]) (rest := []) rfl rfl hk_79 rfl (Nat.le_of_ble_eq_true rfl) rfl (x_num (k := key)) ?_
  show e_r 62 4 [.ref 4, .int key, .int k, s_no] [.int (y_b (y_nm key))] (hp Z P L) _ _
  refine e_go hk_62 1 (c := (if s_cnd .eq (y_b (y_nm key)) 0 = true then 17 else 7, [.ref 4, .int key, .int k, s_no], [], hp Z P L)) rfl ?_
  refine e_eq (a := 17) (b := 7) (x := y_b (y_nm key)) (y := 0) (fun hc4 => ?_) (fun hc4 => ?_)
  · skip
    refine e_go hk_62 1 (c := (19, [.ref 4, .int key, .int k, s_no], [.int ((-2))], hp Z P L)) rfl ?_
    exact e_ret hk_62 rfl rfl rfl rfl rfl
  · skip
    refine e_go hk_62 2 (c := (if s_cnd .lt k 0 = true then 17 else 11, [.ref 4, .int key, .int k, s_no], [], hp Z P L)) rfl ?_
    refine e_lt (a := 17) (b := 11) (x := k) (y := 0) (fun hc8 => ?_) (fun hc8 => ?_)
    · skip
      refine e_go hk_62 1 (c := (19, [.ref 4, .int key, .int k, s_no], [.int ((-2))], hp Z P L)) rfl ?_
      exact e_ret hk_62 rfl rfl rfl rfl rfl
    · skip
      have h3 : 8 < k := hk.elim (fun z => absurd z hc8) id
      refine e_go hk_62 3 (c := (if s_cnd .le k 8 = true then 20 else 17, [.ref 4, .int key, .int k, s_no], [], hp Z P L)) rfl ?_
      refine e_le (a := 20) (b := 17) (x := k) (y := 8) (fun hc14 => absurd hc14 (Int32.not_le.mpr h3)) (fun hc14 => ?_)
      refine e_go hk_62 1 (c := (19, [.ref 4, .int key, .int k, s_no], [.int ((-2))], hp Z P L)) rfl ?_
      exact e_ret hk_62 rfl rfl rfl rfl rfl
