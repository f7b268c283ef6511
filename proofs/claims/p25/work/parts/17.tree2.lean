/-! Tree: ways, moves, laying anew; printed by wip/whole/gen/tree2.py -/
theorem t_wl_s {D : Nat → Int32} {lean : Int32} {p k d l u : Nat} (h : ¬ u ≤ l) : t_wl D lean p (k + 1) d l u = if p ≤ t_tp D (nI d) l (u - 1 - l) then (if y_th lean (nI (t_tp D (nI d) l (u - 1 - l)) - nI l + 1) (nI (u - 1) - nI (t_tp D (nI d) l (u - 1 - l))) = true then some (t_tp D (nI d) l (u - 1 - l)) else t_wl D lean p k (d + 1) l (t_tp D (nI d) l (u - 1 - l)))
    else (if y_th lean (nI (t_tp D (nI d) l (u - 1 - l)) - nI l) (nI (u - 1) - nI (t_tp D (nI d) l (u - 1 - l)) + 1) = true then some (t_tp D (nI d) l (u - 1 - l)) else t_wl D lean p k (d + 1) (t_tp D (nI d) l (u - 1 - l) + 1) u) := by
  rw [t_wl, if_neg h]
theorem x_would_l {Z : Nat → Nat → Int32} {P : Nat → Nat} {L : Nat} {p : Nat} (hp0 : p ≤ 60) : ∀ (k d l u : Nat) (y5 y6 y7 : Value), d + k = 60 → u ≤ 60 →  l ≤ 60 → e_r 43 12 [.ref 5, .int (nI p), .int (nI l), .int (nI u - 1), .int (nI d), y5, y6, y7] [] (hp Z P L) (some (.int (y_o (t_wl (Z 15) (Z 7 0) p k d l u)))) (hp Z P L)
  | 0, d, l, u, y5, y6, y7, hd, hu, hl => by
    refine e_go hk_43 3 (c := (if s_cnd .ge (nI d) 60 = true then 91 else 19, [.ref 5, .int (nI p), .int (nI l), .int (nI u - 1), .int (nI d), y5, y6, y7], [], hp Z P L)) rfl ?_
    refine e_ge (a := 91) (b := 19) (x := nI d) (y := 60) (fun hc16 => ?_) (fun hc16 => absurd (by rw [show (60 : Int32) = nI 60 from rfl]; exact (y_le (by omega) (by omega)).mpr (by omega)) hc16)
    refine e_go hk_43 1 (c := (93, [.ref 5, .int (nI p), .int (nI l), .int (nI u - 1), .int (nI d), y5, y6, y7], [.int ((-6))], hp Z P L)) rfl ?_
    exact e_ret hk_43 rfl rfl rfl rfl rfl
  | k + 1, d, l, u, y5, y6, y7, hd, hu, hl => by
    refine e_go hk_43 3 (c := (if s_cnd .ge (nI d) 60 = true then 91 else 19, [.ref 5, .int (nI p), .int (nI l), .int (nI u - 1), .int (nI d), y5, y6, y7], [], hp Z P L)) rfl ?_
    refine e_ge (a := 91) (b := 19) (x := nI d) (y := 60) (fun hc16 => absurd hc16 (by rw [show (60 : Int32) = nI 60 from rfl]; exact nI_ge (by omega) (by omega))) (fun hc16 => ?_)
    refine e_go hk_43 3 (c := (if s_cnd .gt (nI l) (nI u - 1) = true then 91 else 24, [.ref 5, .int (nI p), .int (nI l), .int (nI u - 1), .int (nI d), y5, y6, y7], [], hp Z P L)) rfl ?_
    refine e_gt (a := 91) (b := 24) (x := nI l) (y := nI u - 1) (fun hc21 => ?_) (fun hc21 => ?_)
    · skip
      rw [y_m1lt (by omega) (by omega)] at hc21
      rw [t_wl, if_pos hc21]
      refine e_go hk_43 1 (c := (93, [.ref 5, .int (nI p), .int (nI l), .int (nI u - 1), .int (nI d), y5, y6, y7], [.int ((-6))], hp Z P L)) rfl ?_
      exact e_ret hk_43 rfl rfl rfl rfl rfl
    · skip
      rw [y_m1lt (by omega) (by omega)] at hc21
      rw [t_wl_s hc21]
      rw [y_m1s (u := u) (by omega)]
      refine e_go hk_43 4 (c := (29, [.ref 5, .int (nI p), .int (nI l), .int (nI (u - 1)), .int (nI d), y5, y6, y7], [.int (nI d), .int (nI (u - 1)), .int (nI l), .ref 5], hp Z P L)) rfl ?_
      refine e_call hk_43 (as := [.ref 5, .int (nI l), .int (nI (u - 1)), .int (nI d)]) (rest := []) rfl rfl hk_39 rfl (Nat.le_of_ble_eq_true rfl) rfl (x_top (l := l) (u := u - 1) (by omega) (by omega)) ?_
      show e_r 43 32 [.ref 5, .int (nI p), .int (nI l), .int (nI (u - 1)), .int (nI d), y5, y6, y7] [.int (nI (t_tp (Z 15) (nI d) l (u - 1 - l)))] (hp Z P L) _ _
      have htl := t_tp_le (Z 15) (nI d) (u - 1 - l) l
      generalize ht : t_tp (Z 15) (nI d) l (u - 1 - l) = t at htl ⊢
      refine e_go hk_43 12 (c := (if s_cnd .gt (nI p) (nI (t)) = true then 63 else 52, [.ref 5, .int (nI p), .int (nI l), .int (nI (u - 1)), .int (nI d), .int (nI (t)), .int ((nI (t)) - (nI l)), .int ((nI (u - 1)) - (nI (t)))], [], hp Z P L)) rfl ?_
      refine e_gt (a := 63) (b := 52) (x := nI p) (y := nI (t)) (fun hc49 => ?_) (fun hc49 => ?_)
      · skip
        rw [y_lt (by omega) (by omega)] at hc49
        rw [if_neg (show ¬ p ≤ t by omega)]
        refine e_go hk_43 8 (c := (76, [.ref 5, .int (nI p), .int ((nI (t)) + 1), .int (nI (u - 1)), .int (nI d), .int (nI (t)), .int ((nI (t)) - (nI l)), .int (((nI (u - 1)) - (nI (t))) + 1)], [.int (((nI (u - 1)) - (nI (t))) + 1), .int ((nI (t)) - (nI l)), .ref 5], hp Z P L)) rfl ?_
        refine e_call hk_43 (as := [.ref 5, .int ((nI (t)) - (nI l)), .int (((nI (u - 1)) - (nI (t))) + 1)]) (rest := []) rfl rfl hk_40 rfl (Nat.le_of_ble_eq_true rfl) rfl x_heavy ?_
        show e_r 43 79 [.ref 5, .int (nI p), .int ((nI (t)) + 1), .int (nI (u - 1)), .int (nI d), .int (nI (t)), .int ((nI (t)) - (nI l)), .int (((nI (u - 1)) - (nI (t))) + 1)] [.int (y_b (y_th (Z 7 0) ((nI (t)) - (nI l)) (((nI (u - 1)) - (nI (t))) + 1)))] (hp Z P L) _ _
        refine e_go hk_43 1 (c := (if s_cnd .eq (y_b (y_th (Z 7 0) ((nI (t)) - (nI l)) (((nI (u - 1)) - (nI (t))) + 1))) 0 = true then 85 else 82, [.ref 5, .int (nI p), .int ((nI (t)) + 1), .int (nI (u - 1)), .int (nI d), .int (nI (t)), .int ((nI (t)) - (nI l)), .int (((nI (u - 1)) - (nI (t))) + 1)], [], hp Z P L)) rfl ?_
        refine e_eq (a := 85) (b := 82) (x := y_b (y_th (Z 7 0) ((nI (t)) - (nI l)) (((nI (u - 1)) - (nI (t))) + 1))) (y := 0) (fun hc79 => ?_) (fun hc79 => ?_)
        · skip
          rw [y_b0] at hc79
          rw [hc79, if_neg Bool.false_ne_true]
          refine e_go hk_43 2 (c := (12, [.ref 5, .int (nI p), .int ((nI (t)) + 1), .int (nI (u - 1)), .int ((nI d) + 1), .int (nI (t)), .int ((nI (t)) - (nI l)), .int (((nI (u - 1)) - (nI (t))) + 1)], [], hp Z P L)) rfl ?_
          rw [nI_1 d, nI_1 t, ← y_m1s (u := u) (by omega)]
          exact x_would_l hp0 (P := P) k (d + 1) (t + 1) u _ _ _ (by omega) hu (by omega)
        · skip
          rw [y_b1] at hc79
          rw [if_pos hc79]
          refine e_go hk_43 1 (c := (84, [.ref 5, .int (nI p), .int ((nI (t)) + 1), .int (nI (u - 1)), .int (nI d), .int (nI (t)), .int ((nI (t)) - (nI l)), .int (((nI (u - 1)) - (nI (t))) + 1)], [.int (nI (t))], hp Z P L)) rfl ?_
          exact e_ret hk_43 rfl rfl rfl rfl rfl
      · skip
        rw [y_lt (by omega) (by omega)] at hc49
        rw [if_pos (show p ≤ t by omega)]
        refine e_go hk_43 9 (c := (76, [.ref 5, .int (nI p), .int (nI l), .int ((nI (t)) - 1), .int (nI d), .int (nI (t)), .int (((nI (t)) - (nI l)) + 1), .int ((nI (u - 1)) - (nI (t)))], [.int ((nI (u - 1)) - (nI (t))), .int (((nI (t)) - (nI l)) + 1), .ref 5], hp Z P L)) rfl ?_
        refine e_call hk_43 (as := [.ref 5, .int (((nI (t)) - (nI l)) + 1), .int ((nI (u - 1)) - (nI (t)))]) (rest := []) rfl rfl hk_40 rfl (Nat.le_of_ble_eq_true rfl) rfl x_heavy ?_
        show e_r 43 79 [.ref 5, .int (nI p), .int (nI l), .int ((nI (t)) - 1), .int (nI d), .int (nI (t)), .int (((nI (t)) - (nI l)) + 1), .int ((nI (u - 1)) - (nI (t)))] [.int (y_b (y_th (Z 7 0) (((nI (t)) - (nI l)) + 1) ((nI (u - 1)) - (nI (t)))))] (hp Z P L) _ _
        refine e_go hk_43 1 (c := (if s_cnd .eq (y_b (y_th (Z 7 0) (((nI (t)) - (nI l)) + 1) ((nI (u - 1)) - (nI (t))))) 0 = true then 85 else 82, [.ref 5, .int (nI p), .int (nI l), .int ((nI (t)) - 1), .int (nI d), .int (nI (t)), .int (((nI (t)) - (nI l)) + 1), .int ((nI (u - 1)) - (nI (t)))], [], hp Z P L)) rfl ?_
        refine e_eq (a := 85) (b := 82) (x := y_b (y_th (Z 7 0) (((nI (t)) - (nI l)) + 1) ((nI (u - 1)) - (nI (t))))) (y := 0) (fun hc79 => ?_) (fun hc79 => ?_)
        · skip
          rw [y_b0] at hc79
          rw [hc79, if_neg Bool.false_ne_true]
          refine e_go hk_43 2 (c := (12, [.ref 5, .int (nI p), .int (nI l), .int ((nI (t)) - 1), .int ((nI d) + 1), .int (nI (t)), .int (((nI (t)) - (nI l)) + 1), .int ((nI (u - 1)) - (nI (t)))], [], hp Z P L)) rfl ?_
          rw [nI_1 d]
          exact x_would_l hp0 (P := P) k (d + 1) l t _ _ _ (by omega) (by omega) hl
        · skip
          rw [y_b1] at hc79
          rw [if_pos hc79]
          refine e_go hk_43 1 (c := (84, [.ref 5, .int (nI p), .int (nI l), .int ((nI (t)) - 1), .int (nI d), .int (nI (t)), .int (((nI (t)) - (nI l)) + 1), .int ((nI (u - 1)) - (nI (t)))], [.int (nI (t))], hp Z P L)) rfl ?_
          exact e_ret hk_43 rfl rfl rfl rfl rfl
theorem x_would {Z : Nat → Nat → Int32} {P : Nat → Nat} {L n : Nat} (hN : Z 5 6 = nI n) (hn : n ≤ 60) {p : Nat} (hp0 : p ≤ 60) : m_r 43 [.ref 5, .int (nI p)] (hp Z P L) (some (.int (y_o (t_wl (Z 15) (Z 7 0) p 60 0 0 n)))) (hp Z P L) := by
  refine m_of (ls := [.ref 5, .int (nI p), s_no, s_no, s_no, s_no, s_no, s_no]) hk_43 rfl rfl rfl ?_
  refine e_go hk_43 9 (c := (12, [.ref 5, .int (nI p), .int 0, .int ((Z 5 6) - 1), .int 0, s_no, s_no, s_no], [], hp Z P L)) rfl ?_
  rw [hN]
  exact x_would_l hp0 60 0 0 n _ _ _ (by omega) hn (by omega)
theorem x_room {Z : Nat → Nat → Int32} {P : Nat → Nat} {L n : Nat} (hN : Z 5 6 = nI n) (hn : n ≤ 60) {key : Int32} : m_r 45 [.ref 5, .int key] (hp Z P L) (some (.int (y_b (t_rm Z n key)))) (hp Z P L) := by
  refine m_of (ls := [.ref 5, .int key]) hk_45 rfl rfl rfl ?_
  refine e_go hk_45 4 (c := (if s_cnd .lt (Z 5 6) 60 = true then 19 else 9, [.ref 5, .int key], [], hp Z P L)) rfl ?_
  refine e_lt (a := 19) (b := 9) (x := Z 5 6) (y := 60) (fun hc6 => ?_) (fun hc6 => ?_)
  · skip
    rw [hN, show (60 : Int32) = nI 60 from rfl, y_lt (by omega) (by omega)] at hc6
    refine e_go hk_45 2 (c := (24, [.ref 5, .int key], [.int 1], hp Z P L)) rfl ?_
    exact e_ret hk_45 rfl rfl rfl (by rw [t_rm, decide_eq_true hc6]; rfl) rfl
  · skip
    rw [hN, show (60 : Int32) = nI 60 from rfl, y_lt (by omega) (by omega)] at hc6
    refine e_go hk_45 2 (c := (11, [.ref 5, .int key], [.int key, .ref 5], hp Z P L)) rfl ?_
    refine e_call hk_45 (as := [.ref 5, .int key]) (rest := []) rfl rfl hk_31 rfl (Nat.le_of_ble_eq_true rfl) rfl (x_node hN hn) ?_
    show e_r 45 14 [.ref 5, .int key] [.int (y_o (t_nd (Z 9) n key))] (hp Z P L) _ _
    refine e_go hk_45 2 (c := (if s_cnd .eq (y_o (t_nd (Z 9) n key)) ((-6)) = true then 23 else 19, [.ref 5, .int key], [], hp Z P L)) rfl ?_
    refine e_eq (a := 23) (b := 19) (x := y_o (t_nd (Z 9) n key)) (y := (-6)) (fun hc16 => ?_) (fun hc16 => ?_)
    · skip
      rw [y_o_none (fun j hj => by have := (t_nd_lt hj).1; omega)] at hc16
      refine e_go hk_45 1 (c := (24, [.ref 5, .int key], [.int 0], hp Z P L)) rfl ?_
      exact e_ret hk_45 rfl rfl rfl (by rw [t_rm, decide_eq_false hc6, hc16]; rfl) rfl
    · skip
      rw [y_o_none (fun j hj => by have := (t_nd_lt hj).1; omega)] at hc16
      refine e_go hk_45 2 (c := (24, [.ref 5, .int key], [.int 1], hp Z P L)) rfl ?_
      exact e_ret hk_45 rfl rfl rfl (by rw [t_rm, decide_eq_false hc6]; cases hq : t_nd (Z 9) n key with | none => exact absurd hq hc16 | some j => rfl) rfl
def t_mv (Z : Nat → Nat → Int32) (i j : Nat) : Nat → Nat → Int32 := s_upd (s_upd (s_upd (s_upd (s_upd Z 9 j (Z 9 i)) 11 j (Z 11 i)) 13 j (Z 13 i)) 15 j (Z 15 i)) 17 j (Z 17 i)
theorem x_move {Z : Nat → Nat → Int32} {P : Nat → Nat} {L : Nat} {i j : Nat} (hi : i < 60) (hj : j < 60) : m_r 51 [.ref 5, .int (nI i), .int (nI j)] (hp Z P L) none (hp (t_mv Z i j) P L) := by
  refine m_of (ls := [.ref 5, .int (nI i), .int (nI j)]) hk_51 rfl rfl rfl ?_
  refine e_go hk_51 6 (c := (10, [.ref 5, .int (nI i), .int (nI j)], [.int (nI i), .ref 8, .int (nI j), .ref 8], hp Z P L)) rfl ?_
  refine e_call hk_51 (as := [.ref 8, .int (nI i)]) (rest := [.int (nI j), .ref 8]) rfl rfl hk_22 rfl (Nat.le_of_ble_eq_true rfl) rfl (x_at (r := 8) (a := 9) (n := 60) rfl rfl rfl (by decide) (j := i) (by omega)) ?_
  show e_r 51 13 [.ref 5, .int (nI i), .int (nI j)] [.int (Z 9 i), .int (nI j), .ref 8] (hp Z P L) _ _
  refine e_call hk_51 (as := [.ref 8, .int (nI j), .int (Z 9 i)]) (rest := []) rfl rfl hk_23 rfl (Nat.le_of_ble_eq_true rfl) rfl (x_write (r := 8) (a := 9) (n := 60) rfl rfl rfl (by decide) (by decide) (j := j) (by omega)) ?_
  show e_r 51 16 [.ref 5, .int (nI i), .int (nI j)] [] (hp (s_upd Z 9 j (Z 9 i)) P L) _ _
  refine e_go hk_51 6 (c := (26, [.ref 5, .int (nI i), .int (nI j)], [.int (nI i), .ref 10, .int (nI j), .ref 10], hp (s_upd Z 9 j (Z 9 i)) P L)) rfl ?_
  refine e_call hk_51 (as := [.ref 10, .int (nI i)]) (rest := [.int (nI j), .ref 10]) rfl rfl hk_22 rfl (Nat.le_of_ble_eq_true rfl) rfl (x_at (r := 10) (a := 11) (n := 60) rfl rfl rfl (by decide) (j := i) (by omega)) ?_
  show e_r 51 29 [.ref 5, .int (nI i), .int (nI j)] [.int (Z 11 i), .int (nI j), .ref 10] (hp (s_upd Z 9 j (Z 9 i)) P L) _ _
  refine e_call hk_51 (as := [.ref 10, .int (nI j), .int (Z 11 i)]) (rest := []) rfl rfl hk_23 rfl (Nat.le_of_ble_eq_true rfl) rfl (x_write (r := 10) (a := 11) (n := 60) rfl rfl rfl (by decide) (by decide) (j := j) (by omega)) ?_
  show e_r 51 32 [.ref 5, .int (nI i), .int (nI j)] [] (hp (s_upd (s_upd Z 9 j (Z 9 i)) 11 j (Z 11 i)) P L) _ _
  refine e_go hk_51 6 (c := (42, [.ref 5, .int (nI i), .int (nI j)], [.int (nI i), .ref 12, .int (nI j), .ref 12], hp (s_upd (s_upd Z 9 j (Z 9 i)) 11 j (Z 11 i)) P L)) rfl ?_
  refine e_call hk_51 (as := [.ref 12, .int (nI i)]) (rest := [.int (nI j), .ref 12]) rfl rfl hk_22 rfl (Nat.le_of_ble_eq_true rfl) rfl (x_at (r := 12) (a := 13) (n := 60) rfl rfl rfl (by decide) (j := i) (by omega)) ?_
  show e_r 51 45 [.ref 5, .int (nI i), .int (nI j)] [.int (Z 13 i), .int (nI j), .ref 12] (hp (s_upd (s_upd Z 9 j (Z 9 i)) 11 j (Z 11 i)) P L) _ _
  refine e_call hk_51 (as := [.ref 12, .int (nI j), .int (Z 13 i)]) (rest := []) rfl rfl hk_23 rfl (Nat.le_of_ble_eq_true rfl) rfl (x_write (r := 12) (a := 13) (n := 60) rfl rfl rfl (by decide) (by decide) (j := j) (by omega)) ?_
  show e_r 51 48 [.ref 5, .int (nI i), .int (nI j)] [] (hp (s_upd (s_upd (s_upd Z 9 j (Z 9 i)) 11 j (Z 11 i)) 13 j (Z 13 i)) P L) _ _
  refine e_go hk_51 6 (c := (58, [.ref 5, .int (nI i), .int (nI j)], [.int (nI i), .ref 14, .int (nI j), .ref 14], hp (s_upd (s_upd (s_upd Z 9 j (Z 9 i)) 11 j (Z 11 i)) 13 j (Z 13 i)) P L)) rfl ?_
  refine e_call hk_51 (as := [.ref 14, .int (nI i)]) (rest := [.int (nI j), .ref 14]) rfl rfl hk_22 rfl (Nat.le_of_ble_eq_true rfl) rfl (x_at (r := 14) (a := 15) (n := 60) rfl rfl rfl (by decide) (j := i) (by omega)) ?_
  show e_r 51 61 [.ref 5, .int (nI i), .int (nI j)] [.int (Z 15 i), .int (nI j), .ref 14] (hp (s_upd (s_upd (s_upd Z 9 j (Z 9 i)) 11 j (Z 11 i)) 13 j (Z 13 i)) P L) _ _
  refine e_call hk_51 (as := [.ref 14, .int (nI j), .int (Z 15 i)]) (rest := []) rfl rfl hk_23 rfl (Nat.le_of_ble_eq_true rfl) rfl (x_write (r := 14) (a := 15) (n := 60) rfl rfl rfl (by decide) (by decide) (j := j) (by omega)) ?_
  show e_r 51 64 [.ref 5, .int (nI i), .int (nI j)] [] (hp (s_upd (s_upd (s_upd (s_upd Z 9 j (Z 9 i)) 11 j (Z 11 i)) 13 j (Z 13 i)) 15 j (Z 15 i)) P L) _ _
  refine e_go hk_51 6 (c := (74, [.ref 5, .int (nI i), .int (nI j)], [.int (nI i), .ref 16, .int (nI j), .ref 16], hp (s_upd (s_upd (s_upd (s_upd Z 9 j (Z 9 i)) 11 j (Z 11 i)) 13 j (Z 13 i)) 15 j (Z 15 i)) P L)) rfl ?_
  refine e_call hk_51 (as := [.ref 16, .int (nI i)]) (rest := [.int (nI j), .ref 16]) rfl rfl hk_22 rfl (Nat.le_of_ble_eq_true rfl) rfl (x_at (r := 16) (a := 17) (n := 60) rfl rfl rfl (by decide) (j := i) (by omega)) ?_
  show e_r 51 77 [.ref 5, .int (nI i), .int (nI j)] [.int (Z 17 i), .int (nI j), .ref 16] (hp (s_upd (s_upd (s_upd (s_upd Z 9 j (Z 9 i)) 11 j (Z 11 i)) 13 j (Z 13 i)) 15 j (Z 15 i)) P L) _ _
  refine e_call hk_51 (as := [.ref 16, .int (nI j), .int (Z 17 i)]) (rest := []) rfl rfl hk_23 rfl (Nat.le_of_ble_eq_true rfl) rfl (x_write (r := 16) (a := 17) (n := 60) rfl rfl rfl (by decide) (by decide) (j := j) (by omega)) ?_
  show e_r 51 80 [.ref 5, .int (nI i), .int (nI j)] [] (hp (s_upd (s_upd (s_upd (s_upd (s_upd Z 9 j (Z 9 i)) 11 j (Z 11 i)) 13 j (Z 13 i)) 15 j (Z 15 i)) 17 j (Z 17 i)) P L) _ _
  exact e_ret hk_51 rfl rfl rfl rfl rfl
def t_sp (Z : Nat → Nat → Int32) (pd w : Int32) : Nat → Nat → Int32 := s_upd (s_upd (s_upd (s_upd Z 5 8 (Z 5 8 + (pd - w))) 5 7 (Z 5 7 + w)) 5 9 (Z 5 9 + 1)) 5 10 (if Z 5 10 < w then w else Z 5 10)
theorem x_spend {Z : Nat → Nat → Int32} {P : Nat → Nat} {L : Nat} {pd w : Int32} : m_r 53 [.ref 5, .int pd, .int w] (hp Z P L) none (hp (t_sp Z pd w) P L) := by
  refine m_of (ls := [.ref 5, .int pd, .int w]) hk_53 rfl rfl rfl ?_
  refine e_go hk_53 26 (c := (44, [.ref 5, .int pd, .int w], [], hp (s_upd (s_upd (s_upd (s_upd Z 5 8 ((Z 5 8) + (pd - w))) 5 7 ((Z 5 7) + w)) 5 9 ((Z 5 9) + 1)) 5 10 (if Z 5 10 < w then w else Z 5 10)) P L)) rfl ?_
  exact e_ret hk_53 rfl rfl rfl rfl rfl
/-- paying on the way to place p -/
def t_py (p : Nat) : Nat → Nat → Nat → Nat → (Nat → Nat → Int32) → Nat → Nat → Int32
  | 0, _, _, _, Z => Z
  | k + 1, d, l, u, Z => if u ≤ l then Z else
    if t_tp (Z 15) (nI d) l (u - 1 - l) = p then s_upd Z 13 (t_tp (Z 15) (nI d) l (u - 1 - l)) (Z 13 (t_tp (Z 15) (nI d) l (u - 1 - l)) + Z 7 2)
    else if t_tp (Z 15) (nI d) l (u - 1 - l) < p then t_py p k (d + 1) (t_tp (Z 15) (nI d) l (u - 1 - l) + 1) u (s_upd Z 13 (t_tp (Z 15) (nI d) l (u - 1 - l)) (Z 13 (t_tp (Z 15) (nI d) l (u - 1 - l)) + Z 7 2))
    else t_py p k (d + 1) l (t_tp (Z 15) (nI d) l (u - 1 - l)) (s_upd Z 13 (t_tp (Z 15) (nI d) l (u - 1 - l)) (Z 13 (t_tp (Z 15) (nI d) l (u - 1 - l)) + Z 7 2))
theorem x_pay_l {P : Nat → Nat} {L : Nat} {p : Nat} (hp0 : p ≤ 60) : ∀ (k d l u : Nat) (y5 : Value) (Z : Nat → Nat → Int32), d + k = 60 → u ≤ 60 → l ≤ 60 → e_r 49 12 [.ref 5, .int (nI p), .int (nI l), .int (nI u - 1), .int (nI d), y5] [] (hp Z P L) none (hp (t_py p k d l u Z) P L)
  | 0, d, l, u, y5, Z, hd, hu, hl => by
    refine e_go hk_49 3 (c := (if s_cnd .ge (nI d) 60 = true then 104 else 19, [.ref 5, .int (nI p), .int (nI l), .int (nI u - 1), .int (nI d), y5], [], hp Z P L)) rfl ?_
    refine e_ge (a := 104) (b := 19) (x := nI d) (y := 60) (fun hc16 => ?_) (fun hc16 => absurd (by rw [show (60 : Int32) = nI 60 from rfl]; exact (y_le (by omega) (by omega)).mpr (by omega)) hc16)
    exact e_ret hk_49 rfl rfl rfl rfl rfl
  | k + 1, d, l, u, y5, Z, hd, hu, hl => by
    refine e_go hk_49 3 (c := (if s_cnd .ge (nI d) 60 = true then 104 else 19, [.ref 5, .int (nI p), .int (nI l), .int (nI u - 1), .int (nI d), y5], [], hp Z P L)) rfl ?_
    refine e_ge (a := 104) (b := 19) (x := nI d) (y := 60) (fun hc16 => absurd hc16 (by rw [show (60 : Int32) = nI 60 from rfl]; exact nI_ge (by omega) (by omega))) (fun hc16 => ?_)
    refine e_go hk_49 3 (c := (if s_cnd .gt (nI l) (nI u - 1) = true then 104 else 24, [.ref 5, .int (nI p), .int (nI l), .int (nI u - 1), .int (nI d), y5], [], hp Z P L)) rfl ?_
    refine e_gt (a := 104) (b := 24) (x := nI l) (y := nI u - 1) (fun hc21 => ?_) (fun hc21 => ?_)
    · skip
      rw [y_m1lt (by omega) (by omega)] at hc21
      rw [t_py, if_pos hc21]
      exact e_ret hk_49 rfl rfl rfl rfl rfl
    · skip
      rw [y_m1lt (by omega) (by omega)] at hc21
      rw [t_py, if_neg hc21]
      rw [y_m1s (u := u) (by omega)]
      refine e_go hk_49 4 (c := (29, [.ref 5, .int (nI p), .int (nI l), .int (nI (u - 1)), .int (nI d), y5], [.int (nI d), .int (nI (u - 1)), .int (nI l), .ref 5], hp Z P L)) rfl ?_
      refine e_call hk_49 (as := [.ref 5, .int (nI l), .int (nI (u - 1)), .int (nI d)]) (rest := []) rfl rfl hk_39 rfl (Nat.le_of_ble_eq_true rfl) rfl (x_top (l := l) (u := u - 1) (by omega) (by omega)) ?_
      show e_r 49 32 [.ref 5, .int (nI p), .int (nI l), .int (nI (u - 1)), .int (nI d), y5] [.int (nI (t_tp (Z 15) (nI d) l (u - 1 - l)))] (hp Z P L) _ _
      have htl := t_tp_le (Z 15) (nI d) (u - 1 - l) l
      generalize ht : t_tp (Z 15) (nI d) l (u - 1 - l) = t at htl ⊢
      refine e_go hk_49 7 (c := (46, [.ref 5, .int (nI p), .int (nI l), .int (nI (u - 1)), .int (nI d), .int (nI (t))], [.int (nI (t)), .ref 12, .int (nI (t)), .ref 12], hp Z P L)) rfl ?_
      refine e_call hk_49 (as := [.ref 12, .int (nI t)]) (rest := [.int (nI (t)), .ref 12]) rfl rfl hk_22 rfl (Nat.le_of_ble_eq_true rfl) rfl (x_at (r := 12) (a := 13) (n := 60) rfl rfl rfl (by decide) (j := t) (by omega)) ?_
      show e_r 49 49 [.ref 5, .int (nI p), .int (nI l), .int (nI (u - 1)), .int (nI d), .int (nI (t))] [.int (Z 13 t), .int (nI (t)), .ref 12] (hp Z P L) _ _
      refine e_go hk_49 3 (c := (54, [.ref 5, .int (nI p), .int (nI l), .int (nI (u - 1)), .int (nI d), .int (nI (t))], [.int 2, .ref 6, .int (Z 13 t), .int (nI (t)), .ref 12], hp Z P L)) rfl ?_
      refine e_call hk_49 (as := [.ref 6, .int (nI 2)]) (rest := [.int (Z 13 t), .int (nI (t)), .ref 12]) rfl rfl hk_22 rfl (Nat.le_of_ble_eq_true rfl) rfl (x_at (r := 6) (a := 7) (n := 3) rfl rfl rfl (by decide) (j := 2) (by decide)) ?_
      show e_r 49 57 [.ref 5, .int (nI p), .int (nI l), .int (nI (u - 1)), .int (nI d), .int (nI (t))] [.int (Z 7 2), .int (Z 13 t), .int (nI (t)), .ref 12] (hp Z P L) _ _
      refine e_go hk_49 1 (c := (58, [.ref 5, .int (nI p), .int (nI l), .int (nI (u - 1)), .int (nI d), .int (nI (t))], [.int ((Z 13 t) + (Z 7 2)), .int (nI (t)), .ref 12], hp Z P L)) rfl ?_
      refine e_call hk_49 (as := [.ref 12, .int (nI t), .int ((Z 13 t) + (Z 7 2))]) (rest := []) rfl rfl hk_23 rfl (Nat.le_of_ble_eq_true rfl) rfl (x_write (r := 12) (a := 13) (n := 60) rfl rfl rfl (by decide) (by decide) (j := t) (by omega)) ?_
      show e_r 49 61 [.ref 5, .int (nI p), .int (nI l), .int (nI (u - 1)), .int (nI d), .int (nI (t))] [] (hp (s_upd Z 13 t ((Z 13 t) + (Z 7 2))) P L) _ _
      refine e_go hk_49 3 (c := (if s_cnd .ge (nI (t)) (nI p) = true then 74 else 67, [.ref 5, .int (nI p), .int (nI l), .int (nI (u - 1)), .int (nI d), .int (nI (t))], [], hp (s_upd Z 13 t ((Z 13 t) + (Z 7 2))) P L)) rfl ?_
      refine e_ge (a := 74) (b := 67) (x := nI (t)) (y := nI p) (fun hc64 => ?_) (fun hc64 => ?_)
      · skip
        rw [y_le (by omega) (by omega)] at hc64
        refine e_go hk_49 5 (c := (if s_cnd .le (nI (t)) (nI p) = true then 89 else 82, [.ref 5, .int (nI p), .int (nI l), .int (nI (u - 1)), .int (nI d), .int (nI (t))], [], hp (s_upd Z 13 t ((Z 13 t) + (Z 7 2))) P L)) rfl ?_
        refine e_le (a := 89) (b := 82) (x := nI (t)) (y := nI p) (fun hc79 => ?_) (fun hc79 => ?_)
        · skip
          rw [y_le (by omega) (by omega)] at hc79
          refine e_go hk_49 5 (c := (if s_cnd .ne (nI (t)) (nI p) = true then 98 else 97, [.ref 5, .int (nI p), .int (nI l), .int (nI (u - 1)), .int (nI d), .int (nI (t))], [], hp (s_upd Z 13 t ((Z 13 t) + (Z 7 2))) P L)) rfl ?_
          refine e_ne (a := 98) (b := 97) (x := nI (t)) (y := nI p) (fun hc94 => absurd (by rw [show t = p by omega]) hc94) (fun hc94 => ?_)
          exact e_ret hk_49 rfl rfl rfl rfl (by rw [if_pos (show t = p by omega)])
        · skip
          rw [y_le (by omega) (by omega)] at hc79
          refine e_go hk_49 8 (c := (if s_cnd .ne (nI (t)) (nI p) = true then 98 else 97, [.ref 5, .int (nI p), .int (nI l), .int ((nI (t)) - 1), .int (nI d), .int (nI (t))], [], hp (s_upd Z 13 t ((Z 13 t) + (Z 7 2))) P L)) rfl ?_
          refine e_ne (a := 98) (b := 97) (x := nI (t)) (y := nI p) (fun hc94 => ?_) (fun hc94 => absurd hc94 (fun z => absurd ((nI_eq (by omega) (by omega)).mp z) (by omega)))
          refine e_go hk_49 2 (c := (12, [.ref 5, .int (nI p), .int (nI l), .int ((nI (t)) - 1), .int ((nI d) + 1), .int (nI (t))], [], hp (s_upd Z 13 t ((Z 13 t) + (Z 7 2))) P L)) rfl ?_
          rw [if_neg (show ¬ t = p by omega), if_neg (show ¬ t < p by omega), nI_1 d]
          exact x_pay_l hp0 k (d + 1) l t _ _ (by omega) (by omega) hl
      · skip
        rw [y_le (by omega) (by omega)] at hc64
        refine e_go hk_49 8 (c := (if s_cnd .le (nI (t)) (nI p) = true then 89 else 82, [.ref 5, .int (nI p), .int ((nI (t)) + 1), .int (nI (u - 1)), .int (nI d), .int (nI (t))], [], hp (s_upd Z 13 t ((Z 13 t) + (Z 7 2))) P L)) rfl ?_
        refine e_le (a := 89) (b := 82) (x := nI (t)) (y := nI p) (fun hc79 => ?_) (fun hc79 => absurd ((y_le (by omega) (by omega)).mpr (by omega)) hc79)
        refine e_go hk_49 5 (c := (if s_cnd .ne (nI (t)) (nI p) = true then 98 else 97, [.ref 5, .int (nI p), .int ((nI (t)) + 1), .int (nI (u - 1)), .int (nI d), .int (nI (t))], [], hp (s_upd Z 13 t ((Z 13 t) + (Z 7 2))) P L)) rfl ?_
        refine e_ne (a := 98) (b := 97) (x := nI (t)) (y := nI p) (fun hc94 => ?_) (fun hc94 => absurd hc94 (fun z => absurd ((nI_eq (by omega) (by omega)).mp z) (by omega)))
        refine e_go hk_49 2 (c := (12, [.ref 5, .int (nI p), .int ((nI (t)) + 1), .int (nI (u - 1)), .int ((nI d) + 1), .int (nI (t))], [], hp (s_upd Z 13 t ((Z 13 t) + (Z 7 2))) P L)) rfl ?_
        rw [if_neg (show ¬ t = p by omega), if_pos (show t < p by omega), nI_1 d, nI_1 t, ← y_m1s (u := u) (by omega)]
        exact x_pay_l hp0 k (d + 1) (t + 1) u _ _ (by omega) hu (by omega)
theorem x_pay {Z : Nat → Nat → Int32} {P : Nat → Nat} {L n : Nat} (hN : Z 5 6 = nI n) (hn : n ≤ 60) {p : Nat} (hp0 : p ≤ 60) : m_r 49 [.ref 5, .int (nI p)] (hp Z P L) none (hp (t_py p 60 0 0 n Z) P L) := by
  refine m_of (ls := [.ref 5, .int (nI p), s_no, s_no, s_no, s_no]) hk_49 rfl rfl rfl ?_
  refine e_go hk_49 9 (c := (12, [.ref 5, .int (nI p), .int 0, .int ((Z 5 6) - 1), .int 0, s_no], [], hp Z P L)) rfl ?_
  rw [hN]
  exact x_pay_l hp0 60 0 0 n _ _ (by omega) hn (by omega)
