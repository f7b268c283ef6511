/-! The calls: worst, pad, fault, undo, slots; printed by wip/whole/gen/calls3.py -/
def t_wk (Z : Nat → Nat → Int32) (i : Nat) : Int32 := if i = 0 then 0 else Z 9 (i - 1) + 1
def t_wc (Z : Nat → Nat → Int32) (n : Nat) (key : Int32) : Int32 := if y_nm key = true then t_cs Z n key else 0
def t_wo (Z : Nat → Nat → Int32) (n : Nat) : Nat → Nat → Int32 → Int32 → Int32 × Int32
  | _, 0, wk, mo => (wk, mo)
  | i, k + 1, wk, mo => if mo < t_wc Z n (t_wk Z i) then t_wo Z n (i + 1) k (t_wk Z i) (t_wc Z n (t_wk Z i)) else t_wo Z n (i + 1) k wk mo
def c_worst (Z : Nat → Nat → Int32) (n : Nat) (what : Int32) : Int32 := if what = 0 ∨ what = 1 then (if n < 60 then (if what = 0 then (t_wo Z n 0 (n + 1) 0 0).1 else (t_wo Z n 0 (n + 1) 0 0).2) else -4) else -2
theorem x_worst_l {Z : Nat → Nat → Int32} {P : Nat → Nat} {L n : Nat} (hN : Z 5 6 = nI n) (hn : n ≤ 60) {what : Int32} : ∀ (k i : Nat) (wk mo : Int32) (y5 y6 : Value), i + k = n + 1 → e_r 71 34 [.ref 4, .int what, .int wk, .int mo, .int (nI i), y5, y6] [] (hp Z P L) (some (.int (if what = 0 then (t_wo Z n i k wk mo).1 else (t_wo Z n i k wk mo).2))) (hp Z P L)
  | 0, i, wk, mo, y5, y6, hi2 => by
    refine e_go hk_71 5 (c := (if s_cnd .gt (nI i) (Z 5 6) = true then 114 else 46, [.ref 4, .int what, .int wk, .int mo, .int (nI i), y5, y6], [], hp Z P L)) rfl ?_
    refine e_gt (a := 114) (b := 46) (x := nI i) (y := Z 5 6) (fun hc43 => ?_) (fun hc43 => absurd (by rw [hN]; exact (y_lt (by omega) (by omega)).mpr (by omega)) hc43)
    refine e_go hk_71 2 (c := (if s_cnd .ne what 0 = true then 122 else 118, [.ref 4, .int what, .int wk, .int mo, .int (nI i), y5, y6], [], hp Z P L)) rfl ?_
    refine e_ne (a := 122) (b := 118) (x := what) (y := 0) (fun hc115 => ?_) (fun hc115 => ?_)
    · skip
      refine e_go hk_71 1 (c := (123, [.ref 4, .int what, .int wk, .int mo, .int (nI i), y5, y6], [.int mo], hp Z P L)) rfl ?_
      exact e_ret hk_71 rfl rfl rfl (by rw [if_neg hc115]; rfl) rfl
    · skip
      refine e_go hk_71 2 (c := (123, [.ref 4, .int what, .int wk, .int mo, .int (nI i), y5, y6], [.int wk], hp Z P L)) rfl ?_
      exact e_ret hk_71 rfl rfl rfl (by rw [if_pos hc115]; rfl) rfl
  | k + 1, i, wk, mo, y5, y6, hi2 => by
    refine e_go hk_71 5 (c := (if s_cnd .gt (nI i) (Z 5 6) = true then 114 else 46, [.ref 4, .int what, .int wk, .int mo, .int (nI i), y5, y6], [], hp Z P L)) rfl ?_
    refine e_gt (a := 114) (b := 46) (x := nI i) (y := Z 5 6) (fun hc43 => absurd hc43 (by rw [hN]; exact fun z => absurd ((y_lt (by omega) (by omega)).mp z) (by omega))) (fun hc43 => ?_)
    refine e_go hk_71 2 (c := (if s_cnd .ne (nI i) 0 = true then 55 else 51, [.ref 4, .int what, .int wk, .int mo, .int (nI i), y5, y6], [], hp Z P L)) rfl ?_
    refine e_ne (a := 55) (b := 51) (x := nI i) (y := 0) (fun hc48 => ?_) (fun hc48 => ?_)
    · skip
      have hi0 : ¬ i = 0 := fun z => hc48 (by rw [z]; rfl)
      have hK : t_wk Z i = Z 9 (i - 1) + 1 := by rw [t_wk, if_neg hi0]
      refine e_go hk_71 6 (c := (66, [.ref 4, .int what, .int wk, .int mo, .int (nI i), y5, y6], [.int ((nI i) - 1), .ref 8], hp Z P L)) rfl ?_
      rw [show nI i - 1 = nI (i - 1) from y_m1s (by omega)]
      refine e_call hk_71 (as := [.ref 8, .int (nI (i - 1))]) (rest := []) rfl rfl hk_22 rfl (Nat.le_of_ble_eq_true rfl) rfl (x_at (r := 8) (a := 9) (n := 60) rfl rfl rfl (by decide) (j := i - 1) (by omega)) ?_
      show e_r 71 69 [.ref 4, .int what, .int wk, .int mo, .int (nI i), y5, y6] [.int (Z 9 (i - 1))] (hp Z P L) _ _
      refine e_go hk_71 2 (c := (71, [.ref 4, .int what, .int wk, .int mo, .int (nI i), y5, y6], [.int ((Z 9 (i - 1)) + 1)], hp Z P L)) rfl ?_
      show e_r 71 71 [.ref 4, .int what, .int wk, .int mo, .int (nI i), y5, y6] [.int ((Z 9 (i - 1)) + 1)] _ _ _
      rw [show e_r 71 71 [.ref 4, .int what, .int wk, .int mo, .int (nI i), y5, y6] [.int ((Z 9 (i - 1)) + 1)] (hp Z P L) = e_r 71 71 [.ref 4, .int what, .int wk, .int mo, .int (nI i), y5, y6] [.int (t_wk Z i)] (hp Z P L) from by rw [hK]]
      refine e_go hk_71 2 (c := (75, [.ref 4, .int what, .int wk, .int mo, .int (nI i), .int (t_wk Z i), y6], [.int (t_wk Z i)], hp Z P L)) rfl ?_
      refine e_call hk_71 (as := [.int (t_wk Z i)]) (rest := []) rfl rfl hk_79 rfl (Nat.le_of_ble_eq_true rfl) rfl (x_num (k := t_wk Z i)) ?_
      show e_r 71 78 [.ref 4, .int what, .int wk, .int mo, .int (nI i), .int (t_wk Z i), y6] [.int (y_b (y_nm (t_wk Z i)))] (hp Z P L) _ _
      refine e_go hk_71 1 (c := (if s_cnd .eq (y_b (y_nm (t_wk Z i))) 0 = true then 93 else 81, [.ref 4, .int what, .int wk, .int mo, .int (nI i), .int (t_wk Z i), y6], [], hp Z P L)) rfl ?_
      refine e_eq (a := 93) (b := 81) (x := y_b (y_nm (t_wk Z i))) (y := 0) (fun hc78 => ?_) (fun hc78 => ?_)
      · skip
        rw [y_b0] at hc78
        refine e_go hk_71 1 (c := (94, [.ref 4, .int what, .int wk, .int mo, .int (nI i), .int (t_wk Z i), y6], [.int 0], hp Z P L)) rfl ?_
        rw [show e_r 71 94 [.ref 4, .int what, .int wk, .int mo, .int (nI i), .int (t_wk Z i), y6] [.int 0] (hp Z P L) = e_r 71 94 [.ref 4, .int what, .int wk, .int mo, .int (nI i), .int (t_wk Z i), y6] [.int (t_wc Z n (t_wk Z i))] (hp Z P L) from by rw [t_wc, if_neg (by rw [hc78]; decide)]]
        refine e_go hk_71 4 (c := (if s_cnd .le (t_wc Z n (t_wk Z i)) mo = true then 108 else 102, [.ref 4, .int what, .int wk, .int mo, .int (nI i), .int (t_wk Z i), .int (t_wc Z n (t_wk Z i))], [], hp Z P L)) rfl ?_
        refine e_le (a := 108) (b := 102) (x := t_wc Z n (t_wk Z i)) (y := mo) (fun hc99 => ?_) (fun hc99 => ?_)
        · skip
          refine e_go hk_71 2 (c := (34, [.ref 4, .int what, .int wk, .int mo, .int ((nI i) + 1), .int (t_wk Z i), .int (t_wc Z n (t_wk Z i))], [], hp Z P L)) rfl ?_
          rw [t_wo, if_neg (fun z => absurd hc99 (Int32.not_le.mpr z)), nI_1]
          exact x_worst_l hN hn k (i + 1) _ _ _ _ (by omega)
        · skip
          refine e_go hk_71 6 (c := (34, [.ref 4, .int what, .int (t_wk Z i), .int (t_wc Z n (t_wk Z i)), .int ((nI i) + 1), .int (t_wk Z i), .int (t_wc Z n (t_wk Z i))], [], hp Z P L)) rfl ?_
          rw [t_wo, if_pos (Int32.not_le.mp hc99), nI_1]
          exact x_worst_l hN hn k (i + 1) _ _ _ _ (by omega)
      · skip
        rw [y_b1] at hc78
        refine e_go hk_71 3 (c := (87, [.ref 4, .int what, .int wk, .int mo, .int (nI i), .int (t_wk Z i), y6], [.int (t_wk Z i), .ref 5], hp Z P L)) rfl ?_
        refine e_call hk_71 (as := [.ref 5, .int (t_wk Z i)]) (rest := []) rfl rfl hk_44 rfl (Nat.le_of_ble_eq_true rfl) rfl (x_cost hN hn) ?_
        show e_r 71 90 [.ref 4, .int what, .int wk, .int mo, .int (nI i), .int (t_wk Z i), y6] [.int (t_cs Z n (t_wk Z i))] (hp Z P L) _ _
        refine e_go hk_71 1 (c := (94, [.ref 4, .int what, .int wk, .int mo, .int (nI i), .int (t_wk Z i), y6], [.int (t_cs Z n (t_wk Z i))], hp Z P L)) rfl ?_
        rw [show e_r 71 94 [.ref 4, .int what, .int wk, .int mo, .int (nI i), .int (t_wk Z i), y6] [.int (t_cs Z n (t_wk Z i))] (hp Z P L) = e_r 71 94 [.ref 4, .int what, .int wk, .int mo, .int (nI i), .int (t_wk Z i), y6] [.int (t_wc Z n (t_wk Z i))] (hp Z P L) from by rw [t_wc, if_pos hc78]]
        refine e_go hk_71 4 (c := (if s_cnd .le (t_wc Z n (t_wk Z i)) mo = true then 108 else 102, [.ref 4, .int what, .int wk, .int mo, .int (nI i), .int (t_wk Z i), .int (t_wc Z n (t_wk Z i))], [], hp Z P L)) rfl ?_
        refine e_le (a := 108) (b := 102) (x := t_wc Z n (t_wk Z i)) (y := mo) (fun hc99 => ?_) (fun hc99 => ?_)
        · skip
          refine e_go hk_71 2 (c := (34, [.ref 4, .int what, .int wk, .int mo, .int ((nI i) + 1), .int (t_wk Z i), .int (t_wc Z n (t_wk Z i))], [], hp Z P L)) rfl ?_
          rw [t_wo, if_neg (fun z => absurd hc99 (Int32.not_le.mpr z)), nI_1]
          exact x_worst_l hN hn k (i + 1) _ _ _ _ (by omega)
        · skip
          refine e_go hk_71 6 (c := (34, [.ref 4, .int what, .int (t_wk Z i), .int (t_wc Z n (t_wk Z i)), .int ((nI i) + 1), .int (t_wk Z i), .int (t_wc Z n (t_wk Z i))], [], hp Z P L)) rfl ?_
          rw [t_wo, if_pos (Int32.not_le.mp hc99), nI_1]
          exact x_worst_l hN hn k (i + 1) _ _ _ _ (by omega)
    · skip
      have hi0 : i = 0 := (nI_eq (by omega) (by decide)).mp (show nI i = nI 0 from hc48)
      have hK : t_wk Z i = 0 := by rw [t_wk, if_pos hi0]
      refine e_go hk_71 2 (c := (71, [.ref 4, .int what, .int wk, .int mo, .int (nI i), y5, y6], [.int 0], hp Z P L)) rfl ?_
      show e_r 71 71 [.ref 4, .int what, .int wk, .int mo, .int (nI i), y5, y6] [.int 0] _ _ _
      rw [show e_r 71 71 [.ref 4, .int what, .int wk, .int mo, .int (nI i), y5, y6] [.int 0] (hp Z P L) = e_r 71 71 [.ref 4, .int what, .int wk, .int mo, .int (nI i), y5, y6] [.int (t_wk Z i)] (hp Z P L) from by rw [hK]]
      refine e_go hk_71 2 (c := (75, [.ref 4, .int what, .int wk, .int mo, .int (nI i), .int (t_wk Z i), y6], [.int (t_wk Z i)], hp Z P L)) rfl ?_
      refine e_call hk_71 (as := [.int (t_wk Z i)]) (rest := []) rfl rfl hk_79 rfl (Nat.le_of_ble_eq_true rfl) rfl (x_num (k := t_wk Z i)) ?_
      show e_r 71 78 [.ref 4, .int what, .int wk, .int mo, .int (nI i), .int (t_wk Z i), y6] [.int (y_b (y_nm (t_wk Z i)))] (hp Z P L) _ _
      refine e_go hk_71 1 (c := (if s_cnd .eq (y_b (y_nm (t_wk Z i))) 0 = true then 93 else 81, [.ref 4, .int what, .int wk, .int mo, .int (nI i), .int (t_wk Z i), y6], [], hp Z P L)) rfl ?_
      refine e_eq (a := 93) (b := 81) (x := y_b (y_nm (t_wk Z i))) (y := 0) (fun hc78 => ?_) (fun hc78 => ?_)
      · skip
        rw [y_b0] at hc78
        refine e_go hk_71 1 (c := (94, [.ref 4, .int what, .int wk, .int mo, .int (nI i), .int (t_wk Z i), y6], [.int 0], hp Z P L)) rfl ?_
        rw [show e_r 71 94 [.ref 4, .int what, .int wk, .int mo, .int (nI i), .int (t_wk Z i), y6] [.int 0] (hp Z P L) = e_r 71 94 [.ref 4, .int what, .int wk, .int mo, .int (nI i), .int (t_wk Z i), y6] [.int (t_wc Z n (t_wk Z i))] (hp Z P L) from by rw [t_wc, if_neg (by rw [hc78]; decide)]]
        refine e_go hk_71 4 (c := (if s_cnd .le (t_wc Z n (t_wk Z i)) mo = true then 108 else 102, [.ref 4, .int what, .int wk, .int mo, .int (nI i), .int (t_wk Z i), .int (t_wc Z n (t_wk Z i))], [], hp Z P L)) rfl ?_
        refine e_le (a := 108) (b := 102) (x := t_wc Z n (t_wk Z i)) (y := mo) (fun hc99 => ?_) (fun hc99 => ?_)
        · skip
          refine e_go hk_71 2 (c := (34, [.ref 4, .int what, .int wk, .int mo, .int ((nI i) + 1), .int (t_wk Z i), .int (t_wc Z n (t_wk Z i))], [], hp Z P L)) rfl ?_
          rw [t_wo, if_neg (fun z => absurd hc99 (Int32.not_le.mpr z)), nI_1]
          exact x_worst_l hN hn k (i + 1) _ _ _ _ (by omega)
        · skip
          refine e_go hk_71 6 (c := (34, [.ref 4, .int what, .int (t_wk Z i), .int (t_wc Z n (t_wk Z i)), .int ((nI i) + 1), .int (t_wk Z i), .int (t_wc Z n (t_wk Z i))], [], hp Z P L)) rfl ?_
          rw [t_wo, if_pos (Int32.not_le.mp hc99), nI_1]
          exact x_worst_l hN hn k (i + 1) _ _ _ _ (by omega)
      · skip
        rw [y_b1] at hc78
        refine e_go hk_71 3 (c := (87, [.ref 4, .int what, .int wk, .int mo, .int (nI i), .int (t_wk Z i), y6], [.int (t_wk Z i), .ref 5], hp Z P L)) rfl ?_
        refine e_call hk_71 (as := [.ref 5, .int (t_wk Z i)]) (rest := []) rfl rfl hk_44 rfl (Nat.le_of_ble_eq_true rfl) rfl (x_cost hN hn) ?_
        show e_r 71 90 [.ref 4, .int what, .int wk, .int mo, .int (nI i), .int (t_wk Z i), y6] [.int (t_cs Z n (t_wk Z i))] (hp Z P L) _ _
        refine e_go hk_71 1 (c := (94, [.ref 4, .int what, .int wk, .int mo, .int (nI i), .int (t_wk Z i), y6], [.int (t_cs Z n (t_wk Z i))], hp Z P L)) rfl ?_
        rw [show e_r 71 94 [.ref 4, .int what, .int wk, .int mo, .int (nI i), .int (t_wk Z i), y6] [.int (t_cs Z n (t_wk Z i))] (hp Z P L) = e_r 71 94 [.ref 4, .int what, .int wk, .int mo, .int (nI i), .int (t_wk Z i), y6] [.int (t_wc Z n (t_wk Z i))] (hp Z P L) from by rw [t_wc, if_pos hc78]]
        refine e_go hk_71 4 (c := (if s_cnd .le (t_wc Z n (t_wk Z i)) mo = true then 108 else 102, [.ref 4, .int what, .int wk, .int mo, .int (nI i), .int (t_wk Z i), .int (t_wc Z n (t_wk Z i))], [], hp Z P L)) rfl ?_
        refine e_le (a := 108) (b := 102) (x := t_wc Z n (t_wk Z i)) (y := mo) (fun hc99 => ?_) (fun hc99 => ?_)
        · skip
          refine e_go hk_71 2 (c := (34, [.ref 4, .int what, .int wk, .int mo, .int ((nI i) + 1), .int (t_wk Z i), .int (t_wc Z n (t_wk Z i))], [], hp Z P L)) rfl ?_
          rw [t_wo, if_neg (fun z => absurd hc99 (Int32.not_le.mpr z)), nI_1]
          exact x_worst_l hN hn k (i + 1) _ _ _ _ (by omega)
        · skip
          refine e_go hk_71 6 (c := (34, [.ref 4, .int what, .int (t_wk Z i), .int (t_wc Z n (t_wk Z i)), .int ((nI i) + 1), .int (t_wk Z i), .int (t_wc Z n (t_wk Z i))], [], hp Z P L)) rfl ?_
          rw [t_wo, if_pos (Int32.not_le.mp hc99), nI_1]
          exact x_worst_l hN hn k (i + 1) _ _ _ _ (by omega)
theorem x_worst {Z : Nat → Nat → Int32} {P : Nat → Nat} {L n : Nat} (hN : Z 5 6 = nI n) (hn : n ≤ 60) {what : Int32} : m_r 71 [.ref 4, .int what] (hp Z P L) (some (.int (c_worst Z n what))) (hp Z P L) := by
  refine m_of (ls := [.ref 4, .int what, s_no, s_no, s_no, s_no, s_no]) hk_71 rfl rfl rfl ?_
  refine e_go hk_71 2 (c := (if s_cnd .eq what 0 = true then 12 else 4, [.ref 4, .int what, s_no, s_no, s_no, s_no, s_no], [], hp Z P L)) rfl ?_
  refine e_eq (a := 12) (b := 4) (x := what) (y := 0) (fun hc1 => ?_) (fun hc1 => ?_)
  · skip
    refine e_go hk_71 5 (c := (if s_cnd .lt (Z 5 6) 60 = true then 27 else 24, [.ref 4, .int what, s_no, s_no, s_no, s_no, s_no], [], hp Z P L)) rfl ?_
    refine e_lt (a := 27) (b := 24) (x := Z 5 6) (y := 60) (fun hc21 => ?_) (fun hc21 => ?_)
    · skip
      rw [hN] at hc21
      have hlt : n < 60 := (y_lt (by omega) (by decide)).mp (show nI n < nI 60 from hc21)
      refine e_go hk_71 6 (c := (34, [.ref 4, .int what, .int 0, .int 0, .int 0, s_no, s_no], [], hp Z P L)) rfl ?_
      rw [c_worst, if_pos (Or.inl hc1), if_pos hlt]
      exact x_worst_l hN hn (n + 1) 0 0 0 _ _ (by omega)
    · skip
      rw [hN] at hc21
      have hlt : ¬ n < 60 := fun z => hc21 (show nI n < nI 60 from (y_lt (by omega) (by decide)).mpr z)
      refine e_go hk_71 1 (c := (26, [.ref 4, .int what, s_no, s_no, s_no, s_no, s_no], [.int ((-4))], hp Z P L)) rfl ?_
      exact e_ret hk_71 rfl rfl rfl (by rw [c_worst, if_pos (Or.inl hc1), if_neg hlt]) rfl
  · skip
    refine e_go hk_71 3 (c := (if s_cnd .eq what 1 = true then 12 else 9, [.ref 4, .int what, s_no, s_no, s_no, s_no, s_no], [], hp Z P L)) rfl ?_
    refine e_eq (a := 12) (b := 9) (x := what) (y := 1) (fun hc6 => ?_) (fun hc6 => ?_)
    · skip
      refine e_go hk_71 5 (c := (if s_cnd .lt (Z 5 6) 60 = true then 27 else 24, [.ref 4, .int what, s_no, s_no, s_no, s_no, s_no], [], hp Z P L)) rfl ?_
      refine e_lt (a := 27) (b := 24) (x := Z 5 6) (y := 60) (fun hc21 => ?_) (fun hc21 => ?_)
      · skip
        rw [hN] at hc21
        have hlt : n < 60 := (y_lt (by omega) (by decide)).mp (show nI n < nI 60 from hc21)
        refine e_go hk_71 6 (c := (34, [.ref 4, .int what, .int 0, .int 0, .int 0, s_no, s_no], [], hp Z P L)) rfl ?_
        rw [c_worst, if_pos (Or.inr hc6), if_pos hlt]
        exact x_worst_l hN hn (n + 1) 0 0 0 _ _ (by omega)
      · skip
        rw [hN] at hc21
        have hlt : ¬ n < 60 := fun z => hc21 (show nI n < nI 60 from (y_lt (by omega) (by decide)).mpr z)
        refine e_go hk_71 1 (c := (26, [.ref 4, .int what, s_no, s_no, s_no, s_no, s_no], [.int ((-4))], hp Z P L)) rfl ?_
        exact e_ret hk_71 rfl rfl rfl (by rw [c_worst, if_pos (Or.inr hc6), if_neg hlt]) rfl
    · skip
      refine e_go hk_71 1 (c := (11, [.ref 4, .int what, s_no, s_no, s_no, s_no, s_no], [.int ((-2))], hp Z P L)) rfl ?_
      exact e_ret hk_71 rfl rfl rfl (by rw [c_worst, if_neg (by rw [not_or]; exact ⟨hc1, hc6⟩)]) rfl
theorem x_wipe {Z : Nat → Nat → Int32} {P : Nat → Nat} {L : Nat} : m_r 73 [.ref 4] (hp Z P L) (some (.int (Z 99 1))) (hp (s_upd Z 99 1 0) P L) := by
  refine m_of (ls := [.ref 4, s_no]) hk_73 rfl rfl rfl ?_
  refine e_go hk_73 9 (c := (17, [.ref 4, .int (Z 99 1)], [.int (Z 99 1)], hp (s_upd Z 99 1 0) P L)) rfl ?_
  exact e_ret hk_73 rfl rfl rfl rfl rfl
theorem t_ci_8 {w : Int64} : ∀ (k i : Nat), i + k = 8 → ∃ j : Nat, j ≤ 8 ∧ t_ci w i k = nI j
  | 0, i, h => ⟨8, Nat.le_refl _, rfl⟩
  | k + 1, i, h => by
    unfold t_ci
    split
    · split
      · exact ⟨i, by omega, rfl⟩
      · exact ⟨0, by omega, rfl⟩
    · split
      · exact ⟨0, by omega, rfl⟩
      · exact t_ci_8 k (i + 1) (by omega)
def c_text (Z : Nat → Nat → Int32) (g : Nat) (w : Int64) : Int32 × (Nat → Nat → Int32) := if (t_ci w 0 8).toNatClampNeg = 0 then (-2, Z) else if 80 < g + (t_ci w 0 8).toNatClampNeg then (-4, Z) else ((t_ap w (t_ci w 0 8).toNatClampNeg g Z) 99 1, t_ap w (t_ci w 0 8).toNatClampNeg g Z)
theorem x_text {Z : Nat → Nat → Int32} {P : Nat → Nat} {L : Nat} {g : Nat} {w : Int64} (hG : Z 99 1 = nI g) (hg : g ≤ 80) : m_r 72 [.ref 4, .long w] (hp Z P L) (some (.int (c_text Z g w).1)) (hp (c_text Z g w).2 P L) := by
  obtain ⟨j, hj8, hj⟩ := t_ci_8 (w := w) 8 0 rfl
  refine m_of (ls := [.ref 4, .long w, s_no, s_no]) hk_72 rfl rfl rfl ?_
  refine e_go hk_72 1 (c := (1, [.ref 4, .long w, s_no, s_no], [.long w], hp Z P L)) rfl ?_
  refine e_call hk_72 (as := [.long w]) (rest := []) rfl rfl hk_18 rfl (Nat.le_of_ble_eq_true rfl) rfl (show m_r 18 [.long w] (hp Z P L) (some (.int (nI j))) (hp Z P L) from (by rw [← hj]; exact x_ci)) ?_
  show e_r 72 4 [.ref 4, .long w, s_no, s_no] [.int (nI j)] (hp Z P L) _ _
  refine e_go hk_72 3 (c := (if s_cnd .gt (nI j) 0 = true then 12 else 9, [.ref 4, .long w, s_no, .int (nI j)], [], hp Z P L)) rfl ?_
  refine e_gt (a := 12) (b := 9) (x := nI j) (y := 0) (fun hc6 => ?_) (fun hc6 => ?_)
  · skip
    have h0 : ¬ j = 0 := fun z => by rw [z] at hc6; exact absurd hc6 (by decide)
    refine e_go hk_72 7 (c := (if s_cnd .le ((Z 99 1) + (nI j)) 80 = true then 29 else 26, [.ref 4, .long w, s_no, .int (nI j)], [], hp Z P L)) rfl ?_
    refine e_le (a := 29) (b := 26) (x := (Z 99 1) + (nI j)) (y := 80) (fun hc23 => ?_) (fun hc23 => ?_)
    · skip
      rw [hG, nI_add g j, show (80 : Int32) = nI 80 from rfl, y_le (by omega) (by omega)] at hc23
      refine e_go hk_72 4 (c := (35, [.ref 4, .long w, s_no, .int (nI j)], [.int (nI j), .long w, .ref 99], hp Z P L)) rfl ?_
      refine e_call hk_72 (as := [.ref 99, .long w, .int (nI j)]) (rest := []) rfl rfl hk_19 rfl (Nat.le_of_ble_eq_true rfl) rfl (x_append (k := j) hG (by omega)) ?_
      show e_r 72 38 [.ref 4, .long w, s_no, .int (nI j)] [] (hp ((t_ap w j g Z)) P L) _ _
      refine e_go hk_72 3 (c := (45, [.ref 4, .long w, s_no, .int (nI j)], [.int (((t_ap w j g Z)) 99 1)], hp ((t_ap w j g Z)) P L)) rfl ?_
      exact e_ret hk_72 rfl rfl rfl (by rw [c_text, hj, nI_clamp (by omega), if_neg h0, if_neg (by omega)]) (by rw [c_text, hj, nI_clamp (by omega), if_neg h0, if_neg (by omega)])
    · skip
      rw [hG, nI_add g j, show (80 : Int32) = nI 80 from rfl, y_le (by omega) (by omega)] at hc23
      refine e_go hk_72 1 (c := (28, [.ref 4, .long w, s_no, .int (nI j)], [.int ((-4))], hp Z P L)) rfl ?_
      exact e_ret hk_72 rfl rfl rfl (by rw [c_text, hj, nI_clamp (by omega), if_neg h0, if_pos (by omega)]) (by rw [c_text, hj, nI_clamp (by omega), if_neg h0, if_pos (by omega)])
  · skip
    have h0 : j = 0 := by
      rcases Nat.eq_zero_or_pos j with z | z
      · exact z
      · exact absurd ((nI_ltI (by decide) (by omega)).mpr z : nI 0 < nI j) hc6
    refine e_go hk_72 1 (c := (11, [.ref 4, .long w, s_no, .int (nI j)], [.int ((-2))], hp Z P L)) rfl ?_
    exact e_ret hk_72 rfl rfl rfl (by rw [c_text, hj, nI_clamp (by omega), if_pos h0]) (by rw [c_text, hj, nI_clamp (by omega), if_pos h0])
theorem t_r1o {Z : Nat → Nat → Int32} {c : Int32} {q : Nat} (hq : q ≠ 102) : (t_r1 Z c).2 q = Z q := by
  unfold t_r1
  split
  · show s_upd (s_upd (s_upd Z 102 0 c) 102 4 0) 102 1 1 q = Z q
    rw [s_upd_o hq, s_upd_o hq, s_upd_o hq]
  · rfl
theorem t_r2o {Z : Nat → Nat → Int32} {c : Int32} {q : Nat} (hq : q ≠ 102) : (t_r2 Z c).2 q = Z q := by
  unfold t_r2
  split
  · show s_upd (s_upd Z 102 3 (c - 48)) 102 1 2 q = Z q
    rw [s_upd_o hq, s_upd_o hq]
  · rfl
theorem t_r3o {Z : Nat → Nat → Int32} {c : Int32} {q : Nat} (hq : q ≠ 102) : (t_r3 Z c).2 q = Z q := by
  unfold t_r3
  split
  · show s_upd Z 102 3 (10 * Z 102 3 + c - 48) q = Z q
    rw [s_upd_o hq]
  · rfl
theorem t_r4o {Z : Nat → Nat → Int32} {c : Int32} {q : Nat} (hq : q ≠ 102) : (t_r4 Z c).2 q = Z q := by
  unfold t_r4
  split
  · show s_upd (s_upd (s_upd Z 102 2 (Z 102 3)) 102 4 1) 102 1 1 q = Z q
    rw [s_upd_o hq, s_upd_o hq, s_upd_o hq]
  · rfl
theorem t_r5o {Z : Nat → Nat → Int32} {c : Int32} {q : Nat} (hq : q ≠ 102) : (t_r5 Z c).2 q = Z q := by
  unfold t_r5
  split
  · show s_upd Z 102 1 0 q = Z q
    rw [s_upd_o hq]
  · rfl
theorem t_r_o {Z : Nat → Nat → Int32} {c : Int32} {q : Nat} (hq : q ≠ 102) : (t_rdr Z c).2 q = Z q := by
  unfold t_rdr
  split
  · exact t_r1o hq
  split
  · exact t_r2o hq
  split
  · exact t_r3o hq
  split
  · exact t_r4o hq
  · exact t_r5o hq
theorem t_r_s {Z : Nat → Nat → Int32} {c : Int32} (h : Z 102 1 = 0 ∨ Z 102 1 = 1 ∨ Z 102 1 = 2) : (t_rdr Z c).2 102 1 = 0 ∨ (t_rdr Z c).2 102 1 = 1 ∨ (t_rdr Z c).2 102 1 = 2 := by
  unfold t_rdr t_r1 t_r2 t_r3 t_r4 t_r5
  repeat (first | exact h | exact Or.inl rfl | exact Or.inr (Or.inl rfl) | exact Or.inr (Or.inr rfl) | split)
def t_fa : Nat → Nat → (Nat → Nat → Int32) → Int32 × (Nat → Nat → Int32)
  | _, 0, Z => (if Z 102 1 = 2 then -6 else Z 99 1, Z)
  | i, k + 1, Z => if (t_rdr Z (Z 101 i)).1 = true then t_fa (i + 1) k (t_rdr Z (Z 101 i)).2 else (nI i, (t_rdr Z (Z 101 i)).2)
theorem x_fault_l {P : Nat → Nat} {L g : Nat} (hg : g ≤ 80)  : ∀ (k i : Nat) (Z : Nat → Nat → Int32), Z 99 1 = nI g → (Z 102 1 = 0 ∨ Z 102 1 = 1 ∨ Z 102 1 = 2) → i + k = g → e_r 74 9 [.ref 4, .int (nI i)] [] (hp Z P L) (some (.int (t_fa i k Z).1)) (hp (t_fa i k Z).2 P L)
  | 0, i, Z, hG, hS, hi2 => by
    refine e_go hk_74 5 (c := (if s_cnd .ge (nI i) (Z 99 1) = true then 49 else 20, [.ref 4, .int (nI i)], [], hp Z P L)) rfl ?_
    refine e_ge (a := 49) (b := 20) (x := nI i) (y := Z 99 1) (fun hc17 => ?_) (fun hc17 => absurd (by rw [hG]; exact (y_le (by omega) (by omega)).mpr (by omega)) hc17)
    refine e_go hk_74 2 (c := (53, [.ref 4, .int (nI i)], [.ref 102], hp Z P L)) rfl ?_
    refine e_call hk_74 (as := [.ref 102]) (rest := []) rfl rfl hk_8 rfl (Nat.le_of_ble_eq_true rfl) rfl x_hasw ?_
    show e_r 74 56 [.ref 4, .int (nI i)] [.int (y_b (decide (Z 102 1 = 2)))] (hp Z P L) _ _
    refine e_go hk_74 1 (c := (if s_cnd .eq (y_b (decide (Z 102 1 = 2))) 0 = true then 64 else 59, [.ref 4, .int (nI i)], [], hp Z P L)) rfl ?_
    refine e_eq (a := 64) (b := 59) (x := y_b (decide (Z 102 1 = 2))) (y := 0) (fun hc56 => ?_) (fun hc56 => ?_)
    · skip
      rw [y_d0] at hc56
      refine e_go hk_74 3 (c := (71, [.ref 4, .int (nI i)], [.int (Z 99 1)], hp Z P L)) rfl ?_
      exact e_ret hk_74 rfl rfl rfl (by rw [t_fa, if_neg hc56]) rfl
    · skip
      rw [y_d1] at hc56
      refine e_go hk_74 2 (c := (71, [.ref 4, .int (nI i)], [.int ((-6))], hp Z P L)) rfl ?_
      exact e_ret hk_74 rfl rfl rfl (by rw [t_fa, if_pos hc56]) rfl
  | k + 1, i, Z, hG, hS, hi2 => by
    refine e_go hk_74 5 (c := (if s_cnd .ge (nI i) (Z 99 1) = true then 49 else 20, [.ref 4, .int (nI i)], [], hp Z P L)) rfl ?_
    refine e_ge (a := 49) (b := 20) (x := nI i) (y := Z 99 1) (fun hc17 => absurd hc17 (by rw [hG]; exact nI_ge (by omega) (by omega))) (fun hc17 => ?_)
    refine e_go hk_74 6 (c := (32, [.ref 4, .int (nI i)], [.int (nI i), .ref 100, .ref 102], hp Z P L)) rfl ?_
    refine e_call hk_74 (as := [.ref 100, .int (nI i)]) (rest := [.ref 102]) rfl rfl hk_22 rfl (Nat.le_of_ble_eq_true rfl) rfl (x_at (r := 100) (a := 101) (n := 80) rfl rfl rfl (by decide) (j := i) (by omega)) ?_
    show e_r 74 35 [.ref 4, .int (nI i)] [.int (Z 101 i), .ref 102] (hp Z P L) _ _
    refine e_call hk_74 (as := [.ref 102, .int (Z 101 i)]) (rest := []) rfl rfl hk_7 rfl (Nat.le_of_ble_eq_true rfl) rfl (x_rd (Z := Z) hS) ?_
    show e_r 74 38 [.ref 4, .int (nI i)] [.int (y_b (t_rdr Z (Z 101 i)).1)] (hp ((t_rdr Z (Z 101 i)).2) P L) _ _
    refine e_go hk_74 1 (c := (if s_cnd .ne (y_b (t_rdr Z (Z 101 i)).1) 0 = true then 43 else 41, [.ref 4, .int (nI i)], [], hp ((t_rdr Z (Z 101 i)).2) P L)) rfl ?_
    refine e_ne (a := 43) (b := 41) (x := y_b (t_rdr Z (Z 101 i)).1) (y := 0) (fun hc38 => ?_) (fun hc38 => ?_)
    · skip
      rw [y_b1] at hc38
      refine e_go hk_74 2 (c := (9, [.ref 4, .int ((nI i) + 1)], [], hp ((t_rdr Z (Z 101 i)).2) P L)) rfl ?_
      rw [t_fa, if_pos hc38, nI_1]
      exact x_fault_l hg k (i + 1) _ (by rw [t_r_o (by decide)]; exact hG) (t_r_s hS) (by omega)
    · skip
      rw [y_b0] at hc38
      refine e_go hk_74 1 (c := (42, [.ref 4, .int (nI i)], [.int (nI i)], hp ((t_rdr Z (Z 101 i)).2) P L)) rfl ?_
      exact e_ret hk_74 rfl rfl rfl (by rw [t_fa, if_neg (by rw [hc38]; decide)]) (by rw [t_fa, if_neg (by rw [hc38]; decide)])
theorem x_fault {Z : Nat → Nat → Int32} {P : Nat → Nat} {L : Nat} {g : Nat} (hG : Z 99 1 = nI g) (hg : g ≤ 80) : m_r 74 [.ref 4] (hp Z P L) (some (.int (t_fa 0 g (s_upd Z 102 1 0)).1)) (hp (t_fa 0 g (s_upd Z 102 1 0)).2 P L) := by
  refine m_of (ls := [.ref 4, s_no]) hk_74 rfl rfl rfl ?_
  refine e_go hk_74 2 (c := (4, [.ref 4, s_no], [.ref 102], hp Z P L)) rfl ?_
  refine e_call hk_74 (as := [.ref 102]) (rest := []) rfl rfl hk_6 rfl (Nat.le_of_ble_eq_true rfl) rfl x_begin ?_
  show e_r 74 7 [.ref 4, s_no] [] (hp (s_upd Z 102 1 0) P L) _ _
  refine e_go hk_74 2 (c := (9, [.ref 4, .int 0], [], hp (s_upd Z 102 1 0) P L)) rfl ?_
  exact x_fault_l hg g 0 _ (by rw [s_upd_o (by decide)]; exact hG) (Or.inl rfl) (by omega)
theorem x_undo_0 {Z : Nat → Nat → Int32} {P : Nat → Nat} {L : Nat} (hP : ∀ j, j < 6 → t_hs (P j)) (hM : Z 18 1 = nI 0) : m_r 76 [.ref 4] (hp Z P L) (some (.int (-5))) (hp Z P L) := by
  refine m_of (ls := [.ref 4]) hk_76 rfl rfl rfl ?_
  refine e_go hk_76 4 (c := (8, [.ref 4], [.ref 5, .ref 18], hp Z P L)) rfl ?_
  refine e_call hk_76 (as := [.ref 18, .ref 5]) (rest := []) rfl rfl hk_2 rfl (Nat.le_of_ble_eq_true rfl) rfl (show m_r 2 [.ref 18, .ref 5] (hp Z P L) (some (.int 0)) (hp Z P L) from x_take_0 (fun j hj => t_hs_at (hP j hj)) hM) ?_
  show e_r 76 11 [.ref 4] [.int 0] (hp Z P L) _ _
  refine e_go hk_76 1 (c := (if s_cnd .eq 0 0 = true then 24 else 14, [.ref 4], [], hp Z P L)) rfl ?_
  refine e_eq (a := 24) (b := 14) (x := 0) (y := 0) (fun hc11 => ?_) (fun hc11 => absurd (rfl) hc11)
  refine e_go hk_76 1 (c := (26, [.ref 4], [.int ((-5))], hp Z P L)) rfl ?_
  exact e_ret hk_76 rfl rfl rfl rfl rfl
theorem x_undo_s {Z : Nat → Nat → Int32} {P : Nat → Nat} {L : Nat} (hP : ∀ j, j < 6 → t_hs (P j)) {m : Nat} (hM : Z 18 1 = nI (m + 1)) (hm : m < 6) : m_r 76 [.ref 4] (hp Z P L) (some (.int ((t_tk Z P (m + 1)).2 18 1))) (hp (t_tk Z P (m + 1)).2 P L) := by
  refine m_of (ls := [.ref 4]) hk_76 rfl rfl rfl ?_
  refine e_go hk_76 4 (c := (8, [.ref 4], [.ref 5, .ref 18], hp Z P L)) rfl ?_
  refine e_call hk_76 (as := [.ref 18, .ref 5]) (rest := []) rfl rfl hk_2 rfl (Nat.le_of_ble_eq_true rfl) rfl (show m_r 2 [.ref 18, .ref 5] (hp Z P L) (some (.int 1)) (hp (t_tk Z P (m + 1)).2 P L) from x_take_s (fun j hj => t_hs_at (hP j hj)) hM hm) ?_
  show e_r 76 11 [.ref 4] [.int 1] (hp ((t_tk Z P (m + 1)).2) P L) _ _
  refine e_go hk_76 1 (c := (if s_cnd .eq 1 0 = true then 24 else 14, [.ref 4], [], hp ((t_tk Z P (m + 1)).2) P L)) rfl ?_
  refine e_eq (a := 24) (b := 14) (x := 1) (y := 0) (fun hc11 => absurd hc11 (by decide)) (fun hc11 => ?_)
  refine e_go hk_76 4 (c := (26, [.ref 4], [.int (((t_tk Z P (m + 1)).2) 18 1)], hp ((t_tk Z P (m + 1)).2) P L)) rfl ?_
  exact e_ret hk_76 rfl rfl rfl rfl rfl
theorem x_slot0 {Z : Nat → Nat → Int32} {P : Nat → Nat} {L : Nat} : m_r 81 [.ref 4, .int 0] (hp Z P L) (some (.ref 103)) (hp Z P L) := by
  refine m_of (ls := [.ref 4, .int 0]) hk_81 rfl rfl rfl ?_
  refine e_go hk_81 2 (c := (if s_cnd .lt 0 0 = true then 22 else 4, [.ref 4, .int 0], [], hp Z P L)) rfl ?_
  refine e_lt (a := 22) (b := 4) (x := 0) (y := 0) (fun hc1 => absurd hc1 (by decide)) (fun hc1 => ?_)
  refine e_go hk_81 5 (c := (if s_cnd .ge 0 2 = true then 22 else 13, [.ref 4, .int 0], [], hp Z P L)) rfl ?_
  refine e_ge (a := 22) (b := 13) (x := 0) (y := 2) (fun hc10 => absurd hc10 (by decide)) (fun hc10 => ?_)
  refine e_go hk_81 5 (c := (23, [.ref 4, .int 0], [.ref 103], hp Z P L)) rfl ?_
  exact e_ret hk_81 rfl rfl rfl rfl rfl
theorem x_slot1 {Z : Nat → Nat → Int32} {P : Nat → Nat} {L : Nat} : m_r 81 [.ref 4, .int 1] (hp Z P L) (some (.ref 117)) (hp Z P L) := by
  refine m_of (ls := [.ref 4, .int 1]) hk_81 rfl rfl rfl ?_
  refine e_go hk_81 2 (c := (if s_cnd .lt 1 0 = true then 22 else 4, [.ref 4, .int 1], [], hp Z P L)) rfl ?_
  refine e_lt (a := 22) (b := 4) (x := 1) (y := 0) (fun hc1 => absurd hc1 (by decide)) (fun hc1 => ?_)
  refine e_go hk_81 5 (c := (if s_cnd .ge 1 2 = true then 22 else 13, [.ref 4, .int 1], [], hp Z P L)) rfl ?_
  refine e_ge (a := 22) (b := 13) (x := 1) (y := 2) (fun hc10 => absurd hc10 (by decide)) (fun hc10 => ?_)
  refine e_go hk_81 5 (c := (23, [.ref 4, .int 1], [.ref 117], hp Z P L)) rfl ?_
  exact e_ret hk_81 rfl rfl rfl rfl rfl
theorem x_slot_no {Z : Nat → Nat → Int32} {P : Nat → Nat} {L : Nat} {s : Int32} (hq : s < 0 ∨ 2 ≤ s) : m_r 81 [.ref 4, .int s] (hp Z P L) (some .null) (hp Z P L) := by
  refine m_of (ls := [.ref 4, .int s]) hk_81 rfl rfl rfl ?_
  refine e_go hk_81 2 (c := (if s_cnd .lt s 0 = true then 22 else 4, [.ref 4, .int s], [], hp Z P L)) rfl ?_
  refine e_lt (a := 22) (b := 4) (x := s) (y := 0) (fun hc1 => ?_) (fun hc1 => ?_)
  · skip
    refine e_go hk_81 1 (c := (23, [.ref 4, .int s], [.null], hp Z P L)) rfl ?_
    exact e_ret hk_81 rfl rfl rfl rfl rfl
  · skip
    have h3 : 2 ≤ s := hq.elim (fun z => absurd z hc1) id
    refine e_go hk_81 5 (c := (if s_cnd .ge s 2 = true then 22 else 13, [.ref 4, .int s], [], hp Z P L)) rfl ?_
    refine e_ge (a := 22) (b := 13) (x := s) (y := 2) (fun hc10 => ?_) (fun hc10 => absurd (h3) hc10)
    refine e_go hk_81 1 (c := (23, [.ref 4, .int s], [.null], hp Z P L)) rfl ?_
    exact e_ret hk_81 rfl rfl rfl rfl rfl
theorem x_save_no {Z : Nat → Nat → Int32} {P : Nat → Nat} {L : Nat} {s : Int32} (hq : s < 0 ∨ 2 ≤ s) : m_r 77 [.ref 4, .int s] (hp Z P L) (some (.int (-2))) (hp Z P L) := by
  refine m_of (ls := [.ref 4, .int s, s_no]) hk_77 rfl rfl rfl ?_
  refine e_go hk_77 2 (c := (2, [.ref 4, .int s, s_no], [.int s, .ref 4], hp Z P L)) rfl ?_
  refine e_call hk_77 (as := [.ref 4, .int s]) (rest := []) rfl rfl hk_81 rfl (Nat.le_of_ble_eq_true rfl) rfl (x_slot_no hq) ?_
  show e_r 77 5 [.ref 4, .int s, s_no] [.null] (hp Z P L) _ _
  refine e_go hk_77 4 (c := (12, [.ref 4, .int s, .null], [.int ((-2))], hp Z P L)) rfl ?_
  exact e_ret hk_77 rfl rfl rfl rfl rfl
theorem x_rest_no {Z : Nat → Nat → Int32} {P : Nat → Nat} {L : Nat} {s : Int32} (hq : s < 0 ∨ 2 ≤ s) : m_r 78 [.ref 4, .int s] (hp Z P L) (some (.int (-2))) (hp Z P L) := by
  refine m_of (ls := [.ref 4, .int s, s_no]) hk_78 rfl rfl rfl ?_
  refine e_go hk_78 2 (c := (2, [.ref 4, .int s, s_no], [.int s, .ref 4], hp Z P L)) rfl ?_
  refine e_call hk_78 (as := [.ref 4, .int s]) (rest := []) rfl rfl hk_81 rfl (Nat.le_of_ble_eq_true rfl) rfl (x_slot_no hq) ?_
  show e_r 78 5 [.ref 4, .int s, s_no] [.null] (hp Z P L) _ _
  refine e_go hk_78 4 (c := (12, [.ref 4, .int s, .null], [.int ((-2))], hp Z P L)) rfl ?_
  exact e_ret hk_78 rfl rfl rfl rfl rfl
theorem t_bc_s {Z : Nat → Nat → Int32} {x y s : Nat} (hxy : y < x ∨ x + 12 < y) (hs : 6 ≤ s ∧ s ≤ 10) : t_bc Z x y x s = Z y s := by
  have e : ∀ (W : Nat → Nat → Int32) (s : Nat), t_bc5 W x y s y = W y := fun W s => s_upd_o (by omega)
  have g : ∀ (W : Nat → Nat → Int32) (s t : Nat), t_bc5 W x y s x t = if t = s then W y s else W x t := by
    intro W s t
    unfold t_bc5
    rw [s_upd_c]
    by_cases h : t = s
    · rw [if_pos ⟨rfl, h⟩, if_pos h]
    · rw [if_neg (fun z => h z.2), if_neg h]
  have f : t_bc6 Z x y y = Z y := by
    unfold t_bc6
    rw [t_cp_o (by omega), t_cp_o (by omega), t_cp_o (by omega), t_cp_o (by omega), t_cp_o (by omega), t_cp_o (by omega)]
  have hs2 : s = 6 ∨ s = 7 ∨ s = 8 ∨ s = 9 ∨ s = 10 := by omega
  unfold t_bc
  rcases hs2 with rfl | rfl | rfl | rfl | rfl <;> simp [g, e, f]
def c_save (Z : Nat → Nat → Int32) (c : Nat) : Nat → Nat → Int32 := s_upd (t_bc Z (c + 1) 5) c 1 1
def c_rest (Z : Nat → Nat → Int32) (P : Nat → Nat) (m c : Nat) : Nat → Nat → Int32 := t_bc (t_kZ Z P m) 5 (c + 1)
theorem x_save0 {Z : Nat → Nat → Int32} {P : Nat → Nat} {L n : Nat} (hN : Z 5 6 = nI n) (hn : n ≤ 60) : m_r 77 [.ref 4, .int 0] (hp Z P L) (some (.int (t_sm (Z 17) 0 n 0))) (hp (c_save Z 103) P L) := by
  have hN2 : c_save Z 103 5 6 = nI n := by unfold c_save; rw [s_upd_o (by decide), t_bc_o (by decide)]; exact hN
  have h17 : c_save Z 103 17 = Z 17 := by unfold c_save; rw [s_upd_o (by decide), t_bc_o (by decide)]
  refine m_of (ls := [.ref 4, .int 0, s_no]) hk_77 rfl rfl rfl ?_
  refine e_go hk_77 2 (c := (2, [.ref 4, .int 0, s_no], [.int 0, .ref 4], hp Z P L)) rfl ?_
  refine e_call hk_77 (as := [.ref 4, .int 0]) (rest := []) rfl rfl hk_81 rfl (Nat.le_of_ble_eq_true rfl) rfl x_slot0 ?_
  show e_r 77 5 [.ref 4, .int 0, s_no] [.ref 103] (hp Z P L) _ _
  refine e_go hk_77 7 (c := (21, [.ref 4, .int 0, .ref 103], [.ref 5, .ref 104], hp Z P L)) rfl ?_
  refine e_call hk_77 (as := [.ref 104, .ref 5]) (rest := []) rfl rfl hk_29 rfl (Nat.le_of_ble_eq_true rfl) rfl (x_tbec (x := 104) (y := 5) (h := hp Z P L) (t_at_is (show t_at 104 from by unfold t_at; omega)) (t_at_is (show t_at 5 from by unfold t_at; omega)) (t_at4 (show t_at 104 from by unfold t_at; omega)) (t_at4 (show t_at 5 from by unfold t_at; omega))) ?_
  show e_r 77 24 [.ref 4, .int 0, .ref 103] [] (hp ((t_bc Z 104 5)) P L) _ _
  refine e_go hk_77 5 (c := (33, [.ref 4, .int 0, .ref 103], [.ref 5], hp (s_upd ((t_bc Z 104 5)) 103 1 1) P L)) rfl ?_
  refine e_call hk_77 (as := [.ref 5]) (rest := []) rfl rfl hk_34 rfl (Nat.le_of_ble_eq_true rfl) rfl (show m_r 34 [.ref 5] (hp (c_save Z 103) P L) (some (.int (t_sm (Z 17) 0 n 0))) (hp (c_save Z 103) P L) from by have := x_all (Z := c_save Z 103) (P := P) (L := L) hN2 hn; rw [h17] at this; exact this) ?_
  show e_r 77 36 [.ref 4, .int 0, .ref 103] [.int (t_sm (Z 17) 0 n 0)] (hp (s_upd ((t_bc Z 104 5)) 103 1 1) P L) _ _
  exact e_ret hk_77 rfl rfl rfl rfl rfl
theorem x_rest0_e {Z : Nat → Nat → Int32} {P : Nat → Nat} {L : Nat} (hS : Z 103 1 = 0) : m_r 78 [.ref 4, .int 0] (hp Z P L) (some (.int (-5))) (hp Z P L) := by
  refine m_of (ls := [.ref 4, .int 0, s_no]) hk_78 rfl rfl rfl ?_
  refine e_go hk_78 2 (c := (2, [.ref 4, .int 0, s_no], [.int 0, .ref 4], hp Z P L)) rfl ?_
  refine e_call hk_78 (as := [.ref 4, .int 0]) (rest := []) rfl rfl hk_81 rfl (Nat.le_of_ble_eq_true rfl) rfl x_slot0 ?_
  show e_r 78 5 [.ref 4, .int 0, s_no] [.ref 103] (hp Z P L) _ _
  refine e_go hk_78 6 (c := (if s_cnd .ne (Z 103 1) 0 = true then 23 else 20, [.ref 4, .int 0, .ref 103], [], hp Z P L)) rfl ?_
  refine e_ne (a := 23) (b := 20) (x := Z 103 1) (y := 0) (fun hc17 => absurd (hS) hc17) (fun hc17 => ?_)
  refine e_go hk_78 1 (c := (22, [.ref 4, .int 0, .ref 103], [.int ((-5))], hp Z P L)) rfl ?_
  exact e_ret hk_78 rfl rfl rfl rfl rfl
theorem x_rest0 {Z : Nat → Nat → Int32} {P : Nat → Nat} {L n m : Nat} (hN : Z 5 6 = nI n) (hn : n ≤ 60) (hF : ∀ i, i < n → Z 17 i = 0 ∨ Z 17 i = 1) (hP : ∀ j, j < 6 → t_hs (P j)) (hM : Z 18 1 = nI m) (hm : m ≤ 6) {n2 : Nat} (hn2 : n2 ≤ 60) (hS : ¬ Z 103 1 = 0) (hT : Z 104 6 = nI n2) : m_r 78 [.ref 4, .int 0] (hp Z P L) (some (.int (t_sm (c_rest Z P m 103 17) 0 n2 0))) (hp (c_rest Z P m 103) (t_kP P m) L) := by
  have hN2 : c_rest Z P m 103 5 6 = nI n2 := by unfold c_rest; rw [t_bc_s (by omega) (by omega), t_kZ_o hP (by omega)]; exact hT
  refine m_of (ls := [.ref 4, .int 0, s_no]) hk_78 rfl rfl rfl ?_
  refine e_go hk_78 2 (c := (2, [.ref 4, .int 0, s_no], [.int 0, .ref 4], hp Z P L)) rfl ?_
  refine e_call hk_78 (as := [.ref 4, .int 0]) (rest := []) rfl rfl hk_81 rfl (Nat.le_of_ble_eq_true rfl) rfl x_slot0 ?_
  show e_r 78 5 [.ref 4, .int 0, s_no] [.ref 103] (hp Z P L) _ _
  refine e_go hk_78 6 (c := (if s_cnd .ne (Z 103 1) 0 = true then 23 else 20, [.ref 4, .int 0, .ref 103], [], hp Z P L)) rfl ?_
  refine e_ne (a := 23) (b := 20) (x := Z 103 1) (y := 0) (fun hc17 => ?_) (fun hc17 => absurd hc17 (hS))
  refine e_go hk_78 4 (c := (31, [.ref 4, .int 0, .ref 103], [.ref 5, .ref 18], hp Z P L)) rfl ?_
  refine e_call hk_78 (as := [.ref 18, .ref 5]) (rest := []) rfl rfl hk_1 rfl (Nat.le_of_ble_eq_true rfl) rfl (x_keep (fun j hj => t_hs_at (hP j hj)) hM hm) ?_
  show e_r 78 34 [.ref 4, .int 0, .ref 103] [] (hp ((t_kZ Z P m)) ((t_kP P m)) L) _ _
  refine e_go hk_78 4 (c := (42, [.ref 4, .int 0, .ref 103], [.ref 104, .ref 5], hp ((t_kZ Z P m)) ((t_kP P m)) L)) rfl ?_
  refine e_call hk_78 (as := [.ref 5, .ref 104]) (rest := []) rfl rfl hk_29 rfl (Nat.le_of_ble_eq_true rfl) rfl (x_tbec (x := 5) (y := 104) (h := hp ((t_kZ Z P m)) ((t_kP P m)) L) (t_at_is (show t_at 5 from by unfold t_at; omega)) (t_at_is (show t_at 104 from by unfold t_at; omega)) (t_at4 (show t_at 5 from by unfold t_at; omega)) (t_at4 (show t_at 104 from by unfold t_at; omega))) ?_
  show e_r 78 45 [.ref 4, .int 0, .ref 103] [] (hp ((t_bc ((t_kZ Z P m)) 5 104)) ((t_kP P m)) L) _ _
  refine e_go hk_78 2 (c := (49, [.ref 4, .int 0, .ref 103], [.ref 5], hp ((t_bc ((t_kZ Z P m)) 5 104)) ((t_kP P m)) L)) rfl ?_
  refine e_call hk_78 (as := [.ref 5]) (rest := []) rfl rfl hk_34 rfl (Nat.le_of_ble_eq_true rfl) rfl (x_all (Z := c_rest Z P m 103) hN2 hn2) ?_
  show e_r 78 52 [.ref 4, .int 0, .ref 103] [.int (t_sm (c_rest Z P m 103 17) 0 n2 0)] (hp ((t_bc ((t_kZ Z P m)) 5 104)) ((t_kP P m)) L) _ _
  exact e_ret hk_78 rfl rfl rfl rfl rfl
theorem x_save1 {Z : Nat → Nat → Int32} {P : Nat → Nat} {L n : Nat} (hN : Z 5 6 = nI n) (hn : n ≤ 60) : m_r 77 [.ref 4, .int 1] (hp Z P L) (some (.int (t_sm (Z 17) 0 n 0))) (hp (c_save Z 117) P L) := by
  have hN2 : c_save Z 117 5 6 = nI n := by unfold c_save; rw [s_upd_o (by decide), t_bc_o (by decide)]; exact hN
  have h17 : c_save Z 117 17 = Z 17 := by unfold c_save; rw [s_upd_o (by decide), t_bc_o (by decide)]
  refine m_of (ls := [.ref 4, .int 1, s_no]) hk_77 rfl rfl rfl ?_
  refine e_go hk_77 2 (c := (2, [.ref 4, .int 1, s_no], [.int 1, .ref 4], hp Z P L)) rfl ?_
  refine e_call hk_77 (as := [.ref 4, .int 1]) (rest := []) rfl rfl hk_81 rfl (Nat.le_of_ble_eq_true rfl) rfl x_slot1 ?_
  show e_r 77 5 [.ref 4, .int 1, s_no] [.ref 117] (hp Z P L) _ _
  refine e_go hk_77 7 (c := (21, [.ref 4, .int 1, .ref 117], [.ref 5, .ref 118], hp Z P L)) rfl ?_
  refine e_call hk_77 (as := [.ref 118, .ref 5]) (rest := []) rfl rfl hk_29 rfl (Nat.le_of_ble_eq_true rfl) rfl (x_tbec (x := 118) (y := 5) (h := hp Z P L) (t_at_is (show t_at 118 from by unfold t_at; omega)) (t_at_is (show t_at 5 from by unfold t_at; omega)) (t_at4 (show t_at 118 from by unfold t_at; omega)) (t_at4 (show t_at 5 from by unfold t_at; omega))) ?_
  show e_r 77 24 [.ref 4, .int 1, .ref 117] [] (hp ((t_bc Z 118 5)) P L) _ _
  refine e_go hk_77 5 (c := (33, [.ref 4, .int 1, .ref 117], [.ref 5], hp (s_upd ((t_bc Z 118 5)) 117 1 1) P L)) rfl ?_
  refine e_call hk_77 (as := [.ref 5]) (rest := []) rfl rfl hk_34 rfl (Nat.le_of_ble_eq_true rfl) rfl (show m_r 34 [.ref 5] (hp (c_save Z 117) P L) (some (.int (t_sm (Z 17) 0 n 0))) (hp (c_save Z 117) P L) from by have := x_all (Z := c_save Z 117) (P := P) (L := L) hN2 hn; rw [h17] at this; exact this) ?_
  show e_r 77 36 [.ref 4, .int 1, .ref 117] [.int (t_sm (Z 17) 0 n 0)] (hp (s_upd ((t_bc Z 118 5)) 117 1 1) P L) _ _
  exact e_ret hk_77 rfl rfl rfl rfl rfl
theorem x_rest1_e {Z : Nat → Nat → Int32} {P : Nat → Nat} {L : Nat} (hS : Z 117 1 = 0) : m_r 78 [.ref 4, .int 1] (hp Z P L) (some (.int (-5))) (hp Z P L) := by
  refine m_of (ls := [.ref 4, .int 1, s_no]) hk_78 rfl rfl rfl ?_
  refine e_go hk_78 2 (c := (2, [.ref 4, .int 1, s_no], [.int 1, .ref 4], hp Z P L)) rfl ?_
  refine e_call hk_78 (as := [.ref 4, .int 1]) (rest := []) rfl rfl hk_81 rfl (Nat.le_of_ble_eq_true rfl) rfl x_slot1 ?_
  show e_r 78 5 [.ref 4, .int 1, s_no] [.ref 117] (hp Z P L) _ _
  refine e_go hk_78 6 (c := (if s_cnd .ne (Z 117 1) 0 = true then 23 else 20, [.ref 4, .int 1, .ref 117], [], hp Z P L)) rfl ?_
  refine e_ne (a := 23) (b := 20) (x := Z 117 1) (y := 0) (fun hc17 => absurd (hS) hc17) (fun hc17 => ?_)
  refine e_go hk_78 1 (c := (22, [.ref 4, .int 1, .ref 117], [.int ((-5))], hp Z P L)) rfl ?_
  exact e_ret hk_78 rfl rfl rfl rfl rfl
theorem x_rest1 {Z : Nat → Nat → Int32} {P : Nat → Nat} {L n m : Nat} (hN : Z 5 6 = nI n) (hn : n ≤ 60) (hF : ∀ i, i < n → Z 17 i = 0 ∨ Z 17 i = 1) (hP : ∀ j, j < 6 → t_hs (P j)) (hM : Z 18 1 = nI m) (hm : m ≤ 6) {n2 : Nat} (hn2 : n2 ≤ 60) (hS : ¬ Z 117 1 = 0) (hT : Z 118 6 = nI n2) : m_r 78 [.ref 4, .int 1] (hp Z P L) (some (.int (t_sm (c_rest Z P m 117 17) 0 n2 0))) (hp (c_rest Z P m 117) (t_kP P m) L) := by
  have hN2 : c_rest Z P m 117 5 6 = nI n2 := by unfold c_rest; rw [t_bc_s (by omega) (by omega), t_kZ_o hP (by omega)]; exact hT
  refine m_of (ls := [.ref 4, .int 1, s_no]) hk_78 rfl rfl rfl ?_
  refine e_go hk_78 2 (c := (2, [.ref 4, .int 1, s_no], [.int 1, .ref 4], hp Z P L)) rfl ?_
  refine e_call hk_78 (as := [.ref 4, .int 1]) (rest := []) rfl rfl hk_81 rfl (Nat.le_of_ble_eq_true rfl) rfl x_slot1 ?_
  show e_r 78 5 [.ref 4, .int 1, s_no] [.ref 117] (hp Z P L) _ _
  refine e_go hk_78 6 (c := (if s_cnd .ne (Z 117 1) 0 = true then 23 else 20, [.ref 4, .int 1, .ref 117], [], hp Z P L)) rfl ?_
  refine e_ne (a := 23) (b := 20) (x := Z 117 1) (y := 0) (fun hc17 => ?_) (fun hc17 => absurd hc17 (hS))
  refine e_go hk_78 4 (c := (31, [.ref 4, .int 1, .ref 117], [.ref 5, .ref 18], hp Z P L)) rfl ?_
  refine e_call hk_78 (as := [.ref 18, .ref 5]) (rest := []) rfl rfl hk_1 rfl (Nat.le_of_ble_eq_true rfl) rfl (x_keep (fun j hj => t_hs_at (hP j hj)) hM hm) ?_
  show e_r 78 34 [.ref 4, .int 1, .ref 117] [] (hp ((t_kZ Z P m)) ((t_kP P m)) L) _ _
  refine e_go hk_78 4 (c := (42, [.ref 4, .int 1, .ref 117], [.ref 118, .ref 5], hp ((t_kZ Z P m)) ((t_kP P m)) L)) rfl ?_
  refine e_call hk_78 (as := [.ref 5, .ref 118]) (rest := []) rfl rfl hk_29 rfl (Nat.le_of_ble_eq_true rfl) rfl (x_tbec (x := 5) (y := 118) (h := hp ((t_kZ Z P m)) ((t_kP P m)) L) (t_at_is (show t_at 5 from by unfold t_at; omega)) (t_at_is (show t_at 118 from by unfold t_at; omega)) (t_at4 (show t_at 5 from by unfold t_at; omega)) (t_at4 (show t_at 118 from by unfold t_at; omega))) ?_
  show e_r 78 45 [.ref 4, .int 1, .ref 117] [] (hp ((t_bc ((t_kZ Z P m)) 5 118)) ((t_kP P m)) L) _ _
  refine e_go hk_78 2 (c := (49, [.ref 4, .int 1, .ref 117], [.ref 5], hp ((t_bc ((t_kZ Z P m)) 5 118)) ((t_kP P m)) L)) rfl ?_
  refine e_call hk_78 (as := [.ref 5]) (rest := []) rfl rfl hk_34 rfl (Nat.le_of_ble_eq_true rfl) rfl (x_all (Z := c_rest Z P m 117) hN2 hn2) ?_
  show e_r 78 52 [.ref 4, .int 1, .ref 117] [.int (t_sm (c_rest Z P m 117 17) 0 n2 0)] (hp ((t_bc ((t_kZ Z P m)) 5 118)) ((t_kP P m)) L) _ _
  exact e_ret hk_78 rfl rfl rfl rfl rfl
