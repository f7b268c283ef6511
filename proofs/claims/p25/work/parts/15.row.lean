/-! Row: at, write, total, greatest, become; printed by wip/whole/gen/row.py -/
theorem hk_0 : s_T 0 = some (s_m0, some 0) := rfl
theorem hk_1 : s_T 1 = some (s_m1, some 0) := rfl
theorem hk_2 : s_T 2 = some (s_m2, some 0) := rfl
theorem hk_3 : s_T 3 = some (s_m3, some 0) := rfl
theorem hk_4 : s_T 4 = some (s_m4, some 0) := rfl
theorem hk_5 : s_T 5 = some (s_m5, some 1) := rfl
theorem hk_17 : s_T 17 = some (s_m17, some 2) := rfl
theorem hk_21 : s_T 21 = some (s_m21, some 3) := rfl
theorem hk_22 : s_T 22 = some (s_m22, some 3) := rfl
theorem hk_23 : s_T 23 = some (s_m23, some 3) := rfl
theorem hk_24 : s_T 24 = some (s_m24, some 3) := rfl
theorem hk_25 : s_T 25 = some (s_m25, some 3) := rfl
theorem hk_26 : s_T 26 = some (s_m26, some 3) := rfl
theorem hk_27 : s_T 27 = some (s_m27, some 4) := rfl
theorem hk_28 : s_T 28 = some (s_m28, some 5) := rfl
theorem hk_29 : s_T 29 = some (s_m29, some 5) := rfl
theorem hk_30 : s_T 30 = some (s_m30, some 5) := rfl
theorem hk_31 : s_T 31 = some (s_m31, some 5) := rfl
theorem hk_32 : s_T 32 = some (s_m32, some 5) := rfl
theorem hk_33 : s_T 33 = some (s_m33, some 5) := rfl
theorem hk_34 : s_T 34 = some (s_m34, some 5) := rfl
theorem hk_35 : s_T 35 = some (s_m35, some 5) := rfl
theorem hk_36 : s_T 36 = some (s_m36, some 5) := rfl
theorem hk_37 : s_T 37 = some (s_m37, some 5) := rfl
theorem hk_38 : s_T 38 = some (s_m38, some 5) := rfl
theorem hk_39 : s_T 39 = some (s_m39, some 5) := rfl
theorem hk_40 : s_T 40 = some (s_m40, some 5) := rfl
theorem hk_41 : s_T 41 = some (s_m41, some 5) := rfl
theorem hk_42 : s_T 42 = some (s_m42, some 5) := rfl
theorem hk_43 : s_T 43 = some (s_m43, some 5) := rfl
theorem hk_44 : s_T 44 = some (s_m44, some 5) := rfl
theorem hk_45 : s_T 45 = some (s_m45, some 5) := rfl
theorem hk_46 : s_T 46 = some (s_m46, some 5) := rfl
theorem hk_47 : s_T 47 = some (s_m47, some 5) := rfl
theorem hk_48 : s_T 48 = some (s_m48, some 5) := rfl
theorem hk_49 : s_T 49 = some (s_m49, some 5) := rfl
theorem hk_50 : s_T 50 = some (s_m50, some 5) := rfl
theorem hk_51 : s_T 51 = some (s_m51, some 5) := rfl
theorem hk_52 : s_T 52 = some (s_m52, some 5) := rfl
theorem hk_53 : s_T 53 = some (s_m53, some 5) := rfl
theorem hk_54 : s_T 54 = some (s_m54, some 5) := rfl
theorem hk_55 : s_T 55 = some (s_m55, none) := rfl
theorem hk_56 : s_T 56 = some (s_m56, some 6) := rfl
theorem hk_57 : s_T 57 = some (s_m57, some 6) := rfl
theorem hk_58 : s_T 58 = some (s_m58, some 6) := rfl
theorem hk_59 : s_T 59 = some (s_m59, some 6) := rfl
theorem hk_60 : s_T 60 = some (s_m60, some 6) := rfl
theorem hk_61 : s_T 61 = some (s_m61, some 6) := rfl
theorem hk_62 : s_T 62 = some (s_m62, some 6) := rfl
theorem hk_63 : s_T 63 = some (s_m63, some 6) := rfl
theorem hk_66 : s_T 66 = some (s_m66, some 6) := rfl
theorem hk_67 : s_T 67 = some (s_m67, some 6) := rfl
theorem hk_68 : s_T 68 = some (s_m68, some 6) := rfl
theorem hk_69 : s_T 69 = some (s_m69, some 6) := rfl
theorem hk_70 : s_T 70 = some (s_m70, some 6) := rfl
theorem hk_76 : s_T 76 = some (s_m76, some 6) := rfl
theorem hk_79 : s_T 79 = some (s_m79, none) := rfl
theorem hk_80 : s_T 80 = some (s_m80, none) := rfl
theorem hk_82 : s_T 82 = some (s_m82, some 6) := rfl
theorem hk_83 : s_T 83 = some (s_m83, some 6) := rfl
theorem hk_84 : s_T 84 = some (s_m84, some 6) := rfl
theorem hk_85 : s_T 85 = some (s_m85, some 6) := rfl
theorem hk_89 : s_T 89 = some (s_m89, none) := rfl
theorem hk_90 : s_T 90 = some (s_m90, none) := rfl
theorem hk_91 : s_T 91 = some (s_m91, none) := rfl
theorem hk_92 : s_T 92 = some (s_m92, none) := rfl
theorem hk_93 : s_T 93 = some (s_m93, none) := rfl
theorem hk_94 : s_T 94 = some (s_m94, none) := rfl
theorem hk_95 : s_T 95 = some (s_m95, none) := rfl
theorem s_rc_of {c r : Nat} {h : sHp} {as : List Value} (h1 : s_nth h.2.2 r = some (0, c)) : s_rc 0 (some c) h (.ref r :: as) = true := by
  simp only [s_rc, h1]
  exact Nat.beq_refl c
theorem y_m1 {u : Nat} (hu : u < 2 ^ 31) : (nI u - 1).toInt = (u : Int) - 1 := by
  cases u with
  | zero => decide
  | succ k => rw [nI_pred, nI_toInt (by omega)]; omega
theorem y_m1lt {u i : Nat} (hu : u < 2 ^ 31) (hi : i < 2 ^ 31) : nI u - 1 < nI i ↔ u ≤ i := by
  rw [Int32.lt_iff_toInt_lt, y_m1 hu, nI_toInt hi]
  omega
theorem y_lt {a b : Nat} (ha : a < 2 ^ 31) (hb : b < 2 ^ 31) : nI a < nI b ↔ a < b := nI_ltI ha hb
theorem y_le {a b : Nat} (ha : a < 2 ^ 31) (hb : b < 2 ^ 31) : nI a ≤ nI b ↔ a ≤ b := nI_leI ha hb
def t_sm (f : Nat → Int32) : Nat → Nat → Int32 → Int32
  | _, 0, acc => acc
  | i, k + 1, acc => t_sm f (i + 1) k (acc + f i)
def t_mx (f : Nat → Int32) : Nat → Nat → Int32 → Int32
  | _, 0, acc => acc
  | i, k + 1, acc => t_mx f (i + 1) k (if acc < f i then f i else acc)
theorem x_at {r a n : Nat} {h : sHp} (h1 : s_nth h.2.2 r = some (0, 3)) (h2 : h.2.1 r 0 = some a) (h3 : s_nth h.2.2 a = some (1, n)) (hn : n < 2 ^ 31) {j : Nat} (hj : j < n) : m_r 22 [.ref r, .int (nI j)] h (some (.int (h.1 a j))) h := by
  refine m_of (ls := [.ref r, .int (nI j)]) hk_22 rfl rfl rfl ?_
  refine e_go hk_22 2 (c := (if s_cnd .lt (nI j) 0 = true then 22 else 4, [.ref r, .int (nI j)], [], h)) rfl ?_
  refine e_lt (a := 22) (b := 4) (x := nI j) (y := 0) (fun hc1 => absurd hc1 (nI_pos (by omega))) (fun hc1 => ?_)
  refine e_go hk_22 2 (c := (6, [.ref r, .int (nI j)], [.ref r, .int (nI j)], h)) rfl ?_
  refine e_getr hk_22 (ev := 3074) (b := a) rfl rfl h1 rfl h2 ?_
  show e_r 22 9 [.ref r, .int (nI j)] [.ref a, .int (nI j)] h _ _
  refine e_alen hk_22 rfl rfl h3 ?_
  show e_r 22 10 [.ref r, .int (nI j)] [.int (nI n), .int (nI j)] h _ _
  refine e_go hk_22 1 (c := (if s_cnd .ge (nI j) (nI n) = true then 22 else 13, [.ref r, .int (nI j)], [], h)) rfl ?_
  refine e_ge (a := 22) (b := 13) (x := nI j) (y := nI n) (fun hc10 => absurd hc10 (nI_ge hj hn)) (fun hc10 => ?_)
  refine e_go hk_22 1 (c := (14, [.ref r, .int (nI j)], [.ref r], h)) rfl ?_
  refine e_getr hk_22 (ev := 3074) (b := a) rfl rfl h1 rfl h2 ?_
  show e_r 22 17 [.ref r, .int (nI j)] [.ref a] h _ _
  refine e_go hk_22 1 (c := (18, [.ref r, .int (nI j)], [.int (nI j), .ref a], h)) rfl ?_
  refine e_ald hk_22 (a := a) (j := j) (n := n) rfl rfl h3 hj hn ?_
  show e_r 22 19 [.ref r, .int (nI j)] [.int (h.1 a j)] h _ _
  refine e_go hk_22 1 (c := (23, [.ref r, .int (nI j)], [.int (h.1 a j)], h)) rfl ?_
  exact e_ret hk_22 rfl rfl rfl rfl rfl

theorem x_write {r a n : Nat} {h : sHp} (h1 : s_nth h.2.2 r = some (0, 3)) (h2 : h.2.1 r 0 = some a) (h3 : s_nth h.2.2 a = some (1, n)) (hn : n < 2 ^ 31) {j : Nat} {x : Int32} (h4 : 4 ≤ a) (hj : j < n) : m_r 23 [.ref r, .int (nI j), .int x] h none (s_upd h.1 a j x, h.2) := by
  refine m_of (ls := [.ref r, .int (nI j), .int x]) hk_23 rfl rfl rfl ?_
  refine e_go hk_23 2 (c := (if s_cnd .lt (nI j) 0 = true then 20 else 4, [.ref r, .int (nI j), .int x], [], h)) rfl ?_
  refine e_lt (a := 20) (b := 4) (x := nI j) (y := 0) (fun hc1 => absurd hc1 (nI_pos (by omega))) (fun hc1 => ?_)
  refine e_go hk_23 2 (c := (6, [.ref r, .int (nI j), .int x], [.ref r, .int (nI j)], h)) rfl ?_
  refine e_getr hk_23 (ev := 3074) (b := a) rfl rfl h1 rfl h2 ?_
  show e_r 23 9 [.ref r, .int (nI j), .int x] [.ref a, .int (nI j)] h _ _
  refine e_alen hk_23 rfl rfl h3 ?_
  show e_r 23 10 [.ref r, .int (nI j), .int x] [.int (nI n), .int (nI j)] h _ _
  refine e_go hk_23 1 (c := (if s_cnd .ge (nI j) (nI n) = true then 20 else 13, [.ref r, .int (nI j), .int x], [], h)) rfl ?_
  refine e_ge (a := 20) (b := 13) (x := nI j) (y := nI n) (fun hc10 => absurd hc10 (nI_ge hj hn)) (fun hc10 => ?_)
  refine e_go hk_23 1 (c := (14, [.ref r, .int (nI j), .int x], [.ref r], h)) rfl ?_
  refine e_getr hk_23 (ev := 3074) (b := a) rfl rfl h1 rfl h2 ?_
  show e_r 23 17 [.ref r, .int (nI j), .int x] [.ref a] h _ _
  refine e_go hk_23 2 (c := (19, [.ref r, .int (nI j), .int x], [.int x, .int (nI j), .ref a], h)) rfl ?_
  refine e_ast hk_23 (a := a) (j := j) (n := n) rfl rfl h3 h4 hj hn ?_
  show e_r 23 20 [.ref r, .int (nI j), .int x] [] ((s_upd h.1 a j x, h.2)) _ _
  exact e_ret hk_23 rfl rfl rfl rfl rfl

theorem x_total_l {r a n : Nat} {h : sHp} (h1 : s_nth h.2.2 r = some (0, 3)) (h2 : h.2.1 r 0 = some a) (h3 : s_nth h.2.2 a = some (1, n)) (hn : n < 2 ^ 31) {u : Nat} {low : Int32} (hu : u ≤ n) : ∀ (k i : Nat) (acc : Int32), i + k = u → e_r 25 5 [.ref r, .int low, .int (nI u - 1), .int acc, .int (nI i)] [] h (some (.int (t_sm (h.1 a) i k acc))) h
  | 0, i, acc, hi => by
    refine e_go hk_25 3 (c := (if s_cnd .gt (nI i) (nI u - 1) = true then 36 else 11, [.ref r, .int low, .int (nI u - 1), .int acc, .int (nI i)], [], h)) rfl ?_
    refine e_gt (a := 36) (b := 11) (x := nI i) (y := nI u - 1) (fun hc8 => ?_) (fun hc8 => absurd ((y_m1lt (by omega) (by omega)).mpr (by omega)) hc8)
    refine e_go hk_25 1 (c := (37, [.ref r, .int low, .int (nI u - 1), .int acc, .int (nI i)], [.int acc], h)) rfl ?_
    exact e_ret hk_25 rfl rfl rfl rfl rfl
  | k + 1, i, acc, hi => by
    refine e_go hk_25 3 (c := (if s_cnd .gt (nI i) (nI u - 1) = true then 36 else 11, [.ref r, .int low, .int (nI u - 1), .int acc, .int (nI i)], [], h)) rfl ?_
    refine e_gt (a := 36) (b := 11) (x := nI i) (y := nI u - 1) (fun hc8 => absurd hc8 (fun z => absurd ((y_m1lt (by omega) (by omega)).mp z) (by omega))) (fun hc8 => ?_)
    refine e_go hk_25 2 (c := (14, [.ref r, .int low, .int (nI u - 1), .int acc, .int (nI i)], [.ref r, .int (nI i)], h)) rfl ?_
    refine e_getr hk_25 (ev := 3074) (b := a) rfl rfl h1 rfl h2 ?_
    show e_r 25 17 [.ref r, .int low, .int (nI u - 1), .int acc, .int (nI i)] [.ref a, .int (nI i)] h _ _
    refine e_alen hk_25 rfl rfl h3 ?_
    show e_r 25 18 [.ref r, .int low, .int (nI u - 1), .int acc, .int (nI i)] [.int (nI n), .int (nI i)] h _ _
    refine e_go hk_25 1 (c := (if s_cnd .ge (nI i) (nI n) = true then 36 else 21, [.ref r, .int low, .int (nI u - 1), .int acc, .int (nI i)], [], h)) rfl ?_
    refine e_ge (a := 36) (b := 21) (x := nI i) (y := nI n) (fun hc18 => absurd hc18 (nI_ge (by omega) hn)) (fun hc18 => ?_)
    refine e_go hk_25 3 (c := (25, [.ref r, .int low, .int (nI u - 1), .int acc, .int (nI i)], [.int (nI i), .ref r, .int acc], h)) rfl ?_
    refine e_call hk_25 (as := [.ref r, .int (nI i)]) (rest := [.int acc]) rfl rfl hk_22 rfl (Nat.le_of_ble_eq_true rfl) (s_rc_of h1) (x_at h1 h2 h3 hn (j := i) (by omega)) ?_
    show e_r 25 28 [.ref r, .int low, .int (nI u - 1), .int acc, .int (nI i)] [.int (h.1 a i), .int acc] h _ _
    refine e_go hk_25 4 (c := (5, [.ref r, .int low, .int (nI u - 1), .int (acc + (h.1 a i)), .int ((nI i) + 1)], [], h)) rfl ?_
    rw [nI_1]
    exact x_total_l h1 h2 h3 hn hu k (i + 1) _ (by omega)

theorem x_total {r a n : Nat} {h : sHp} (h1 : s_nth h.2.2 r = some (0, 3)) (h2 : h.2.1 r 0 = some a) (h3 : s_nth h.2.2 a = some (1, n)) (hn : n < 2 ^ 31) {l u : Nat} (hl : l ≤ u) (hu : u ≤ n) : m_r 25 [.ref r, .int (nI l), .int (nI u - 1)] h (some (.int (t_sm (h.1 a) l (u - l) 0))) h := by
  refine m_of (ls := [.ref r, .int (nI l), .int (nI u - 1), s_no, s_no]) hk_25 rfl rfl rfl ?_
  refine e_go hk_25 4 (c := (5, [.ref r, .int (nI l), .int (nI u - 1), .int 0, .int (nI l)], [], h)) rfl ?_
  exact x_total_l h1 h2 h3 hn hu (u - l) l 0 (by omega)

theorem x_great_l {r a n : Nat} {h : sHp} (h1 : s_nth h.2.2 r = some (0, 3)) (h2 : h.2.1 r 0 = some a) (h3 : s_nth h.2.2 a = some (1, n)) (hn : n < 2 ^ 31) {u : Nat} {low : Int32} (hu : u ≤ n) : ∀ (k i : Nat) (acc : Int32), i + k = u → e_r 26 9 [.ref r, .int low, .int (nI u - 1), .int acc, .int (nI i)] [] h (some (.int (t_mx (h.1 a) i k acc))) h
  | 0, i, acc, hi => by
    refine e_go hk_26 3 (c := (if s_cnd .gt (nI i) (nI u - 1) = true then 42 else 15, [.ref r, .int low, .int (nI u - 1), .int acc, .int (nI i)], [], h)) rfl ?_
    refine e_gt (a := 42) (b := 15) (x := nI i) (y := nI u - 1) (fun hc12 => ?_) (fun hc12 => absurd ((y_m1lt (by omega) (by omega)).mpr (by omega)) hc12)
    refine e_go hk_26 1 (c := (43, [.ref r, .int low, .int (nI u - 1), .int acc, .int (nI i)], [.int acc], h)) rfl ?_
    exact e_ret hk_26 rfl rfl rfl rfl rfl
  | k + 1, i, acc, hi => by
    refine e_go hk_26 3 (c := (if s_cnd .gt (nI i) (nI u - 1) = true then 42 else 15, [.ref r, .int low, .int (nI u - 1), .int acc, .int (nI i)], [], h)) rfl ?_
    refine e_gt (a := 42) (b := 15) (x := nI i) (y := nI u - 1) (fun hc12 => absurd hc12 (fun z => absurd ((y_m1lt (by omega) (by omega)).mp z) (by omega))) (fun hc12 => ?_)
    refine e_go hk_26 2 (c := (18, [.ref r, .int low, .int (nI u - 1), .int acc, .int (nI i)], [.ref r, .int (nI i)], h)) rfl ?_
    refine e_getr hk_26 (ev := 3074) (b := a) rfl rfl h1 rfl h2 ?_
    show e_r 26 21 [.ref r, .int low, .int (nI u - 1), .int acc, .int (nI i)] [.ref a, .int (nI i)] h _ _
    refine e_alen hk_26 rfl rfl h3 ?_
    show e_r 26 22 [.ref r, .int low, .int (nI u - 1), .int acc, .int (nI i)] [.int (nI n), .int (nI i)] h _ _
    refine e_go hk_26 1 (c := (if s_cnd .ge (nI i) (nI n) = true then 42 else 25, [.ref r, .int low, .int (nI u - 1), .int acc, .int (nI i)], [], h)) rfl ?_
    refine e_ge (a := 42) (b := 25) (x := nI i) (y := nI n) (fun hc22 => absurd hc22 (nI_ge (by omega) hn)) (fun hc22 => ?_)
    refine e_go hk_26 3 (c := (29, [.ref r, .int low, .int (nI u - 1), .int acc, .int (nI i)], [.int (nI i), .ref r, .int acc], h)) rfl ?_
    refine e_call hk_26 (as := [.ref r, .int (nI i)]) (rest := [.int acc]) rfl rfl hk_22 rfl (Nat.le_of_ble_eq_true rfl) (s_rc_of h1) (x_at h1 h2 h3 hn (j := i) (by omega)) ?_
    show e_r 26 32 [.ref r, .int low, .int (nI u - 1), .int acc, .int (nI i)] [.int (h.1 a i), .int acc] h _ _
    refine e_go hk_26 4 (c := (9, [.ref r, .int low, .int (nI u - 1), .int (if acc < h.1 a i then h.1 a i else acc), .int ((nI i) + 1)], [], h)) rfl ?_
    rw [nI_1]
    exact x_great_l h1 h2 h3 hn hu k (i + 1) _ (by omega)

theorem x_great {r a n : Nat} {h : sHp} (h1 : s_nth h.2.2 r = some (0, 3)) (h2 : h.2.1 r 0 = some a) (h3 : s_nth h.2.2 a = some (1, n)) (hn : n < 2 ^ 31) {l u : Nat} (hl : l < u) (hu : u ≤ n) : m_r 26 [.ref r, .int (nI l), .int (nI u - 1)] h (some (.int (t_mx (h.1 a) l (u - l) (h.1 a l)))) h := by
  refine m_of (ls := [.ref r, .int (nI l), .int (nI u - 1), s_no, s_no]) hk_26 rfl rfl rfl ?_
  refine e_go hk_26 2 (c := (2, [.ref r, .int (nI l), .int (nI u - 1), s_no, s_no], [.int (nI l), .ref r], h)) rfl ?_
  refine e_call hk_26 (as := [.ref r, .int (nI l)]) (rest := []) rfl rfl hk_22 rfl (Nat.le_of_ble_eq_true rfl) (s_rc_of h1) (x_at h1 h2 h3 hn (j := l) (by omega)) ?_
  show e_r 26 5 [.ref r, .int (nI l), .int (nI u - 1), s_no, s_no] [.int (h.1 a l)] h _ _
  refine e_go hk_26 3 (c := (9, [.ref r, .int (nI l), .int (nI u - 1), .int (h.1 a l), .int (nI l)], [], h)) rfl ?_
  exact x_great_l h1 h2 h3 hn hu (u - l) l _ (by omega)

