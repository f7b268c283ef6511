/-! Tree: new nodes, dropping, laying anew; printed by wip/whole/gen/tree3.py -/
theorem e_idiv {k pc : Nat} {r : sM} {cn : Option Nat} {ls rest : List Value} {h h2 : sHp} {v : Option Value} (hk : s_T k = some (r, cn)) {e : sE} {x y : Int32} (hat : s_at (s_cd r) pc = some e) (hi : e.2.1 = .idiv) (hy : ¬ y = 0) (kk : e_r k (pc + e.2.2.1) ls (.int (x / y) :: rest) h v h2) : e_r k pc ls (.int y :: .int x :: rest) h v h2 := by
  refine e_step (c := (pc + e.2.2.1, ls, .int (x / y) :: rest, h)) hk hat (by rw [hi]; rfl) (by rw [hi]; rfl) ?_ kk
  rw [hi]
  dsimp only [s_x]
  rw [if_neg hy]
/-- the nodes from q - k on move one place up, the last one first -/
def t_sh : Nat → Nat → (Nat → Nat → Int32) → Nat → Nat → Int32
  | 0, _, Z => Z
  | k + 1, q, Z => t_sh k (q - 1) (t_mv Z (q - 1) q)
def t_mt (Z : Nat → Nat → Int32) (p : Nat) (key value dep : Int32) : Nat → Nat → Int32 := s_upd (s_upd (s_upd (s_upd (s_upd (s_upd Z 5 6 (Z 5 6 + 1)) 9 p key) 11 p value) 13 p 0) 15 p dep) 17 p 1
def t_bf (D : Nat → Int32) : Nat → Int32
  | 0 => -1
  | q + 1 => D q
def t_bh (D : Nat → Int32) (n p : Nat) : Int32 := if p < n then D p else -1
def y_mx (a b : Int32) : Int32 := if a < b then b else a
def t_mk (Z : Nat → Nat → Int32) (n p : Nat) (key value : Int32) : Nat → Nat → Int32 := t_mt (t_sh (n - p) n Z) p key value (y_mx (t_bf (Z 15) p) (t_bh (Z 15) n p) + 1)
theorem x_make_l {P : Nat → Nat} {L : Nat} {p : Nat} {key value bf bh : Int32} (hp0 : p < 60) : ∀ (k q : Nat) (Z : Nat → Nat → Int32), q = p + k → q < 60 → e_r 50 48 [.ref 5, .int (nI p), .int key, .int value, .int bf, .int bh, .int (nI q)] [] (hp Z P L) none (hp (t_mt (t_sh k q Z) p key value ((if bf < bh then bh else bf) + 1)) P L)
  | 0, q, Z, hq, hq2 => by
    rw [t_sh, show nI q = nI p from by rw [show q = p by omega]]
    refine e_go hk_50 3 (c := (if s_cnd .le (nI p) (nI p) = true then 70 else 54, [.ref 5, .int (nI p), .int key, .int value, .int bf, .int bh, .int (nI p)], [], hp Z P L)) rfl ?_
    refine e_le (a := 70) (b := 54) (x := nI p) (y := nI p) (fun hc51 => ?_) (fun hc51 => absurd ((y_le (by omega) (by omega)).mpr (by omega)) hc51)
    refine e_go hk_50 10 (c := (86, [.ref 5, .int (nI p), .int key, .int value, .int bf, .int bh, .int (nI p)], [.int key, .int (nI p), .ref 8], hp (s_upd Z 5 6 ((Z 5 6) + 1)) P L)) rfl ?_
    refine e_call hk_50 (as := [.ref 8, .int (nI p), .int key]) (rest := []) rfl rfl hk_23 rfl (Nat.le_of_ble_eq_true rfl) rfl (x_write (r := 8) (a := 9) (n := 60) rfl rfl rfl (by decide) (by decide) (j := p) (by omega)) ?_
    show e_r 50 89 [.ref 5, .int (nI p), .int key, .int value, .int bf, .int bh, .int (nI p)] [] (hp (s_upd (s_upd Z 5 6 ((Z 5 6) + 1)) 9 p key) P L) _ _
    refine e_go hk_50 4 (c := (95, [.ref 5, .int (nI p), .int key, .int value, .int bf, .int bh, .int (nI p)], [.int value, .int (nI p), .ref 10], hp (s_upd (s_upd Z 5 6 ((Z 5 6) + 1)) 9 p key) P L)) rfl ?_
    refine e_call hk_50 (as := [.ref 10, .int (nI p), .int value]) (rest := []) rfl rfl hk_23 rfl (Nat.le_of_ble_eq_true rfl) rfl (x_write (r := 10) (a := 11) (n := 60) rfl rfl rfl (by decide) (by decide) (j := p) (by omega)) ?_
    show e_r 50 98 [.ref 5, .int (nI p), .int key, .int value, .int bf, .int bh, .int (nI p)] [] (hp (s_upd (s_upd (s_upd Z 5 6 ((Z 5 6) + 1)) 9 p key) 11 p value) P L) _ _
    refine e_go hk_50 4 (c := (104, [.ref 5, .int (nI p), .int key, .int value, .int bf, .int bh, .int (nI p)], [.int 0, .int (nI p), .ref 12], hp (s_upd (s_upd (s_upd Z 5 6 ((Z 5 6) + 1)) 9 p key) 11 p value) P L)) rfl ?_
    refine e_call hk_50 (as := [.ref 12, .int (nI p), .int 0]) (rest := []) rfl rfl hk_23 rfl (Nat.le_of_ble_eq_true rfl) rfl (x_write (r := 12) (a := 13) (n := 60) rfl rfl rfl (by decide) (by decide) (j := p) (by omega)) ?_
    show e_r 50 107 [.ref 5, .int (nI p), .int key, .int value, .int bf, .int bh, .int (nI p)] [] (hp (s_upd (s_upd (s_upd (s_upd Z 5 6 ((Z 5 6) + 1)) 9 p key) 11 p value) 13 p 0) P L) _ _
    refine e_go hk_50 8 (c := (121, [.ref 5, .int (nI p), .int key, .int value, .int bf, .int bh, .int (nI p)], [.int ((if bf < bh then bh else bf) + 1), .int (nI p), .ref 14], hp (s_upd (s_upd (s_upd (s_upd Z 5 6 ((Z 5 6) + 1)) 9 p key) 11 p value) 13 p 0) P L)) rfl ?_
    refine e_call hk_50 (as := [.ref 14, .int (nI p), .int ((if bf < bh then bh else bf) + 1)]) (rest := []) rfl rfl hk_23 rfl (Nat.le_of_ble_eq_true rfl) rfl (x_write (r := 14) (a := 15) (n := 60) rfl rfl rfl (by decide) (by decide) (j := p) (by omega)) ?_
    show e_r 50 124 [.ref 5, .int (nI p), .int key, .int value, .int bf, .int bh, .int (nI p)] [] (hp (s_upd (s_upd (s_upd (s_upd (s_upd Z 5 6 ((Z 5 6) + 1)) 9 p key) 11 p value) 13 p 0) 15 p ((if bf < bh then bh else bf) + 1)) P L) _ _
    refine e_go hk_50 4 (c := (130, [.ref 5, .int (nI p), .int key, .int value, .int bf, .int bh, .int (nI p)], [.int 1, .int (nI p), .ref 16], hp (s_upd (s_upd (s_upd (s_upd (s_upd Z 5 6 ((Z 5 6) + 1)) 9 p key) 11 p value) 13 p 0) 15 p ((if bf < bh then bh else bf) + 1)) P L)) rfl ?_
    refine e_call hk_50 (as := [.ref 16, .int (nI p), .int 1]) (rest := []) rfl rfl hk_23 rfl (Nat.le_of_ble_eq_true rfl) rfl (x_write (r := 16) (a := 17) (n := 60) rfl rfl rfl (by decide) (by decide) (j := p) (by omega)) ?_
    show e_r 50 133 [.ref 5, .int (nI p), .int key, .int value, .int bf, .int bh, .int (nI p)] [] (hp (s_upd (s_upd (s_upd (s_upd (s_upd (s_upd Z 5 6 ((Z 5 6) + 1)) 9 p key) 11 p value) 13 p 0) 15 p ((if bf < bh then bh else bf) + 1)) 17 p 1) P L) _ _
    exact e_ret hk_50 rfl rfl rfl rfl rfl
  | k + 1, q0, Z, hq, hq2 => by
    obtain ⟨q, rfl⟩ : ∃ z, q0 = z + 1 := ⟨p + k, by omega⟩
    rw [t_sh, Nat.add_sub_cancel]
    refine e_go hk_50 3 (c := (if s_cnd .le (nI (q + 1)) (nI p) = true then 70 else 54, [.ref 5, .int (nI p), .int key, .int value, .int bf, .int bh, .int (nI (q + 1))], [], hp Z P L)) rfl ?_
    refine e_le (a := 70) (b := 54) (x := nI (q + 1)) (y := nI p) (fun hc51 => absurd hc51 (nI_ge (by omega) (by omega))) (fun hc51 => ?_)
    refine e_go hk_50 5 (c := (61, [.ref 5, .int (nI p), .int key, .int value, .int bf, .int bh, .int (nI (q + 1))], [.int (nI (q + 1)), .int ((nI (q + 1)) - 1), .ref 5], hp Z P L)) rfl ?_
    rw [nI_pred]
    refine e_call hk_50 (as := [.ref 5, .int (nI q), .int (nI (q + 1))]) (rest := []) rfl rfl hk_51 rfl (Nat.le_of_ble_eq_true rfl) rfl (x_move (i := q) (j := q + 1) (by omega) (by omega)) ?_
    show e_r 50 64 [.ref 5, .int (nI p), .int key, .int value, .int bf, .int bh, .int (nI (q + 1))] [] (hp ((t_mv Z q (q + 1))) P L) _ _
    refine e_go hk_50 2 (c := (48, [.ref 5, .int (nI p), .int key, .int value, .int bf, .int bh, .int ((nI (q + 1)) + (-1))], [], hp ((t_mv Z q (q + 1))) P L)) rfl ?_
    rw [pk_m1]
    exact x_make_l hp0 k q _ (by omega) (by omega)
theorem x_make_0 {Z : Nat → Nat → Int32} {P : Nat → Nat} {L n : Nat} (hN : Z 5 6 = nI n) (hn : n ≤ 60)  {key value : Int32} (hn2 : n < 60) : m_r 50 [.ref 5, .int (nI 0), .int key, .int value] (hp Z P L) none (hp (t_mk Z n 0 key value) P L) := by
  refine m_of (ls := [.ref 5, .int (nI 0), .int key, .int value, s_no, s_no, s_no]) hk_50 rfl rfl rfl ?_
  refine e_go hk_50 2 (c := (if s_cnd .le (nI 0) 0 = true then 17 else 4, [.ref 5, .int (nI 0), .int key, .int value, s_no, s_no, s_no], [], hp Z P L)) rfl ?_
  refine e_le (a := 17) (b := 4) (x := nI 0) (y := 0) (fun hc1 => ?_) (fun hc1 => absurd (by decide) hc1)
  refine e_go hk_50 6 (c := (if s_cnd .ge (nI 0) (Z 5 6) = true then 39 else 28, [.ref 5, .int (nI 0), .int key, .int value, .int ((-1)), s_no, s_no], [], hp Z P L)) rfl ?_
  refine e_ge (a := 39) (b := 28) (x := nI 0) (y := Z 5 6) (fun hc25 => ?_) (fun hc25 => ?_)
  · skip
    rw [hN, y_le (by omega) (by omega)] at hc25
    rw [t_mk, t_bh, if_neg (show ¬ 0 < n by omega)]
    refine e_go hk_50 5 (c := (48, [.ref 5, .int (nI 0), .int key, .int value, .int ((-1)), .int ((-1)), .int (Z 5 6)], [], hp Z P L)) rfl ?_
    rw [hN]
    exact x_make_l (by omega) (n - 0) n _ (by omega) (by omega)
  · skip
    rw [hN, y_le (by omega) (by omega)] at hc25
    rw [t_mk, t_bh, if_pos (show 0 < n by omega)]
    refine e_go hk_50 3 (c := (33, [.ref 5, .int (nI 0), .int key, .int value, .int ((-1)), s_no, s_no], [.int (nI 0), .ref 14], hp Z P L)) rfl ?_
    refine e_call hk_50 (as := [.ref 14, .int (nI 0)]) (rest := []) rfl rfl hk_22 rfl (Nat.le_of_ble_eq_true rfl) rfl (x_at (r := 14) (a := 15) (n := 60) rfl rfl rfl (by decide) (j := 0) (by decide)) ?_
    show e_r 50 36 [.ref 5, .int (nI 0), .int key, .int value, .int ((-1)), s_no, s_no] [.int (Z 15 0)] (hp Z P L) _ _
    refine e_go hk_50 5 (c := (48, [.ref 5, .int (nI 0), .int key, .int value, .int ((-1)), .int (Z 15 0), .int (Z 5 6)], [], hp Z P L)) rfl ?_
    rw [hN]
    exact x_make_l (by omega) (n - 0) n _ (by omega) (by omega)
theorem x_make_s {Z : Nat → Nat → Int32} {P : Nat → Nat} {L n : Nat} (hN : Z 5 6 = nI n) (hn : n ≤ 60) {q : Nat} (hp0 : q + 1 ≤ n) {key value : Int32} (hn2 : n < 60) : m_r 50 [.ref 5, .int (nI ((q + 1))), .int key, .int value] (hp Z P L) none (hp (t_mk Z n ((q + 1)) key value) P L) := by
  refine m_of (ls := [.ref 5, .int (nI ((q + 1))), .int key, .int value, s_no, s_no, s_no]) hk_50 rfl rfl rfl ?_
  refine e_go hk_50 2 (c := (if s_cnd .le (nI ((q + 1))) 0 = true then 17 else 4, [.ref 5, .int (nI ((q + 1))), .int key, .int value, s_no, s_no, s_no], [], hp Z P L)) rfl ?_
  refine e_le (a := 17) (b := 4) (x := nI ((q + 1))) (y := 0) (fun hc1 => absurd hc1 (nI_nle (by omega) (by omega))) (fun hc1 => ?_)
  refine e_go hk_50 5 (c := (11, [.ref 5, .int (nI ((q + 1))), .int key, .int value, s_no, s_no, s_no], [.int ((nI ((q + 1))) - 1), .ref 14], hp Z P L)) rfl ?_
  rw [nI_pred]
  refine e_call hk_50 (as := [.ref 14, .int (nI q)]) (rest := []) rfl rfl hk_22 rfl (Nat.le_of_ble_eq_true rfl) rfl (x_at (r := 14) (a := 15) (n := 60) rfl rfl rfl (by decide) (j := q) (by omega)) ?_
  show e_r 50 14 [.ref 5, .int (nI ((q + 1))), .int key, .int value, s_no, s_no, s_no] [.int (Z 15 q)] (hp Z P L) _ _
  refine e_go hk_50 6 (c := (if s_cnd .ge (nI ((q + 1))) (Z 5 6) = true then 39 else 28, [.ref 5, .int (nI ((q + 1))), .int key, .int value, .int (Z 15 q), s_no, s_no], [], hp Z P L)) rfl ?_
  refine e_ge (a := 39) (b := 28) (x := nI ((q + 1))) (y := Z 5 6) (fun hc25 => ?_) (fun hc25 => ?_)
  · skip
    rw [hN, y_le (by omega) (by omega)] at hc25
    rw [t_mk, t_bh, if_neg (show ¬ (q + 1) < n by omega)]
    refine e_go hk_50 5 (c := (48, [.ref 5, .int (nI ((q + 1))), .int key, .int value, .int (Z 15 q), .int ((-1)), .int (Z 5 6)], [], hp Z P L)) rfl ?_
    rw [hN]
    exact x_make_l (by omega) (n - ((q + 1))) n _ (by omega) (by omega)
  · skip
    rw [hN, y_le (by omega) (by omega)] at hc25
    rw [t_mk, t_bh, if_pos (show (q + 1) < n by omega)]
    refine e_go hk_50 3 (c := (33, [.ref 5, .int (nI ((q + 1))), .int key, .int value, .int (Z 15 q), s_no, s_no], [.int (nI ((q + 1))), .ref 14], hp Z P L)) rfl ?_
    refine e_call hk_50 (as := [.ref 14, .int (nI ((q + 1)))]) (rest := []) rfl rfl hk_22 rfl (Nat.le_of_ble_eq_true rfl) rfl (x_at (r := 14) (a := 15) (n := 60) rfl rfl rfl (by decide) (j := (q + 1)) (by omega)) ?_
    show e_r 50 36 [.ref 5, .int (nI ((q + 1))), .int key, .int value, .int (Z 15 q), s_no, s_no] [.int (Z 15 ((q + 1)))] (hp Z P L) _ _
    refine e_go hk_50 5 (c := (48, [.ref 5, .int (nI ((q + 1))), .int key, .int value, .int (Z 15 q), .int (Z 15 ((q + 1))), .int (Z 5 6)], [], hp Z P L)) rfl ?_
    rw [hN]
    exact x_make_l (by omega) (n - ((q + 1))) n _ (by omega) (by omega)
theorem x_make {Z : Nat → Nat → Int32} {P : Nat → Nat} {L n : Nat} (hN : Z 5 6 = nI n) (hn : n ≤ 60) {p : Nat} (hp0 : p ≤ n) {key value : Int32} (hn2 : n < 60) : m_r 50 [.ref 5, .int (nI p), .int key, .int value] (hp Z P L) none (hp (t_mk Z n p key value) P L) := by
  cases p with
  | zero => exact x_make_0 hN hn hn2
  | succ q => exact x_make_s hN hn hp0 hn2
/-- the hollow ones of the places up to hi are dropped: from place i on, to place q -/
def t_dh (hi : Nat) : Nat → Nat → Nat → (Nat → Nat → Int32) → Nat → Nat → Int32
  | 0, _, q, Z => s_upd Z 5 6 (nI q)
  | k + 1, i, q, Z => if hi < i ∨ Z 17 i = 1 then t_dh hi k (i + 1) (q + 1) (t_mv Z i q) else t_dh hi k (i + 1) q Z
theorem x_drop_l {P : Nat → Nat} {L n : Nat} (hn : n ≤ 60) {hi : Nat} {low : Int32} (hh : hi < 60) : ∀ (k i q : Nat) (Z : Nat → Nat → Int32), Z 5 6 = nI n → i + k = n → q ≤ i → e_r 54 5 [.ref 5, .int low, .int (nI hi), .int (nI q), .int (nI i)] [] (hp Z P L) none (hp (t_dh hi k i q Z) P L)
  | 0, i, q, Z, hZ, hi2, hqi => by
    refine e_go hk_54 4 (c := (if s_cnd .ge (nI i) (Z 5 6) = true then 45 else 14, [.ref 5, .int low, .int (nI hi), .int (nI q), .int (nI i)], [], hp Z P L)) rfl ?_
    refine e_ge (a := 45) (b := 14) (x := nI i) (y := Z 5 6) (fun hc11 => ?_) (fun hc11 => absurd (by rw [hZ]; exact (y_le (by omega) (by omega)).mpr (by omega)) hc11)
    refine e_go hk_54 3 (c := (50, [.ref 5, .int low, .int (nI hi), .int (nI q), .int (nI i)], [], hp (s_upd Z 5 6 (nI q)) P L)) rfl ?_
    exact e_ret hk_54 rfl rfl rfl rfl rfl
  | k + 1, i, q, Z, hZ, hi2, hqi => by
    refine e_go hk_54 4 (c := (if s_cnd .ge (nI i) (Z 5 6) = true then 45 else 14, [.ref 5, .int low, .int (nI hi), .int (nI q), .int (nI i)], [], hp Z P L)) rfl ?_
    refine e_ge (a := 45) (b := 14) (x := nI i) (y := Z 5 6) (fun hc11 => absurd hc11 (by rw [hZ]; exact nI_ge (by omega) (by omega))) (fun hc11 => ?_)
    refine e_go hk_54 3 (c := (if s_cnd .gt (nI i) (nI hi) = true then 29 else 20, [.ref 5, .int low, .int (nI hi), .int (nI q), .int (nI i)], [], hp Z P L)) rfl ?_
    refine e_gt (a := 29) (b := 20) (x := nI i) (y := nI hi) (fun hc17 => ?_) (fun hc17 => ?_)
    · skip
      rw [y_lt (by omega) (by omega)] at hc17
      refine e_go hk_54 3 (c := (33, [.ref 5, .int low, .int (nI hi), .int (nI q), .int (nI i)], [.int (nI q), .int (nI i), .ref 5], hp Z P L)) rfl ?_
      refine e_call hk_54 (as := [.ref 5, .int (nI i), .int (nI q)]) (rest := []) rfl rfl hk_51 rfl (Nat.le_of_ble_eq_true rfl) rfl (x_move (i := i) (j := q) (by omega) (by omega)) ?_
      show e_r 54 36 [.ref 5, .int low, .int (nI hi), .int (nI q), .int (nI i)] [] (hp ((t_mv Z i q)) P L) _ _
      refine e_go hk_54 3 (c := (5, [.ref 5, .int low, .int (nI hi), .int ((nI q) + 1), .int ((nI i) + 1)], [], hp ((t_mv Z i q)) P L)) rfl ?_
      rw [t_dh, if_pos (Or.inl (show hi < i by omega)), nI_1 q, nI_1 i]
      exact x_drop_l hn hh k (i + 1) (q + 1) _ hZ (by omega) (by omega)
    · skip
      rw [y_lt (by omega) (by omega)] at hc17
      refine e_go hk_54 2 (c := (23, [.ref 5, .int low, .int (nI hi), .int (nI q), .int (nI i)], [.int (nI i), .ref 5], hp Z P L)) rfl ?_
      refine e_call hk_54 (as := [.ref 5, .int (nI i)]) (rest := []) rfl rfl hk_33 rfl (Nat.le_of_ble_eq_true rfl) rfl (x_isfull (j := i) (by omega)) ?_
      show e_r 54 26 [.ref 5, .int low, .int (nI hi), .int (nI q), .int (nI i)] [.int (y_b (decide (Z 17 i = 1)))] (hp Z P L) _ _
      refine e_go hk_54 1 (c := (if s_cnd .eq (y_b (decide (Z 17 i = 1))) 0 = true then 39 else 29, [.ref 5, .int low, .int (nI hi), .int (nI q), .int (nI i)], [], hp Z P L)) rfl ?_
      refine e_eq (a := 39) (b := 29) (x := y_b (decide (Z 17 i = 1))) (y := 0) (fun hc26 => ?_) (fun hc26 => ?_)
      · skip
        rw [y_b0, decide_eq_false_iff_not] at hc26
        refine e_go hk_54 2 (c := (5, [.ref 5, .int low, .int (nI hi), .int (nI q), .int ((nI i) + 1)], [], hp Z P L)) rfl ?_
        rw [t_dh, if_neg (show ¬ (hi < i ∨ Z 17 i = 1) from fun z => z.elim (by omega) hc26), nI_1 i]
        exact x_drop_l hn hh k (i + 1) q _ hZ (by omega) (by omega)
      · skip
        rw [y_b1, decide_eq_true_eq] at hc26
        refine e_go hk_54 3 (c := (33, [.ref 5, .int low, .int (nI hi), .int (nI q), .int (nI i)], [.int (nI q), .int (nI i), .ref 5], hp Z P L)) rfl ?_
        refine e_call hk_54 (as := [.ref 5, .int (nI i), .int (nI q)]) (rest := []) rfl rfl hk_51 rfl (Nat.le_of_ble_eq_true rfl) rfl (x_move (i := i) (j := q) (by omega) (by omega)) ?_
        show e_r 54 36 [.ref 5, .int low, .int (nI hi), .int (nI q), .int (nI i)] [] (hp ((t_mv Z i q)) P L) _ _
        refine e_go hk_54 3 (c := (5, [.ref 5, .int low, .int (nI hi), .int ((nI q) + 1), .int ((nI i) + 1)], [], hp ((t_mv Z i q)) P L)) rfl ?_
        rw [t_dh, if_pos (Or.inr hc26), nI_1 q, nI_1 i]
        exact x_drop_l hn hh k (i + 1) (q + 1) _ hZ (by omega) (by omega)
theorem x_drop {Z : Nat → Nat → Int32} {P : Nat → Nat} {L n : Nat} (hN : Z 5 6 = nI n) (hn : n ≤ 60) {l hi : Nat} (hl : l ≤ n) (hh : hi < 60) : m_r 54 [.ref 5, .int (nI l), .int (nI hi)] (hp Z P L) none (hp (t_dh hi (n - l) l l Z) P L) := by
  refine m_of (ls := [.ref 5, .int (nI l), .int (nI hi), s_no, s_no]) hk_54 rfl rfl rfl ?_
  refine e_go hk_54 4 (c := (5, [.ref 5, .int (nI l), .int (nI hi), .int (nI l), .int (nI l)], [], hp Z P L)) rfl ?_
  exact x_drop_l hn hh (n - l) l l _ hN (by omega) (Nat.le_refl _)
def t_dl (x : Nat) : Nat → Nat → Nat → Nat → Nat
  | 0, _, _, d => d
  | k + 1, l, u, d => if u ≤ l + 1 then d else if x = l + (u - 1 - l) / 2 then d else if l + (u - 1 - l) / 2 < x then t_dl x k (l + (u - 1 - l) / 2 + 1) u (d + 1) else t_dl x k l (l + (u - 1 - l) / 2) (d + 1)
def t_de (x c : Nat) : Nat := t_dl x c 0 c 0
theorem y_mid {l v : Nat} (h : l ≤ v) (hv : v < 2 ^ 30) : nI l + (nI v - nI l) / 2 = nI (l + (v - l) / 2) := by
  rw [pk_sub h, show (2 : Int32) = nI 2 from rfl, pk_div (by omega) (by omega) (by omega), nI_add]
theorem y_eqI {a b : Nat} (ha : a < 2 ^ 31) (hb : b < 2 ^ 31) : nI a = nI b ↔ a = b := nI_eq ha hb
theorem x_even_l {Z : Nat → Nat → Int32} {P : Nat → Nat} {L : Nat} {x c : Nat} (hc : c ≤ 60) (hx : x ≤ 60) : ∀ (k l u d : Nat) (y5 : Value), d + k = c → u ≤ 60 → l ≤ 60 → e_r 55 9 [.int (nI x), .int (nI c), .int (nI l), .int (nI u - 1), .int (nI d), y5] [] (hp Z P L) (some (.int (nI (t_dl x k l u d)))) (hp Z P L)
  | 0, l, u, d, y5, hd, hu, hl => by
    refine e_go hk_55 3 (c := (if s_cnd .ge (nI l) (nI u - 1) = true then 74 else 14, [.int (nI x), .int (nI c), .int (nI l), .int (nI u - 1), .int (nI d), y5], [], hp Z P L)) rfl ?_
    refine e_ge (a := 74) (b := 14) (x := nI l) (y := nI u - 1) (fun hc11 => ?_) (fun hc11 => ?_)
    · skip
      refine e_go hk_55 1 (c := (76, [.int (nI x), .int (nI c), .int (nI l), .int (nI u - 1), .int (nI d), y5], [.int (nI d)], hp Z P L)) rfl ?_
      exact e_ret hk_55 rfl rfl rfl rfl rfl
    · skip
      refine e_go hk_55 3 (c := (if s_cnd .ge (nI d) (nI c) = true then 74 else 20, [.int (nI x), .int (nI c), .int (nI l), .int (nI u - 1), .int (nI d), y5], [], hp Z P L)) rfl ?_
      refine e_ge (a := 74) (b := 20) (x := nI d) (y := nI c) (fun hc17 => ?_) (fun hc17 => absurd ((y_le (by omega) (by omega)).mpr (by omega)) hc17)
      refine e_go hk_55 1 (c := (76, [.int (nI x), .int (nI c), .int (nI l), .int (nI u - 1), .int (nI d), y5], [.int (nI d)], hp Z P L)) rfl ?_
      exact e_ret hk_55 rfl rfl rfl rfl rfl
  | k + 1, l, u, d, y5, hd, hu, hl => by
    refine e_go hk_55 3 (c := (if s_cnd .ge (nI l) (nI u - 1) = true then 74 else 14, [.int (nI x), .int (nI c), .int (nI l), .int (nI u - 1), .int (nI d), y5], [], hp Z P L)) rfl ?_
    refine e_ge (a := 74) (b := 14) (x := nI l) (y := nI u - 1) (fun hc11 => ?_) (fun hc11 => ?_)
    · skip
      have hul : u ≤ l + 1 := (y_m1le (by omega) (by omega)).mp hc11
      rw [t_dl, if_pos hul]
      refine e_go hk_55 1 (c := (76, [.int (nI x), .int (nI c), .int (nI l), .int (nI u - 1), .int (nI d), y5], [.int (nI d)], hp Z P L)) rfl ?_
      exact e_ret hk_55 rfl rfl rfl rfl rfl
    · skip
      have hul : ¬ u ≤ l + 1 := fun z => hc11 ((y_m1le (by omega) (by omega)).mpr z)
      rw [t_dl, if_neg hul]
      refine e_go hk_55 3 (c := (if s_cnd .ge (nI d) (nI c) = true then 74 else 20, [.int (nI x), .int (nI c), .int (nI l), .int (nI u - 1), .int (nI d), y5], [], hp Z P L)) rfl ?_
      refine e_ge (a := 74) (b := 20) (x := nI d) (y := nI c) (fun hc17 => absurd hc17 (nI_ge (by omega) (by omega))) (fun hc17 => ?_)
      rw [y_m1s (u := u) (by omega)]
      refine e_go hk_55 5 (c := (25, [.int (nI x), .int (nI c), .int (nI l), .int (nI (u - 1)), .int (nI d), y5], [.int 2, .int ((nI (u - 1)) - (nI l)), .int (nI l)], hp Z P L)) rfl ?_
      refine e_idiv hk_55 (x := (nI (u - 1)) - (nI l)) (y := 2) rfl rfl (by decide) ?_
      show e_r 55 26 [.int (nI x), .int (nI c), .int (nI l), .int (nI (u - 1)), .int (nI d), y5] [.int (((nI (u - 1)) - (nI l)) / 2), .int (nI l)] (hp Z P L) _ _
      refine e_go hk_55 1 (c := (27, [.int (nI x), .int (nI c), .int (nI l), .int (nI (u - 1)), .int (nI d), y5], [.int ((nI l) + (((nI (u - 1)) - (nI l)) / 2))], hp Z P L)) rfl ?_
      rw [y_mid (by omega) (by omega)]
      generalize hm : l + (u - 1 - l) / 2 = g
      refine e_go hk_55 4 (c := (if s_cnd .ne (nI x) (nI g) = true then 38 else 35, [.int (nI x), .int (nI c), .int (nI l), .int (nI (u - 1)), .int (nI d), .int (nI g)], [], hp Z P L)) rfl ?_
      refine e_ne (a := 38) (b := 35) (x := nI x) (y := nI g) (fun hc32 => ?_) (fun hc32 => ?_)
      · skip
        have hc32 : ¬ x = g := fun z => hc32 (by rw [z])
        refine e_go hk_55 3 (c := (if s_cnd .le (nI x) (nI g) = true then 51 else 44, [.int (nI x), .int (nI c), .int (nI l), .int (nI (u - 1)), .int (nI d), .int (nI g)], [], hp Z P L)) rfl ?_
        refine e_le (a := 51) (b := 44) (x := nI x) (y := nI g) (fun hc41 => ?_) (fun hc41 => ?_)
        · skip
          rw [y_le (by omega) (by omega)] at hc41
          refine e_go hk_55 5 (c := (if s_cnd .ge (nI x) (nI g) = true then 66 else 59, [.int (nI x), .int (nI c), .int (nI l), .int (nI (u - 1)), .int (nI d), .int (nI g)], [], hp Z P L)) rfl ?_
          refine e_ge (a := 66) (b := 59) (x := nI x) (y := nI g) (fun hc56 => absurd hc56 (nI_ge (by omega) (by omega))) (fun hc56 => ?_)
          refine e_go hk_55 7 (c := (9, [.int (nI x), .int (nI c), .int (nI l), .int ((nI g) - 1), .int ((nI d) + 1), .int (nI g)], [], hp Z P L)) rfl ?_
          rw [if_neg (show ¬ x = g by omega), if_neg (show ¬ g < x by omega), nI_1 d]
          exact x_even_l hc hx k l g (d + 1) _ (by omega) (by omega) (by omega)
        · skip
          rw [y_le (by omega) (by omega)] at hc41
          refine e_go hk_55 8 (c := (if s_cnd .ge (nI x) (nI g) = true then 66 else 59, [.int (nI x), .int (nI c), .int ((nI g) + 1), .int (nI (u - 1)), .int (nI d), .int (nI g)], [], hp Z P L)) rfl ?_
          refine e_ge (a := 66) (b := 59) (x := nI x) (y := nI g) (fun hc56 => ?_) (fun hc56 => absurd ((y_le (by omega) (by omega)).mpr (by omega)) hc56)
          refine e_go hk_55 4 (c := (9, [.int (nI x), .int (nI c), .int ((nI g) + 1), .int (nI (u - 1)), .int ((nI d) + 1), .int (nI g)], [], hp Z P L)) rfl ?_
          rw [if_neg (show ¬ x = g by omega), if_pos (show g < x by omega), nI_1 d, nI_1 g, ← y_m1s (u := u) (by omega)]
          exact x_even_l hc hx k (g + 1) u (d + 1) _ (by omega) (by omega) (by omega)
      · skip
        rw [y_eqI (by omega) (by omega)] at hc32
        refine e_go hk_55 1 (c := (37, [.int (nI x), .int (nI c), .int (nI l), .int (nI (u - 1)), .int (nI d), .int (nI g)], [.int (nI d)], hp Z P L)) rfl ?_
        exact e_ret hk_55 rfl rfl rfl (by rw [if_pos hc32]) rfl
theorem x_even {Z : Nat → Nat → Int32} {P : Nat → Nat} {L : Nat} {x c : Nat} (hc : c ≤ 60) (hx : x ≤ 60) : m_r 55 [.int (nI x), .int (nI c)] (hp Z P L) (some (.int (nI (t_de x c)))) (hp Z P L) := by
  refine m_of (ls := [.int (nI x), .int (nI c), s_no, s_no, s_no, s_no]) hk_55 rfl rfl rfl ?_
  refine e_go hk_55 8 (c := (9, [.int (nI x), .int (nI c), .int 0, .int ((nI c) - 1), .int 0, s_no], [], hp Z P L)) rfl ?_
  exact x_even_l hc hx c 0 c 0 _ (by omega) hc (by omega)
