/-! The Model: what reads it; printed by wip/whole/gen/mod1.py -/
abbrev q_c (Z : Nat → Nat → Int32) (b : Nat) : Nat → Int32 := fun i => Z 132 (b + i)
theorem q_l {x y : Int32} : x.toInt64 ≤ y.toInt64 ↔ x ≤ y := by rw [Int64.le_iff_toInt_le, Int32.toInt_toInt64, Int32.toInt_toInt64, Int32.le_iff_toInt_le]
theorem q_pos {i : Nat} (hi : i < 2 ^ 31) : nI i ≤ 0 ↔ i = 0 := y_le0 hi
def q_fd (K : Nat → Int32) (key : Int32) : Nat → Nat → Option Nat
  | _, 0 => none
  | i, k + 1 => if K i = key then some i else q_fd K key (i + 1) k
theorem q_fd_lt {K : Nat → Int32} {key : Int32} : ∀ {k i j : Nat}, q_fd K key i k = some j → i ≤ j ∧ j < i + k ∧ K j = key
  | 0, i, j, h => by cases h
  | k + 1, i, j, h => by
    unfold q_fd at h
    split at h
    next hc => cases h; exact ⟨Nat.le_refl _, by omega, hc⟩
    · obtain ⟨h1, h2, h3⟩ := q_fd_lt h; exact ⟨by omega, by omega, h3⟩
abbrev q_L (Z : Nat → Nat → Int32) (j : Nat) : Nat := t_lo (q_c Z 248) (q_c Z 248 j) j
abbrev q_H (Z : Nat → Nat → Int32) (n j : Nat) : Nat := t_hi (q_c Z 248) (q_c Z 248 j) j (n - 1 - j)
theorem q_LL (Z : Nat → Nat → Int32) (j : Nat) : q_L Z j ≤ j := t_lo_le _ _ _
theorem q_HH (Z : Nat → Nat → Int32) {n j : Nat} (h : j < n) : j ≤ q_H Z n j ∧ q_H Z n j < n := by
  have h2 := t_hi_le (q_c Z 248) (q_c Z 248 j) (n - 1 - j) j
  exact ⟨h2.1, Nat.lt_of_le_of_lt h2.2 (by omega)⟩
def q_u (Z : Nat → Nat → Int32) (n i a : Nat) : Bool := decide (q_L Z a ≤ i ∧ i ≤ q_H Z n a)
def q_w (Z : Nat → Nat → Int32) (n j : Nat) : Int32 := nI (q_H Z n j) - nI (q_L Z j) + 1
def q_hv (Z : Nat → Nat → Int32) (n j : Nat) : Int32 := y_mx (nI j - nI (q_L Z j)) (nI (q_H Z n j) - nI j)
def q_ln (Z : Nat → Nat → Int32) (n j : Nat) : Bool := decide (Z 132 0 * q_w Z n j < 100 * q_hv Z n j)
theorem y_mxl {l r : Int32} (h : l ≤ r) : r = y_mx l r := by
  unfold y_mx
  split
  · rfl
  next hc => exact Int32.le_antisymm (Int32.not_lt.mp hc) h
theorem y_mxg {l r : Int32} (h : ¬ l ≤ r) : l = y_mx l r := by
  unfold y_mx
  rw [if_neg (fun z => h (Int32.le_of_lt z))]
def q_lnc (Z : Nat → Nat → Int32) (n : Nat) : Nat → Nat → Int32 → Int32
  | _, 0, acc => acc
  | i, k + 1, acc => q_lnc Z n (i + 1) k (acc + y_b (q_ln Z n i))
def q_rt (D : Nat → Int32) : Nat → Nat → Option Nat → Option Nat
  | _, 0, acc => acc
  | i, k + 1, acc => q_rt D (i + 1) k (if D i = 0 then some i else acc)
def q_lb (D : Nat → Int32) (acc : Option Nat) (i : Nat) : Bool := match acc with
  | none => true
  | some a => decide (D i < D a)
def q_la (Z : Nat → Nat → Int32) (n nd : Nat) : Nat → Nat → Option Nat → Option Nat
  | _, 0, acc => acc
  | i, k + 1, acc => q_la Z n nd (i + 1) k (if (q_u Z n nd i && q_ln Z n i && q_lb (q_c Z 248) acc i) = true then some i else acc)
def q_bl (K F : Nat → Int32) (key : Int32) : Nat → Nat → Int32 → Int32
  | _, 0, acc => acc
  | i, k + 1, acc => q_bl K F key (i + 1) k (acc + (if K i < key then F i else 0))
def q_ka (K F : Nat → Int32) : Nat → Nat → Int32 → Int32
  | _, 0, _ => -6
  | i, k + 1, a => if F i = 1 then (if a = 0 then K i else q_ka K F (i + 1) k (a + -1)) else q_ka K F (i + 1) k a
theorem q_in {h : sHp} {x lo hi : Int64} : m_r 90 [.long x, .long lo, .long hi] h (some (.int (y_b (decide (lo ≤ x ∧ x ≤ hi))))) h := by
  refine m_of (ls := [.long x, s_no, .long lo, s_no, .long hi, s_no]) hk_90 rfl rfl rfl ?_
  refine e_go hk_90 4 (c := (if s_cnd .lt (lg_cmp x lo) 0 = true then 17 else 6, [.long x, s_no, .long lo, s_no, .long hi, s_no], [], h)) rfl ?_
  refine e_lt (a := 17) (b := 6) (x := lg_cmp x lo) (y := 0) (fun hc3 => ?_) (fun hc3 => ?_)
  · skip
    have g : ¬ lo ≤ x := fun z => absurd ((lg_cmp_lt _ _).mp hc3) (Int64.not_lt.mpr z)
    refine e_go hk_90 1 (c := (18, [.long x, s_no, .long lo, s_no, .long hi, s_no], [.int 0], h)) rfl ?_
    exact e_ret hk_90 rfl rfl rfl (by rw [decide_eq_false (fun z => g z.1)]; rfl) rfl
  · skip
    have g : lo ≤ x := Int64.not_lt.mp (fun z => hc3 ((lg_cmp_lt _ _).mpr z))
    refine e_go hk_90 4 (c := (if s_cnd .gt (lg_cmp x hi) 0 = true then 17 else 13, [.long x, s_no, .long lo, s_no, .long hi, s_no], [], h)) rfl ?_
    refine e_gt (a := 17) (b := 13) (x := lg_cmp x hi) (y := 0) (fun hc10 => ?_) (fun hc10 => ?_)
    · skip
      have g2 : ¬ x ≤ hi := fun z => absurd ((lg_cmp_gt _ _).mp hc10) (Int64.not_lt.mpr z)
      refine e_go hk_90 1 (c := (18, [.long x, s_no, .long lo, s_no, .long hi, s_no], [.int 0], h)) rfl ?_
      exact e_ret hk_90 rfl rfl rfl (by rw [decide_eq_false (fun z => g2 z.2)]; rfl) rfl
    · skip
      have g2 : x ≤ hi := Int64.not_lt.mp (fun z => hc10 ((lg_cmp_gt _ _).mpr z))
      refine e_go hk_90 2 (c := (18, [.long x, s_no, .long lo, s_no, .long hi, s_no], [.int 1], h)) rfl ?_
      exact e_ret hk_90 rfl rfl rfl (by rw [decide_eq_true ⟨g, g2⟩]; rfl) rfl
theorem q_in2 {h : sHp} {x lo hi : Int32} {a b c : Int64} (ha : a = x.toInt64) (hb : b = lo.toInt64) (hc : c = hi.toInt64) : m_r 90 [.long a, .long b, .long c] h (some (.int (y_b (decide (lo ≤ x ∧ x ≤ hi))))) h := by
  subst ha; subst hb; subst hc
  have := q_in (h := h) (x := x.toInt64) (lo := lo.toInt64) (hi := hi.toInt64)
  rw [show decide (lo.toInt64 ≤ x.toInt64 ∧ x.toInt64 ≤ hi.toInt64) = decide (lo ≤ x ∧ x ≤ hi) from decide_eq_decide.mpr (by rw [q_l, q_l])] at this
  exact this
theorem q_key {h : sHp} {k : Int32} : m_r 94 [.int k] h (some (.int (y_b (y_nm k)))) h := by
  refine m_of (ls := [.int k]) hk_94 rfl rfl rfl ?_
  refine e_go hk_94 4 (c := (6, [.int k], [.long 999, .long 0, .long k.toInt64], h)) rfl ?_
  refine e_call hk_94 (as := [.long k.toInt64, .long 0, .long 999]) (rest := []) rfl rfl hk_90 rfl (Nat.le_of_ble_eq_true rfl) rfl (q_in2 (x := k) (lo := 0) (hi := 999) rfl (by decide) (by decide)) ?_
  show e_r 94 9 [.int k] [.int (y_b (y_nm k))] h _ _
  exact e_ret hk_94 rfl rfl s_rxz rfl rfl
theorem q_i2 (a b : Nat) : (nI a + nI b : Int32) = nI (a + b) := nI_add a b
theorem q_dep {Z : Nat → Nat → Int32} {P : Nat → Nat} {L : Nat} {j : Nat} (hj : j < 60) : m_r 95 [.ref 131, .int (nI j)] (hp Z P L) (some (.int (q_c Z 248 j))) (hp Z P L) := by
  refine m_of (ls := [.ref 131, .int (nI j)]) hk_95 rfl rfl rfl ?_
  refine e_go hk_95 5 (c := (9, [.ref 131, .int (nI j)], [.int (248 + (nI j)), .ref 132], hp Z P L)) rfl ?_
  rw [show (248 + (nI j)) = nI (248 + j) from (nI_add 248 j)]
  refine e_ald hk_95 (a := 132) (j := 248 + j) (n := 308) rfl rfl rfl (by omega) (by decide) ?_
  show e_r 95 10 [.ref 131, .int (nI j)] [.int (Z 132 (248 + j))] (hp Z P L) _ _
  exact e_ret hk_95 rfl rfl rfl rfl rfl
theorem q_find_l {Z : Nat → Nat → Int32} {P : Nat → Nat} {L n : Nat} (hN : Z 132 3 = nI n) (hn : n ≤ 60) {key : Int32} : ∀ (k i : Nat), i + k = n → e_r 96 2 [.ref 131, .int key, .int (nI i)] [] (hp Z P L) (some (.int (y_o (q_fd (q_c Z 8) key i k)))) (hp Z P L)
  | 0, i, hi => by
    refine e_go hk_96 4 (c := (8, [.ref 131, .int key, .int (nI i)], [.int 3, .ref 132, .int (nI i)], hp Z P L)) rfl ?_
    refine e_ald hk_96 (a := 132) (j := 3) (n := 308) rfl rfl rfl (by decide) (by decide) ?_
    show e_r 96 9 [.ref 131, .int key, .int (nI i)] [.int (Z 132 3), .int (nI i)] (hp Z P L) _ _
    refine e_go hk_96 1 (c := (if s_cnd .ge (nI i) (Z 132 3) = true then 33 else 12, [.ref 131, .int key, .int (nI i)], [], hp Z P L)) rfl ?_
    refine e_ge (a := 33) (b := 12) (x := nI i) (y := Z 132 3) (fun hc9 => ?_) (fun hc9 => absurd (by rw [hN]; exact (y_le (by omega) (by omega)).mpr (by omega)) hc9)
    refine e_go hk_96 1 (c := (35, [.ref 131, .int key, .int (nI i)], [.int ((-6))], hp Z P L)) rfl ?_
    exact e_ret hk_96 rfl rfl rfl rfl rfl
  | k + 1, i, hi => by
    refine e_go hk_96 4 (c := (8, [.ref 131, .int key, .int (nI i)], [.int 3, .ref 132, .int (nI i)], hp Z P L)) rfl ?_
    refine e_ald hk_96 (a := 132) (j := 3) (n := 308) rfl rfl rfl (by decide) (by decide) ?_
    show e_r 96 9 [.ref 131, .int key, .int (nI i)] [.int (Z 132 3), .int (nI i)] (hp Z P L) _ _
    refine e_go hk_96 1 (c := (if s_cnd .ge (nI i) (Z 132 3) = true then 33 else 12, [.ref 131, .int key, .int (nI i)], [], hp Z P L)) rfl ?_
    refine e_ge (a := 33) (b := 12) (x := nI i) (y := Z 132 3) (fun hc9 => absurd hc9 (by rw [hN]; exact nI_ge (by omega) (by omega))) (fun hc9 => ?_)
    refine e_go hk_96 5 (c := (20, [.ref 131, .int key, .int (nI i)], [.int (8 + (nI i)), .ref 132], hp Z P L)) rfl ?_
    rw [show (8 + (nI i)) = nI (8 + i) from (nI_add 8 i)]
    refine e_ald hk_96 (a := 132) (j := 8 + i) (n := 308) rfl rfl rfl (by omega) (by decide) ?_
    show e_r 96 21 [.ref 131, .int key, .int (nI i)] [.int (Z 132 (8 + i))] (hp Z P L) _ _
    refine e_go hk_96 2 (c := (if s_cnd .ne (Z 132 (8 + i)) key = true then 27 else 25, [.ref 131, .int key, .int (nI i)], [], hp Z P L)) rfl ?_
    refine e_ne (a := 27) (b := 25) (x := Z 132 (8 + i)) (y := key) (fun hc22 => ?_) (fun hc22 => ?_)
    · skip
      rw [q_fd, if_neg hc22]
      refine e_go hk_96 2 (c := (2, [.ref 131, .int key, .int ((nI i) + 1)], [], hp Z P L)) rfl ?_
      rw [nI_1]
      exact q_find_l hN hn k (i + 1) (by omega)
    · skip
      rw [q_fd, if_pos hc22]
      refine e_go hk_96 1 (c := (26, [.ref 131, .int key, .int (nI i)], [.int (nI i)], hp Z P L)) rfl ?_
      exact e_ret hk_96 rfl rfl rfl rfl rfl
theorem q_find {Z : Nat → Nat → Int32} {P : Nat → Nat} {L n : Nat} (hN : Z 132 3 = nI n) (hn : n ≤ 60) {key : Int32} : m_r 96 [.ref 131, .int key] (hp Z P L) (some (.int (y_o (q_fd (q_c Z 8) key 0 n)))) (hp Z P L) := by
  refine m_of (ls := [.ref 131, .int key, s_no]) hk_96 rfl rfl rfl ?_
  refine e_go hk_96 2 (c := (2, [.ref 131, .int key, .int 0], [], hp Z P L)) rfl ?_
  exact q_find_l hN hn n 0 (by omega)
theorem q_first_l {Z : Nat → Nat → Int32} {P : Nat → Nat} {L : Nat} {j : Nat} (hj : j < 60) : ∀ (i : Nat), i ≤ j → e_r 97 2 [.ref 131, .int (nI j), .int (nI i)] [] (hp Z P L) (some (.int (nI (t_lo (q_c Z 248) (q_c Z 248 j) i)))) (hp Z P L)
  | 0, hi => by
    refine e_go hk_97 2 (c := (if s_cnd .le (nI 0) 0 = true then 27 else 6, [.ref 131, .int (nI j), .int (nI 0)], [], hp Z P L)) rfl ?_
    refine e_le (a := 27) (b := 6) (x := nI 0) (y := 0) (fun hc3 => ?_) (fun hc3 => absurd (by decide) hc3)
    refine e_go hk_97 1 (c := (28, [.ref 131, .int (nI j), .int (nI 0)], [.int (nI 0)], hp Z P L)) rfl ?_
    exact e_ret hk_97 rfl rfl rfl rfl rfl
  | i + 1, hi => by
    refine e_go hk_97 2 (c := (if s_cnd .le (nI (i + 1)) 0 = true then 27 else 6, [.ref 131, .int (nI j), .int (nI (i + 1))], [], hp Z P L)) rfl ?_
    refine e_le (a := 27) (b := 6) (x := nI (i + 1)) (y := 0) (fun hc3 => absurd hc3 (nI_nle (by omega) (by omega))) (fun hc3 => ?_)
    refine e_go hk_97 4 (c := (10, [.ref 131, .int (nI j), .int (nI (i + 1))], [.int ((nI (i + 1)) - 1), .ref 131], hp Z P L)) rfl ?_
    rw [nI_pred]
    refine e_call hk_97 (as := [.ref 131, .int (nI i)]) (rest := []) rfl rfl hk_95 rfl (Nat.le_of_ble_eq_true rfl) rfl (q_dep (j := i) (by omega)) ?_
    show e_r 97 13 [.ref 131, .int (nI j), .int (nI (i + 1))] [.int (q_c Z 248 i)] (hp Z P L) _ _
    refine e_go hk_97 2 (c := (15, [.ref 131, .int (nI j), .int (nI (i + 1))], [.int (nI j), .ref 131, .int (q_c Z 248 i)], hp Z P L)) rfl ?_
    refine e_call hk_97 (as := [.ref 131, .int (nI j)]) (rest := [.int (q_c Z 248 i)]) rfl rfl hk_95 rfl (Nat.le_of_ble_eq_true rfl) rfl (q_dep (j := j) (by omega)) ?_
    show e_r 97 18 [.ref 131, .int (nI j), .int (nI (i + 1))] [.int (q_c Z 248 j), .int (q_c Z 248 i)] (hp Z P L) _ _
    refine e_go hk_97 1 (c := (if s_cnd .le (q_c Z 248 i) (q_c Z 248 j) = true then 27 else 21, [.ref 131, .int (nI j), .int (nI (i + 1))], [], hp Z P L)) rfl ?_
    refine e_le (a := 27) (b := 21) (x := q_c Z 248 i) (y := q_c Z 248 j) (fun hc18 => ?_) (fun hc18 => ?_)
    · skip
      rw [t_lo, if_pos hc18]
      refine e_go hk_97 1 (c := (28, [.ref 131, .int (nI j), .int (nI (i + 1))], [.int (nI (i + 1))], hp Z P L)) rfl ?_
      exact e_ret hk_97 rfl rfl rfl rfl rfl
    · skip
      rw [t_lo, if_neg hc18]
      refine e_go hk_97 2 (c := (2, [.ref 131, .int (nI j), .int ((nI (i + 1)) + (-1))], [], hp Z P L)) rfl ?_
      rw [pk_m1]
      exact q_first_l hj i (by omega)
theorem q_first {Z : Nat → Nat → Int32} {P : Nat → Nat} {L : Nat} {j : Nat} (hj : j < 60) : m_r 97 [.ref 131, .int (nI j)] (hp Z P L) (some (.int (nI (q_L Z j)))) (hp Z P L) := by
  refine m_of (ls := [.ref 131, .int (nI j), s_no]) hk_97 rfl rfl rfl ?_
  refine e_go hk_97 2 (c := (2, [.ref 131, .int (nI j), .int (nI j)], [], hp Z P L)) rfl ?_
  exact q_first_l hj j (Nat.le_refl _)
theorem q_last_l {Z : Nat → Nat → Int32} {P : Nat → Nat} {L n : Nat} (hN : Z 132 3 = nI n) (hn : n ≤ 60) {j : Nat} (hj : j < n) : ∀ (k i : Nat), i + k + 1 = n → e_r 98 2 [.ref 131, .int (nI j), .int (nI i)] [] (hp Z P L) (some (.int (nI (t_hi (q_c Z 248) (q_c Z 248 j) i k)))) (hp Z P L)
  | 0, i, hi => by
    refine e_go hk_98 4 (c := (8, [.ref 131, .int (nI j), .int (nI i)], [.int 3, .ref 132, .int (nI i)], hp Z P L)) rfl ?_
    refine e_ald hk_98 (a := 132) (j := 3) (n := 308) rfl rfl rfl (by decide) (by decide) ?_
    show e_r 98 9 [.ref 131, .int (nI j), .int (nI i)] [.int (Z 132 3), .int (nI i)] (hp Z P L) _ _
    refine e_go hk_98 3 (c := (if s_cnd .ge (nI i) ((Z 132 3) - 1) = true then 35 else 14, [.ref 131, .int (nI j), .int (nI i)], [], hp Z P L)) rfl ?_
    refine e_ge (a := 35) (b := 14) (x := nI i) (y := (Z 132 3) - 1) (fun hc11 => ?_) (fun hc11 => absurd (by rw [hN]; exact (y_m1le (by omega) (by omega)).mpr (by omega)) hc11)
    refine e_go hk_98 1 (c := (36, [.ref 131, .int (nI j), .int (nI i)], [.int (nI i)], hp Z P L)) rfl ?_
    exact e_ret hk_98 rfl rfl rfl rfl rfl
  | k + 1, i, hi => by
    refine e_go hk_98 4 (c := (8, [.ref 131, .int (nI j), .int (nI i)], [.int 3, .ref 132, .int (nI i)], hp Z P L)) rfl ?_
    refine e_ald hk_98 (a := 132) (j := 3) (n := 308) rfl rfl rfl (by decide) (by decide) ?_
    show e_r 98 9 [.ref 131, .int (nI j), .int (nI i)] [.int (Z 132 3), .int (nI i)] (hp Z P L) _ _
    refine e_go hk_98 3 (c := (if s_cnd .ge (nI i) ((Z 132 3) - 1) = true then 35 else 14, [.ref 131, .int (nI j), .int (nI i)], [], hp Z P L)) rfl ?_
    refine e_ge (a := 35) (b := 14) (x := nI i) (y := (Z 132 3) - 1) (fun hc11 => absurd hc11 (by rw [hN]; exact fun z => absurd ((y_m1le (by omega) (by omega)).mp z) (by omega))) (fun hc11 => ?_)
    refine e_go hk_98 4 (c := (18, [.ref 131, .int (nI j), .int (nI i)], [.int ((nI i) + 1), .ref 131], hp Z P L)) rfl ?_
    rw [nI_1]
    refine e_call hk_98 (as := [.ref 131, .int (nI (i + 1))]) (rest := []) rfl rfl hk_95 rfl (Nat.le_of_ble_eq_true rfl) rfl (q_dep (j := i + 1) (by omega)) ?_
    show e_r 98 21 [.ref 131, .int (nI j), .int (nI i)] [.int (q_c Z 248 (i + 1))] (hp Z P L) _ _
    refine e_go hk_98 2 (c := (23, [.ref 131, .int (nI j), .int (nI i)], [.int (nI j), .ref 131, .int (q_c Z 248 (i + 1))], hp Z P L)) rfl ?_
    refine e_call hk_98 (as := [.ref 131, .int (nI j)]) (rest := [.int (q_c Z 248 (i + 1))]) rfl rfl hk_95 rfl (Nat.le_of_ble_eq_true rfl) rfl (q_dep (j := j) (by omega)) ?_
    show e_r 98 26 [.ref 131, .int (nI j), .int (nI i)] [.int (q_c Z 248 j), .int (q_c Z 248 (i + 1))] (hp Z P L) _ _
    refine e_go hk_98 1 (c := (if s_cnd .le (q_c Z 248 (i + 1)) (q_c Z 248 j) = true then 35 else 29, [.ref 131, .int (nI j), .int (nI i)], [], hp Z P L)) rfl ?_
    refine e_le (a := 35) (b := 29) (x := q_c Z 248 (i + 1)) (y := q_c Z 248 j) (fun hc26 => ?_) (fun hc26 => ?_)
    · skip
      rw [t_hi, if_pos hc26]
      refine e_go hk_98 1 (c := (36, [.ref 131, .int (nI j), .int (nI i)], [.int (nI i)], hp Z P L)) rfl ?_
      exact e_ret hk_98 rfl rfl rfl rfl rfl
    · skip
      rw [t_hi, if_neg hc26]
      refine e_go hk_98 2 (c := (2, [.ref 131, .int (nI j), .int ((nI i) + 1)], [], hp Z P L)) rfl ?_
      rw [nI_1]
      exact q_last_l hN hn hj k (i + 1) (by omega)
theorem q_last {Z : Nat → Nat → Int32} {P : Nat → Nat} {L n : Nat} (hN : Z 132 3 = nI n) (hn : n ≤ 60) {j : Nat} (hj : j < n) : m_r 98 [.ref 131, .int (nI j)] (hp Z P L) (some (.int (nI (q_H Z n j)))) (hp Z P L) := by
  refine m_of (ls := [.ref 131, .int (nI j), s_no]) hk_98 rfl rfl rfl ?_
  refine e_go hk_98 2 (c := (2, [.ref 131, .int (nI j), .int (nI j)], [], hp Z P L)) rfl ?_
  exact q_last_l hN hn hj (n - 1 - j) j (by omega)
theorem q_weight {Z : Nat → Nat → Int32} {P : Nat → Nat} {L n : Nat} (hN : Z 132 3 = nI n) (hn : n ≤ 60) {j : Nat} (hj : j < n) : m_r 99 [.ref 131, .int (nI j)] (hp Z P L) (some (.int (q_w Z n j))) (hp Z P L) := by
  refine m_of (ls := [.ref 131, .int (nI j)]) hk_99 rfl rfl rfl ?_
  refine e_go hk_99 2 (c := (2, [.ref 131, .int (nI j)], [.int (nI j), .ref 131], hp Z P L)) rfl ?_
  refine e_call hk_99 (as := [.ref 131, .int (nI j)]) (rest := []) rfl rfl hk_98 rfl (Nat.le_of_ble_eq_true rfl) rfl (q_last hN hn (j := j) (by omega)) ?_
  show e_r 99 5 [.ref 131, .int (nI j)] [.int (nI (q_H Z n j))] (hp Z P L) _ _
  refine e_go hk_99 2 (c := (7, [.ref 131, .int (nI j)], [.int (nI j), .ref 131, .int (nI (q_H Z n j))], hp Z P L)) rfl ?_
  refine e_call hk_99 (as := [.ref 131, .int (nI j)]) (rest := [.int (nI (q_H Z n j))]) rfl rfl hk_97 rfl (Nat.le_of_ble_eq_true rfl) rfl (q_first (j := j) (by omega)) ?_
  show e_r 99 10 [.ref 131, .int (nI j)] [.int (nI (q_L Z j)), .int (nI (q_H Z n j))] (hp Z P L) _ _
  refine e_go hk_99 3 (c := (13, [.ref 131, .int (nI j)], [.int (((nI (q_H Z n j)) - (nI (q_L Z j))) + 1)], hp Z P L)) rfl ?_
  exact e_ret hk_99 rfl rfl rfl rfl rfl
theorem q_under {Z : Nat → Nat → Int32} {P : Nat → Nat} {L n : Nat} (hN : Z 132 3 = nI n) (hn : n ≤ 60) {i a : Nat} (hi : i < n) (ha : a < n) : m_r 100 [.ref 131, .int (nI i), .int (nI a)] (hp Z P L) (some (.int (y_b (q_u Z n i a)))) (hp Z P L) := by
  refine m_of (ls := [.ref 131, .int (nI i), .int (nI a)]) hk_100 rfl rfl rfl ?_
  refine e_go hk_100 4 (c := (4, [.ref 131, .int (nI i), .int (nI a)], [.int (nI a), .ref 131, .long ((nI i).toInt64)], hp Z P L)) rfl ?_
  refine e_call hk_100 (as := [.ref 131, .int (nI a)]) (rest := [.long ((nI i).toInt64)]) rfl rfl hk_97 rfl (Nat.le_of_ble_eq_true rfl) rfl (q_first (j := a) (by omega)) ?_
  show e_r 100 7 [.ref 131, .int (nI i), .int (nI a)] [.int (nI (q_L Z a)), .long ((nI i).toInt64)] (hp Z P L) _ _
  refine e_go hk_100 3 (c := (10, [.ref 131, .int (nI i), .int (nI a)], [.int (nI a), .ref 131, .long ((nI (q_L Z a)).toInt64), .long ((nI i).toInt64)], hp Z P L)) rfl ?_
  refine e_call hk_100 (as := [.ref 131, .int (nI a)]) (rest := [.long ((nI (q_L Z a)).toInt64), .long ((nI i).toInt64)]) rfl rfl hk_98 rfl (Nat.le_of_ble_eq_true rfl) rfl (q_last hN hn (j := a) (by omega)) ?_
  show e_r 100 13 [.ref 131, .int (nI i), .int (nI a)] [.int (nI (q_H Z n a)), .long ((nI (q_L Z a)).toInt64), .long ((nI i).toInt64)] (hp Z P L) _ _
  refine e_go hk_100 1 (c := (14, [.ref 131, .int (nI i), .int (nI a)], [.long ((nI (q_H Z n a)).toInt64), .long ((nI (q_L Z a)).toInt64), .long ((nI i).toInt64)], hp Z P L)) rfl ?_
  refine e_call hk_100 (as := [.long ((nI i).toInt64), .long ((nI (q_L Z a)).toInt64), .long ((nI (q_H Z n a)).toInt64)]) (rest := []) rfl rfl hk_90 rfl (Nat.le_of_ble_eq_true rfl) rfl (q_in2 (x := nI i) (lo := nI (q_L Z a)) (hi := nI (q_H Z n a)) rfl rfl rfl) ?_
  show e_r 100 17 [.ref 131, .int (nI i), .int (nI a)] [.int (y_b (decide (nI (q_L Z a) ≤ nI i ∧ nI i ≤ nI (q_H Z n a))))] (hp Z P L) _ _
  exact e_ret hk_100 rfl rfl s_rxz (congrArg (fun b => some (Value.int (y_b b))) (decide_eq_decide.mpr (by rw [y_le (by have := q_LL Z a; omega) (by omega), y_le (by omega) (by have := (q_HH Z ha).2; omega)]))) rfl
theorem q_child_l {Z : Nat → Nat → Int32} {P : Nat → Nat} {L n : Nat} (hN : Z 132 3 = nI n) (hn : n ≤ 60) {j u : Nat} {s fr to : Int32} (hj : j < n) (hu : u ≤ n) (ht : to = nI u - 1) : ∀ (k i : Nat), i + k = u → e_r 101 36 [.ref 131, .int (nI j), .int s, .int fr, .int to, .int (nI i)] [] (hp Z P L) (some (.int (y_o (q_fd (q_c Z 248) (q_c Z 248 j + 1) i k)))) (hp Z P L)
  | 0, i, hi => by
    refine e_go hk_101 3 (c := (if s_cnd .gt (nI i) to = true then 68 else 43, [.ref 131, .int (nI j), .int s, .int fr, .int to, .int (nI i)], [], hp Z P L)) rfl ?_
    refine e_gt (a := 68) (b := 43) (x := nI i) (y := to) (fun hc40 => ?_) (fun hc40 => absurd (by rw [ht]; exact (y_m1lt (by omega) (by omega)).mpr (by omega)) hc40)
    refine e_go hk_101 1 (c := (70, [.ref 131, .int (nI j), .int s, .int fr, .int to, .int (nI i)], [.int ((-6))], hp Z P L)) rfl ?_
    exact e_ret hk_101 rfl rfl rfl rfl rfl
  | k + 1, i, hi => by
    refine e_go hk_101 3 (c := (if s_cnd .gt (nI i) to = true then 68 else 43, [.ref 131, .int (nI j), .int s, .int fr, .int to, .int (nI i)], [], hp Z P L)) rfl ?_
    refine e_gt (a := 68) (b := 43) (x := nI i) (y := to) (fun hc40 => absurd hc40 (by rw [ht]; exact fun z => absurd ((y_m1lt (by omega) (by omega)).mp z) (by omega))) (fun hc40 => ?_)
    refine e_go hk_101 2 (c := (46, [.ref 131, .int (nI j), .int s, .int fr, .int to, .int (nI i)], [.int (nI i), .ref 131], hp Z P L)) rfl ?_
    refine e_call hk_101 (as := [.ref 131, .int (nI i)]) (rest := []) rfl rfl hk_95 rfl (Nat.le_of_ble_eq_true rfl) rfl (q_dep (j := i) (by omega)) ?_
    show e_r 101 49 [.ref 131, .int (nI j), .int s, .int fr, .int to, .int (nI i)] [.int (q_c Z 248 i)] (hp Z P L) _ _
    refine e_go hk_101 2 (c := (51, [.ref 131, .int (nI j), .int s, .int fr, .int to, .int (nI i)], [.int (nI j), .ref 131, .int (q_c Z 248 i)], hp Z P L)) rfl ?_
    refine e_call hk_101 (as := [.ref 131, .int (nI j)]) (rest := [.int (q_c Z 248 i)]) rfl rfl hk_95 rfl (Nat.le_of_ble_eq_true rfl) rfl (q_dep (j := j) (by omega)) ?_
    show e_r 101 54 [.ref 131, .int (nI j), .int s, .int fr, .int to, .int (nI i)] [.int (q_c Z 248 j), .int (q_c Z 248 i)] (hp Z P L) _ _
    refine e_go hk_101 3 (c := (if s_cnd .ne (q_c Z 248 i) ((q_c Z 248 j) + 1) = true then 62 else 59, [.ref 131, .int (nI j), .int s, .int fr, .int to, .int (nI i)], [], hp Z P L)) rfl ?_
    refine e_ne (a := 62) (b := 59) (x := q_c Z 248 i) (y := (q_c Z 248 j) + 1) (fun hc56 => ?_) (fun hc56 => ?_)
    · skip
      rw [q_fd, if_neg hc56]
      refine e_go hk_101 2 (c := (36, [.ref 131, .int (nI j), .int s, .int fr, .int to, .int ((nI i) + 1)], [], hp Z P L)) rfl ?_
      rw [nI_1]
      exact q_child_l hN hn hj hu ht k (i + 1) (by omega)
    · skip
      rw [q_fd, if_pos hc56]
      refine e_go hk_101 1 (c := (61, [.ref 131, .int (nI j), .int s, .int fr, .int to, .int (nI i)], [.int (nI i)], hp Z P L)) rfl ?_
      exact e_ret hk_101 rfl rfl rfl rfl rfl
theorem q_child0 {Z : Nat → Nat → Int32} {P : Nat → Nat} {L n : Nat} (hN : Z 132 3 = nI n) (hn : n ≤ 60) {j : Nat} (hj : j < n) : m_r 101 [.ref 131, .int (nI j), .int 0] (hp Z P L) (some (.int (y_o (q_fd (q_c Z 248) (q_c Z 248 j + 1) (q_L Z j) (j - q_L Z j))))) (hp Z P L) := by
  refine m_of (ls := [.ref 131, .int (nI j), .int 0, s_no, s_no, s_no]) hk_101 rfl rfl rfl ?_
  refine e_go hk_101 2 (c := (if s_cnd .ne 0 0 = true then 12 else 4, [.ref 131, .int (nI j), .int 0, s_no, s_no, s_no], [], hp Z P L)) rfl ?_
  refine e_ne (a := 12) (b := 4) (x := 0) (y := 0) (fun hc1 => absurd (rfl) hc1) (fun hc1 => ?_)
  refine e_go hk_101 2 (c := (6, [.ref 131, .int (nI j), .int 0, s_no, s_no, s_no], [.int (nI j), .ref 131], hp Z P L)) rfl ?_
  refine e_call hk_101 (as := [.ref 131, .int (nI j)]) (rest := []) rfl rfl hk_97 rfl (Nat.le_of_ble_eq_true rfl) rfl (q_first (j := j) (by omega)) ?_
  show e_r 101 9 [.ref 131, .int (nI j), .int 0, s_no, s_no, s_no] [.int (nI (q_L Z j))] (hp Z P L) _ _
  refine e_go hk_101 4 (c := (if s_cnd .ne 0 0 = true then 26 else 20, [.ref 131, .int (nI j), .int 0, .int (nI (q_L Z j)), s_no, s_no], [], hp Z P L)) rfl ?_
  refine e_ne (a := 26) (b := 20) (x := 0) (y := 0) (fun hc17 => absurd (rfl) hc17) (fun hc17 => ?_)
  refine e_go hk_101 7 (c := (36, [.ref 131, .int (nI j), .int 0, .int (nI (q_L Z j)), .int ((nI j) - 1), .int (nI (q_L Z j))], [], hp Z P L)) rfl ?_
  exact q_child_l hN hn hj (u := j) (by omega) rfl _ _ (by have := q_LL Z j; omega)
theorem q_child1 {Z : Nat → Nat → Int32} {P : Nat → Nat} {L n : Nat} (hN : Z 132 3 = nI n) (hn : n ≤ 60) {j : Nat} (hj : j < n) : m_r 101 [.ref 131, .int (nI j), .int 1] (hp Z P L) (some (.int (y_o (q_fd (q_c Z 248) (q_c Z 248 j + 1) (j + 1) (q_H Z n j - j))))) (hp Z P L) := by
  refine m_of (ls := [.ref 131, .int (nI j), .int 1, s_no, s_no, s_no]) hk_101 rfl rfl rfl ?_
  refine e_go hk_101 2 (c := (if s_cnd .ne 1 0 = true then 12 else 4, [.ref 131, .int (nI j), .int 1, s_no, s_no, s_no], [], hp Z P L)) rfl ?_
  refine e_ne (a := 12) (b := 4) (x := 1) (y := 0) (fun hc1 => ?_) (fun hc1 => absurd hc1 (by decide))
  refine e_go hk_101 6 (c := (if s_cnd .ne 1 0 = true then 26 else 20, [.ref 131, .int (nI j), .int 1, .int ((nI j) + 1), s_no, s_no], [], hp Z P L)) rfl ?_
  refine e_ne (a := 26) (b := 20) (x := 1) (y := 0) (fun hc17 => ?_) (fun hc17 => absurd hc17 (by decide))
  refine e_go hk_101 2 (c := (28, [.ref 131, .int (nI j), .int 1, .int ((nI j) + 1), s_no, s_no], [.int (nI j), .ref 131], hp Z P L)) rfl ?_
  refine e_call hk_101 (as := [.ref 131, .int (nI j)]) (rest := []) rfl rfl hk_98 rfl (Nat.le_of_ble_eq_true rfl) rfl (q_last hN hn (j := j) (by omega)) ?_
  show e_r 101 31 [.ref 131, .int (nI j), .int 1, .int ((nI j) + 1), s_no, s_no] [.int (nI (q_H Z n j))] (hp Z P L) _ _
  refine e_go hk_101 3 (c := (36, [.ref 131, .int (nI j), .int 1, .int ((nI j) + 1), .int (nI (q_H Z n j)), .int ((nI j) + 1)], [], hp Z P L)) rfl ?_
  rw [nI_1]
  exact q_child_l hN hn hj (u := q_H Z n j + 1) (by have := q_HH Z hj; omega) (nI_pred _).symm _ _ (by have := q_HH Z hj; omega)
theorem q_cw0 {Z : Nat → Nat → Int32} {P : Nat → Nat} {L n : Nat} (hN : Z 132 3 = nI n) (hn : n ≤ 60) {j : Nat} (hj : j < n) : m_r 102 [.ref 131, .int (nI j), .int 0] (hp Z P L) (some (.int (nI j - nI (q_L Z j)))) (hp Z P L) := by
  refine m_of (ls := [.ref 131, .int (nI j), .int 0]) hk_102 rfl rfl rfl ?_
  refine e_go hk_102 2 (c := (if s_cnd .ne 0 0 = true then 14 else 4, [.ref 131, .int (nI j), .int 0], [], hp Z P L)) rfl ?_
  refine e_ne (a := 14) (b := 4) (x := 0) (y := 0) (fun hc1 => absurd (rfl) hc1) (fun hc1 => ?_)
  refine e_go hk_102 3 (c := (7, [.ref 131, .int (nI j), .int 0], [.int (nI j), .ref 131, .int (nI j)], hp Z P L)) rfl ?_
  refine e_call hk_102 (as := [.ref 131, .int (nI j)]) (rest := [.int (nI j)]) rfl rfl hk_97 rfl (Nat.le_of_ble_eq_true rfl) rfl (q_first (j := j) (by omega)) ?_
  show e_r 102 10 [.ref 131, .int (nI j), .int 0] [.int (nI (q_L Z j)), .int (nI j)] (hp Z P L) _ _
  refine e_go hk_102 2 (c := (21, [.ref 131, .int (nI j), .int 0], [.int ((nI j) - (nI (q_L Z j)))], hp Z P L)) rfl ?_
  exact e_ret hk_102 rfl rfl rfl rfl rfl
theorem q_cw1 {Z : Nat → Nat → Int32} {P : Nat → Nat} {L n : Nat} (hN : Z 132 3 = nI n) (hn : n ≤ 60) {j : Nat} (hj : j < n) : m_r 102 [.ref 131, .int (nI j), .int 1] (hp Z P L) (some (.int (nI (q_H Z n j) - nI j))) (hp Z P L) := by
  refine m_of (ls := [.ref 131, .int (nI j), .int 1]) hk_102 rfl rfl rfl ?_
  refine e_go hk_102 2 (c := (if s_cnd .ne 1 0 = true then 14 else 4, [.ref 131, .int (nI j), .int 1], [], hp Z P L)) rfl ?_
  refine e_ne (a := 14) (b := 4) (x := 1) (y := 0) (fun hc1 => ?_) (fun hc1 => absurd hc1 (by decide))
  refine e_go hk_102 2 (c := (16, [.ref 131, .int (nI j), .int 1], [.int (nI j), .ref 131], hp Z P L)) rfl ?_
  refine e_call hk_102 (as := [.ref 131, .int (nI j)]) (rest := []) rfl rfl hk_98 rfl (Nat.le_of_ble_eq_true rfl) rfl (q_last hN hn (j := j) (by omega)) ?_
  show e_r 102 19 [.ref 131, .int (nI j), .int 1] [.int (nI (q_H Z n j))] (hp Z P L) _ _
  refine e_go hk_102 2 (c := (21, [.ref 131, .int (nI j), .int 1], [.int ((nI (q_H Z n j)) - (nI j))], hp Z P L)) rfl ?_
  exact e_ret hk_102 rfl rfl rfl rfl rfl
theorem q_heavy {Z : Nat → Nat → Int32} {P : Nat → Nat} {L n : Nat} (hN : Z 132 3 = nI n) (hn : n ≤ 60) {j : Nat} (hj : j < n) : m_r 103 [.ref 131, .int (nI j)] (hp Z P L) (some (.int (q_hv Z n j))) (hp Z P L) := by
  refine m_of (ls := [.ref 131, .int (nI j), s_no, s_no]) hk_103 rfl rfl rfl ?_
  refine e_go hk_103 3 (c := (3, [.ref 131, .int (nI j), s_no, s_no], [.int 0, .int (nI j), .ref 131], hp Z P L)) rfl ?_
  refine e_call hk_103 (as := [.ref 131, .int (nI j), .int 0]) (rest := []) rfl rfl hk_102 rfl (Nat.le_of_ble_eq_true rfl) rfl (q_cw0 hN hn hj) ?_
  show e_r 103 6 [.ref 131, .int (nI j), s_no, s_no] [.int (nI j - nI (q_L Z j))] (hp Z P L) _ _
  refine e_go hk_103 4 (c := (10, [.ref 131, .int (nI j), .int (nI j - nI (q_L Z j)), s_no], [.int 1, .int (nI j), .ref 131], hp Z P L)) rfl ?_
  refine e_call hk_103 (as := [.ref 131, .int (nI j), .int 1]) (rest := []) rfl rfl hk_102 rfl (Nat.le_of_ble_eq_true rfl) rfl (q_cw1 hN hn hj) ?_
  show e_r 103 13 [.ref 131, .int (nI j), .int (nI j - nI (q_L Z j)), s_no] [.int (nI (q_H Z n j) - nI j)] (hp Z P L) _ _
  refine e_go hk_103 4 (c := (if s_cnd .le (nI j - nI (q_L Z j)) (nI (q_H Z n j) - nI j) = true then 23 else 19, [.ref 131, .int (nI j), .int (nI j - nI (q_L Z j)), .int (nI (q_H Z n j) - nI j)], [], hp Z P L)) rfl ?_
  refine e_le (a := 23) (b := 19) (x := nI j - nI (q_L Z j)) (y := nI (q_H Z n j) - nI j) (fun hc16 => ?_) (fun hc16 => ?_)
  · skip
    refine e_go hk_103 1 (c := (24, [.ref 131, .int (nI j), .int (nI j - nI (q_L Z j)), .int (nI (q_H Z n j) - nI j)], [.int (nI (q_H Z n j) - nI j)], hp Z P L)) rfl ?_
    exact e_ret hk_103 rfl rfl rfl (by rw [q_hv, ← y_mxl hc16]) rfl
  · skip
    refine e_go hk_103 2 (c := (24, [.ref 131, .int (nI j), .int (nI j - nI (q_L Z j)), .int (nI (q_H Z n j) - nI j)], [.int (nI j - nI (q_L Z j))], hp Z P L)) rfl ?_
    exact e_ret hk_103 rfl rfl rfl (by rw [q_hv, ← y_mxg hc16]) rfl
theorem q_leans {Z : Nat → Nat → Int32} {P : Nat → Nat} {L n : Nat} (hN : Z 132 3 = nI n) (hn : n ≤ 60) {j : Nat} (hj : j < n) : m_r 104 [.ref 131, .int (nI j)] (hp Z P L) (some (.int (y_b (q_ln Z n j)))) (hp Z P L) := by
  refine m_of (ls := [.ref 131, .int (nI j)]) hk_104 rfl rfl rfl ?_
  refine e_go hk_104 3 (c := (4, [.ref 131, .int (nI j)], [.int (nI j), .ref 131, .int 100], hp Z P L)) rfl ?_
  refine e_call hk_104 (as := [.ref 131, .int (nI j)]) (rest := [.int 100]) rfl rfl hk_103 rfl (Nat.le_of_ble_eq_true rfl) rfl (q_heavy hN hn (j := j) (by omega)) ?_
  show e_r 104 7 [.ref 131, .int (nI j)] [.int (q_hv Z n j), .int 100] (hp Z P L) _ _
  refine e_go hk_104 4 (c := (13, [.ref 131, .int (nI j)], [.int 0, .ref 132, .int (100 * (q_hv Z n j))], hp Z P L)) rfl ?_
  refine e_ald hk_104 (a := 132) (j := 0) (n := 308) rfl rfl rfl (by decide) (by decide) ?_
  show e_r 104 14 [.ref 131, .int (nI j)] [.int (Z 132 0), .int (100 * (q_hv Z n j))] (hp Z P L) _ _
  refine e_go hk_104 2 (c := (16, [.ref 131, .int (nI j)], [.int (nI j), .ref 131, .int (Z 132 0), .int (100 * (q_hv Z n j))], hp Z P L)) rfl ?_
  refine e_call hk_104 (as := [.ref 131, .int (nI j)]) (rest := [.int (Z 132 0), .int (100 * (q_hv Z n j))]) rfl rfl hk_99 rfl (Nat.le_of_ble_eq_true rfl) rfl (q_weight hN hn (j := j) (by omega)) ?_
  show e_r 104 19 [.ref 131, .int (nI j)] [.int (q_w Z n j), .int (Z 132 0), .int (100 * (q_hv Z n j))] (hp Z P L) _ _
  refine e_go hk_104 2 (c := (if s_cnd .le (100 * (q_hv Z n j)) ((Z 132 0) * (q_w Z n j)) = true then 27 else 23, [.ref 131, .int (nI j)], [], hp Z P L)) rfl ?_
  refine e_le (a := 27) (b := 23) (x := 100 * (q_hv Z n j)) (y := (Z 132 0) * (q_w Z n j)) (fun hc20 => ?_) (fun hc20 => ?_)
  · skip
    refine e_go hk_104 1 (c := (28, [.ref 131, .int (nI j)], [.int 0], hp Z P L)) rfl ?_
    exact e_ret hk_104 rfl rfl rfl (by rw [q_ln, decide_eq_false (Int32.not_lt.mpr hc20)]; rfl) rfl
  · skip
    refine e_go hk_104 2 (c := (28, [.ref 131, .int (nI j)], [.int 1], hp Z P L)) rfl ?_
    exact e_ret hk_104 rfl rfl rfl (by rw [q_ln, decide_eq_true (Int32.not_le.mp hc20)]; rfl) rfl
theorem q_sum_l {Z : Nat → Nat → Int32} {P : Nat → Nat} {L : Nat} {b u : Nat} {lw to : Int32} (hb : b ≤ 248) (hu : u ≤ 60) (ht : to = nI u - 1) : ∀ (k i : Nat) (acc : Int32), i + k = u → e_r 105 6 [.ref 131, .int (nI b), .int lw, .int to, .int acc, .int (nI i)] [] (hp Z P L) (some (.int (t_sm (q_c Z b) i k acc))) (hp Z P L)
  | 0, i, acc, hi => by
    refine e_go hk_105 3 (c := (if s_cnd .gt (nI i) to = true then 32 else 12, [.ref 131, .int (nI b), .int lw, .int to, .int acc, .int (nI i)], [], hp Z P L)) rfl ?_
    refine e_gt (a := 32) (b := 12) (x := nI i) (y := to) (fun hc9 => ?_) (fun hc9 => absurd (by rw [ht]; exact (y_m1lt (by omega) (by omega)).mpr (by omega)) hc9)
    refine e_go hk_105 1 (c := (34, [.ref 131, .int (nI b), .int lw, .int to, .int acc, .int (nI i)], [.int acc], hp Z P L)) rfl ?_
    exact e_ret hk_105 rfl rfl rfl rfl rfl
  | k + 1, i, acc, hi => by
    refine e_go hk_105 3 (c := (if s_cnd .gt (nI i) to = true then 32 else 12, [.ref 131, .int (nI b), .int lw, .int to, .int acc, .int (nI i)], [], hp Z P L)) rfl ?_
    refine e_gt (a := 32) (b := 12) (x := nI i) (y := to) (fun hc9 => absurd hc9 (by rw [ht]; exact fun z => absurd ((y_m1lt (by omega) (by omega)).mp z) (by omega))) (fun hc9 => ?_)
    refine e_go hk_105 6 (c := (22, [.ref 131, .int (nI b), .int lw, .int to, .int acc, .int (nI i)], [.int ((nI b) + (nI i)), .ref 132, .int acc], hp Z P L)) rfl ?_
    rw [show ((nI b) + (nI i)) = nI (b + i) from (nI_add b i)]
    refine e_ald hk_105 (a := 132) (j := b + i) (n := 308) rfl rfl rfl (by omega) (by decide) ?_
    show e_r 105 23 [.ref 131, .int (nI b), .int lw, .int to, .int acc, .int (nI i)] [.int (Z 132 (b + i)), .int acc] (hp Z P L) _ _
    refine e_go hk_105 4 (c := (6, [.ref 131, .int (nI b), .int lw, .int to, .int (acc + (Z 132 (b + i))), .int ((nI i) + 1)], [], hp Z P L)) rfl ?_
    rw [nI_1]
    exact q_sum_l hb hu ht k (i + 1) _ (by omega)
theorem q_sumof {Z : Nat → Nat → Int32} {P : Nat → Nat} {L : Nat} {b l u : Nat} {to : Int32} (hb : b ≤ 248) (hu : u ≤ 60) (hl : l ≤ u) (ht : to = nI u - 1) : m_r 105 [.ref 131, .int (nI b), .int (nI l), .int to] (hp Z P L) (some (.int (t_sm (q_c Z b) l (u - l) 0))) (hp Z P L) := by
  refine m_of (ls := [.ref 131, .int (nI b), .int (nI l), .int to, s_no, s_no]) hk_105 rfl rfl rfl ?_
  refine e_go hk_105 4 (c := (6, [.ref 131, .int (nI b), .int (nI l), .int to, .int 0, .int (nI l)], [], hp Z P L)) rfl ?_
  exact q_sum_l hb hu ht (u - l) l 0 (by omega)
theorem y_add1 {x : Int32} : (1 : Int32) + x = x + 1 := Int32.add_comm _ _
theorem y_nd {l r m : Int32} (h : m = y_mx l r) : 1 + m = y_mx l r + 1 := by rw [h, y_add1]
theorem q_nd_0 {Z : Nat → Nat → Int32} {P : Nat → Nat} {L n : Nat} (hN : Z 132 3 = nI n) (hn : n < 60) : m_r 110 [.ref 131, .int (nI 0)] (hp Z P L) (some (.int (y_mx (t_bf (q_c Z 248) 0) (t_bh (q_c Z 248) n 0) + 1))) (hp Z P L) := by
  refine m_of (ls := [.ref 131, .int (nI 0), s_no, s_no]) hk_110 rfl rfl rfl ?_
  refine e_go hk_110 2 (c := (if s_cnd .le (nI 0) 0 = true then 14 else 4, [.ref 131, .int (nI 0), s_no, s_no], [], hp Z P L)) rfl ?_
  refine e_le (a := 14) (b := 4) (x := nI 0) (y := 0) (fun hc1 => ?_) (fun hc1 => absurd (by decide) hc1)
  refine e_go hk_110 6 (c := (22, [.ref 131, .int (nI 0), .int ((-1)), s_no], [.int 3, .ref 132, .int (nI 0)], hp Z P L)) rfl ?_
  refine e_ald hk_110 (a := 132) (j := 3) (n := 308) rfl rfl rfl (by decide) (by decide) ?_
  show e_r 110 23 [.ref 131, .int (nI 0), .int ((-1)), s_no] [.int (Z 132 3), .int (nI 0)] (hp Z P L) _ _
  refine e_go hk_110 1 (c := (if s_cnd .ge (nI 0) (Z 132 3) = true then 34 else 26, [.ref 131, .int (nI 0), .int ((-1)), s_no], [], hp Z P L)) rfl ?_
  refine e_ge (a := 34) (b := 26) (x := nI 0) (y := Z 132 3) (fun hc23 => ?_) (fun hc23 => ?_)
  · skip
    have hb : t_bh (q_c Z 248) n 0 = -1 := by rw [t_bh, if_neg (fun z => absurd hc23 (by rw [hN]; exact nI_ge z (by omega)))]
    refine e_go hk_110 6 (c := (if s_cnd .le ((-1)) ((-1)) = true then 46 else 42, [.ref 131, .int (nI 0), .int ((-1)), .int ((-1))], [.int 1], hp Z P L)) rfl ?_
    refine e_le (a := 46) (b := 42) (x := (-1)) (y := (-1)) (fun hc39 => ?_) (fun hc39 => ?_)
    · skip
      refine e_go hk_110 2 (c := (48, [.ref 131, .int (nI 0), .int ((-1)), .int ((-1))], [.int (1 + ((-1)))], hp Z P L)) rfl ?_
      exact e_ret hk_110 rfl rfl rfl (by rw [hb]; exact congrArg (fun x => some (Value.int x)) (y_nd (y_mxl hc39))) rfl
    · skip
      refine e_go hk_110 3 (c := (48, [.ref 131, .int (nI 0), .int ((-1)), .int ((-1))], [.int (1 + ((-1)))], hp Z P L)) rfl ?_
      exact e_ret hk_110 rfl rfl rfl (by rw [hb]; exact congrArg (fun x => some (Value.int x)) (y_nd (y_mxg hc39))) rfl
  · skip
    have hb : t_bh (q_c Z 248) n 0 = q_c Z 248 0 := by rw [t_bh, if_pos]; rw [hN] at hc23; rcases Nat.lt_or_ge 0 n with z | z; exact z; exact absurd ((y_le (by omega) (by omega)).mpr z) hc23
    refine e_go hk_110 2 (c := (28, [.ref 131, .int (nI 0), .int ((-1)), s_no], [.int (nI 0), .ref 131], hp Z P L)) rfl ?_
    refine e_call hk_110 (as := [.ref 131, .int (nI 0)]) (rest := []) rfl rfl hk_95 rfl (Nat.le_of_ble_eq_true rfl) rfl (q_dep (j := 0) (by decide)) ?_
    show e_r 110 31 [.ref 131, .int (nI 0), .int ((-1)), s_no] [.int (q_c Z 248 0)] (hp Z P L) _ _
    refine e_go hk_110 6 (c := (if s_cnd .le ((-1)) (q_c Z 248 0) = true then 46 else 42, [.ref 131, .int (nI 0), .int ((-1)), .int (q_c Z 248 0)], [.int 1], hp Z P L)) rfl ?_
    refine e_le (a := 46) (b := 42) (x := (-1)) (y := q_c Z 248 0) (fun hc39 => ?_) (fun hc39 => ?_)
    · skip
      refine e_go hk_110 2 (c := (48, [.ref 131, .int (nI 0), .int ((-1)), .int (q_c Z 248 0)], [.int (1 + (q_c Z 248 0))], hp Z P L)) rfl ?_
      exact e_ret hk_110 rfl rfl rfl (by rw [hb]; exact congrArg (fun x => some (Value.int x)) (y_nd (y_mxl hc39))) rfl
    · skip
      refine e_go hk_110 3 (c := (48, [.ref 131, .int (nI 0), .int ((-1)), .int (q_c Z 248 0)], [.int (1 + ((-1)))], hp Z P L)) rfl ?_
      exact e_ret hk_110 rfl rfl rfl (by rw [hb]; exact congrArg (fun x => some (Value.int x)) (y_nd (y_mxg hc39))) rfl
theorem q_nd_s {Z : Nat → Nat → Int32} {P : Nat → Nat} {L n : Nat} (hN : Z 132 3 = nI n) (hn : n < 60) {p : Nat} (hp0 : p + 1 ≤ n) : m_r 110 [.ref 131, .int (nI (p + 1))] (hp Z P L) (some (.int (y_mx (t_bf (q_c Z 248) (p + 1)) (t_bh (q_c Z 248) n (p + 1)) + 1))) (hp Z P L) := by
  refine m_of (ls := [.ref 131, .int (nI (p + 1)), s_no, s_no]) hk_110 rfl rfl rfl ?_
  refine e_go hk_110 2 (c := (if s_cnd .le (nI (p + 1)) 0 = true then 14 else 4, [.ref 131, .int (nI (p + 1)), s_no, s_no], [], hp Z P L)) rfl ?_
  refine e_le (a := 14) (b := 4) (x := nI (p + 1)) (y := 0) (fun hc1 => absurd hc1 (nI_nle (by omega) (by omega))) (fun hc1 => ?_)
  refine e_go hk_110 4 (c := (8, [.ref 131, .int (nI (p + 1)), s_no, s_no], [.int ((nI (p + 1)) - 1), .ref 131], hp Z P L)) rfl ?_
  rw [nI_pred]
  refine e_call hk_110 (as := [.ref 131, .int (nI p)]) (rest := []) rfl rfl hk_95 rfl (Nat.le_of_ble_eq_true rfl) rfl (q_dep (j := p) (by omega)) ?_
  show e_r 110 11 [.ref 131, .int (nI (p + 1)), s_no, s_no] [.int (q_c Z 248 p)] (hp Z P L) _ _
  refine e_go hk_110 6 (c := (22, [.ref 131, .int (nI (p + 1)), .int (q_c Z 248 p), s_no], [.int 3, .ref 132, .int (nI (p + 1))], hp Z P L)) rfl ?_
  refine e_ald hk_110 (a := 132) (j := 3) (n := 308) rfl rfl rfl (by decide) (by decide) ?_
  show e_r 110 23 [.ref 131, .int (nI (p + 1)), .int (q_c Z 248 p), s_no] [.int (Z 132 3), .int (nI (p + 1))] (hp Z P L) _ _
  refine e_go hk_110 1 (c := (if s_cnd .ge (nI (p + 1)) (Z 132 3) = true then 34 else 26, [.ref 131, .int (nI (p + 1)), .int (q_c Z 248 p), s_no], [], hp Z P L)) rfl ?_
  refine e_ge (a := 34) (b := 26) (x := nI (p + 1)) (y := Z 132 3) (fun hc23 => ?_) (fun hc23 => ?_)
  · skip
    have hb : t_bh (q_c Z 248) n (p + 1) = -1 := by rw [t_bh, if_neg (fun z => absurd hc23 (by rw [hN]; exact nI_ge z (by omega)))]
    refine e_go hk_110 6 (c := (if s_cnd .le (q_c Z 248 p) ((-1)) = true then 46 else 42, [.ref 131, .int (nI (p + 1)), .int (q_c Z 248 p), .int ((-1))], [.int 1], hp Z P L)) rfl ?_
    refine e_le (a := 46) (b := 42) (x := q_c Z 248 p) (y := (-1)) (fun hc39 => ?_) (fun hc39 => ?_)
    · skip
      refine e_go hk_110 2 (c := (48, [.ref 131, .int (nI (p + 1)), .int (q_c Z 248 p), .int ((-1))], [.int (1 + ((-1)))], hp Z P L)) rfl ?_
      exact e_ret hk_110 rfl rfl rfl (by rw [hb]; exact congrArg (fun x => some (Value.int x)) (y_nd (y_mxl hc39))) rfl
    · skip
      refine e_go hk_110 3 (c := (48, [.ref 131, .int (nI (p + 1)), .int (q_c Z 248 p), .int ((-1))], [.int (1 + (q_c Z 248 p))], hp Z P L)) rfl ?_
      exact e_ret hk_110 rfl rfl rfl (by rw [hb]; exact congrArg (fun x => some (Value.int x)) (y_nd (y_mxg hc39))) rfl
  · skip
    have hb : t_bh (q_c Z 248) n (p + 1) = q_c Z 248 (p + 1) := by rw [t_bh, if_pos]; rw [hN] at hc23; rcases Nat.lt_or_ge (p + 1) n with z | z; exact z; exact absurd ((y_le (by omega) (by omega)).mpr z) hc23
    refine e_go hk_110 2 (c := (28, [.ref 131, .int (nI (p + 1)), .int (q_c Z 248 p), s_no], [.int (nI (p + 1)), .ref 131], hp Z P L)) rfl ?_
    refine e_call hk_110 (as := [.ref 131, .int (nI (p + 1))]) (rest := []) rfl rfl hk_95 rfl (Nat.le_of_ble_eq_true rfl) rfl (q_dep (j := p + 1) (by omega)) ?_
    show e_r 110 31 [.ref 131, .int (nI (p + 1)), .int (q_c Z 248 p), s_no] [.int (q_c Z 248 (p + 1))] (hp Z P L) _ _
    refine e_go hk_110 6 (c := (if s_cnd .le (q_c Z 248 p) (q_c Z 248 (p + 1)) = true then 46 else 42, [.ref 131, .int (nI (p + 1)), .int (q_c Z 248 p), .int (q_c Z 248 (p + 1))], [.int 1], hp Z P L)) rfl ?_
    refine e_le (a := 46) (b := 42) (x := q_c Z 248 p) (y := q_c Z 248 (p + 1)) (fun hc39 => ?_) (fun hc39 => ?_)
    · skip
      refine e_go hk_110 2 (c := (48, [.ref 131, .int (nI (p + 1)), .int (q_c Z 248 p), .int (q_c Z 248 (p + 1))], [.int (1 + (q_c Z 248 (p + 1)))], hp Z P L)) rfl ?_
      exact e_ret hk_110 rfl rfl rfl (by rw [hb]; exact congrArg (fun x => some (Value.int x)) (y_nd (y_mxl hc39))) rfl
    · skip
      refine e_go hk_110 3 (c := (48, [.ref 131, .int (nI (p + 1)), .int (q_c Z 248 p), .int (q_c Z 248 (p + 1))], [.int (1 + (q_c Z 248 p))], hp Z P L)) rfl ?_
      exact e_ret hk_110 rfl rfl rfl (by rw [hb]; exact congrArg (fun x => some (Value.int x)) (y_nd (y_mxg hc39))) rfl
theorem q_nd {Z : Nat → Nat → Int32} {P : Nat → Nat} {L n : Nat} (hN : Z 132 3 = nI n) (hn : n < 60) {p : Nat} (hp0 : p ≤ n) : m_r 110 [.ref 131, .int (nI p)] (hp Z P L) (some (.int (y_mx (t_bf (q_c Z 248) p) (t_bh (q_c Z 248) n p) + 1))) (hp Z P L) := by
  cases p with
  | zero => exact q_nd_0 hN hn
  | succ q => exact q_nd_s hN hn hp0
theorem q_above_l {Z : Nat → Nat → Int32} {P : Nat → Nat} {L n : Nat} (hN : Z 132 3 = nI n) (hn : n ≤ 60) {nd : Nat} (hnd : nd < n) : ∀ (k i : Nat) (acc : Option Nat) (y4 : Value), i + k = n → (∀ j, acc = some j → j < n) → e_r 112 5 [.ref 131, .int (nI nd), .int (y_o acc), .int (nI i), y4] [] (hp Z P L) (some (.int (y_o (q_la Z n nd i k acc)))) (hp Z P L)
  | 0, i, acc, y4, hi, hA => by
    refine e_go hk_112 4 (c := (11, [.ref 131, .int (nI nd), .int (y_o acc), .int (nI i), y4], [.int 3, .ref 132, .int (nI i)], hp Z P L)) rfl ?_
    refine e_ald hk_112 (a := 132) (j := 3) (n := 308) rfl rfl rfl (by decide) (by decide) ?_
    show e_r 112 12 [.ref 131, .int (nI nd), .int (y_o acc), .int (nI i), y4] [.int (Z 132 3), .int (nI i)] (hp Z P L) _ _
    refine e_go hk_112 1 (c := (if s_cnd .ge (nI i) (Z 132 3) = true then 75 else 15, [.ref 131, .int (nI nd), .int (y_o acc), .int (nI i), y4], [], hp Z P L)) rfl ?_
    refine e_ge (a := 75) (b := 15) (x := nI i) (y := Z 132 3) (fun hc12 => ?_) (fun hc12 => absurd (by rw [hN]; exact (y_le (by omega) (by omega)).mpr (by omega)) hc12)
    refine e_go hk_112 1 (c := (76, [.ref 131, .int (nI nd), .int (y_o acc), .int (nI i), y4], [.int (y_o acc)], hp Z P L)) rfl ?_
    exact e_ret hk_112 rfl rfl rfl rfl rfl
  | k + 1, i, none, y4, hi, hA => by
    refine e_go hk_112 4 (c := (11, [.ref 131, .int (nI nd), .int ((-6)), .int (nI i), y4], [.int 3, .ref 132, .int (nI i)], hp Z P L)) rfl ?_
    refine e_ald hk_112 (a := 132) (j := 3) (n := 308) rfl rfl rfl (by decide) (by decide) ?_
    show e_r 112 12 [.ref 131, .int (nI nd), .int ((-6)), .int (nI i), y4] [.int (Z 132 3), .int (nI i)] (hp Z P L) _ _
    refine e_go hk_112 1 (c := (if s_cnd .ge (nI i) (Z 132 3) = true then 75 else 15, [.ref 131, .int (nI nd), .int ((-6)), .int (nI i), y4], [], hp Z P L)) rfl ?_
    refine e_ge (a := 75) (b := 15) (x := nI i) (y := Z 132 3) (fun hc12 => absurd hc12 (by rw [hN]; exact nI_ge (by omega) (by omega))) (fun hc12 => ?_)
    refine e_go hk_112 3 (c := (18, [.ref 131, .int (nI nd), .int ((-6)), .int (nI i), y4], [.int (nI i), .int (nI nd), .ref 131], hp Z P L)) rfl ?_
    refine e_call hk_112 (as := [.ref 131, .int (nI nd), .int (nI i)]) (rest := []) rfl rfl hk_100 rfl (Nat.le_of_ble_eq_true rfl) rfl (q_under hN hn (i := nd) (a := i) (by omega) (by omega)) ?_
    show e_r 112 21 [.ref 131, .int (nI nd), .int ((-6)), .int (nI i), y4] [.int (y_b (q_u Z n nd i))] (hp Z P L) _ _
    refine e_go hk_112 1 (c := (if s_cnd .eq (y_b (q_u Z n nd i)) 0 = true then 36 else 24, [.ref 131, .int (nI nd), .int ((-6)), .int (nI i), y4], [], hp Z P L)) rfl ?_
    refine e_eq (a := 36) (b := 24) (x := y_b (q_u Z n nd i)) (y := 0) (fun hc21 => ?_) (fun hc21 => ?_)
    · skip
      rw [y_b0] at hc21
      refine e_go hk_112 4 (c := (if s_cnd .eq 0 0 = true then 67 else 44, [.ref 131, .int (nI nd), .int ((-6)), .int (nI i), .int 0], [], hp Z P L)) rfl ?_
      refine e_eq (a := 67) (b := 44) (x := 0) (y := 0) (fun hc41 => ?_) (fun hc41 => absurd (rfl) hc41)
      refine e_go hk_112 4 (c := (5, [.ref 131, .int (nI nd), .int ((-6)), .int ((nI i) + 1), .int 0], [], hp Z P L)) rfl ?_
      rw [nI_1, q_la, if_neg (c := (q_u Z n nd i && q_ln Z n i && q_lb (q_c Z 248) (none) i) = true) (by rw [hc21, Bool.false_and, Bool.false_and]; exact Bool.false_ne_true)]
      exact q_above_l hN hn hnd k (i + 1) (none) _ (by omega) (fun j hj => by cases hj <;> omega)
    · skip
      rw [y_b1] at hc21
      refine e_go hk_112 2 (c := (26, [.ref 131, .int (nI nd), .int ((-6)), .int (nI i), y4], [.int (nI i), .ref 131], hp Z P L)) rfl ?_
      refine e_call hk_112 (as := [.ref 131, .int (nI i)]) (rest := []) rfl rfl hk_104 rfl (Nat.le_of_ble_eq_true rfl) rfl (q_leans hN hn (j := i) (by omega)) ?_
      show e_r 112 29 [.ref 131, .int (nI nd), .int ((-6)), .int (nI i), y4] [.int (y_b (q_ln Z n i))] (hp Z P L) _ _
      refine e_go hk_112 1 (c := (if s_cnd .eq (y_b (q_ln Z n i)) 0 = true then 36 else 32, [.ref 131, .int (nI nd), .int ((-6)), .int (nI i), y4], [], hp Z P L)) rfl ?_
      refine e_eq (a := 36) (b := 32) (x := y_b (q_ln Z n i)) (y := 0) (fun hc29 => ?_) (fun hc29 => ?_)
      · skip
        rw [y_b0] at hc29
        refine e_go hk_112 4 (c := (if s_cnd .eq 0 0 = true then 67 else 44, [.ref 131, .int (nI nd), .int ((-6)), .int (nI i), .int 0], [], hp Z P L)) rfl ?_
        refine e_eq (a := 67) (b := 44) (x := 0) (y := 0) (fun hc41 => ?_) (fun hc41 => absurd (rfl) hc41)
        refine e_go hk_112 4 (c := (5, [.ref 131, .int (nI nd), .int ((-6)), .int ((nI i) + 1), .int 0], [], hp Z P L)) rfl ?_
        rw [nI_1, q_la, if_neg (c := (q_u Z n nd i && q_ln Z n i && q_lb (q_c Z 248) (none) i) = true) (by rw [hc29, Bool.and_false, Bool.false_and]; exact Bool.false_ne_true)]
        exact q_above_l hN hn hnd k (i + 1) (none) _ (by omega) (fun j hj => by cases hj <;> omega)
      · skip
        rw [y_b1] at hc29
        refine e_go hk_112 5 (c := (if s_cnd .eq 1 0 = true then 67 else 44, [.ref 131, .int (nI nd), .int ((-6)), .int (nI i), .int 1], [], hp Z P L)) rfl ?_
        refine e_eq (a := 67) (b := 44) (x := 1) (y := 0) (fun hc41 => absurd hc41 (by decide)) (fun hc41 => ?_)
        refine e_go hk_112 3 (c := (if s_cnd .eq ((-6)) ((-6)) = true then 63 else 50, [.ref 131, .int (nI nd), .int ((-6)), .int (nI i), .int 1], [], hp Z P L)) rfl ?_
        refine e_eq (a := 63) (b := 50) (x := (-6)) (y := (-6)) (fun hc47 => ?_) (fun hc47 => absurd (rfl) hc47)
        refine e_go hk_112 5 (c := (5, [.ref 131, .int (nI nd), .int (nI i), .int ((nI i) + 1), .int 1], [], hp Z P L)) rfl ?_
        rw [nI_1, q_la, if_pos (c := (q_u Z n nd i && q_ln Z n i && q_lb (q_c Z 248) (none) i) = true) (by rw [hc21, hc29]; rfl)]
        exact q_above_l hN hn hnd k (i + 1) (some i) _ (by omega) (fun j hj => by cases hj <;> omega)
  | k + 1, i, some a, y4, hi, hA => by
    have ha := hA a rfl
    refine e_go hk_112 4 (c := (11, [.ref 131, .int (nI nd), .int (nI a), .int (nI i), y4], [.int 3, .ref 132, .int (nI i)], hp Z P L)) rfl ?_
    refine e_ald hk_112 (a := 132) (j := 3) (n := 308) rfl rfl rfl (by decide) (by decide) ?_
    show e_r 112 12 [.ref 131, .int (nI nd), .int (nI a), .int (nI i), y4] [.int (Z 132 3), .int (nI i)] (hp Z P L) _ _
    refine e_go hk_112 1 (c := (if s_cnd .ge (nI i) (Z 132 3) = true then 75 else 15, [.ref 131, .int (nI nd), .int (nI a), .int (nI i), y4], [], hp Z P L)) rfl ?_
    refine e_ge (a := 75) (b := 15) (x := nI i) (y := Z 132 3) (fun hc12 => absurd hc12 (by rw [hN]; exact nI_ge (by omega) (by omega))) (fun hc12 => ?_)
    refine e_go hk_112 3 (c := (18, [.ref 131, .int (nI nd), .int (nI a), .int (nI i), y4], [.int (nI i), .int (nI nd), .ref 131], hp Z P L)) rfl ?_
    refine e_call hk_112 (as := [.ref 131, .int (nI nd), .int (nI i)]) (rest := []) rfl rfl hk_100 rfl (Nat.le_of_ble_eq_true rfl) rfl (q_under hN hn (i := nd) (a := i) (by omega) (by omega)) ?_
    show e_r 112 21 [.ref 131, .int (nI nd), .int (nI a), .int (nI i), y4] [.int (y_b (q_u Z n nd i))] (hp Z P L) _ _
    refine e_go hk_112 1 (c := (if s_cnd .eq (y_b (q_u Z n nd i)) 0 = true then 36 else 24, [.ref 131, .int (nI nd), .int (nI a), .int (nI i), y4], [], hp Z P L)) rfl ?_
    refine e_eq (a := 36) (b := 24) (x := y_b (q_u Z n nd i)) (y := 0) (fun hc21 => ?_) (fun hc21 => ?_)
    · skip
      rw [y_b0] at hc21
      refine e_go hk_112 4 (c := (if s_cnd .eq 0 0 = true then 67 else 44, [.ref 131, .int (nI nd), .int (nI a), .int (nI i), .int 0], [], hp Z P L)) rfl ?_
      refine e_eq (a := 67) (b := 44) (x := 0) (y := 0) (fun hc41 => ?_) (fun hc41 => absurd (rfl) hc41)
      refine e_go hk_112 4 (c := (5, [.ref 131, .int (nI nd), .int (nI a), .int ((nI i) + 1), .int 0], [], hp Z P L)) rfl ?_
      rw [nI_1, q_la, if_neg (c := (q_u Z n nd i && q_ln Z n i && q_lb (q_c Z 248) (some a) i) = true) (by rw [hc21, Bool.false_and, Bool.false_and]; exact Bool.false_ne_true)]
      exact q_above_l hN hn hnd k (i + 1) (some a) _ (by omega) (fun j hj => by cases hj <;> omega)
    · skip
      rw [y_b1] at hc21
      refine e_go hk_112 2 (c := (26, [.ref 131, .int (nI nd), .int (nI a), .int (nI i), y4], [.int (nI i), .ref 131], hp Z P L)) rfl ?_
      refine e_call hk_112 (as := [.ref 131, .int (nI i)]) (rest := []) rfl rfl hk_104 rfl (Nat.le_of_ble_eq_true rfl) rfl (q_leans hN hn (j := i) (by omega)) ?_
      show e_r 112 29 [.ref 131, .int (nI nd), .int (nI a), .int (nI i), y4] [.int (y_b (q_ln Z n i))] (hp Z P L) _ _
      refine e_go hk_112 1 (c := (if s_cnd .eq (y_b (q_ln Z n i)) 0 = true then 36 else 32, [.ref 131, .int (nI nd), .int (nI a), .int (nI i), y4], [], hp Z P L)) rfl ?_
      refine e_eq (a := 36) (b := 32) (x := y_b (q_ln Z n i)) (y := 0) (fun hc29 => ?_) (fun hc29 => ?_)
      · skip
        rw [y_b0] at hc29
        refine e_go hk_112 4 (c := (if s_cnd .eq 0 0 = true then 67 else 44, [.ref 131, .int (nI nd), .int (nI a), .int (nI i), .int 0], [], hp Z P L)) rfl ?_
        refine e_eq (a := 67) (b := 44) (x := 0) (y := 0) (fun hc41 => ?_) (fun hc41 => absurd (rfl) hc41)
        refine e_go hk_112 4 (c := (5, [.ref 131, .int (nI nd), .int (nI a), .int ((nI i) + 1), .int 0], [], hp Z P L)) rfl ?_
        rw [nI_1, q_la, if_neg (c := (q_u Z n nd i && q_ln Z n i && q_lb (q_c Z 248) (some a) i) = true) (by rw [hc29, Bool.and_false, Bool.false_and]; exact Bool.false_ne_true)]
        exact q_above_l hN hn hnd k (i + 1) (some a) _ (by omega) (fun j hj => by cases hj <;> omega)
      · skip
        rw [y_b1] at hc29
        refine e_go hk_112 5 (c := (if s_cnd .eq 1 0 = true then 67 else 44, [.ref 131, .int (nI nd), .int (nI a), .int (nI i), .int 1], [], hp Z P L)) rfl ?_
        refine e_eq (a := 67) (b := 44) (x := 1) (y := 0) (fun hc41 => absurd hc41 (by decide)) (fun hc41 => ?_)
        refine e_go hk_112 3 (c := (if s_cnd .eq (nI a) ((-6)) = true then 63 else 50, [.ref 131, .int (nI nd), .int (nI a), .int (nI i), .int 1], [], hp Z P L)) rfl ?_
        refine e_eq (a := 63) (b := 50) (x := nI a) (y := (-6)) (fun hc47 => absurd hc47 (fun z => absurd ((y_o_none (q := some a) (fun j hj => by cases hj; omega)).mp z) (by simp))) (fun hc47 => ?_)
        refine e_go hk_112 2 (c := (52, [.ref 131, .int (nI nd), .int (nI a), .int (nI i), .int 1], [.int (nI i), .ref 131], hp Z P L)) rfl ?_
        refine e_call hk_112 (as := [.ref 131, .int (nI i)]) (rest := []) rfl rfl hk_95 rfl (Nat.le_of_ble_eq_true rfl) rfl (q_dep (j := i) (by omega)) ?_
        show e_r 112 55 [.ref 131, .int (nI nd), .int (nI a), .int (nI i), .int 1] [.int (q_c Z 248 i)] (hp Z P L) _ _
        refine e_go hk_112 2 (c := (57, [.ref 131, .int (nI nd), .int (nI a), .int (nI i), .int 1], [.int (nI a), .ref 131, .int (q_c Z 248 i)], hp Z P L)) rfl ?_
        refine e_call hk_112 (as := [.ref 131, .int (nI a)]) (rest := [.int (q_c Z 248 i)]) rfl rfl hk_95 rfl (Nat.le_of_ble_eq_true rfl) rfl (q_dep (j := a) (by omega)) ?_
        show e_r 112 60 [.ref 131, .int (nI nd), .int (nI a), .int (nI i), .int 1] [.int (q_c Z 248 a), .int (q_c Z 248 i)] (hp Z P L) _ _
        refine e_go hk_112 1 (c := (if s_cnd .ge (q_c Z 248 i) (q_c Z 248 a) = true then 67 else 63, [.ref 131, .int (nI nd), .int (nI a), .int (nI i), .int 1], [], hp Z P L)) rfl ?_
        refine e_ge (a := 67) (b := 63) (x := q_c Z 248 i) (y := q_c Z 248 a) (fun hc60 => ?_) (fun hc60 => ?_)
        · skip
          refine e_go hk_112 4 (c := (5, [.ref 131, .int (nI nd), .int (nI a), .int ((nI i) + 1), .int 1], [], hp Z P L)) rfl ?_
          rw [nI_1, q_la, if_neg (c := (q_u Z n nd i && q_ln Z n i && q_lb (q_c Z 248) (some a) i) = true) (by rw [show q_lb (q_c Z 248) (some a) i = false from decide_eq_false (Int32.not_lt.mpr hc60), Bool.and_false]; exact Bool.false_ne_true)]
          exact q_above_l hN hn hnd k (i + 1) (some a) _ (by omega) (fun j hj => by cases hj <;> omega)
        · skip
          refine e_go hk_112 5 (c := (5, [.ref 131, .int (nI nd), .int (nI i), .int ((nI i) + 1), .int 1], [], hp Z P L)) rfl ?_
          rw [nI_1, q_la, if_pos (c := (q_u Z n nd i && q_ln Z n i && q_lb (q_c Z 248) (some a) i) = true) (by rw [hc21, hc29, show q_lb (q_c Z 248) (some a) i = true from decide_eq_true (Int32.not_le.mp hc60)]; rfl)]
          exact q_above_l hN hn hnd k (i + 1) (some i) _ (by omega) (fun j hj => by cases hj <;> omega)
theorem q_above {Z : Nat → Nat → Int32} {P : Nat → Nat} {L n : Nat} (hN : Z 132 3 = nI n) (hn : n ≤ 60) {nd : Nat} (hnd : nd < n) : m_r 112 [.ref 131, .int (nI nd)] (hp Z P L) (some (.int (y_o (q_la Z n nd 0 n none)))) (hp Z P L) := by
  refine m_of (ls := [.ref 131, .int (nI nd), s_no, s_no, s_no]) hk_112 rfl rfl rfl ?_
  refine e_go hk_112 4 (c := (5, [.ref 131, .int (nI nd), .int ((-6)), .int 0, s_no], [], hp Z P L)) rfl ?_
  exact q_above_l hN hn hnd n 0 none _ (by omega) (fun j hj => by cases hj)
theorem q_root_l {Z : Nat → Nat → Int32} {P : Nat → Nat} {L n : Nat} (hN : Z 132 3 = nI n) (hn : n ≤ 60)  : ∀ (k i : Nat) (acc : Option Nat), i + k = n → e_r 114 5 [.ref 131, .int (y_o acc), .int (nI i)] [] (hp Z P L) (some (.int (y_o (q_rt (q_c Z 248) i k acc)))) (hp Z P L)
  | 0, i, acc, hi => by
    refine e_go hk_114 4 (c := (11, [.ref 131, .int (y_o acc), .int (nI i)], [.int 3, .ref 132, .int (nI i)], hp Z P L)) rfl ?_
    refine e_ald hk_114 (a := 132) (j := 3) (n := 308) rfl rfl rfl (by decide) (by decide) ?_
    show e_r 114 12 [.ref 131, .int (y_o acc), .int (nI i)] [.int (Z 132 3), .int (nI i)] (hp Z P L) _ _
    refine e_go hk_114 1 (c := (if s_cnd .ge (nI i) (Z 132 3) = true then 35 else 15, [.ref 131, .int (y_o acc), .int (nI i)], [], hp Z P L)) rfl ?_
    refine e_ge (a := 35) (b := 15) (x := nI i) (y := Z 132 3) (fun hc12 => ?_) (fun hc12 => absurd (by rw [hN]; exact (y_le (by omega) (by omega)).mpr (by omega)) hc12)
    refine e_go hk_114 1 (c := (36, [.ref 131, .int (y_o acc), .int (nI i)], [.int (y_o acc)], hp Z P L)) rfl ?_
    exact e_ret hk_114 rfl rfl rfl rfl rfl
  | k + 1, i, acc, hi => by
    refine e_go hk_114 4 (c := (11, [.ref 131, .int (y_o acc), .int (nI i)], [.int 3, .ref 132, .int (nI i)], hp Z P L)) rfl ?_
    refine e_ald hk_114 (a := 132) (j := 3) (n := 308) rfl rfl rfl (by decide) (by decide) ?_
    show e_r 114 12 [.ref 131, .int (y_o acc), .int (nI i)] [.int (Z 132 3), .int (nI i)] (hp Z P L) _ _
    refine e_go hk_114 1 (c := (if s_cnd .ge (nI i) (Z 132 3) = true then 35 else 15, [.ref 131, .int (y_o acc), .int (nI i)], [], hp Z P L)) rfl ?_
    refine e_ge (a := 35) (b := 15) (x := nI i) (y := Z 132 3) (fun hc12 => absurd hc12 (by rw [hN]; exact nI_ge (by omega) (by omega))) (fun hc12 => ?_)
    refine e_go hk_114 2 (c := (17, [.ref 131, .int (y_o acc), .int (nI i)], [.int (nI i), .ref 131], hp Z P L)) rfl ?_
    refine e_call hk_114 (as := [.ref 131, .int (nI i)]) (rest := []) rfl rfl hk_95 rfl (Nat.le_of_ble_eq_true rfl) rfl (q_dep (j := i) (by omega)) ?_
    show e_r 114 20 [.ref 131, .int (y_o acc), .int (nI i)] [.int (q_c Z 248 i)] (hp Z P L) _ _
    refine e_go hk_114 1 (c := (if s_cnd .ne (q_c Z 248 i) 0 = true then 27 else 23, [.ref 131, .int (y_o acc), .int (nI i)], [], hp Z P L)) rfl ?_
    refine e_ne (a := 27) (b := 23) (x := q_c Z 248 i) (y := 0) (fun hc20 => ?_) (fun hc20 => ?_)
    · skip
      refine e_go hk_114 4 (c := (5, [.ref 131, .int (y_o acc), .int ((nI i) + 1)], [], hp Z P L)) rfl ?_
      rw [nI_1, q_rt, if_neg hc20]
      exact q_root_l hN hn k (i + 1) acc (by omega)
    · skip
      refine e_go hk_114 5 (c := (5, [.ref 131, .int (nI i), .int ((nI i) + 1)], [], hp Z P L)) rfl ?_
      rw [nI_1, q_rt, if_pos hc20]
      exact q_root_l hN hn k (i + 1) (some i) (by omega)
theorem q_root {Z : Nat → Nat → Int32} {P : Nat → Nat} {L n : Nat} (hN : Z 132 3 = nI n) (hn : n ≤ 60) : m_r 114 [.ref 131] (hp Z P L) (some (.int (y_o (q_rt (q_c Z 248) 0 n none)))) (hp Z P L) := by
  refine m_of (ls := [.ref 131, s_no, s_no]) hk_114 rfl rfl rfl ?_
  refine e_go hk_114 4 (c := (5, [.ref 131, .int ((-6)), .int 0], [], hp Z P L)) rfl ?_
  exact q_root_l hN hn n 0 none (by omega)
theorem q_fulls {Z : Nat → Nat → Int32} {P : Nat → Nat} {L n : Nat} (hN : Z 132 3 = nI n) (hn : n ≤ 60) : m_r 115 [.ref 131] (hp Z P L) (some (.int (t_sm (q_c Z 188) 0 n 0))) (hp Z P L) := by
  refine m_of (ls := [.ref 131]) hk_115 rfl rfl rfl ?_
  refine e_go hk_115 6 (c := (10, [.ref 131], [.int 3, .ref 132, .int 0, .int 188, .ref 131], hp Z P L)) rfl ?_
  refine e_ald hk_115 (a := 132) (j := 3) (n := 308) rfl rfl rfl (by decide) (by decide) ?_
  show e_r 115 11 [.ref 131] [.int (Z 132 3), .int 0, .int 188, .ref 131] (hp Z P L) _ _
  refine e_go hk_115 2 (c := (13, [.ref 131], [.int ((Z 132 3) - 1), .int 0, .int 188, .ref 131], hp Z P L)) rfl ?_
  refine e_call hk_115 (as := [.ref 131, .int 188, .int 0, .int ((Z 132 3) - 1)]) (rest := []) rfl rfl hk_105 rfl (Nat.le_of_ble_eq_true rfl) rfl (q_sumof (b := 188) (l := 0) (u := n) (by decide) hn (Nat.zero_le _) (by rw [hN])) ?_
  show e_r 115 16 [.ref 131] [.int (t_sm (q_c Z 188) 0 (n - 0) 0)] (hp Z P L) _ _
  exact e_ret hk_115 rfl rfl rfl rfl rfl
theorem q_keyn {Z : Nat → Nat → Int32} {P : Nat → Nat} {L : Nat} : m_r 124 [.ref 131, .int (-6)] (hp Z P L) (some (.int (-6))) (hp Z P L) := by
  refine m_of (ls := [.ref 131, .int ((-6))]) hk_124 rfl rfl rfl ?_
  refine e_go hk_124 3 (c := (if s_cnd .ne ((-6)) ((-6)) = true then 11 else 6, [.ref 131, .int ((-6))], [], hp Z P L)) rfl ?_
  refine e_ne (a := 11) (b := 6) (x := (-6)) (y := (-6)) (fun hc3 => absurd (rfl) hc3) (fun hc3 => ?_)
  refine e_go hk_124 2 (c := (20, [.ref 131, .int ((-6))], [.int ((-6))], hp Z P L)) rfl ?_
  exact e_ret hk_124 rfl rfl rfl rfl rfl
theorem q_keys {Z : Nat → Nat → Int32} {P : Nat → Nat} {L : Nat} {j : Nat} (hj : j < 60) : m_r 124 [.ref 131, .int (nI j)] (hp Z P L) (some (.int (q_c Z 8 j))) (hp Z P L) := by
  refine m_of (ls := [.ref 131, .int (nI j)]) hk_124 rfl rfl rfl ?_
  refine e_go hk_124 3 (c := (if s_cnd .ne (nI j) ((-6)) = true then 11 else 6, [.ref 131, .int (nI j)], [], hp Z P L)) rfl ?_
  refine e_ne (a := 11) (b := 6) (x := nI j) (y := (-6)) (fun hc3 => ?_) (fun hc3 => absurd hc3 (fun z => absurd ((y_o_none (q := some j) (fun i hi => by cases hi; omega)).mp z) (by simp)))
  refine e_go hk_124 5 (c := (19, [.ref 131, .int (nI j)], [.int (8 + (nI j)), .ref 132], hp Z P L)) rfl ?_
  rw [show (8 + (nI j)) = nI (8 + j) from (nI_add 8 j)]
  refine e_ald hk_124 (a := 132) (j := 8 + j) (n := 308) rfl rfl rfl (by omega) (by decide) ?_
  show e_r 124 20 [.ref 131, .int (nI j)] [.int (Z 132 (8 + j))] (hp Z P L) _ _
  exact e_ret hk_124 rfl rfl rfl rfl rfl
def q_ky (Z : Nat → Nat → Int32) : Option Nat → Int32
  | none => -6
  | some j => q_c Z 8 j
theorem q_keyof {Z : Nat → Nat → Int32} {P : Nat → Nat} {L : Nat} {q : Option Nat} (hq : ∀ j, q = some j → j < 60) : m_r 124 [.ref 131, .int (y_o q)] (hp Z P L) (some (.int (q_ky Z q))) (hp Z P L) := by
  cases q with
  | none => exact q_keyn
  | some j => exact q_keys (hq j rfl)
theorem q_deep_l {Z : Nat → Nat → Int32} {P : Nat → Nat} {L : Nat} {u : Nat} {fr to : Int32} (hu : u ≤ 60) (ht : to = nI u - 1) : ∀ (k i : Nat) (acc : Int32), i + k = u → e_r 125 6 [.ref 131, .int fr, .int to, .int acc, .int (nI i)] [] (hp Z P L) (some (.int (t_mx (q_c Z 248) i k acc))) (hp Z P L)
  | 0, i, acc, hi => by
    refine e_go hk_125 3 (c := (if s_cnd .gt (nI i) to = true then 39 else 12, [.ref 131, .int fr, .int to, .int acc, .int (nI i)], [], hp Z P L)) rfl ?_
    refine e_gt (a := 39) (b := 12) (x := nI i) (y := to) (fun hc9 => ?_) (fun hc9 => absurd (by rw [ht]; exact (y_m1lt (by omega) (by omega)).mpr (by omega)) hc9)
    refine e_go hk_125 1 (c := (40, [.ref 131, .int fr, .int to, .int acc, .int (nI i)], [.int acc], hp Z P L)) rfl ?_
    exact e_ret hk_125 rfl rfl rfl rfl rfl
  | k + 1, i, acc, hi => by
    refine e_go hk_125 3 (c := (if s_cnd .gt (nI i) to = true then 39 else 12, [.ref 131, .int fr, .int to, .int acc, .int (nI i)], [], hp Z P L)) rfl ?_
    refine e_gt (a := 39) (b := 12) (x := nI i) (y := to) (fun hc9 => absurd hc9 (by rw [ht]; exact fun z => absurd ((y_m1lt (by omega) (by omega)).mp z) (by omega))) (fun hc9 => ?_)
    refine e_go hk_125 2 (c := (15, [.ref 131, .int fr, .int to, .int acc, .int (nI i)], [.int (nI i), .ref 131], hp Z P L)) rfl ?_
    refine e_call hk_125 (as := [.ref 131, .int (nI i)]) (rest := []) rfl rfl hk_95 rfl (Nat.le_of_ble_eq_true rfl) rfl (q_dep (j := i) (by omega)) ?_
    show e_r 125 18 [.ref 131, .int fr, .int to, .int acc, .int (nI i)] [.int (q_c Z 248 i)] (hp Z P L) _ _
    refine e_go hk_125 2 (c := (if s_cnd .le (q_c Z 248 i) acc = true then 31 else 22, [.ref 131, .int fr, .int to, .int acc, .int (nI i)], [], hp Z P L)) rfl ?_
    refine e_le (a := 31) (b := 22) (x := q_c Z 248 i) (y := acc) (fun hc19 => ?_) (fun hc19 => ?_)
    · skip
      refine e_go hk_125 4 (c := (6, [.ref 131, .int fr, .int to, .int acc, .int ((nI i) + 1)], [], hp Z P L)) rfl ?_
      rw [nI_1, t_mx, if_neg (Int32.not_lt.mpr hc19)]
      exact q_deep_l hu ht k (i + 1) _ (by omega)
    · skip
      refine e_go hk_125 2 (c := (25, [.ref 131, .int fr, .int to, .int acc, .int (nI i)], [.int (nI i), .ref 131], hp Z P L)) rfl ?_
      refine e_call hk_125 (as := [.ref 131, .int (nI i)]) (rest := []) rfl rfl hk_95 rfl (Nat.le_of_ble_eq_true rfl) rfl (q_dep (j := i) (by omega)) ?_
      show e_r 125 28 [.ref 131, .int fr, .int to, .int acc, .int (nI i)] [.int (q_c Z 248 i)] (hp Z P L) _ _
      refine e_go hk_125 4 (c := (6, [.ref 131, .int fr, .int to, .int (q_c Z 248 i), .int ((nI i) + 1)], [], hp Z P L)) rfl ?_
      rw [nI_1, t_mx, if_pos (Int32.not_le.mp hc19)]
      exact q_deep_l hu ht k (i + 1) _ (by omega)
theorem q_deep {Z : Nat → Nat → Int32} {P : Nat → Nat} {L : Nat} {l u : Nat} {to : Int32} (hu : u ≤ 60) (hl : l ≤ u) (ht : to = nI u - 1) : m_r 125 [.ref 131, .int (nI l), .int to] (hp Z P L) (some (.int (t_mx (q_c Z 248) l (u - l) (-6)))) (hp Z P L) := by
  refine m_of (ls := [.ref 131, .int (nI l), .int to, s_no, s_no]) hk_125 rfl rfl rfl ?_
  refine e_go hk_125 4 (c := (6, [.ref 131, .int (nI l), .int to, .int ((-6)), .int (nI l)], [], hp Z P L)) rfl ?_
  exact q_deep_l hu ht (u - l) l (-6) (by omega)
theorem q_lnodes_l {Z : Nat → Nat → Int32} {P : Nat → Nat} {L n : Nat} (hN : Z 132 3 = nI n) (hn : n ≤ 60)  : ∀ (k i : Nat) (a : Int32), i + k = n → e_r 128 4 [.ref 131, .int a, .int (nI i)] [] (hp Z P L) (some (.int (q_lnc Z n i k a))) (hp Z P L)
  | 0, i, a, hi => by
    refine e_go hk_128 4 (c := (10, [.ref 131, .int a, .int (nI i)], [.int 3, .ref 132, .int (nI i)], hp Z P L)) rfl ?_
    refine e_ald hk_128 (a := 132) (j := 3) (n := 308) rfl rfl rfl (by decide) (by decide) ?_
    show e_r 128 11 [.ref 131, .int a, .int (nI i)] [.int (Z 132 3), .int (nI i)] (hp Z P L) _ _
    refine e_go hk_128 1 (c := (if s_cnd .ge (nI i) (Z 132 3) = true then 36 else 14, [.ref 131, .int a, .int (nI i)], [], hp Z P L)) rfl ?_
    refine e_ge (a := 36) (b := 14) (x := nI i) (y := Z 132 3) (fun hc11 => ?_) (fun hc11 => absurd (by rw [hN]; exact (y_le (by omega) (by omega)).mpr (by omega)) hc11)
    refine e_go hk_128 1 (c := (37, [.ref 131, .int a, .int (nI i)], [.int a], hp Z P L)) rfl ?_
    exact e_ret hk_128 rfl rfl rfl rfl rfl
  | k + 1, i, a, hi => by
    refine e_go hk_128 4 (c := (10, [.ref 131, .int a, .int (nI i)], [.int 3, .ref 132, .int (nI i)], hp Z P L)) rfl ?_
    refine e_ald hk_128 (a := 132) (j := 3) (n := 308) rfl rfl rfl (by decide) (by decide) ?_
    show e_r 128 11 [.ref 131, .int a, .int (nI i)] [.int (Z 132 3), .int (nI i)] (hp Z P L) _ _
    refine e_go hk_128 1 (c := (if s_cnd .ge (nI i) (Z 132 3) = true then 36 else 14, [.ref 131, .int a, .int (nI i)], [], hp Z P L)) rfl ?_
    refine e_ge (a := 36) (b := 14) (x := nI i) (y := Z 132 3) (fun hc11 => absurd hc11 (by rw [hN]; exact nI_ge (by omega) (by omega))) (fun hc11 => ?_)
    refine e_go hk_128 3 (c := (17, [.ref 131, .int a, .int (nI i)], [.int (nI i), .ref 131, .int a], hp Z P L)) rfl ?_
    refine e_call hk_128 (as := [.ref 131, .int (nI i)]) (rest := [.int a]) rfl rfl hk_104 rfl (Nat.le_of_ble_eq_true rfl) rfl (q_leans hN hn (j := i) (by omega)) ?_
    show e_r 128 20 [.ref 131, .int a, .int (nI i)] [.int (y_b (q_ln Z n i)), .int a] (hp Z P L) _ _
    refine e_go hk_128 1 (c := (if s_cnd .eq (y_b (q_ln Z n i)) 0 = true then 27 else 23, [.ref 131, .int a, .int (nI i)], [.int a], hp Z P L)) rfl ?_
    refine e_eq (a := 27) (b := 23) (x := y_b (q_ln Z n i)) (y := 0) (fun hc20 => ?_) (fun hc20 => ?_)
    · skip
      rw [y_b0] at hc20
      rw [q_lnc, hc20, y_bf]
      refine e_go hk_128 5 (c := (4, [.ref 131, .int (a + 0), .int ((nI i) + 1)], [], hp Z P L)) rfl ?_
      rw [nI_1]
      exact q_lnodes_l hN hn k (i + 1) _ (by omega)
    · skip
      rw [y_b1] at hc20
      rw [q_lnc, hc20, y_bt]
      refine e_go hk_128 6 (c := (4, [.ref 131, .int (a + 1), .int ((nI i) + 1)], [], hp Z P L)) rfl ?_
      rw [nI_1]
      exact q_lnodes_l hN hn k (i + 1) _ (by omega)
theorem q_lnodes {Z : Nat → Nat → Int32} {P : Nat → Nat} {L n : Nat} (hN : Z 132 3 = nI n) (hn : n ≤ 60) : m_r 128 [.ref 131] (hp Z P L) (some (.int (q_lnc Z n 0 n 0))) (hp Z P L) := by
  refine m_of (ls := [.ref 131, s_no, s_no]) hk_128 rfl rfl rfl ?_
  refine e_go hk_128 4 (c := (4, [.ref 131, .int 0, .int 0], [], hp Z P L)) rfl ?_
  exact q_lnodes_l hN hn n 0 0 (by omega)
theorem q_below_l {Z : Nat → Nat → Int32} {P : Nat → Nat} {L n : Nat} (hN : Z 132 3 = nI n) (hn : n ≤ 60) {key : Int32} : ∀ (k i : Nat) (a : Int32), i + k = n → e_r 132 4 [.ref 131, .int key, .int a, .int (nI i)] [] (hp Z P L) (some (.int (q_bl (q_c Z 8) (q_c Z 188) key i k a))) (hp Z P L)
  | 0, i, a, hi => by
    refine e_go hk_132 4 (c := (10, [.ref 131, .int key, .int a, .int (nI i)], [.int 3, .ref 132, .int (nI i)], hp Z P L)) rfl ?_
    refine e_ald hk_132 (a := 132) (j := 3) (n := 308) rfl rfl rfl (by decide) (by decide) ?_
    show e_r 132 11 [.ref 131, .int key, .int a, .int (nI i)] [.int (Z 132 3), .int (nI i)] (hp Z P L) _ _
    refine e_go hk_132 1 (c := (if s_cnd .ge (nI i) (Z 132 3) = true then 50 else 14, [.ref 131, .int key, .int a, .int (nI i)], [], hp Z P L)) rfl ?_
    refine e_ge (a := 50) (b := 14) (x := nI i) (y := Z 132 3) (fun hc11 => ?_) (fun hc11 => absurd (by rw [hN]; exact (y_le (by omega) (by omega)).mpr (by omega)) hc11)
    refine e_go hk_132 1 (c := (51, [.ref 131, .int key, .int a, .int (nI i)], [.int a], hp Z P L)) rfl ?_
    exact e_ret hk_132 rfl rfl rfl rfl rfl
  | k + 1, i, a, hi => by
    refine e_go hk_132 4 (c := (10, [.ref 131, .int key, .int a, .int (nI i)], [.int 3, .ref 132, .int (nI i)], hp Z P L)) rfl ?_
    refine e_ald hk_132 (a := 132) (j := 3) (n := 308) rfl rfl rfl (by decide) (by decide) ?_
    show e_r 132 11 [.ref 131, .int key, .int a, .int (nI i)] [.int (Z 132 3), .int (nI i)] (hp Z P L) _ _
    refine e_go hk_132 1 (c := (if s_cnd .ge (nI i) (Z 132 3) = true then 50 else 14, [.ref 131, .int key, .int a, .int (nI i)], [], hp Z P L)) rfl ?_
    refine e_ge (a := 50) (b := 14) (x := nI i) (y := Z 132 3) (fun hc11 => absurd hc11 (by rw [hN]; exact nI_ge (by omega) (by omega))) (fun hc11 => ?_)
    refine e_go hk_132 6 (c := (23, [.ref 131, .int key, .int a, .int (nI i)], [.int (8 + (nI i)), .ref 132, .int a], hp Z P L)) rfl ?_
    rw [show (8 + (nI i)) = nI (8 + i) from (nI_add 8 i)]
    refine e_ald hk_132 (a := 132) (j := 8 + i) (n := 308) rfl rfl rfl (by omega) (by decide) ?_
    show e_r 132 24 [.ref 131, .int key, .int a, .int (nI i)] [.int (Z 132 (8 + i)), .int a] (hp Z P L) _ _
    refine e_go hk_132 2 (c := (if s_cnd .ge (Z 132 (8 + i)) key = true then 41 else 28, [.ref 131, .int key, .int a, .int (nI i)], [.int a], hp Z P L)) rfl ?_
    refine e_ge (a := 41) (b := 28) (x := Z 132 (8 + i)) (y := key) (fun hc25 => ?_) (fun hc25 => ?_)
    · skip
      rw [q_bl, if_neg (Int32.not_lt.mpr hc25)]
      refine e_go hk_132 5 (c := (4, [.ref 131, .int key, .int (a + 0), .int ((nI i) + 1)], [], hp Z P L)) rfl ?_
      rw [nI_1]
      exact q_below_l hN hn k (i + 1) _ (by omega)
    · skip
      rw [q_bl, if_pos (Int32.not_le.mp hc25)]
      refine e_go hk_132 5 (c := (37, [.ref 131, .int key, .int a, .int (nI i)], [.int (188 + (nI i)), .ref 132, .int a], hp Z P L)) rfl ?_
      rw [show (188 + (nI i)) = nI (188 + i) from (nI_add 188 i)]
      refine e_ald hk_132 (a := 132) (j := 188 + i) (n := 308) rfl rfl rfl (by omega) (by decide) ?_
      show e_r 132 38 [.ref 131, .int key, .int a, .int (nI i)] [.int (Z 132 (188 + i)), .int a] (hp Z P L) _ _
      refine e_go hk_132 5 (c := (4, [.ref 131, .int key, .int (a + (Z 132 (188 + i))), .int ((nI i) + 1)], [], hp Z P L)) rfl ?_
      rw [nI_1]
      exact q_below_l hN hn k (i + 1) _ (by omega)
theorem q_below {Z : Nat → Nat → Int32} {P : Nat → Nat} {L n : Nat} (hN : Z 132 3 = nI n) (hn : n ≤ 60) {key : Int32} : m_r 132 [.ref 131, .int key] (hp Z P L) (some (.int (q_bl (q_c Z 8) (q_c Z 188) key 0 n 0))) (hp Z P L) := by
  refine m_of (ls := [.ref 131, .int key, s_no, s_no]) hk_132 rfl rfl rfl ?_
  refine e_go hk_132 4 (c := (4, [.ref 131, .int key, .int 0, .int 0], [], hp Z P L)) rfl ?_
  exact q_below_l hN hn n 0 0 (by omega)
theorem q_kat_l {Z : Nat → Nat → Int32} {P : Nat → Nat} {L n : Nat} (hN : Z 132 3 = nI n) (hn : n ≤ 60) {p0 : Int32} : ∀ (k i : Nat) (a : Int32), i + k = n → e_r 134 4 [.ref 131, .int p0, .int a, .int (nI i)] [] (hp Z P L) (some (.int (q_ka (q_c Z 8) (q_c Z 188) i k a))) (hp Z P L)
  | 0, i, a, hi => by
    refine e_go hk_134 4 (c := (10, [.ref 131, .int p0, .int a, .int (nI i)], [.int 3, .ref 132, .int (nI i)], hp Z P L)) rfl ?_
    refine e_ald hk_134 (a := 132) (j := 3) (n := 308) rfl rfl rfl (by decide) (by decide) ?_
    show e_r 134 11 [.ref 131, .int p0, .int a, .int (nI i)] [.int (Z 132 3), .int (nI i)] (hp Z P L) _ _
    refine e_go hk_134 1 (c := (if s_cnd .ge (nI i) (Z 132 3) = true then 51 else 14, [.ref 131, .int p0, .int a, .int (nI i)], [], hp Z P L)) rfl ?_
    refine e_ge (a := 51) (b := 14) (x := nI i) (y := Z 132 3) (fun hc11 => ?_) (fun hc11 => absurd (by rw [hN]; exact (y_le (by omega) (by omega)).mpr (by omega)) hc11)
    refine e_go hk_134 1 (c := (53, [.ref 131, .int p0, .int a, .int (nI i)], [.int ((-6))], hp Z P L)) rfl ?_
    exact e_ret hk_134 rfl rfl rfl rfl rfl
  | k + 1, i, a, hi => by
    refine e_go hk_134 4 (c := (10, [.ref 131, .int p0, .int a, .int (nI i)], [.int 3, .ref 132, .int (nI i)], hp Z P L)) rfl ?_
    refine e_ald hk_134 (a := 132) (j := 3) (n := 308) rfl rfl rfl (by decide) (by decide) ?_
    show e_r 134 11 [.ref 131, .int p0, .int a, .int (nI i)] [.int (Z 132 3), .int (nI i)] (hp Z P L) _ _
    refine e_go hk_134 1 (c := (if s_cnd .ge (nI i) (Z 132 3) = true then 51 else 14, [.ref 131, .int p0, .int a, .int (nI i)], [], hp Z P L)) rfl ?_
    refine e_ge (a := 51) (b := 14) (x := nI i) (y := Z 132 3) (fun hc11 => absurd hc11 (by rw [hN]; exact nI_ge (by omega) (by omega))) (fun hc11 => ?_)
    refine e_go hk_134 5 (c := (23, [.ref 131, .int p0, .int a, .int (nI i)], [.int (188 + (nI i)), .ref 132], hp Z P L)) rfl ?_
    rw [show (188 + (nI i)) = nI (188 + i) from (nI_add 188 i)]
    refine e_ald hk_134 (a := 132) (j := 188 + i) (n := 308) rfl rfl rfl (by omega) (by decide) ?_
    show e_r 134 24 [.ref 131, .int p0, .int a, .int (nI i)] [.int (Z 132 (188 + i))] (hp Z P L) _ _
    refine e_go hk_134 2 (c := (if s_cnd .ne (Z 132 (188 + i)) 1 = true then 45 else 28, [.ref 131, .int p0, .int a, .int (nI i)], [], hp Z P L)) rfl ?_
    refine e_ne (a := 45) (b := 28) (x := Z 132 (188 + i)) (y := 1) (fun hc25 => ?_) (fun hc25 => ?_)
    · skip
      rw [q_ka, if_neg hc25]
      refine e_go hk_134 2 (c := (4, [.ref 131, .int p0, .int a, .int ((nI i) + 1)], [], hp Z P L)) rfl ?_
      rw [nI_1]
      exact q_kat_l hN hn k (i + 1) _ (by omega)
    · skip
      rw [q_ka, if_pos hc25]
      refine e_go hk_134 2 (c := (if s_cnd .ne a 0 = true then 42 else 32, [.ref 131, .int p0, .int a, .int (nI i)], [], hp Z P L)) rfl ?_
      refine e_ne (a := 42) (b := 32) (x := a) (y := 0) (fun hc29 => ?_) (fun hc29 => ?_)
      · skip
        rw [if_neg hc29]
        refine e_go hk_134 3 (c := (4, [.ref 131, .int p0, .int (a + (-1)), .int ((nI i) + 1)], [], hp Z P L)) rfl ?_
        rw [nI_1]
        exact q_kat_l hN hn k (i + 1) _ (by omega)
      · skip
        rw [if_pos hc29]
        refine e_go hk_134 5 (c := (40, [.ref 131, .int p0, .int a, .int (nI i)], [.int (8 + (nI i)), .ref 132], hp Z P L)) rfl ?_
        rw [show (8 + (nI i)) = nI (8 + i) from (nI_add 8 i)]
        refine e_ald hk_134 (a := 132) (j := 8 + i) (n := 308) rfl rfl rfl (by omega) (by decide) ?_
        show e_r 134 41 [.ref 131, .int p0, .int a, .int (nI i)] [.int (Z 132 (8 + i))] (hp Z P L) _ _
        exact e_ret hk_134 rfl rfl rfl rfl rfl
theorem q_kat {Z : Nat → Nat → Int32} {P : Nat → Nat} {L n : Nat} (hN : Z 132 3 = nI n) (hn : n ≤ 60) {p0 : Int32} : m_r 134 [.ref 131, .int p0] (hp Z P L) (some (.int (q_ka (q_c Z 8) (q_c Z 188) 0 n p0))) (hp Z P L) := by
  refine m_of (ls := [.ref 131, .int p0, s_no, s_no]) hk_134 rfl rfl rfl ?_
  refine e_go hk_134 4 (c := (4, [.ref 131, .int p0, .int p0, .int 0], [], hp Z P L)) rfl ?_
  exact q_kat_l hN hn n 0 p0 (by omega)
