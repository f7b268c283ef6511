/-! Tree: what reads it; printed by wip/whole/gen/tree1.py -/
def y_b (c : Bool) : Int32 := if c = true then 1 else 0
theorem y_b0 {c : Bool} : y_b c = 0 ↔ c = false := by cases c <;> decide
theorem y_b1 {c : Bool} : ¬ y_b c = 0 ↔ c = true := by cases c <;> decide
theorem y_bt : y_b true = 1 := rfl
theorem y_bf : y_b false = 0 := rfl
/-- a place, or NONE -/
def y_o : Option Nat → Int32
  | some j => nI j
  | none => -6
theorem y_o_none {q : Option Nat} (h : ∀ j, q = some j → j < 2 ^ 31) : y_o q = -6 ↔ q = none := by
  cases q with
  | none => simp [y_o]
  | some j =>
    have hj := h j rfl
    simp only [y_o, reduceCtorEq, iff_false]
    intro e
    have h2 := congrArg Int32.toInt e
    rw [nI_toInt hj] at h2
    have h3 : (-6 : Int32).toInt = -6 := by decide
    omega
theorem y_m1le {u i : Nat} (hu : u < 2 ^ 31) (hi : i < 2 ^ 31) : nI u - 1 ≤ nI i ↔ u ≤ i + 1 := by
  rw [Int32.le_iff_toInt_le, y_m1 hu, nI_toInt hi]
  omega
theorem y_m1s {u : Nat} (hu : 0 < u) : nI u - 1 = nI (u - 1) := by
  cases u with
  | zero => omega
  | succ k => exact nI_pred k
theorem y_le0 {i : Nat} (hi : i < 2 ^ 31) : nI i ≤ 0 ↔ i = 0 := by
  rw [show (0 : Int32) = nI 0 from rfl, nI_leI hi (by decide)]
  omega
def t_pl (K : Nat → Int32) (key : Int32) : Nat → Nat → Nat
  | i, 0 => i
  | i, k + 1 => if K i < key then t_pl K key (i + 1) k else i
theorem t_pl_le (K : Nat → Int32) (key : Int32) : ∀ k i, i ≤ t_pl K key i k ∧ t_pl K key i k ≤ i + k
  | 0, i => ⟨Nat.le_refl _, Nat.le_refl _⟩
  | k + 1, i => by
    unfold t_pl
    have := t_pl_le K key k (i + 1)
    split <;> omega
def t_nd (K : Nat → Int32) (n : Nat) (key : Int32) : Option Nat := if t_pl K key 0 n < n ∧ K (t_pl K key 0 n) = key then some (t_pl K key 0 n) else none
theorem t_nd_lt {K : Nat → Int32} {n : Nat} {key : Int32} {j : Nat} (h : t_nd K n key = some j) : j < n ∧ K j = key := by
  unfold t_nd at h
  split at h
  next h1 => cases h; exact h1
  · cases h
def t_fn (K F : Nat → Int32) (n : Nat) (key : Int32) : Option Nat := match t_nd K n key with
  | some j => if F j = 1 then some j else none
  | none => none
theorem t_fn_lt {K F : Nat → Int32} {n : Nat} {key : Int32} {j : Nat} (h : t_fn K F n key = some j) : j < n ∧ K j = key ∧ F j = 1 := by
  unfold t_fn at h
  split at h
  next i hi =>
    split at h
    next hf => cases h; exact ⟨(t_nd_lt hi).1, (t_nd_lt hi).2, hf⟩
    · cases h
  · cases h
/-- the place of the k-th full node: from i, m places left, a full ones behind -/
def t_kt (F : Nat → Int32) (k : Int32) : Nat → Nat → Int32 → Option Nat
  | _, 0, _ => none
  | i, m + 1, a => if F i = 1 then (if a = k then some i else t_kt F k (i + 1) m (a + 1)) else t_kt F k (i + 1) m a
def t_lo (D : Nat → Int32) (d : Int32) : Nat → Nat
  | 0 => 0
  | i + 1 => if D i ≤ d then i + 1 else t_lo D d i
theorem t_lo_le (D : Nat → Int32) (d : Int32) : ∀ i, t_lo D d i ≤ i
  | 0 => Nat.le_refl _
  | i + 1 => by
    unfold t_lo
    have := t_lo_le D d i
    split <;> omega
def t_hi (D : Nat → Int32) (d : Int32) : Nat → Nat → Nat
  | i, 0 => i
  | i, k + 1 => if D (i + 1) ≤ d then i else t_hi D d (i + 1) k
theorem t_hi_le (D : Nat → Int32) (d : Int32) : ∀ k i, i ≤ t_hi D d i k ∧ t_hi D d i k ≤ i + k
  | 0, i => ⟨Nat.le_refl _, Nat.le_refl _⟩
  | k + 1, i => by
    unfold t_hi
    have := t_hi_le D d k (i + 1)
    split <;> omega
def t_tp (D : Nat → Int32) (d : Int32) : Nat → Nat → Nat
  | i, 0 => i
  | i, k + 1 => if D i = d then i else t_tp D d (i + 1) k
theorem t_tp_le (D : Nat → Int32) (d : Int32) : ∀ k i, i ≤ t_tp D d i k ∧ t_tp D d i k ≤ i + k
  | 0, i => ⟨Nat.le_refl _, Nat.le_refl _⟩
  | k + 1, i => by
    unfold t_tp
    have := t_tp_le D d k (i + 1)
    split <;> omega
/-- too heavy: with so many to the left and to the right -/
def y_th (lean l r : Int32) : Bool := decide (lean * (l + r + 1) < 100 * (if l < r then r else l))
/-- the first and the last place of what lies from a node downwards -/
abbrev t_L (Z : Nat → Nat → Int32) (j : Nat) : Nat := t_lo (Z 15) (Z 15 j) j
abbrev t_H (Z : Nat → Nat → Int32) (n j : Nat) : Nat := t_hi (Z 15) (Z 15 j) j (n - 1 - j)
def t_ln (Z : Nat → Nat → Int32) (n j : Nat) : Bool := y_th (Z 7 0) (nI j - nI (t_L Z j)) (nI (t_H Z n j) - nI j)
def t_lnc (Z : Nat → Nat → Int32) (n : Nat) : Nat → Nat → Int32 → Int32
  | _, 0, acc => acc
  | i, k + 1, acc => t_lnc Z n (i + 1) k (acc + y_b (t_ln Z n i))
/-- the way of a new node at place p: the first node that would lean -/
def t_wl (D : Nat → Int32) (lean : Int32) (p : Nat) : Nat → Nat → Nat → Nat → Option Nat
  | 0, _, _, _ => none
  | k + 1, d, l, u => if u ≤ l then none else
    let t := t_tp D (nI d) l (u - 1 - l)
    if p ≤ t then (if y_th lean (nI t - nI l + 1) (nI (u - 1) - nI t) = true then some t else t_wl D lean p k (d + 1) l t)
    else (if y_th lean (nI t - nI l) (nI (u - 1) - nI t + 1) = true then some t else t_wl D lean p k (d + 1) (t + 1) u)
theorem t_wl_lt {D : Nat → Int32} {lean : Int32} {p n : Nat} : ∀ {k d l u j : Nat}, u ≤ n → t_wl D lean p k d l u = some j → j < n
  | 0, d, l, u, j, hu, h => by cases h
  | k + 1, d, l, u, j, hu, h => by
    unfold t_wl at h
    split at h
    · cases h
    next hlu =>
    have ht := t_tp_le D (nI d) (u - 1 - l) l
    dsimp only at h
    split at h
    · split at h
      · cases h; omega
      · exact t_wl_lt (by omega) h
    · split at h
      · cases h; omega
      · exact t_wl_lt hu h
def t_cs (Z : Nat → Nat → Int32) (n : Nat) (key : Int32) : Int32 := match t_nd (Z 9) n key with
  | some _ => 0
  | none => match t_wl (Z 15) (Z 7 0) (t_pl (Z 9) key 0 n) 60 0 0 n with
    | none => 0
    | some j => nI (t_H Z n j) - nI (t_L Z j) + 2
def t_rm (Z : Nat → Nat → Int32) (n : Nat) (key : Int32) : Bool := decide (n < 60) || (t_nd (Z 9) n key).isSome
theorem x_place_l {Z : Nat → Nat → Int32} {P : Nat → Nat} {L n : Nat} (hN : Z 5 6 = nI n) (hn : n ≤ 60) {key : Int32} : ∀ (k i : Nat), i + k = n → e_r 30 2 [.ref 5, .int key, .int (nI i)] [] (hp Z P L) (some (.int (nI (t_pl (Z 9) key i k)))) (hp Z P L)
  | 0, i, hi => by
    refine e_go hk_30 4 (c := (if s_cnd .ge (nI i) (Z 5 6) = true then 28 else 10, [.ref 5, .int key, .int (nI i)], [], hp Z P L)) rfl ?_
    refine e_ge (a := 28) (b := 10) (x := nI i) (y := Z 5 6) (fun hc7 => ?_) (fun hc7 => absurd (by rw [hN]; exact (y_le (by omega) (by omega)).mpr (by omega)) hc7)
    refine e_go hk_30 1 (c := (29, [.ref 5, .int key, .int (nI i)], [.int (nI i)], hp Z P L)) rfl ?_
    exact e_ret hk_30 rfl rfl rfl rfl rfl
  | k + 1, i, hi => by
    refine e_go hk_30 4 (c := (if s_cnd .ge (nI i) (Z 5 6) = true then 28 else 10, [.ref 5, .int key, .int (nI i)], [], hp Z P L)) rfl ?_
    refine e_ge (a := 28) (b := 10) (x := nI i) (y := Z 5 6) (fun hc7 => absurd hc7 (by rw [hN]; exact nI_ge (by omega) (by omega))) (fun hc7 => ?_)
    refine e_go hk_30 3 (c := (15, [.ref 5, .int key, .int (nI i)], [.int (nI i), .ref 8], hp Z P L)) rfl ?_
    refine e_call hk_30 (as := [.ref 8, .int (nI i)]) (rest := []) rfl rfl hk_22 rfl (Nat.le_of_ble_eq_true rfl) rfl (x_at (r := 8) (a := 9) (n := 60) rfl rfl rfl (by decide) (j := i) (by omega)) ?_
    show e_r 30 18 [.ref 5, .int key, .int (nI i)] [.int (Z 9 i)] (hp Z P L) _ _
    refine e_go hk_30 2 (c := (if s_cnd .ge (Z 9 i) key = true then 28 else 22, [.ref 5, .int key, .int (nI i)], [], hp Z P L)) rfl ?_
    refine e_ge (a := 28) (b := 22) (x := Z 9 i) (y := key) (fun hc19 => ?_) (fun hc19 => ?_)
    · skip
      refine e_go hk_30 1 (c := (29, [.ref 5, .int key, .int (nI i)], [.int (nI i)], hp Z P L)) rfl ?_
      exact e_ret hk_30 rfl rfl rfl (by rw [t_pl, if_neg (Int32.not_lt.mpr hc19)]) rfl
    · skip
      refine e_go hk_30 2 (c := (2, [.ref 5, .int key, .int ((nI i) + 1)], [], hp Z P L)) rfl ?_
      rw [nI_1, t_pl, if_pos (Int32.not_le.mp hc19)]
      exact x_place_l hN hn k (i + 1) (by omega)
theorem x_place {Z : Nat → Nat → Int32} {P : Nat → Nat} {L n : Nat} (hN : Z 5 6 = nI n) (hn : n ≤ 60) {key : Int32} : m_r 30 [.ref 5, .int key] (hp Z P L) (some (.int (nI (t_pl (Z 9) key 0 n)))) (hp Z P L) := by
  refine m_of (ls := [.ref 5, .int key, s_no]) hk_30 rfl rfl rfl ?_
  refine e_go hk_30 2 (c := (2, [.ref 5, .int key, .int 0], [], hp Z P L)) rfl ?_
  exact x_place_l hN hn n 0 (by omega)
theorem x_node {Z : Nat → Nat → Int32} {P : Nat → Nat} {L n : Nat} (hN : Z 5 6 = nI n) (hn : n ≤ 60) {key : Int32} : m_r 31 [.ref 5, .int key] (hp Z P L) (some (.int (y_o (t_nd (Z 9) n key)))) (hp Z P L) := by
  have hpl := (t_pl_le (Z 9) key n 0).2
  refine m_of (ls := [.ref 5, .int key, s_no]) hk_31 rfl rfl rfl ?_
  refine e_go hk_31 2 (c := (2, [.ref 5, .int key, s_no], [.int key, .ref 5], hp Z P L)) rfl ?_
  refine e_call hk_31 (as := [.ref 5, .int key]) (rest := []) rfl rfl hk_30 rfl (Nat.le_of_ble_eq_true rfl) rfl (x_place hN hn) ?_
  show e_r 31 5 [.ref 5, .int key, s_no] [.int (nI (t_pl (Z 9) key 0 n))] (hp Z P L) _ _
  refine e_go hk_31 5 (c := (if s_cnd .ge (nI (t_pl (Z 9) key 0 n)) (Z 5 6) = true then 30 else 14, [.ref 5, .int key, .int (nI (t_pl (Z 9) key 0 n))], [], hp Z P L)) rfl ?_
  refine e_ge (a := 30) (b := 14) (x := nI (t_pl (Z 9) key 0 n)) (y := Z 5 6) (fun hc11 => ?_) (fun hc11 => ?_)
  · skip
    rw [hN] at hc11
    have hge := (y_le (by omega) (by omega)).mp hc11
    refine e_go hk_31 1 (c := (32, [.ref 5, .int key, .int (nI (t_pl (Z 9) key 0 n))], [.int ((-6))], hp Z P L)) rfl ?_
    exact e_ret hk_31 rfl rfl rfl (by rw [t_nd, if_neg (fun z => absurd z.1 (by omega))]; rfl) rfl
  · skip
    rw [hN] at hc11
    have hlt : t_pl (Z 9) key 0 n < n := by rcases Nat.lt_or_ge (t_pl (Z 9) key 0 n) n with z | z; exact z; exact absurd ((y_le (by omega) (by omega)).mpr z) hc11
    refine e_go hk_31 3 (c := (19, [.ref 5, .int key, .int (nI (t_pl (Z 9) key 0 n))], [.int (nI (t_pl (Z 9) key 0 n)), .ref 8], hp Z P L)) rfl ?_
    refine e_call hk_31 (as := [.ref 8, .int (nI (t_pl (Z 9) key 0 n))]) (rest := []) rfl rfl hk_22 rfl (Nat.le_of_ble_eq_true rfl) rfl (x_at (r := 8) (a := 9) (n := 60) rfl rfl rfl (by decide) (j := t_pl (Z 9) key 0 n) (by omega)) ?_
    show e_r 31 22 [.ref 5, .int key, .int (nI (t_pl (Z 9) key 0 n))] [.int (Z 9 (t_pl (Z 9) key 0 n))] (hp Z P L) _ _
    refine e_go hk_31 2 (c := (if s_cnd .ne (Z 9 (t_pl (Z 9) key 0 n)) key = true then 30 else 26, [.ref 5, .int key, .int (nI (t_pl (Z 9) key 0 n))], [], hp Z P L)) rfl ?_
    refine e_ne (a := 30) (b := 26) (x := Z 9 (t_pl (Z 9) key 0 n)) (y := key) (fun hc23 => ?_) (fun hc23 => ?_)
    · skip
      refine e_go hk_31 1 (c := (32, [.ref 5, .int key, .int (nI (t_pl (Z 9) key 0 n))], [.int ((-6))], hp Z P L)) rfl ?_
      exact e_ret hk_31 rfl rfl rfl (by rw [t_nd, if_neg (fun z => hc23 z.2)]; rfl) rfl
    · skip
      refine e_go hk_31 2 (c := (32, [.ref 5, .int key, .int (nI (t_pl (Z 9) key 0 n))], [.int (nI (t_pl (Z 9) key 0 n))], hp Z P L)) rfl ?_
      exact e_ret hk_31 rfl rfl rfl (by rw [t_nd, if_pos ⟨hlt, hc23⟩]; rfl) rfl
theorem x_isfull {Z : Nat → Nat → Int32} {P : Nat → Nat} {L j : Nat} (hj : j < 60) : m_r 33 [.ref 5, .int (nI j)] (hp Z P L) (some (.int (y_b (decide (Z 17 j = 1))))) (hp Z P L) := by
  refine m_of (ls := [.ref 5, .int (nI j)]) hk_33 rfl rfl rfl ?_
  refine e_go hk_33 3 (c := (5, [.ref 5, .int (nI j)], [.int (nI j), .ref 16], hp Z P L)) rfl ?_
  refine e_call hk_33 (as := [.ref 16, .int (nI j)]) (rest := []) rfl rfl hk_22 rfl (Nat.le_of_ble_eq_true rfl) rfl (x_at (r := 16) (a := 17) (n := 60) rfl rfl rfl (by decide) (j := j) (by omega)) ?_
  show e_r 33 8 [.ref 5, .int (nI j)] [.int (Z 17 j)] (hp Z P L) _ _
  refine e_go hk_33 2 (c := (if s_cnd .ne (Z 17 j) 1 = true then 16 else 12, [.ref 5, .int (nI j)], [], hp Z P L)) rfl ?_
  refine e_ne (a := 16) (b := 12) (x := Z 17 j) (y := 1) (fun hc9 => ?_) (fun hc9 => ?_)
  · skip
    refine e_go hk_33 1 (c := (17, [.ref 5, .int (nI j)], [.int 0], hp Z P L)) rfl ?_
    exact e_ret hk_33 rfl rfl rfl (by rw [decide_eq_false hc9]; rfl) rfl
  · skip
    refine e_go hk_33 2 (c := (17, [.ref 5, .int (nI j)], [.int 1], hp Z P L)) rfl ?_
    exact e_ret hk_33 rfl rfl rfl (by rw [decide_eq_true hc9]; rfl) rfl
theorem x_fnode_none {Z : Nat → Nat → Int32} {P : Nat → Nat} {L n : Nat} (hN : Z 5 6 = nI n) (hn : n ≤ 60) {key : Int32} (hq : t_nd (Z 9) n key = none) : m_r 32 [.ref 5, .int key] (hp Z P L) (some (.int (y_o (t_fn (Z 9) (Z 17) n key)))) (hp Z P L) := by
  refine m_of (ls := [.ref 5, .int key, s_no]) hk_32 rfl rfl rfl ?_
  refine e_go hk_32 2 (c := (2, [.ref 5, .int key, s_no], [.int key, .ref 5], hp Z P L)) rfl ?_
  refine e_call hk_32 (as := [.ref 5, .int key]) (rest := []) rfl rfl hk_31 rfl (Nat.le_of_ble_eq_true rfl) rfl (show m_r 31 [.ref 5, .int key] (hp Z P L) (some (.int (-6))) (hp Z P L) from (by have := x_node (P := P) (L := L) (key := key) hN hn; rw [hq] at this; exact this)) ?_
  show e_r 32 5 [.ref 5, .int key, s_no] [.int ((-6))] (hp Z P L) _ _
  refine e_go hk_32 4 (c := (if s_cnd .eq ((-6)) ((-6)) = true then 24 else 12, [.ref 5, .int key, .int ((-6))], [], hp Z P L)) rfl ?_
  refine e_eq (a := 24) (b := 12) (x := (-6)) (y := (-6)) (fun hc9 => ?_) (fun hc9 => absurd (rfl) hc9)
  refine e_go hk_32 1 (c := (26, [.ref 5, .int key, .int ((-6))], [.int ((-6))], hp Z P L)) rfl ?_
  exact e_ret hk_32 rfl rfl rfl (by rw [t_fn, hq]; rfl) rfl
theorem x_fnode_some {Z : Nat → Nat → Int32} {P : Nat → Nat} {L n : Nat} (hN : Z 5 6 = nI n) (hn : n ≤ 60) {key : Int32} {j : Nat} (hq : t_nd (Z 9) n key = some j) : m_r 32 [.ref 5, .int key] (hp Z P L) (some (.int (y_o (t_fn (Z 9) (Z 17) n key)))) (hp Z P L) := by
  have hjn := (t_nd_lt hq).1
  refine m_of (ls := [.ref 5, .int key, s_no]) hk_32 rfl rfl rfl ?_
  refine e_go hk_32 2 (c := (2, [.ref 5, .int key, s_no], [.int key, .ref 5], hp Z P L)) rfl ?_
  refine e_call hk_32 (as := [.ref 5, .int key]) (rest := []) rfl rfl hk_31 rfl (Nat.le_of_ble_eq_true rfl) rfl (show m_r 31 [.ref 5, .int key] (hp Z P L) (some (.int (nI j))) (hp Z P L) from (by have := x_node (P := P) (L := L) (key := key) hN hn; rw [hq] at this; exact this)) ?_
  show e_r 32 5 [.ref 5, .int key, s_no] [.int (nI j)] (hp Z P L) _ _
  refine e_go hk_32 4 (c := (if s_cnd .eq (nI j) ((-6)) = true then 24 else 12, [.ref 5, .int key, .int (nI j)], [], hp Z P L)) rfl ?_
  refine e_eq (a := 24) (b := 12) (x := nI j) (y := (-6)) (fun hc9 => absurd hc9 (fun z => absurd ((y_o_none (q := some j) (fun i hi => by cases hi; omega)).mp z) (by simp))) (fun hc9 => ?_)
  refine e_go hk_32 2 (c := (14, [.ref 5, .int key, .int (nI j)], [.int (nI j), .ref 5], hp Z P L)) rfl ?_
  refine e_call hk_32 (as := [.ref 5, .int (nI j)]) (rest := []) rfl rfl hk_33 rfl (Nat.le_of_ble_eq_true rfl) rfl (x_isfull (j := j) (by omega)) ?_
  show e_r 32 17 [.ref 5, .int key, .int (nI j)] [.int (y_b (decide (Z 17 j = 1)))] (hp Z P L) _ _
  refine e_go hk_32 1 (c := (if s_cnd .eq (y_b (decide (Z 17 j = 1))) 0 = true then 24 else 20, [.ref 5, .int key, .int (nI j)], [], hp Z P L)) rfl ?_
  refine e_eq (a := 24) (b := 20) (x := y_b (decide (Z 17 j = 1))) (y := 0) (fun hc17 => ?_) (fun hc17 => ?_)
  · skip
    refine e_go hk_32 1 (c := (26, [.ref 5, .int key, .int (nI j)], [.int ((-6))], hp Z P L)) rfl ?_
    exact e_ret hk_32 rfl rfl rfl (by rw [y_b0, decide_eq_false_iff_not] at hc17; rw [t_fn, hq]; dsimp only; rw [if_neg hc17]; rfl) rfl
  · skip
    refine e_go hk_32 2 (c := (26, [.ref 5, .int key, .int (nI j)], [.int (nI j)], hp Z P L)) rfl ?_
    exact e_ret hk_32 rfl rfl rfl (by rw [y_b1, decide_eq_true_eq] at hc17; rw [t_fn, hq]; dsimp only; rw [if_pos hc17]; rfl) rfl
theorem x_fnode {Z : Nat → Nat → Int32} {P : Nat → Nat} {L n : Nat} (hN : Z 5 6 = nI n) (hn : n ≤ 60) {key : Int32} : m_r 32 [.ref 5, .int key] (hp Z P L) (some (.int (y_o (t_fn (Z 9) (Z 17) n key)))) (hp Z P L) := by
  cases hq : t_nd (Z 9) n key with
  | none => exact x_fnode_none hN hn hq
  | some j => exact x_fnode_some hN hn hq
theorem x_all {Z : Nat → Nat → Int32} {P : Nat → Nat} {L n : Nat} (hN : Z 5 6 = nI n) (hn : n ≤ 60) : m_r 34 [.ref 5] (hp Z P L) (some (.int (t_sm (Z 17) 0 n 0))) (hp Z P L) := by
  refine m_of (ls := [.ref 5]) hk_34 rfl rfl rfl ?_
  refine e_go hk_34 7 (c := (11, [.ref 5], [.int ((Z 5 6) - 1), .int 0, .ref 16], hp Z P L)) rfl ?_
  rw [hN]
  refine e_call hk_34 (as := [.ref 16, .int (nI 0), .int (nI n - 1)]) (rest := []) rfl rfl hk_25 rfl (Nat.le_of_ble_eq_true rfl) rfl (x_total (r := 16) (a := 17) (n := 60) rfl rfl rfl (by decide) (l := 0) (u := n) (by omega) (by omega)) ?_
  show e_r 34 14 [.ref 5] [.int (t_sm (Z 17) 0 (n - 0) 0)] (hp Z P L) _ _
  exact e_ret hk_34 rfl rfl rfl rfl rfl
theorem x_ahead {Z : Nat → Nat → Int32} {P : Nat → Nat} {L n : Nat} (hN : Z 5 6 = nI n) (hn : n ≤ 60) {key : Int32} : m_r 35 [.ref 5, .int key] (hp Z P L) (some (.int (t_sm (Z 17) 0 (t_pl (Z 9) key 0 n) 0))) (hp Z P L) := by
  have hpl := (t_pl_le (Z 9) key n 0).2
  refine m_of (ls := [.ref 5, .int key]) hk_35 rfl rfl rfl ?_
  refine e_go hk_35 5 (c := (7, [.ref 5, .int key], [.int key, .ref 5, .int 0, .ref 16], hp Z P L)) rfl ?_
  refine e_call hk_35 (as := [.ref 5, .int key]) (rest := [.int 0, .ref 16]) rfl rfl hk_30 rfl (Nat.le_of_ble_eq_true rfl) rfl (x_place hN hn) ?_
  show e_r 35 10 [.ref 5, .int key] [.int (nI (t_pl (Z 9) key 0 n)), .int 0, .ref 16] (hp Z P L) _ _
  refine e_go hk_35 2 (c := (12, [.ref 5, .int key], [.int ((nI (t_pl (Z 9) key 0 n)) - 1), .int 0, .ref 16], hp Z P L)) rfl ?_
  refine e_call hk_35 (as := [.ref 16, .int (nI 0), .int (nI ((t_pl (Z 9) key 0 n)) - 1)]) (rest := []) rfl rfl hk_25 rfl (Nat.le_of_ble_eq_true rfl) rfl (x_total (r := 16) (a := 17) (n := 60) rfl rfl rfl (by decide) (l := 0) (u := (t_pl (Z 9) key 0 n)) (by omega) (by omega)) ?_
  show e_r 35 15 [.ref 5, .int key] [.int (t_sm (Z 17) 0 ((t_pl (Z 9) key 0 n) - 0) 0)] (hp Z P L) _ _
  exact e_ret hk_35 rfl rfl rfl rfl rfl
theorem x_kth_l {Z : Nat → Nat → Int32} {P : Nat → Nat} {L n : Nat} (hN : Z 5 6 = nI n) (hn : n ≤ 60) {q : Int32} : ∀ (k i : Nat) (a : Int32), i + k = n → e_r 36 4 [.ref 5, .int q, .int a, .int (nI i)] [] (hp Z P L) (some (.int (y_o (t_kt (Z 17) q i k a)))) (hp Z P L)
  | 0, i, a, hi => by
    refine e_go hk_36 4 (c := (if s_cnd .ge (nI i) (Z 5 6) = true then 36 else 12, [.ref 5, .int q, .int a, .int (nI i)], [], hp Z P L)) rfl ?_
    refine e_ge (a := 36) (b := 12) (x := nI i) (y := Z 5 6) (fun hc9 => ?_) (fun hc9 => absurd (by rw [hN]; exact (y_le (by omega) (by omega)).mpr (by omega)) hc9)
    refine e_go hk_36 1 (c := (38, [.ref 5, .int q, .int a, .int (nI i)], [.int ((-6))], hp Z P L)) rfl ?_
    exact e_ret hk_36 rfl rfl rfl rfl rfl
  | k + 1, i, a, hi => by
    refine e_go hk_36 4 (c := (if s_cnd .ge (nI i) (Z 5 6) = true then 36 else 12, [.ref 5, .int q, .int a, .int (nI i)], [], hp Z P L)) rfl ?_
    refine e_ge (a := 36) (b := 12) (x := nI i) (y := Z 5 6) (fun hc9 => absurd hc9 (by rw [hN]; exact nI_ge (by omega) (by omega))) (fun hc9 => ?_)
    refine e_go hk_36 2 (c := (14, [.ref 5, .int q, .int a, .int (nI i)], [.int (nI i), .ref 5], hp Z P L)) rfl ?_
    refine e_call hk_36 (as := [.ref 5, .int (nI i)]) (rest := []) rfl rfl hk_33 rfl (Nat.le_of_ble_eq_true rfl) rfl (x_isfull (j := i) (by omega)) ?_
    show e_r 36 17 [.ref 5, .int q, .int a, .int (nI i)] [.int (y_b (decide (Z 17 i = 1)))] (hp Z P L) _ _
    refine e_go hk_36 1 (c := (if s_cnd .eq (y_b (decide (Z 17 i = 1))) 0 = true then 30 else 20, [.ref 5, .int q, .int a, .int (nI i)], [], hp Z P L)) rfl ?_
    refine e_eq (a := 30) (b := 20) (x := y_b (decide (Z 17 i = 1))) (y := 0) (fun hc17 => ?_) (fun hc17 => ?_)
    · skip
      rw [y_b0, decide_eq_false_iff_not] at hc17
      rw [t_kt, if_neg hc17]
      refine e_go hk_36 2 (c := (4, [.ref 5, .int q, .int a, .int ((nI i) + 1)], [], hp Z P L)) rfl ?_
      rw [nI_1]
      exact x_kth_l hN hn k (i + 1) _ (by omega)
    · skip
      rw [y_b1, decide_eq_true_eq] at hc17
      rw [t_kt, if_pos hc17]
      refine e_go hk_36 3 (c := (if s_cnd .ne a q = true then 27 else 25, [.ref 5, .int q, .int a, .int (nI i)], [], hp Z P L)) rfl ?_
      refine e_ne (a := 27) (b := 25) (x := a) (y := q) (fun hc22 => ?_) (fun hc22 => ?_)
      · skip
        rw [if_neg hc22]
        refine e_go hk_36 3 (c := (4, [.ref 5, .int q, .int (a + 1), .int ((nI i) + 1)], [], hp Z P L)) rfl ?_
        rw [nI_1]
        exact x_kth_l hN hn k (i + 1) _ (by omega)
      · skip
        rw [if_pos hc22]
        refine e_go hk_36 1 (c := (26, [.ref 5, .int q, .int a, .int (nI i)], [.int (nI i)], hp Z P L)) rfl ?_
        exact e_ret hk_36 rfl rfl rfl rfl rfl
theorem x_kth {Z : Nat → Nat → Int32} {P : Nat → Nat} {L n : Nat} (hN : Z 5 6 = nI n) (hn : n ≤ 60) {q : Int32} : m_r 36 [.ref 5, .int q] (hp Z P L) (some (.int (y_o (t_kt (Z 17) q 0 n 0)))) (hp Z P L) := by
  refine m_of (ls := [.ref 5, .int q, s_no, s_no]) hk_36 rfl rfl rfl ?_
  refine e_go hk_36 4 (c := (4, [.ref 5, .int q, .int 0, .int 0], [], hp Z P L)) rfl ?_
  exact x_kth_l hN hn n 0 0 (by omega)
theorem x_low_l {Z : Nat → Nat → Int32} {P : Nat → Nat} {L : Nat} {j : Nat} (hj : j < 60) : ∀ (i : Nat), i ≤ j → e_r 37 2 [.ref 5, .int (nI j), .int (nI i)] [] (hp Z P L) (some (.int (nI (t_lo (Z 15) (Z 15 j) i)))) (hp Z P L)
  | 0, hi => by
    refine e_go hk_37 2 (c := (if s_cnd .le (nI 0) 0 = true then 33 else 6, [.ref 5, .int (nI j), .int (nI 0)], [], hp Z P L)) rfl ?_
    refine e_le (a := 33) (b := 6) (x := nI 0) (y := 0) (fun hc3 => ?_) (fun hc3 => absurd (by decide) hc3)
    refine e_go hk_37 1 (c := (34, [.ref 5, .int (nI j), .int (nI 0)], [.int (nI 0)], hp Z P L)) rfl ?_
    exact e_ret hk_37 rfl rfl rfl rfl rfl
  | i + 1, hi => by
    refine e_go hk_37 2 (c := (if s_cnd .le (nI (i + 1)) 0 = true then 33 else 6, [.ref 5, .int (nI j), .int (nI (i + 1))], [], hp Z P L)) rfl ?_
    refine e_le (a := 33) (b := 6) (x := nI (i + 1)) (y := 0) (fun hc3 => absurd hc3 (nI_nle (by omega) (by omega))) (fun hc3 => ?_)
    refine e_go hk_37 5 (c := (13, [.ref 5, .int (nI j), .int (nI (i + 1))], [.int ((nI (i + 1)) - 1), .ref 14], hp Z P L)) rfl ?_
    rw [nI_pred]
    refine e_call hk_37 (as := [.ref 14, .int (nI i)]) (rest := []) rfl rfl hk_22 rfl (Nat.le_of_ble_eq_true rfl) rfl (x_at (r := 14) (a := 15) (n := 60) rfl rfl rfl (by decide) (j := i) (by omega)) ?_
    show e_r 37 16 [.ref 5, .int (nI j), .int (nI (i + 1))] [.int (Z 15 i)] (hp Z P L) _ _
    refine e_go hk_37 3 (c := (21, [.ref 5, .int (nI j), .int (nI (i + 1))], [.int (nI j), .ref 14, .int (Z 15 i)], hp Z P L)) rfl ?_
    refine e_call hk_37 (as := [.ref 14, .int (nI j)]) (rest := [.int (Z 15 i)]) rfl rfl hk_22 rfl (Nat.le_of_ble_eq_true rfl) rfl (x_at (r := 14) (a := 15) (n := 60) rfl rfl rfl (by decide) (j := j) (by omega)) ?_
    show e_r 37 24 [.ref 5, .int (nI j), .int (nI (i + 1))] [.int (Z 15 j), .int (Z 15 i)] (hp Z P L) _ _
    refine e_go hk_37 1 (c := (if s_cnd .le (Z 15 i) (Z 15 j) = true then 33 else 27, [.ref 5, .int (nI j), .int (nI (i + 1))], [], hp Z P L)) rfl ?_
    refine e_le (a := 33) (b := 27) (x := Z 15 i) (y := Z 15 j) (fun hc24 => ?_) (fun hc24 => ?_)
    · skip
      rw [t_lo, if_pos hc24]
      refine e_go hk_37 1 (c := (34, [.ref 5, .int (nI j), .int (nI (i + 1))], [.int (nI (i + 1))], hp Z P L)) rfl ?_
      exact e_ret hk_37 rfl rfl rfl rfl rfl
    · skip
      rw [t_lo, if_neg hc24]
      refine e_go hk_37 2 (c := (2, [.ref 5, .int (nI j), .int ((nI (i + 1)) + (-1))], [], hp Z P L)) rfl ?_
      rw [pk_m1]
      exact x_low_l hj i (by omega)
theorem x_low {Z : Nat → Nat → Int32} {P : Nat → Nat} {L : Nat} {j : Nat} (hj : j < 60) : m_r 37 [.ref 5, .int (nI j)] (hp Z P L) (some (.int (nI (t_L Z j)))) (hp Z P L) := by
  refine m_of (ls := [.ref 5, .int (nI j), s_no]) hk_37 rfl rfl rfl ?_
  refine e_go hk_37 2 (c := (2, [.ref 5, .int (nI j), .int (nI j)], [], hp Z P L)) rfl ?_
  exact x_low_l hj j (Nat.le_refl _)
theorem x_high_l {Z : Nat → Nat → Int32} {P : Nat → Nat} {L n : Nat} (hN : Z 5 6 = nI n) (hn : n ≤ 60) {j : Nat} (hj : j < n) : ∀ (k i : Nat), i + k + 1 = n → e_r 38 2 [.ref 5, .int (nI j), .int (nI i)] [] (hp Z P L) (some (.int (nI (t_hi (Z 15) (Z 15 j) i k)))) (hp Z P L)
  | 0, i, hi => by
    refine e_go hk_38 6 (c := (if s_cnd .ge (nI i) ((Z 5 6) - 1) = true then 39 else 12, [.ref 5, .int (nI j), .int (nI i)], [], hp Z P L)) rfl ?_
    refine e_ge (a := 39) (b := 12) (x := nI i) (y := (Z 5 6) - 1) (fun hc9 => ?_) (fun hc9 => absurd (by rw [hN]; exact (y_m1le (by omega) (by omega)).mpr (by omega)) hc9)
    refine e_go hk_38 1 (c := (40, [.ref 5, .int (nI j), .int (nI i)], [.int (nI i)], hp Z P L)) rfl ?_
    exact e_ret hk_38 rfl rfl rfl rfl rfl
  | k + 1, i, hi => by
    refine e_go hk_38 6 (c := (if s_cnd .ge (nI i) ((Z 5 6) - 1) = true then 39 else 12, [.ref 5, .int (nI j), .int (nI i)], [], hp Z P L)) rfl ?_
    refine e_ge (a := 39) (b := 12) (x := nI i) (y := (Z 5 6) - 1) (fun hc9 => absurd hc9 (by rw [hN]; exact fun z => absurd ((y_m1le (by omega) (by omega)).mp z) (by omega))) (fun hc9 => ?_)
    refine e_go hk_38 5 (c := (19, [.ref 5, .int (nI j), .int (nI i)], [.int ((nI i) + 1), .ref 14], hp Z P L)) rfl ?_
    rw [nI_1]
    refine e_call hk_38 (as := [.ref 14, .int (nI (i + 1))]) (rest := []) rfl rfl hk_22 rfl (Nat.le_of_ble_eq_true rfl) rfl (x_at (r := 14) (a := 15) (n := 60) rfl rfl rfl (by decide) (j := i + 1) (by omega)) ?_
    show e_r 38 22 [.ref 5, .int (nI j), .int (nI i)] [.int (Z 15 (i + 1))] (hp Z P L) _ _
    refine e_go hk_38 3 (c := (27, [.ref 5, .int (nI j), .int (nI i)], [.int (nI j), .ref 14, .int (Z 15 (i + 1))], hp Z P L)) rfl ?_
    refine e_call hk_38 (as := [.ref 14, .int (nI j)]) (rest := [.int (Z 15 (i + 1))]) rfl rfl hk_22 rfl (Nat.le_of_ble_eq_true rfl) rfl (x_at (r := 14) (a := 15) (n := 60) rfl rfl rfl (by decide) (j := j) (by omega)) ?_
    show e_r 38 30 [.ref 5, .int (nI j), .int (nI i)] [.int (Z 15 j), .int (Z 15 (i + 1))] (hp Z P L) _ _
    refine e_go hk_38 1 (c := (if s_cnd .le (Z 15 (i + 1)) (Z 15 j) = true then 39 else 33, [.ref 5, .int (nI j), .int (nI i)], [], hp Z P L)) rfl ?_
    refine e_le (a := 39) (b := 33) (x := Z 15 (i + 1)) (y := Z 15 j) (fun hc30 => ?_) (fun hc30 => ?_)
    · skip
      rw [t_hi, if_pos hc30]
      refine e_go hk_38 1 (c := (40, [.ref 5, .int (nI j), .int (nI i)], [.int (nI i)], hp Z P L)) rfl ?_
      exact e_ret hk_38 rfl rfl rfl rfl rfl
    · skip
      rw [t_hi, if_neg hc30]
      refine e_go hk_38 2 (c := (2, [.ref 5, .int (nI j), .int ((nI i) + 1)], [], hp Z P L)) rfl ?_
      rw [nI_1]
      exact x_high_l hN hn hj k (i + 1) (by omega)
theorem x_high {Z : Nat → Nat → Int32} {P : Nat → Nat} {L n : Nat} (hN : Z 5 6 = nI n) (hn : n ≤ 60) {j : Nat} (hj : j < n) : m_r 38 [.ref 5, .int (nI j)] (hp Z P L) (some (.int (nI (t_H Z n j)))) (hp Z P L) := by
  refine m_of (ls := [.ref 5, .int (nI j), s_no]) hk_38 rfl rfl rfl ?_
  refine e_go hk_38 2 (c := (2, [.ref 5, .int (nI j), .int (nI j)], [], hp Z P L)) rfl ?_
  exact x_high_l hN hn hj (n - 1 - j) j (by omega)
theorem x_top_l {Z : Nat → Nat → Int32} {P : Nat → Nat} {L : Nat} {u : Nat} {low d : Int32} (hu : u < 60) : ∀ (k i : Nat), i + k = u → e_r 39 3 [.ref 5, .int low, .int (nI u), .int d, .int (nI i)] [] (hp Z P L) (some (.int (nI (t_tp (Z 15) d i k)))) (hp Z P L)
  | 0, i, hi => by
    refine e_go hk_39 3 (c := (if s_cnd .ge (nI i) (nI u) = true then 28 else 9, [.ref 5, .int low, .int (nI u), .int d, .int (nI i)], [], hp Z P L)) rfl ?_
    refine e_ge (a := 28) (b := 9) (x := nI i) (y := nI u) (fun hc6 => ?_) (fun hc6 => absurd ((y_le (by omega) (by omega)).mpr (by omega)) hc6)
    refine e_go hk_39 1 (c := (30, [.ref 5, .int low, .int (nI u), .int d, .int (nI i)], [.int (nI i)], hp Z P L)) rfl ?_
    exact e_ret hk_39 rfl rfl rfl rfl rfl
  | k + 1, i, hi => by
    refine e_go hk_39 3 (c := (if s_cnd .ge (nI i) (nI u) = true then 28 else 9, [.ref 5, .int low, .int (nI u), .int d, .int (nI i)], [], hp Z P L)) rfl ?_
    refine e_ge (a := 28) (b := 9) (x := nI i) (y := nI u) (fun hc6 => absurd hc6 (nI_ge (by omega) (by omega))) (fun hc6 => ?_)
    refine e_go hk_39 3 (c := (15, [.ref 5, .int low, .int (nI u), .int d, .int (nI i)], [.int (nI i), .ref 14], hp Z P L)) rfl ?_
    refine e_call hk_39 (as := [.ref 14, .int (nI i)]) (rest := []) rfl rfl hk_22 rfl (Nat.le_of_ble_eq_true rfl) rfl (x_at (r := 14) (a := 15) (n := 60) rfl rfl rfl (by decide) (j := i) (by omega)) ?_
    show e_r 39 18 [.ref 5, .int low, .int (nI u), .int d, .int (nI i)] [.int (Z 15 i)] (hp Z P L) _ _
    refine e_go hk_39 2 (c := (if s_cnd .eq (Z 15 i) d = true then 28 else 22, [.ref 5, .int low, .int (nI u), .int d, .int (nI i)], [], hp Z P L)) rfl ?_
    refine e_eq (a := 28) (b := 22) (x := Z 15 i) (y := d) (fun hc19 => ?_) (fun hc19 => ?_)
    · skip
      rw [t_tp, if_pos hc19]
      refine e_go hk_39 1 (c := (30, [.ref 5, .int low, .int (nI u), .int d, .int (nI i)], [.int (nI i)], hp Z P L)) rfl ?_
      exact e_ret hk_39 rfl rfl rfl rfl rfl
    · skip
      rw [t_tp, if_neg hc19]
      refine e_go hk_39 2 (c := (3, [.ref 5, .int low, .int (nI u), .int d, .int ((nI i) + 1)], [], hp Z P L)) rfl ?_
      rw [nI_1]
      exact x_top_l hu k (i + 1) (by omega)
theorem x_top {Z : Nat → Nat → Int32} {P : Nat → Nat} {L : Nat} {l u : Nat} {d : Int32} (hl : l ≤ u) (hu : u < 60) : m_r 39 [.ref 5, .int (nI l), .int (nI u), .int d] (hp Z P L) (some (.int (nI (t_tp (Z 15) d l (u - l))))) (hp Z P L) := by
  refine m_of (ls := [.ref 5, .int (nI l), .int (nI u), .int d, s_no]) hk_39 rfl rfl rfl ?_
  refine e_go hk_39 2 (c := (3, [.ref 5, .int (nI l), .int (nI u), .int d, .int (nI l)], [], hp Z P L)) rfl ?_
  exact x_top_l hu (u - l) l (by omega)
theorem x_heavy {Z : Nat → Nat → Int32} {P : Nat → Nat} {L : Nat} {l r : Int32} : m_r 40 [.ref 5, .int l, .int r] (hp Z P L) (some (.int (y_b (y_th (Z 7 0) l r)))) (hp Z P L) := by
  refine m_of (ls := [.ref 5, .int l, .int r]) hk_40 rfl rfl rfl ?_
  refine e_go hk_40 8 (c := (13, [.ref 5, .int l, .int r], [.int 0, .ref 6, .int (100 * (if l < r then r else l))], hp Z P L)) rfl ?_
  refine e_call hk_40 (as := [.ref 6, .int (nI 0)]) (rest := [.int (100 * (if l < r then r else l))]) rfl rfl hk_22 rfl (Nat.le_of_ble_eq_true rfl) rfl (x_at (r := 6) (a := 7) (n := 3) rfl rfl rfl (by decide) (j := 0) (by decide)) ?_
  show e_r 40 16 [.ref 5, .int l, .int r] [.int (Z 7 0), .int (100 * (if l < r then r else l))] (hp Z P L) _ _
  refine e_go hk_40 7 (c := (if s_cnd .le (100 * (if l < r then r else l)) ((Z 7 0) * ((l + r) + 1)) = true then 29 else 25, [.ref 5, .int l, .int r], [], hp Z P L)) rfl ?_
  refine e_le (a := 29) (b := 25) (x := 100 * (if l < r then r else l)) (y := (Z 7 0) * ((l + r) + 1)) (fun hc22 => ?_) (fun hc22 => ?_)
  · skip
    refine e_go hk_40 1 (c := (30, [.ref 5, .int l, .int r], [.int 0], hp Z P L)) rfl ?_
    exact e_ret hk_40 rfl rfl rfl (by rw [y_th, decide_eq_false (Int32.not_lt.mpr hc22)]; rfl) rfl
  · skip
    refine e_go hk_40 2 (c := (30, [.ref 5, .int l, .int r], [.int 1], hp Z P L)) rfl ?_
    exact e_ret hk_40 rfl rfl rfl (by rw [y_th, decide_eq_true (Int32.not_le.mp hc22)]; rfl) rfl
theorem s_rxz {v : Bool} : s_rx .ireturn (some .boolean) [.int (y_b v)] = some (some (.int (y_b v))) := by cases v <;> rfl
theorem x_leans {Z : Nat → Nat → Int32} {P : Nat → Nat} {L n : Nat} (hN : Z 5 6 = nI n) (hn : n ≤ 60) {j : Nat} (hj : j < n) : m_r 41 [.ref 5, .int (nI j)] (hp Z P L) (some (.int (y_b (t_ln Z n j)))) (hp Z P L) := by
  refine m_of (ls := [.ref 5, .int (nI j)]) hk_41 rfl rfl rfl ?_
  refine e_go hk_41 4 (c := (4, [.ref 5, .int (nI j)], [.int (nI j), .ref 5, .int (nI j), .ref 5], hp Z P L)) rfl ?_
  refine e_call hk_41 (as := [.ref 5, .int (nI j)]) (rest := [.int (nI j), .ref 5]) rfl rfl hk_37 rfl (Nat.le_of_ble_eq_true rfl) rfl (x_low (j := j) (by omega)) ?_
  show e_r 41 7 [.ref 5, .int (nI j)] [.int (nI (t_L Z j)), .int (nI j), .ref 5] (hp Z P L) _ _
  refine e_go hk_41 3 (c := (10, [.ref 5, .int (nI j)], [.int (nI j), .ref 5, .int ((nI j) - (nI (t_L Z j))), .ref 5], hp Z P L)) rfl ?_
  refine e_call hk_41 (as := [.ref 5, .int (nI j)]) (rest := [.int ((nI j) - (nI (t_L Z j))), .ref 5]) rfl rfl hk_38 rfl (Nat.le_of_ble_eq_true rfl) rfl (x_high hN hn (j := j) (by omega)) ?_
  show e_r 41 13 [.ref 5, .int (nI j)] [.int (nI (t_H Z n j)), .int ((nI j) - (nI (t_L Z j))), .ref 5] (hp Z P L) _ _
  refine e_go hk_41 2 (c := (15, [.ref 5, .int (nI j)], [.int ((nI (t_H Z n j)) - (nI j)), .int ((nI j) - (nI (t_L Z j))), .ref 5], hp Z P L)) rfl ?_
  refine e_call hk_41 (as := [.ref 5, .int ((nI j) - (nI (t_L Z j))), .int ((nI (t_H Z n j)) - (nI j))]) (rest := []) rfl rfl hk_40 rfl (Nat.le_of_ble_eq_true rfl) rfl x_heavy ?_
  show e_r 41 18 [.ref 5, .int (nI j)] [.int (y_b (y_th (Z 7 0) ((nI j) - (nI (t_L Z j))) ((nI (t_H Z n j)) - (nI j))))] (hp Z P L) _ _
  exact e_ret hk_41 rfl rfl s_rxz rfl rfl
theorem x_lnodes_l {Z : Nat → Nat → Int32} {P : Nat → Nat} {L n : Nat} (hN : Z 5 6 = nI n) (hn : n ≤ 60)  : ∀ (k i : Nat) (a : Int32), i + k = n → e_r 42 4 [.ref 5, .int a, .int (nI i)] [] (hp Z P L) (some (.int (t_lnc Z n i k a))) (hp Z P L)
  | 0, i, a, hi => by
    refine e_go hk_42 4 (c := (if s_cnd .ge (nI i) (Z 5 6) = true then 34 else 12, [.ref 5, .int a, .int (nI i)], [], hp Z P L)) rfl ?_
    refine e_ge (a := 34) (b := 12) (x := nI i) (y := Z 5 6) (fun hc9 => ?_) (fun hc9 => absurd (by rw [hN]; exact (y_le (by omega) (by omega)).mpr (by omega)) hc9)
    refine e_go hk_42 1 (c := (35, [.ref 5, .int a, .int (nI i)], [.int a], hp Z P L)) rfl ?_
    exact e_ret hk_42 rfl rfl rfl rfl rfl
  | k + 1, i, a, hi => by
    refine e_go hk_42 4 (c := (if s_cnd .ge (nI i) (Z 5 6) = true then 34 else 12, [.ref 5, .int a, .int (nI i)], [], hp Z P L)) rfl ?_
    refine e_ge (a := 34) (b := 12) (x := nI i) (y := Z 5 6) (fun hc9 => absurd hc9 (by rw [hN]; exact nI_ge (by omega) (by omega))) (fun hc9 => ?_)
    refine e_go hk_42 3 (c := (15, [.ref 5, .int a, .int (nI i)], [.int (nI i), .ref 5, .int a], hp Z P L)) rfl ?_
    refine e_call hk_42 (as := [.ref 5, .int (nI i)]) (rest := [.int a]) rfl rfl hk_41 rfl (Nat.le_of_ble_eq_true rfl) rfl (x_leans hN hn (j := i) (by omega)) ?_
    show e_r 42 18 [.ref 5, .int a, .int (nI i)] [.int (y_b (t_ln Z n i)), .int a] (hp Z P L) _ _
    refine e_go hk_42 1 (c := (if s_cnd .eq (y_b (t_ln Z n i)) 0 = true then 25 else 21, [.ref 5, .int a, .int (nI i)], [.int a], hp Z P L)) rfl ?_
    refine e_eq (a := 25) (b := 21) (x := y_b (t_ln Z n i)) (y := 0) (fun hc18 => ?_) (fun hc18 => ?_)
    · skip
      rw [y_b0] at hc18
      rw [t_lnc, hc18, y_bf]
      refine e_go hk_42 5 (c := (4, [.ref 5, .int (a + 0), .int ((nI i) + 1)], [], hp Z P L)) rfl ?_
      rw [nI_1]
      exact x_lnodes_l hN hn k (i + 1) _ (by omega)
    · skip
      rw [y_b1] at hc18
      rw [t_lnc, hc18, y_bt]
      refine e_go hk_42 6 (c := (4, [.ref 5, .int (a + 1), .int ((nI i) + 1)], [], hp Z P L)) rfl ?_
      rw [nI_1]
      exact x_lnodes_l hN hn k (i + 1) _ (by omega)
theorem x_lnodes {Z : Nat → Nat → Int32} {P : Nat → Nat} {L n : Nat} (hN : Z 5 6 = nI n) (hn : n ≤ 60) : m_r 42 [.ref 5] (hp Z P L) (some (.int (t_lnc Z n 0 n 0))) (hp Z P L) := by
  refine m_of (ls := [.ref 5, s_no, s_no]) hk_42 rfl rfl rfl ?_
  refine e_go hk_42 4 (c := (4, [.ref 5, .int 0, .int 0], [], hp Z P L)) rfl ?_
  exact x_lnodes_l hN hn n 0 0 (by omega)
