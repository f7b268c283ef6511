/-! Tree: enter, hollowOut; printed by wip/whole/gen/tree5.py -/
def t_cl (c : Nat) : Prop := c = 9 ∨ c = 11 ∨ c = 13 ∨ c = 15 ∨ c = 17
theorem s_upd_c {Z : Nat → Nat → Int32} {a k c i : Nat} {x : Int32} : s_upd Z a k x c i = if c = a ∧ i = k then x else Z c i := by
  unfold s_upd upd
  by_cases h1 : c = a
  · by_cases h2 : i = k
    · simp [h1, h2]
    · simp [h1, h2]
  · simp [h1]
theorem s_upd_o {Z : Nat → Nat → Int32} {a k c : Nat} {x : Int32} (h : c ≠ a) : s_upd Z a k x c = Z c := if_neg h
theorem t_mv_get {Z : Nat → Nat → Int32} {i j c x : Nat} (hc : t_cl c) : t_mv Z i j c x = if x = j then Z c i else Z c x := by
  unfold t_mv
  rcases hc with rfl | rfl | rfl | rfl | rfl <;> simp [s_upd_c]
theorem t_mv_o {Z : Nat → Nat → Int32} {i j c : Nat} (hc : ¬ t_cl c) : t_mv Z i j c = Z c := by
  unfold t_cl at hc
  simp only [not_or] at hc
  obtain ⟨h1, h2, h3, h4, h5⟩ := hc
  unfold t_mv
  rw [s_upd_o h5, s_upd_o h4, s_upd_o h3, s_upd_o h2, s_upd_o h1]
theorem t_sh_get {c : Nat} (hc : t_cl c) : ∀ (k q : Nat) (Z : Nat → Nat → Int32) (i : Nat), k ≤ q → t_sh k q Z c i = if q - k < i ∧ i ≤ q then Z c (i - 1) else Z c i
  | 0, q, Z, i, h => by
    rw [t_sh, if_neg (by omega)]
  | k + 1, q, Z, i, h => by
    rw [t_sh, t_sh_get hc k (q - 1) _ i (by omega), t_mv_get hc, t_mv_get hc]
    by_cases h1 : i = q
    · rw [if_neg (show ¬ (q - 1 - k < i ∧ i ≤ q - 1) by omega), if_pos h1, if_pos (by omega), h1]
    · by_cases h2 : q - 1 - k < i ∧ i ≤ q - 1
      · rw [if_pos h2, if_neg (by omega), if_pos (by omega)]
      · rw [if_neg h2, if_neg h1, if_neg (by omega)]
theorem t_sh_o {c : Nat} (hc : ¬ t_cl c) : ∀ (k q : Nat) (Z : Nat → Nat → Int32), t_sh k q Z c = Z c
  | 0, q, Z => rfl
  | k + 1, q, Z => by rw [t_sh, t_sh_o hc k (q - 1), t_mv_o hc]
theorem t_cl5 : ¬ t_cl 5 := by unfold t_cl; omega
theorem t_mk_N {Z : Nat → Nat → Int32} {n p : Nat} {key value : Int32} (hN : Z 5 6 = nI n) : t_mk Z n p key value 5 6 = nI (n + 1) := by
  show (t_sh (n - p) n Z) 5 6 + 1 = _
  rw [t_sh_o t_cl5, hN, nI_1]
theorem t_mk_o {Z : Nat → Nat → Int32} {n p c : Nat} {key value : Int32} (hc : ¬ t_cl c) (h5 : c ≠ 5) : t_mk Z n p key value c = Z c := by
  have h := hc
  unfold t_cl at h
  simp only [not_or] at h
  obtain ⟨h1, h2, h3, h4, h6⟩ := h
  unfold t_mk t_mt
  rw [s_upd_o h6, s_upd_o h4, s_upd_o h3, s_upd_o h2, s_upd_o h1, s_upd_o h5, t_sh_o hc]
/-- a new node at p: the columns -/
theorem t_mk_get {Z : Nat → Nat → Int32} {n p i : Nat} {key value : Int32} (hp : p ≤ n) (hi : i ≤ n) (c : Nat) (hc : t_cl c) : t_mk Z n p key value c i = if i < p then Z c i else if i = p then (if c = 9 then key else if c = 11 then value else if c = 13 then 0 else if c = 15 then y_mx (t_bf (Z 15) p) (t_bh (Z 15) n p) + 1 else 1) else Z c (i - 1) := by
  have hg1 : i < p → t_sh (n - p) n Z c i = Z c i := fun h => by rw [t_sh_get hc (n - p) n Z i (by omega), if_neg (by omega)]
  have hg2 : p < i → t_sh (n - p) n Z c i = Z c (i - 1) := fun h => by rw [t_sh_get hc (n - p) n Z i (by omega), if_pos (by omega)]
  unfold t_mk t_mt
  by_cases h1 : i < p
  · rw [if_pos h1, ← hg1 h1]
    have h2 : ¬ i = p := by omega
    rcases hc with rfl | rfl | rfl | rfl | rfl <;> simp [s_upd_c, h2]
  · rw [if_neg h1]
    by_cases h2 : i = p
    · rw [if_pos h2]
      subst h2
      rcases hc with rfl | rfl | rfl | rfl | rfl <;> simp [s_upd_c]
    · rw [if_neg h2, ← hg2 (by omega)]
      rcases hc with rfl | rfl | rfl | rfl | rfl <;> simp [s_upd_c, h2]
theorem t_py_o {p c : Nat} (hc : c ≠ 13) : ∀ (k d l u : Nat) (Z : Nat → Nat → Int32), t_py p k d l u Z c = Z c
  | 0, d, l, u, Z => rfl
  | k + 1, d, l, u, Z => by
    rw [t_py]
    split
    · rfl
    split
    · exact s_upd_o hc
    split
    · rw [t_py_o hc k, s_upd_o hc]
    · rw [t_py_o hc k, s_upd_o hc]
def t_en (Z : Nat → Nat → Int32) (n : Nat) (key value : Int32) : Int32 × (Nat → Nat → Int32) := if t_rm Z n key = false then (-4, Z) else match t_nd (Z 9) n key with
  | some j => (0, t_py j 60 0 0 n (s_upd (s_upd Z 11 j value) 17 j 1))
  | none => match t_wl (Z 15) (Z 7 0) (t_pl (Z 9) key 0 n) 60 0 0 n with
    | none => (0, t_py (t_pl (Z 9) key 0 n) 60 0 0 (n + 1) (t_mk Z n (t_pl (Z 9) key 0 n) key value))
    | some j => (t_wt (t_py (t_pl (Z 9) key 0 n) 60 0 0 (n + 1) (t_mk Z n (t_pl (Z 9) key 0 n) key value)) (n + 1) (if j < t_pl (Z 9) key 0 n then j else j + 1), t_la (t_py (t_pl (Z 9) key 0 n) 60 0 0 (n + 1) (t_mk Z n (t_pl (Z 9) key 0 n) key value)) (n + 1) (if j < t_pl (Z 9) key 0 n then j else j + 1))
theorem t_nd_pl {K : Nat → Int32} {n j : Nat} {key : Int32} (h : t_nd K n key = some j) : t_pl K key 0 n = j := by
  unfold t_nd at h
  split at h
  · exact Option.some.inj h
  · cases h
theorem x_en_no {Z : Nat → Nat → Int32} {P : Nat → Nat} {L n : Nat} (hN : Z 5 6 = nI n) (hn : n ≤ 60) (hF : ∀ i, i < n → Z 17 i = 0 ∨ Z 17 i = 1) {key value : Int32} (hr : t_rm Z n key = false) : m_r 46 [.ref 5, .int key, .int value] (hp Z P L) (some (.int (t_en Z n key value).1)) (hp (t_en Z n key value).2 P L) := by
  refine m_of (ls := [.ref 5, .int key, .int value, s_no, s_no]) hk_46 rfl rfl rfl ?_
  refine e_go hk_46 2 (c := (2, [.ref 5, .int key, .int value, s_no, s_no], [.int key, .ref 5], hp Z P L)) rfl ?_
  refine e_call hk_46 (as := [.ref 5, .int key]) (rest := []) rfl rfl hk_45 rfl (Nat.le_of_ble_eq_true rfl) rfl (show m_r 45 [.ref 5, .int key] (hp Z P L) (some (.int 0)) (hp Z P L) from (by have := x_room (P := P) (L := L) (key := key) hN hn; rw [hr] at this; exact this)) ?_
  show e_r 46 5 [.ref 5, .int key, .int value, s_no, s_no] [.int 0] (hp Z P L) _ _
  refine e_go hk_46 1 (c := (if s_cnd .ne 0 0 = true then 11 else 8, [.ref 5, .int key, .int value, s_no, s_no], [], hp Z P L)) rfl ?_
  refine e_ne (a := 11) (b := 8) (x := 0) (y := 0) (fun hc5 => absurd (rfl) hc5) (fun hc5 => ?_)
  refine e_go hk_46 1 (c := (10, [.ref 5, .int key, .int value, s_no, s_no], [.int ((-4))], hp Z P L)) rfl ?_
  exact e_ret hk_46 rfl rfl rfl (by rw [t_en, if_pos hr]) (by rw [t_en, if_pos hr])
theorem x_en_old {Z : Nat → Nat → Int32} {P : Nat → Nat} {L n : Nat} (hN : Z 5 6 = nI n) (hn : n ≤ 60) (hF : ∀ i, i < n → Z 17 i = 0 ∨ Z 17 i = 1) {key value : Int32} {j : Nat} (hr : t_rm Z n key = true) (hq : t_nd (Z 9) n key = some j) : m_r 46 [.ref 5, .int key, .int value] (hp Z P L) (some (.int (t_en Z n key value).1)) (hp (t_en Z n key value).2 P L) := by
  have hjn := (t_nd_lt hq).1
  refine m_of (ls := [.ref 5, .int key, .int value, s_no, s_no]) hk_46 rfl rfl rfl ?_
  refine e_go hk_46 2 (c := (2, [.ref 5, .int key, .int value, s_no, s_no], [.int key, .ref 5], hp Z P L)) rfl ?_
  refine e_call hk_46 (as := [.ref 5, .int key]) (rest := []) rfl rfl hk_45 rfl (Nat.le_of_ble_eq_true rfl) rfl (show m_r 45 [.ref 5, .int key] (hp Z P L) (some (.int 1)) (hp Z P L) from (by have := x_room (P := P) (L := L) (key := key) hN hn; rw [hr] at this; exact this)) ?_
  show e_r 46 5 [.ref 5, .int key, .int value, s_no, s_no] [.int 1] (hp Z P L) _ _
  refine e_go hk_46 1 (c := (if s_cnd .ne 1 0 = true then 11 else 8, [.ref 5, .int key, .int value, s_no, s_no], [], hp Z P L)) rfl ?_
  refine e_ne (a := 11) (b := 8) (x := 1) (y := 0) (fun hc5 => ?_) (fun hc5 => absurd hc5 (by decide))
  refine e_go hk_46 2 (c := (13, [.ref 5, .int key, .int value, s_no, s_no], [.int key, .ref 5], hp Z P L)) rfl ?_
  refine e_call hk_46 (as := [.ref 5, .int key]) (rest := []) rfl rfl hk_30 rfl (Nat.le_of_ble_eq_true rfl) rfl (show m_r 30 [.ref 5, .int key] (hp Z P L) (some (.int (nI j))) (hp Z P L) from (by have := x_place (P := P) (L := L) (key := key) hN hn; rw [t_nd_pl hq] at this; exact this)) ?_
  show e_r 46 16 [.ref 5, .int key, .int value, s_no, s_no] [.int (nI j)] (hp Z P L) _ _
  refine e_go hk_46 3 (c := (19, [.ref 5, .int key, .int value, .int (nI j), s_no], [.int key, .ref 5], hp Z P L)) rfl ?_
  refine e_call hk_46 (as := [.ref 5, .int key]) (rest := []) rfl rfl hk_31 rfl (Nat.le_of_ble_eq_true rfl) rfl (show m_r 31 [.ref 5, .int key] (hp Z P L) (some (.int (nI j))) (hp Z P L) from (by have := x_node (P := P) (L := L) (key := key) hN hn; rw [hq] at this; exact this)) ?_
  show e_r 46 22 [.ref 5, .int key, .int value, .int (nI j), s_no] [.int (nI j)] (hp Z P L) _ _
  refine e_go hk_46 2 (c := (if s_cnd .eq (nI j) ((-6)) = true then 52 else 27, [.ref 5, .int key, .int value, .int (nI j), s_no], [], hp Z P L)) rfl ?_
  refine e_eq (a := 52) (b := 27) (x := nI j) (y := (-6)) (fun hc24 => absurd hc24 (fun z => absurd ((y_o_none (q := some j) (fun i hi => by cases hi; omega)).mp z) (by simp))) (fun hc24 => ?_)
  refine e_go hk_46 4 (c := (33, [.ref 5, .int key, .int value, .int (nI j), s_no], [.int value, .int (nI j), .ref 10], hp Z P L)) rfl ?_
  refine e_call hk_46 (as := [.ref 10, .int (nI j), .int value]) (rest := []) rfl rfl hk_23 rfl (Nat.le_of_ble_eq_true rfl) rfl (x_write (r := 10) (a := 11) (n := 60) rfl rfl rfl (by decide) (by decide) (j := j) (by omega)) ?_
  show e_r 46 36 [.ref 5, .int key, .int value, .int (nI j), s_no] [] (hp (s_upd Z 11 j value) P L) _ _
  refine e_go hk_46 4 (c := (42, [.ref 5, .int key, .int value, .int (nI j), s_no], [.int 1, .int (nI j), .ref 16], hp (s_upd Z 11 j value) P L)) rfl ?_
  refine e_call hk_46 (as := [.ref 16, .int (nI j), .int 1]) (rest := []) rfl rfl hk_23 rfl (Nat.le_of_ble_eq_true rfl) rfl (x_write (r := 16) (a := 17) (n := 60) rfl rfl rfl (by decide) (by decide) (j := j) (by omega)) ?_
  show e_r 46 45 [.ref 5, .int key, .int value, .int (nI j), s_no] [] (hp (s_upd (s_upd Z 11 j value) 17 j 1) P L) _ _
  refine e_go hk_46 2 (c := (47, [.ref 5, .int key, .int value, .int (nI j), s_no], [.int (nI j), .ref 5], hp (s_upd (s_upd Z 11 j value) 17 j 1) P L)) rfl ?_
  refine e_call hk_46 (as := [.ref 5, .int (nI j)]) (rest := []) rfl rfl hk_49 rfl (Nat.le_of_ble_eq_true rfl) rfl (x_pay (Z := s_upd (s_upd Z 11 j value) 17 j 1) (n := n) hN hn (p := j) (by omega)) ?_
  show e_r 46 50 [.ref 5, .int key, .int value, .int (nI j), s_no] [] (hp ((t_py j 60 0 0 n (s_upd (s_upd Z 11 j value) 17 j 1))) P L) _ _
  refine e_go hk_46 1 (c := (51, [.ref 5, .int key, .int value, .int (nI j), s_no], [.int 0], hp ((t_py j 60 0 0 n (s_upd (s_upd Z 11 j value) 17 j 1))) P L)) rfl ?_
  exact e_ret hk_46 rfl rfl rfl (by rw [t_en, if_neg (by rw [hr]; decide), hq]) (by rw [t_en, if_neg (by rw [hr]; decide), hq])
theorem x_en_none {Z : Nat → Nat → Int32} {P : Nat → Nat} {L n : Nat} (hN : Z 5 6 = nI n) (hn : n ≤ 60) (hF : ∀ i, i < n → Z 17 i = 0 ∨ Z 17 i = 1) {key value : Int32} (hr : t_rm Z n key = true) (hq : t_nd (Z 9) n key = none) (hw : t_wl (Z 15) (Z 7 0) (t_pl (Z 9) key 0 n) 60 0 0 n = none) : m_r 46 [.ref 5, .int key, .int value] (hp Z P L) (some (.int (t_en Z n key value).1)) (hp (t_en Z n key value).2 P L) := by
  have hpl := (t_pl_le (Z 9) key n 0).2
  have hlt : n < 60 := by
    rcases Nat.lt_or_ge n 60 with z | z
    · exact z
    · rw [t_rm, hq, decide_eq_false (by omega)] at hr; cases hr
  refine m_of (ls := [.ref 5, .int key, .int value, s_no, s_no]) hk_46 rfl rfl rfl ?_
  refine e_go hk_46 2 (c := (2, [.ref 5, .int key, .int value, s_no, s_no], [.int key, .ref 5], hp Z P L)) rfl ?_
  refine e_call hk_46 (as := [.ref 5, .int key]) (rest := []) rfl rfl hk_45 rfl (Nat.le_of_ble_eq_true rfl) rfl (show m_r 45 [.ref 5, .int key] (hp Z P L) (some (.int 1)) (hp Z P L) from (by have := x_room (P := P) (L := L) (key := key) hN hn; rw [hr] at this; exact this)) ?_
  show e_r 46 5 [.ref 5, .int key, .int value, s_no, s_no] [.int 1] (hp Z P L) _ _
  refine e_go hk_46 1 (c := (if s_cnd .ne 1 0 = true then 11 else 8, [.ref 5, .int key, .int value, s_no, s_no], [], hp Z P L)) rfl ?_
  refine e_ne (a := 11) (b := 8) (x := 1) (y := 0) (fun hc5 => ?_) (fun hc5 => absurd hc5 (by decide))
  refine e_go hk_46 2 (c := (13, [.ref 5, .int key, .int value, s_no, s_no], [.int key, .ref 5], hp Z P L)) rfl ?_
  refine e_call hk_46 (as := [.ref 5, .int key]) (rest := []) rfl rfl hk_30 rfl (Nat.le_of_ble_eq_true rfl) rfl (x_place hN hn) ?_
  show e_r 46 16 [.ref 5, .int key, .int value, s_no, s_no] [.int (nI (t_pl (Z 9) key 0 n))] (hp Z P L) _ _
  refine e_go hk_46 3 (c := (19, [.ref 5, .int key, .int value, .int (nI (t_pl (Z 9) key 0 n)), s_no], [.int key, .ref 5], hp Z P L)) rfl ?_
  refine e_call hk_46 (as := [.ref 5, .int key]) (rest := []) rfl rfl hk_31 rfl (Nat.le_of_ble_eq_true rfl) rfl (show m_r 31 [.ref 5, .int key] (hp Z P L) (some (.int (-6))) (hp Z P L) from (by have := x_node (P := P) (L := L) (key := key) hN hn; rw [hq] at this; exact this)) ?_
  show e_r 46 22 [.ref 5, .int key, .int value, .int (nI (t_pl (Z 9) key 0 n)), s_no] [.int ((-6))] (hp Z P L) _ _
  refine e_go hk_46 2 (c := (if s_cnd .eq ((-6)) ((-6)) = true then 52 else 27, [.ref 5, .int key, .int value, .int (nI (t_pl (Z 9) key 0 n)), s_no], [], hp Z P L)) rfl ?_
  refine e_eq (a := 52) (b := 27) (x := (-6)) (y := (-6)) (fun hc24 => ?_) (fun hc24 => absurd (rfl) hc24)
  refine e_go hk_46 2 (c := (54, [.ref 5, .int key, .int value, .int (nI (t_pl (Z 9) key 0 n)), s_no], [.int (nI (t_pl (Z 9) key 0 n)), .ref 5], hp Z P L)) rfl ?_
  refine e_call hk_46 (as := [.ref 5, .int (nI (t_pl (Z 9) key 0 n))]) (rest := []) rfl rfl hk_43 rfl (Nat.le_of_ble_eq_true rfl) rfl (show m_r 43 [.ref 5, .int (nI (t_pl (Z 9) key 0 n))] (hp Z P L) (some (.int (-6))) (hp Z P L) from (by have := x_would (P := P) (L := L) (p := t_pl (Z 9) key 0 n) hN hn (by omega); rw [hw] at this; exact this)) ?_
  show e_r 46 57 [.ref 5, .int key, .int value, .int (nI (t_pl (Z 9) key 0 n)), s_no] [.int ((-6))] (hp Z P L) _ _
  refine e_go hk_46 5 (c := (63, [.ref 5, .int key, .int value, .int (nI (t_pl (Z 9) key 0 n)), .int ((-6))], [.int value, .int key, .int (nI (t_pl (Z 9) key 0 n)), .ref 5], hp Z P L)) rfl ?_
  refine e_call hk_46 (as := [.ref 5, .int (nI (t_pl (Z 9) key 0 n)), .int key, .int value]) (rest := []) rfl rfl hk_50 rfl (Nat.le_of_ble_eq_true rfl) rfl (x_make hN hn (p := t_pl (Z 9) key 0 n) (by omega) hlt) ?_
  show e_r 46 66 [.ref 5, .int key, .int value, .int (nI (t_pl (Z 9) key 0 n)), .int ((-6))] [] (hp ((t_mk Z n (t_pl (Z 9) key 0 n) key value)) P L) _ _
  refine e_go hk_46 2 (c := (68, [.ref 5, .int key, .int value, .int (nI (t_pl (Z 9) key 0 n)), .int ((-6))], [.int (nI (t_pl (Z 9) key 0 n)), .ref 5], hp ((t_mk Z n (t_pl (Z 9) key 0 n) key value)) P L)) rfl ?_
  refine e_call hk_46 (as := [.ref 5, .int (nI (t_pl (Z 9) key 0 n))]) (rest := []) rfl rfl hk_49 rfl (Nat.le_of_ble_eq_true rfl) rfl (x_pay (Z := (t_mk Z n (t_pl (Z 9) key 0 n) key value)) (n := n + 1) (t_mk_N hN) (by omega) (p := t_pl (Z 9) key 0 n) (by omega)) ?_
  show e_r 46 71 [.ref 5, .int key, .int value, .int (nI (t_pl (Z 9) key 0 n)), .int ((-6))] [] (hp ((t_py (t_pl (Z 9) key 0 n) 60 0 0 (n + 1) (t_mk Z n (t_pl (Z 9) key 0 n) key value))) P L) _ _
  refine e_go hk_46 3 (c := (if s_cnd .ne ((-6)) ((-6)) = true then 80 else 78, [.ref 5, .int key, .int value, .int (nI (t_pl (Z 9) key 0 n)), .int ((-6))], [], hp ((t_py (t_pl (Z 9) key 0 n) 60 0 0 (n + 1) (t_mk Z n (t_pl (Z 9) key 0 n) key value))) P L)) rfl ?_
  refine e_ne (a := 80) (b := 78) (x := (-6)) (y := (-6)) (fun hc75 => absurd (rfl) hc75) (fun hc75 => ?_)
  refine e_go hk_46 1 (c := (79, [.ref 5, .int key, .int value, .int (nI (t_pl (Z 9) key 0 n)), .int ((-6))], [.int 0], hp ((t_py (t_pl (Z 9) key 0 n) 60 0 0 (n + 1) (t_mk Z n (t_pl (Z 9) key 0 n) key value))) P L)) rfl ?_
  exact e_ret hk_46 rfl rfl rfl (by rw [t_en, if_neg (by rw [hr]; decide), hq]; dsimp only; rw [hw]) (by rw [t_en, if_neg (by rw [hr]; decide), hq]; dsimp only; rw [hw])
theorem x_en_lean {Z : Nat → Nat → Int32} {P : Nat → Nat} {L n : Nat} (hN : Z 5 6 = nI n) (hn : n ≤ 60) (hF : ∀ i, i < n → Z 17 i = 0 ∨ Z 17 i = 1) {key value : Int32} (hr : t_rm Z n key = true) (hq : t_nd (Z 9) n key = none) {j : Nat} (hw : t_wl (Z 15) (Z 7 0) (t_pl (Z 9) key 0 n) 60 0 0 n = some j) : m_r 46 [.ref 5, .int key, .int value] (hp Z P L) (some (.int (t_en Z n key value).1)) (hp (t_en Z n key value).2 P L) := by
  have hpl := (t_pl_le (Z 9) key n 0).2
  have hlt : n < 60 := by
    rcases Nat.lt_or_ge n 60 with z | z
    · exact z
    · rw [t_rm, hq, decide_eq_false (by omega)] at hr; cases hr
  have hjn := t_wl_lt (Nat.le_refl n) hw
  have hN2 : (t_py (t_pl (Z 9) key 0 n) 60 0 0 (n + 1) (t_mk Z n (t_pl (Z 9) key 0 n) key value)) 5 6 = nI (n + 1) := by rw [t_py_o (by decide)]; exact t_mk_N hN
  have hF2 : ∀ i, i < n + 1 → (t_py (t_pl (Z 9) key 0 n) 60 0 0 (n + 1) (t_mk Z n (t_pl (Z 9) key 0 n) key value)) 17 i = 0 ∨ (t_py (t_pl (Z 9) key 0 n) 60 0 0 (n + 1) (t_mk Z n (t_pl (Z 9) key 0 n) key value)) 17 i = 1 := by
    intro i hi
    rw [t_py_o (by decide), t_mk_get (by omega) (by omega) 17 (by unfold t_cl; omega)]
    split
    · exact hF i (by omega)
    · split
      · exact Or.inr rfl
      · exact hF (i - 1) (by omega)
  refine m_of (ls := [.ref 5, .int key, .int value, s_no, s_no]) hk_46 rfl rfl rfl ?_
  refine e_go hk_46 2 (c := (2, [.ref 5, .int key, .int value, s_no, s_no], [.int key, .ref 5], hp Z P L)) rfl ?_
  refine e_call hk_46 (as := [.ref 5, .int key]) (rest := []) rfl rfl hk_45 rfl (Nat.le_of_ble_eq_true rfl) rfl (show m_r 45 [.ref 5, .int key] (hp Z P L) (some (.int 1)) (hp Z P L) from (by have := x_room (P := P) (L := L) (key := key) hN hn; rw [hr] at this; exact this)) ?_
  show e_r 46 5 [.ref 5, .int key, .int value, s_no, s_no] [.int 1] (hp Z P L) _ _
  refine e_go hk_46 1 (c := (if s_cnd .ne 1 0 = true then 11 else 8, [.ref 5, .int key, .int value, s_no, s_no], [], hp Z P L)) rfl ?_
  refine e_ne (a := 11) (b := 8) (x := 1) (y := 0) (fun hc5 => ?_) (fun hc5 => absurd hc5 (by decide))
  refine e_go hk_46 2 (c := (13, [.ref 5, .int key, .int value, s_no, s_no], [.int key, .ref 5], hp Z P L)) rfl ?_
  refine e_call hk_46 (as := [.ref 5, .int key]) (rest := []) rfl rfl hk_30 rfl (Nat.le_of_ble_eq_true rfl) rfl (x_place hN hn) ?_
  show e_r 46 16 [.ref 5, .int key, .int value, s_no, s_no] [.int (nI (t_pl (Z 9) key 0 n))] (hp Z P L) _ _
  refine e_go hk_46 3 (c := (19, [.ref 5, .int key, .int value, .int (nI (t_pl (Z 9) key 0 n)), s_no], [.int key, .ref 5], hp Z P L)) rfl ?_
  refine e_call hk_46 (as := [.ref 5, .int key]) (rest := []) rfl rfl hk_31 rfl (Nat.le_of_ble_eq_true rfl) rfl (show m_r 31 [.ref 5, .int key] (hp Z P L) (some (.int (-6))) (hp Z P L) from (by have := x_node (P := P) (L := L) (key := key) hN hn; rw [hq] at this; exact this)) ?_
  show e_r 46 22 [.ref 5, .int key, .int value, .int (nI (t_pl (Z 9) key 0 n)), s_no] [.int ((-6))] (hp Z P L) _ _
  refine e_go hk_46 2 (c := (if s_cnd .eq ((-6)) ((-6)) = true then 52 else 27, [.ref 5, .int key, .int value, .int (nI (t_pl (Z 9) key 0 n)), s_no], [], hp Z P L)) rfl ?_
  refine e_eq (a := 52) (b := 27) (x := (-6)) (y := (-6)) (fun hc24 => ?_) (fun hc24 => absurd (rfl) hc24)
  refine e_go hk_46 2 (c := (54, [.ref 5, .int key, .int value, .int (nI (t_pl (Z 9) key 0 n)), s_no], [.int (nI (t_pl (Z 9) key 0 n)), .ref 5], hp Z P L)) rfl ?_
  refine e_call hk_46 (as := [.ref 5, .int (nI (t_pl (Z 9) key 0 n))]) (rest := []) rfl rfl hk_43 rfl (Nat.le_of_ble_eq_true rfl) rfl (show m_r 43 [.ref 5, .int (nI (t_pl (Z 9) key 0 n))] (hp Z P L) (some (.int (nI j))) (hp Z P L) from (by have := x_would (P := P) (L := L) (p := t_pl (Z 9) key 0 n) hN hn (by omega); rw [hw] at this; exact this)) ?_
  show e_r 46 57 [.ref 5, .int key, .int value, .int (nI (t_pl (Z 9) key 0 n)), s_no] [.int (nI j)] (hp Z P L) _ _
  refine e_go hk_46 5 (c := (63, [.ref 5, .int key, .int value, .int (nI (t_pl (Z 9) key 0 n)), .int (nI j)], [.int value, .int key, .int (nI (t_pl (Z 9) key 0 n)), .ref 5], hp Z P L)) rfl ?_
  refine e_call hk_46 (as := [.ref 5, .int (nI (t_pl (Z 9) key 0 n)), .int key, .int value]) (rest := []) rfl rfl hk_50 rfl (Nat.le_of_ble_eq_true rfl) rfl (x_make hN hn (p := t_pl (Z 9) key 0 n) (by omega) hlt) ?_
  show e_r 46 66 [.ref 5, .int key, .int value, .int (nI (t_pl (Z 9) key 0 n)), .int (nI j)] [] (hp ((t_mk Z n (t_pl (Z 9) key 0 n) key value)) P L) _ _
  refine e_go hk_46 2 (c := (68, [.ref 5, .int key, .int value, .int (nI (t_pl (Z 9) key 0 n)), .int (nI j)], [.int (nI (t_pl (Z 9) key 0 n)), .ref 5], hp ((t_mk Z n (t_pl (Z 9) key 0 n) key value)) P L)) rfl ?_
  refine e_call hk_46 (as := [.ref 5, .int (nI (t_pl (Z 9) key 0 n))]) (rest := []) rfl rfl hk_49 rfl (Nat.le_of_ble_eq_true rfl) rfl (x_pay (Z := (t_mk Z n (t_pl (Z 9) key 0 n) key value)) (n := n + 1) (t_mk_N hN) (by omega) (p := t_pl (Z 9) key 0 n) (by omega)) ?_
  show e_r 46 71 [.ref 5, .int key, .int value, .int (nI (t_pl (Z 9) key 0 n)), .int (nI j)] [] (hp ((t_py (t_pl (Z 9) key 0 n) 60 0 0 (n + 1) (t_mk Z n (t_pl (Z 9) key 0 n) key value))) P L) _ _
  refine e_go hk_46 3 (c := (if s_cnd .ne (nI j) ((-6)) = true then 80 else 78, [.ref 5, .int key, .int value, .int (nI (t_pl (Z 9) key 0 n)), .int (nI j)], [], hp ((t_py (t_pl (Z 9) key 0 n) 60 0 0 (n + 1) (t_mk Z n (t_pl (Z 9) key 0 n) key value))) P L)) rfl ?_
  refine e_ne (a := 80) (b := 78) (x := nI j) (y := (-6)) (fun hc75 => ?_) (fun hc75 => absurd hc75 (fun z => absurd ((y_o_none (q := some j) (fun i hi => by cases hi; omega)).mp z) (by simp)))
  refine e_go hk_46 4 (c := (if s_cnd .ge (nI j) (nI (t_pl (Z 9) key 0 n)) = true then 92 else 87, [.ref 5, .int key, .int value, .int (nI (t_pl (Z 9) key 0 n)), .int (nI j)], [.ref 5], hp ((t_py (t_pl (Z 9) key 0 n) 60 0 0 (n + 1) (t_mk Z n (t_pl (Z 9) key 0 n) key value))) P L)) rfl ?_
  refine e_ge (a := 92) (b := 87) (x := nI j) (y := nI (t_pl (Z 9) key 0 n)) (fun hc84 => ?_) (fun hc84 => ?_)
  · skip
    rw [y_le (by omega) (by omega)] at hc84
    refine e_go hk_46 3 (c := (96, [.ref 5, .int key, .int value, .int (nI (t_pl (Z 9) key 0 n)), .int (nI j)], [.int ((nI j) + 1), .ref 5], hp ((t_py (t_pl (Z 9) key 0 n) 60 0 0 (n + 1) (t_mk Z n (t_pl (Z 9) key 0 n) key value))) P L)) rfl ?_
    rw [nI_1]
    refine e_call hk_46 (as := [.ref 5, .int (nI (j + 1))]) (rest := []) rfl rfl hk_52 rfl (Nat.le_of_ble_eq_true rfl) rfl (x_lay (Z := (t_py (t_pl (Z 9) key 0 n) 60 0 0 (n + 1) (t_mk Z n (t_pl (Z 9) key 0 n) key value))) (n := n + 1) hN2 (by omega) hF2 (j := (j + 1)) (by omega)) ?_
    show e_r 46 99 [.ref 5, .int key, .int value, .int (nI (t_pl (Z 9) key 0 n)), .int (nI j)] [.int (t_wt (t_py (t_pl (Z 9) key 0 n) 60 0 0 (n + 1) (t_mk Z n (t_pl (Z 9) key 0 n) key value)) (n + 1) (j + 1))] (hp ((t_la (t_py (t_pl (Z 9) key 0 n) 60 0 0 (n + 1) (t_mk Z n (t_pl (Z 9) key 0 n) key value)) (n + 1) (j + 1))) P L) _ _
    exact e_ret hk_46 rfl rfl rfl (by rw [t_en, if_neg (by rw [hr]; decide), hq]; dsimp only; rw [hw]; dsimp only; rw [if_neg (show ¬ j < t_pl (Z 9) key 0 n by omega)]) (by rw [t_en, if_neg (by rw [hr]; decide), hq]; dsimp only; rw [hw]; dsimp only; rw [if_neg (show ¬ j < t_pl (Z 9) key 0 n by omega)])
  · skip
    rw [y_le (by omega) (by omega)] at hc84
    refine e_go hk_46 2 (c := (96, [.ref 5, .int key, .int value, .int (nI (t_pl (Z 9) key 0 n)), .int (nI j)], [.int (nI j), .ref 5], hp ((t_py (t_pl (Z 9) key 0 n) 60 0 0 (n + 1) (t_mk Z n (t_pl (Z 9) key 0 n) key value))) P L)) rfl ?_
    refine e_call hk_46 (as := [.ref 5, .int (nI j)]) (rest := []) rfl rfl hk_52 rfl (Nat.le_of_ble_eq_true rfl) rfl (x_lay (Z := (t_py (t_pl (Z 9) key 0 n) 60 0 0 (n + 1) (t_mk Z n (t_pl (Z 9) key 0 n) key value))) (n := n + 1) hN2 (by omega) hF2 (j := j) (by omega)) ?_
    show e_r 46 99 [.ref 5, .int key, .int value, .int (nI (t_pl (Z 9) key 0 n)), .int (nI j)] [.int (t_wt (t_py (t_pl (Z 9) key 0 n) 60 0 0 (n + 1) (t_mk Z n (t_pl (Z 9) key 0 n) key value)) (n + 1) j)] (hp ((t_la (t_py (t_pl (Z 9) key 0 n) 60 0 0 (n + 1) (t_mk Z n (t_pl (Z 9) key 0 n) key value)) (n + 1) j)) P L) _ _
    exact e_ret hk_46 rfl rfl rfl (by rw [t_en, if_neg (by rw [hr]; decide), hq]; dsimp only; rw [hw]; dsimp only; rw [if_pos (show j < t_pl (Z 9) key 0 n by omega)]) (by rw [t_en, if_neg (by rw [hr]; decide), hq]; dsimp only; rw [hw]; dsimp only; rw [if_pos (show j < t_pl (Z 9) key 0 n by omega)])
theorem x_enter {Z : Nat → Nat → Int32} {P : Nat → Nat} {L n : Nat} (hN : Z 5 6 = nI n) (hn : n ≤ 60) (hF : ∀ i, i < n → Z 17 i = 0 ∨ Z 17 i = 1) {key value : Int32}  : m_r 46 [.ref 5, .int key, .int value] (hp Z P L) (some (.int (t_en Z n key value).1)) (hp (t_en Z n key value).2 P L) := by
  cases hr : t_rm Z n key with
  | false => exact x_en_no hN hn hF hr
  | true =>
    cases hq : t_nd (Z 9) n key with
    | some j => exact x_en_old hN hn hF hr hq
    | none =>
      cases hw : t_wl (Z 15) (Z 7 0) (t_pl (Z 9) key 0 n) 60 0 0 n with
      | none => exact x_en_none hN hn hF hr hq hw
      | some j => exact x_en_lean hN hn hF hr hq hw
