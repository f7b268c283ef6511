/-! The calls: questions; printed by wip/whole/gen/calls2.py -/
theorem t_kt_lt0 {F : Nat → Int32} {q : Int32} : ∀ (k i : Nat) (a : Int32) (j : Nat), t_kt F q i k a = some j → i ≤ j ∧ j < i + k
  | 0, i, a, j, h => by cases h
  | k + 1, i, a, j, h => by
    unfold t_kt at h
    split at h
    · split at h
      · cases h; omega
      · have := t_kt_lt0 k (i + 1) _ j h; omega
    · have := t_kt_lt0 k (i + 1) _ j h; omega
theorem t_kt_lt {F : Nat → Int32} {q : Int32} {n j : Nat} (h : t_kt F q 0 n 0 = some j) : j < n := by
  have := t_kt_lt0 n 0 0 j h
  omega
def c_val (Z : Nat → Nat → Int32) (n : Nat) (key : Int32) : Int32 := if y_nm key = true then (match t_fn (Z 9) (Z 17) n key with
  | none => -6
  | some j => Z 11 j) else -2
theorem x_val {Z : Nat → Nat → Int32} {P : Nat → Nat} {L n : Nat} (hN : Z 5 6 = nI n) (hn : n ≤ 60) (hF : ∀ i, i < n → Z 17 i = 0 ∨ Z 17 i = 1) {key : Int32} : m_r 61 [.ref 4, .int key] (hp Z P L) (some (.int (c_val Z n key))) (hp Z P L) := by
  refine m_of (ls := [.ref 4, .int key, s_no]) hk_61 rfl rfl rfl ?_
  refine e_go hk_61 1 (c := (1, [.ref 4, .int key, s_no], [.int key], hp Z P L)) rfl ?_
  refine e_call hk_61 (as := [.int key]) (rest := []) rfl rfl hk_79 rfl (Nat.le_of_ble_eq_true rfl) rfl (x_num (k := key)) ?_
  show e_r 61 4 [.ref 4, .int key, s_no] [.int (y_b (y_nm key))] (hp Z P L) _ _
  refine e_go hk_61 1 (c := (if s_cnd .ne (y_b (y_nm key)) 0 = true then 10 else 7, [.ref 4, .int key, s_no], [], hp Z P L)) rfl ?_
  refine e_ne (a := 10) (b := 7) (x := y_b (y_nm key)) (y := 0) (fun hc4 => ?_) (fun hc4 => ?_)
  · skip
    rw [y_b1] at hc4
    refine e_go hk_61 3 (c := (15, [.ref 4, .int key, s_no], [.int key, .ref 5], hp Z P L)) rfl ?_
    refine e_call hk_61 (as := [.ref 5, .int key]) (rest := []) rfl rfl hk_32 rfl (Nat.le_of_ble_eq_true rfl) rfl (x_fnode hN hn) ?_
    show e_r 61 18 [.ref 4, .int key, s_no] [.int (y_o (t_fn (Z 9) (Z 17) n key))] (hp Z P L) _ _
    refine e_go hk_61 4 (c := (if s_cnd .ne (y_o (t_fn (Z 9) (Z 17) n key)) ((-6)) = true then 30 else 25, [.ref 4, .int key, .int (y_o (t_fn (Z 9) (Z 17) n key))], [], hp Z P L)) rfl ?_
    refine e_ne (a := 30) (b := 25) (x := y_o (t_fn (Z 9) (Z 17) n key)) (y := (-6)) (fun hc22 => ?_) (fun hc22 => ?_)
    · skip
      rw [y_o_none (fun j hj => by have := (t_fn_lt hj).1; omega)] at hc22
      refine e_go hk_61 3 (c := (37, [.ref 4, .int key, .int (y_o (t_fn (Z 9) (Z 17) n key))], [.ref 10], hp Z P L)) rfl ?_
      obtain ⟨j, hj⟩ := Option.ne_none_iff_exists'.mp hc22
      have hjn := (fun z => (t_fn_lt z).1) hj
      rw [hj]
      refine e_go hk_61 1 (c := (38, [.ref 4, .int key, .int (nI j)], [.int (nI j), .ref 10], hp Z P L)) rfl ?_
      refine e_call hk_61 (as := [.ref 10, .int (nI j)]) (rest := []) rfl rfl hk_22 rfl (Nat.le_of_ble_eq_true rfl) rfl (x_at (r := 10) (a := 11) (n := 60) rfl rfl rfl (by decide) (j := j) (by omega)) ?_
      show e_r 61 41 [.ref 4, .int key, .int (nI j)] [.int (Z 11 j)] (hp Z P L) _ _
      exact e_ret hk_61 rfl rfl rfl (by rw [c_val, if_pos hc4, hj]) rfl
    · skip
      rw [y_o_none (fun j hj => by have := (t_fn_lt hj).1; omega)] at hc22
      refine e_go hk_61 2 (c := (41, [.ref 4, .int key, .int (y_o (t_fn (Z 9) (Z 17) n key))], [.int ((-6))], hp Z P L)) rfl ?_
      exact e_ret hk_61 rfl rfl rfl (by rw [c_val, if_pos hc4, hc22]) rfl
  · skip
    rw [y_b0] at hc4
    refine e_go hk_61 1 (c := (9, [.ref 4, .int key, s_no], [.int ((-2))], hp Z P L)) rfl ?_
    exact e_ret hk_61 rfl rfl rfl (by rw [c_val, if_neg (by rw [hc4]; decide)]) rfl
def c_rank (Z : Nat → Nat → Int32) (n : Nat) (key : Int32) : Int32 := if y_nm key = true then t_sm (Z 17) 0 (t_pl (Z 9) key 0 n) 0 else -2
theorem x_rank {Z : Nat → Nat → Int32} {P : Nat → Nat} {L n : Nat} (hN : Z 5 6 = nI n) (hn : n ≤ 60) (hF : ∀ i, i < n → Z 17 i = 0 ∨ Z 17 i = 1) {key : Int32} : m_r 66 [.ref 4, .int key] (hp Z P L) (some (.int (c_rank Z n key))) (hp Z P L) := by
  refine m_of (ls := [.ref 4, .int key]) hk_66 rfl rfl rfl ?_
  refine e_go hk_66 1 (c := (1, [.ref 4, .int key], [.int key], hp Z P L)) rfl ?_
  refine e_call hk_66 (as := [.int key]) (rest := []) rfl rfl hk_79 rfl (Nat.le_of_ble_eq_true rfl) rfl (x_num (k := key)) ?_
  show e_r 66 4 [.ref 4, .int key] [.int (y_b (y_nm key))] (hp Z P L) _ _
  refine e_go hk_66 1 (c := (if s_cnd .eq (y_b (y_nm key)) 0 = true then 18 else 7, [.ref 4, .int key], [], hp Z P L)) rfl ?_
  refine e_eq (a := 18) (b := 7) (x := y_b (y_nm key)) (y := 0) (fun hc4 => ?_) (fun hc4 => ?_)
  · skip
    rw [y_b0] at hc4
    refine e_go hk_66 1 (c := (20, [.ref 4, .int key], [.int ((-2))], hp Z P L)) rfl ?_
    exact e_ret hk_66 rfl rfl rfl (by rw [c_rank, if_neg (by rw [hc4]; decide)]) rfl
  · skip
    rw [y_b1] at hc4
    refine e_go hk_66 3 (c := (12, [.ref 4, .int key], [.int key, .ref 5], hp Z P L)) rfl ?_
    refine e_call hk_66 (as := [.ref 5, .int key]) (rest := []) rfl rfl hk_35 rfl (Nat.le_of_ble_eq_true rfl) rfl (x_ahead hN hn) ?_
    show e_r 66 15 [.ref 4, .int key] [.int (t_sm (Z 17) 0 (t_pl (Z 9) key 0 n) 0)] (hp Z P L) _ _
    refine e_go hk_66 1 (c := (20, [.ref 4, .int key], [.int (t_sm (Z 17) 0 (t_pl (Z 9) key 0 n) 0)], hp Z P L)) rfl ?_
    exact e_ret hk_66 rfl rfl rfl (by rw [c_rank, if_pos hc4]) rfl
def c_kth (Z : Nat → Nat → Int32) (n : Nat) (k : Int32) : Int32 := match t_kt (Z 17) k 0 n 0 with
  | none => -1
  | some j => Z 9 j
theorem x_ckth {Z : Nat → Nat → Int32} {P : Nat → Nat} {L n : Nat} (hN : Z 5 6 = nI n) (hn : n ≤ 60) (hF : ∀ i, i < n → Z 17 i = 0 ∨ Z 17 i = 1) {k : Int32} : m_r 67 [.ref 4, .int k] (hp Z P L) (some (.int (c_kth Z n k))) (hp Z P L) := by
  refine m_of (ls := [.ref 4, .int k, s_no]) hk_67 rfl rfl rfl ?_
  refine e_go hk_67 3 (c := (5, [.ref 4, .int k, s_no], [.int k, .ref 5], hp Z P L)) rfl ?_
  refine e_call hk_67 (as := [.ref 5, .int k]) (rest := []) rfl rfl hk_36 rfl (Nat.le_of_ble_eq_true rfl) rfl (x_kth hN hn) ?_
  show e_r 67 8 [.ref 4, .int k, s_no] [.int (y_o (t_kt (Z 17) k 0 n 0))] (hp Z P L) _ _
  refine e_go hk_67 4 (c := (if s_cnd .ne (y_o (t_kt (Z 17) k 0 n 0)) ((-6)) = true then 19 else 15, [.ref 4, .int k, .int (y_o (t_kt (Z 17) k 0 n 0))], [], hp Z P L)) rfl ?_
  refine e_ne (a := 19) (b := 15) (x := y_o (t_kt (Z 17) k 0 n 0)) (y := (-6)) (fun hc12 => ?_) (fun hc12 => ?_)
  · skip
    rw [y_o_none (fun j hj => by have := t_kt_lt hj; omega)] at hc12
    refine e_go hk_67 3 (c := (26, [.ref 4, .int k, .int (y_o (t_kt (Z 17) k 0 n 0))], [.ref 8], hp Z P L)) rfl ?_
    obtain ⟨j, hj⟩ := Option.ne_none_iff_exists'.mp hc12
    have hjn := t_kt_lt hj
    rw [hj]
    refine e_go hk_67 1 (c := (27, [.ref 4, .int k, .int (nI j)], [.int (nI j), .ref 8], hp Z P L)) rfl ?_
    refine e_call hk_67 (as := [.ref 8, .int (nI j)]) (rest := []) rfl rfl hk_22 rfl (Nat.le_of_ble_eq_true rfl) rfl (x_at (r := 8) (a := 9) (n := 60) rfl rfl rfl (by decide) (j := j) (by omega)) ?_
    show e_r 67 30 [.ref 4, .int k, .int (nI j)] [.int (Z 9 j)] (hp Z P L) _ _
    exact e_ret hk_67 rfl rfl rfl (by rw [c_kth, hj]) rfl
  · skip
    rw [y_o_none (fun j hj => by have := t_kt_lt hj; omega)] at hc12
    refine e_go hk_67 2 (c := (30, [.ref 4, .int k, .int (y_o (t_kt (Z 17) k 0 n 0))], [.int ((-1))], hp Z P L)) rfl ?_
    exact e_ret hk_67 rfl rfl rfl (by rw [c_kth, hc12]) rfl
def c_nb (Z : Nat → Nat → Int32) (n : Nat) (key what : Int32) : Int32 := if y_nm key = true ∧ (what = 0 ∨ what = 1) then (match t_kt (Z 17) (if what = 0 then t_sm (Z 17) 0 (t_pl (Z 9) key 0 n) 0 - 1 else t_sm (Z 17) 0 (t_pl (Z 9) key 0 n) 0 + (if t_fn (Z 9) (Z 17) n key = none then 0 else 1)) 0 n 0 with
  | none => -6
  | some j => Z 9 j) else -2
theorem x_nb {Z : Nat → Nat → Int32} {P : Nat → Nat} {L n : Nat} (hN : Z 5 6 = nI n) (hn : n ≤ 60) (hF : ∀ i, i < n → Z 17 i = 0 ∨ Z 17 i = 1) {key what : Int32} : m_r 68 [.ref 4, .int key, .int what] (hp Z P L) (some (.int (c_nb Z n key what))) (hp Z P L) := by
  refine m_of (ls := [.ref 4, .int key, .int what, s_no, s_no, s_no]) hk_68 rfl rfl rfl ?_
  refine e_go hk_68 1 (c := (1, [.ref 4, .int key, .int what, s_no, s_no, s_no], [.int key], hp Z P L)) rfl ?_
  refine e_call hk_68 (as := [.int key]) (rest := []) rfl rfl hk_79 rfl (Nat.le_of_ble_eq_true rfl) rfl (x_num (k := key)) ?_
  show e_r 68 4 [.ref 4, .int key, .int what, s_no, s_no, s_no] [.int (y_b (y_nm key))] (hp Z P L) _ _
  refine e_go hk_68 1 (c := (if s_cnd .eq (y_b (y_nm key)) 0 = true then 16 else 7, [.ref 4, .int key, .int what, s_no, s_no, s_no], [], hp Z P L)) rfl ?_
  refine e_eq (a := 16) (b := 7) (x := y_b (y_nm key)) (y := 0) (fun hc4 => ?_) (fun hc4 => ?_)
  · skip
    rw [y_b0] at hc4
    refine e_go hk_68 1 (c := (18, [.ref 4, .int key, .int what, s_no, s_no, s_no], [.int ((-2))], hp Z P L)) rfl ?_
    exact e_ret hk_68 rfl rfl rfl (by rw [c_nb, if_neg (fun z => by rw [z.1] at hc4; cases hc4)]) rfl
  · skip
    rw [y_b1] at hc4
    refine e_go hk_68 2 (c := (if s_cnd .eq what 0 = true then 19 else 11, [.ref 4, .int key, .int what, s_no, s_no, s_no], [], hp Z P L)) rfl ?_
    refine e_eq (a := 19) (b := 11) (x := what) (y := 0) (fun hc8 => ?_) (fun hc8 => ?_)
    · skip
      refine e_go hk_68 3 (c := (24, [.ref 4, .int key, .int what, s_no, s_no, s_no], [.int key, .ref 5], hp Z P L)) rfl ?_
      refine e_call hk_68 (as := [.ref 5, .int key]) (rest := []) rfl rfl hk_35 rfl (Nat.le_of_ble_eq_true rfl) rfl (x_ahead hN hn) ?_
      show e_r 68 27 [.ref 4, .int key, .int what, s_no, s_no, s_no] [.int (t_sm (Z 17) 0 (t_pl (Z 9) key 0 n) 0)] (hp Z P L) _ _
      refine e_go hk_68 4 (c := (33, [.ref 4, .int key, .int what, .int (t_sm (Z 17) 0 (t_pl (Z 9) key 0 n) 0), s_no, s_no], [.int key, .ref 5], hp Z P L)) rfl ?_
      refine e_call hk_68 (as := [.ref 5, .int key]) (rest := []) rfl rfl hk_32 rfl (Nat.le_of_ble_eq_true rfl) rfl (x_fnode hN hn) ?_
      show e_r 68 36 [.ref 4, .int key, .int what, .int (t_sm (Z 17) 0 (t_pl (Z 9) key 0 n) 0), s_no, s_no] [.int (y_o (t_fn (Z 9) (Z 17) n key))] (hp Z P L) _ _
      refine e_go hk_68 2 (c := (if s_cnd .ne (y_o (t_fn (Z 9) (Z 17) n key)) ((-6)) = true then 45 else 41, [.ref 4, .int key, .int what, .int (t_sm (Z 17) 0 (t_pl (Z 9) key 0 n) 0), s_no, s_no], [], hp Z P L)) rfl ?_
      refine e_ne (a := 45) (b := 41) (x := y_o (t_fn (Z 9) (Z 17) n key)) (y := (-6)) (fun hc38 => ?_) (fun hc38 => ?_)
      · skip
        rw [y_o_none (fun j hj => by have := (t_fn_lt hj).1; omega)] at hc38
        refine e_go hk_68 6 (c := (if s_cnd .ne what 0 = true then 62 else 56, [.ref 4, .int key, .int what, .int (t_sm (Z 17) 0 (t_pl (Z 9) key 0 n) 0), .int 1, s_no], [.ref 5], hp Z P L)) rfl ?_
        refine e_ne (a := 62) (b := 56) (x := what) (y := 0) (fun hc53 => absurd (hc8) hc53) (fun hc53 => ?_)
        refine e_go hk_68 4 (c := (66, [.ref 4, .int key, .int what, .int (t_sm (Z 17) 0 (t_pl (Z 9) key 0 n) 0), .int 1, s_no], [.int ((t_sm (Z 17) 0 (t_pl (Z 9) key 0 n) 0) - 1), .ref 5], hp Z P L)) rfl ?_
        refine e_call hk_68 (as := [.ref 5, .int ((t_sm (Z 17) 0 (t_pl (Z 9) key 0 n) 0) - 1)]) (rest := []) rfl rfl hk_36 rfl (Nat.le_of_ble_eq_true rfl) rfl (x_kth hN hn) ?_
        show e_r 68 69 [.ref 4, .int key, .int what, .int (t_sm (Z 17) 0 (t_pl (Z 9) key 0 n) 0), .int 1, s_no] [.int (y_o (t_kt (Z 17) ((t_sm (Z 17) 0 (t_pl (Z 9) key 0 n) 0) - 1) 0 n 0))] (hp Z P L) _ _
        refine e_go hk_68 4 (c := (if s_cnd .ne (y_o (t_kt (Z 17) ((t_sm (Z 17) 0 (t_pl (Z 9) key 0 n) 0) - 1) 0 n 0)) ((-6)) = true then 83 else 78, [.ref 4, .int key, .int what, .int (t_sm (Z 17) 0 (t_pl (Z 9) key 0 n) 0), .int 1, .int (y_o (t_kt (Z 17) ((t_sm (Z 17) 0 (t_pl (Z 9) key 0 n) 0) - 1) 0 n 0))], [], hp Z P L)) rfl ?_
        refine e_ne (a := 83) (b := 78) (x := y_o (t_kt (Z 17) ((t_sm (Z 17) 0 (t_pl (Z 9) key 0 n) 0) - 1) 0 n 0)) (y := (-6)) (fun hc75 => ?_) (fun hc75 => ?_)
        · skip
          rw [y_o_none (fun j hj => by have := t_kt_lt hj; omega)] at hc75
          refine e_go hk_68 4 (c := (92, [.ref 4, .int key, .int what, .int (t_sm (Z 17) 0 (t_pl (Z 9) key 0 n) 0), .int 1, .int (y_o (t_kt (Z 17) ((t_sm (Z 17) 0 (t_pl (Z 9) key 0 n) 0) - 1) 0 n 0))], [.int (y_o (t_kt (Z 17) ((t_sm (Z 17) 0 (t_pl (Z 9) key 0 n) 0) - 1) 0 n 0)), .ref 8], hp Z P L)) rfl ?_
          obtain ⟨j, hj⟩ := Option.ne_none_iff_exists'.mp hc75
          have hjn := t_kt_lt hj
          rw [hj]
          refine e_call hk_68 (as := [.ref 8, .int (nI j)]) (rest := []) rfl rfl hk_22 rfl (Nat.le_of_ble_eq_true rfl) rfl (x_at (r := 8) (a := 9) (n := 60) rfl rfl rfl (by decide) (j := j) (by omega)) ?_
          show e_r 68 95 [.ref 4, .int key, .int what, .int (t_sm (Z 17) 0 (t_pl (Z 9) key 0 n) 0), .int 1, .int (nI j)] [.int (Z 9 j)] (hp Z P L) _ _
          exact e_ret hk_68 rfl rfl rfl (by rw [c_nb, if_pos ⟨hc4, Or.inl hc8⟩, if_pos hc8, hj]) rfl
        · skip
          rw [y_o_none (fun j hj => by have := t_kt_lt hj; omega)] at hc75
          refine e_go hk_68 2 (c := (95, [.ref 4, .int key, .int what, .int (t_sm (Z 17) 0 (t_pl (Z 9) key 0 n) 0), .int 1, .int (y_o (t_kt (Z 17) ((t_sm (Z 17) 0 (t_pl (Z 9) key 0 n) 0) - 1) 0 n 0))], [.int ((-6))], hp Z P L)) rfl ?_
          exact e_ret hk_68 rfl rfl rfl (by rw [c_nb, if_pos ⟨hc4, Or.inl hc8⟩, if_pos hc8, hc75]) rfl
      · skip
        rw [y_o_none (fun j hj => by have := (t_fn_lt hj).1; omega)] at hc38
        refine e_go hk_68 7 (c := (if s_cnd .ne what 0 = true then 62 else 56, [.ref 4, .int key, .int what, .int (t_sm (Z 17) 0 (t_pl (Z 9) key 0 n) 0), .int 0, s_no], [.ref 5], hp Z P L)) rfl ?_
        refine e_ne (a := 62) (b := 56) (x := what) (y := 0) (fun hc53 => absurd (hc8) hc53) (fun hc53 => ?_)
        refine e_go hk_68 4 (c := (66, [.ref 4, .int key, .int what, .int (t_sm (Z 17) 0 (t_pl (Z 9) key 0 n) 0), .int 0, s_no], [.int ((t_sm (Z 17) 0 (t_pl (Z 9) key 0 n) 0) - 1), .ref 5], hp Z P L)) rfl ?_
        refine e_call hk_68 (as := [.ref 5, .int ((t_sm (Z 17) 0 (t_pl (Z 9) key 0 n) 0) - 1)]) (rest := []) rfl rfl hk_36 rfl (Nat.le_of_ble_eq_true rfl) rfl (x_kth hN hn) ?_
        show e_r 68 69 [.ref 4, .int key, .int what, .int (t_sm (Z 17) 0 (t_pl (Z 9) key 0 n) 0), .int 0, s_no] [.int (y_o (t_kt (Z 17) ((t_sm (Z 17) 0 (t_pl (Z 9) key 0 n) 0) - 1) 0 n 0))] (hp Z P L) _ _
        refine e_go hk_68 4 (c := (if s_cnd .ne (y_o (t_kt (Z 17) ((t_sm (Z 17) 0 (t_pl (Z 9) key 0 n) 0) - 1) 0 n 0)) ((-6)) = true then 83 else 78, [.ref 4, .int key, .int what, .int (t_sm (Z 17) 0 (t_pl (Z 9) key 0 n) 0), .int 0, .int (y_o (t_kt (Z 17) ((t_sm (Z 17) 0 (t_pl (Z 9) key 0 n) 0) - 1) 0 n 0))], [], hp Z P L)) rfl ?_
        refine e_ne (a := 83) (b := 78) (x := y_o (t_kt (Z 17) ((t_sm (Z 17) 0 (t_pl (Z 9) key 0 n) 0) - 1) 0 n 0)) (y := (-6)) (fun hc75 => ?_) (fun hc75 => ?_)
        · skip
          rw [y_o_none (fun j hj => by have := t_kt_lt hj; omega)] at hc75
          refine e_go hk_68 4 (c := (92, [.ref 4, .int key, .int what, .int (t_sm (Z 17) 0 (t_pl (Z 9) key 0 n) 0), .int 0, .int (y_o (t_kt (Z 17) ((t_sm (Z 17) 0 (t_pl (Z 9) key 0 n) 0) - 1) 0 n 0))], [.int (y_o (t_kt (Z 17) ((t_sm (Z 17) 0 (t_pl (Z 9) key 0 n) 0) - 1) 0 n 0)), .ref 8], hp Z P L)) rfl ?_
          obtain ⟨j, hj⟩ := Option.ne_none_iff_exists'.mp hc75
          have hjn := t_kt_lt hj
          rw [hj]
          refine e_call hk_68 (as := [.ref 8, .int (nI j)]) (rest := []) rfl rfl hk_22 rfl (Nat.le_of_ble_eq_true rfl) rfl (x_at (r := 8) (a := 9) (n := 60) rfl rfl rfl (by decide) (j := j) (by omega)) ?_
          show e_r 68 95 [.ref 4, .int key, .int what, .int (t_sm (Z 17) 0 (t_pl (Z 9) key 0 n) 0), .int 0, .int (nI j)] [.int (Z 9 j)] (hp Z P L) _ _
          exact e_ret hk_68 rfl rfl rfl (by rw [c_nb, if_pos ⟨hc4, Or.inl hc8⟩, if_pos hc8, hj]) rfl
        · skip
          rw [y_o_none (fun j hj => by have := t_kt_lt hj; omega)] at hc75
          refine e_go hk_68 2 (c := (95, [.ref 4, .int key, .int what, .int (t_sm (Z 17) 0 (t_pl (Z 9) key 0 n) 0), .int 0, .int (y_o (t_kt (Z 17) ((t_sm (Z 17) 0 (t_pl (Z 9) key 0 n) 0) - 1) 0 n 0))], [.int ((-6))], hp Z P L)) rfl ?_
          exact e_ret hk_68 rfl rfl rfl (by rw [c_nb, if_pos ⟨hc4, Or.inl hc8⟩, if_pos hc8, hc75]) rfl
    · skip
      refine e_go hk_68 3 (c := (if s_cnd .eq what 1 = true then 19 else 16, [.ref 4, .int key, .int what, s_no, s_no, s_no], [], hp Z P L)) rfl ?_
      refine e_eq (a := 19) (b := 16) (x := what) (y := 1) (fun hc13 => ?_) (fun hc13 => ?_)
      · skip
        refine e_go hk_68 3 (c := (24, [.ref 4, .int key, .int what, s_no, s_no, s_no], [.int key, .ref 5], hp Z P L)) rfl ?_
        refine e_call hk_68 (as := [.ref 5, .int key]) (rest := []) rfl rfl hk_35 rfl (Nat.le_of_ble_eq_true rfl) rfl (x_ahead hN hn) ?_
        show e_r 68 27 [.ref 4, .int key, .int what, s_no, s_no, s_no] [.int (t_sm (Z 17) 0 (t_pl (Z 9) key 0 n) 0)] (hp Z P L) _ _
        refine e_go hk_68 4 (c := (33, [.ref 4, .int key, .int what, .int (t_sm (Z 17) 0 (t_pl (Z 9) key 0 n) 0), s_no, s_no], [.int key, .ref 5], hp Z P L)) rfl ?_
        refine e_call hk_68 (as := [.ref 5, .int key]) (rest := []) rfl rfl hk_32 rfl (Nat.le_of_ble_eq_true rfl) rfl (x_fnode hN hn) ?_
        show e_r 68 36 [.ref 4, .int key, .int what, .int (t_sm (Z 17) 0 (t_pl (Z 9) key 0 n) 0), s_no, s_no] [.int (y_o (t_fn (Z 9) (Z 17) n key))] (hp Z P L) _ _
        refine e_go hk_68 2 (c := (if s_cnd .ne (y_o (t_fn (Z 9) (Z 17) n key)) ((-6)) = true then 45 else 41, [.ref 4, .int key, .int what, .int (t_sm (Z 17) 0 (t_pl (Z 9) key 0 n) 0), s_no, s_no], [], hp Z P L)) rfl ?_
        refine e_ne (a := 45) (b := 41) (x := y_o (t_fn (Z 9) (Z 17) n key)) (y := (-6)) (fun hc38 => ?_) (fun hc38 => ?_)
        · skip
          rw [y_o_none (fun j hj => by have := (t_fn_lt hj).1; omega)] at hc38
          refine e_go hk_68 6 (c := (if s_cnd .ne what 0 = true then 62 else 56, [.ref 4, .int key, .int what, .int (t_sm (Z 17) 0 (t_pl (Z 9) key 0 n) 0), .int 1, s_no], [.ref 5], hp Z P L)) rfl ?_
          refine e_ne (a := 62) (b := 56) (x := what) (y := 0) (fun hc53 => ?_) (fun hc53 => absurd hc53 (hc8))
          refine e_go hk_68 3 (c := (66, [.ref 4, .int key, .int what, .int (t_sm (Z 17) 0 (t_pl (Z 9) key 0 n) 0), .int 1, s_no], [.int ((t_sm (Z 17) 0 (t_pl (Z 9) key 0 n) 0) + 1), .ref 5], hp Z P L)) rfl ?_
          refine e_call hk_68 (as := [.ref 5, .int ((t_sm (Z 17) 0 (t_pl (Z 9) key 0 n) 0) + 1)]) (rest := []) rfl rfl hk_36 rfl (Nat.le_of_ble_eq_true rfl) rfl (x_kth hN hn) ?_
          show e_r 68 69 [.ref 4, .int key, .int what, .int (t_sm (Z 17) 0 (t_pl (Z 9) key 0 n) 0), .int 1, s_no] [.int (y_o (t_kt (Z 17) ((t_sm (Z 17) 0 (t_pl (Z 9) key 0 n) 0) + 1) 0 n 0))] (hp Z P L) _ _
          refine e_go hk_68 4 (c := (if s_cnd .ne (y_o (t_kt (Z 17) ((t_sm (Z 17) 0 (t_pl (Z 9) key 0 n) 0) + 1) 0 n 0)) ((-6)) = true then 83 else 78, [.ref 4, .int key, .int what, .int (t_sm (Z 17) 0 (t_pl (Z 9) key 0 n) 0), .int 1, .int (y_o (t_kt (Z 17) ((t_sm (Z 17) 0 (t_pl (Z 9) key 0 n) 0) + 1) 0 n 0))], [], hp Z P L)) rfl ?_
          refine e_ne (a := 83) (b := 78) (x := y_o (t_kt (Z 17) ((t_sm (Z 17) 0 (t_pl (Z 9) key 0 n) 0) + 1) 0 n 0)) (y := (-6)) (fun hc75 => ?_) (fun hc75 => ?_)
          · skip
            rw [y_o_none (fun j hj => by have := t_kt_lt hj; omega)] at hc75
            refine e_go hk_68 4 (c := (92, [.ref 4, .int key, .int what, .int (t_sm (Z 17) 0 (t_pl (Z 9) key 0 n) 0), .int 1, .int (y_o (t_kt (Z 17) ((t_sm (Z 17) 0 (t_pl (Z 9) key 0 n) 0) + 1) 0 n 0))], [.int (y_o (t_kt (Z 17) ((t_sm (Z 17) 0 (t_pl (Z 9) key 0 n) 0) + 1) 0 n 0)), .ref 8], hp Z P L)) rfl ?_
            obtain ⟨j, hj⟩ := Option.ne_none_iff_exists'.mp hc75
            have hjn := t_kt_lt hj
            rw [hj]
            refine e_call hk_68 (as := [.ref 8, .int (nI j)]) (rest := []) rfl rfl hk_22 rfl (Nat.le_of_ble_eq_true rfl) rfl (x_at (r := 8) (a := 9) (n := 60) rfl rfl rfl (by decide) (j := j) (by omega)) ?_
            show e_r 68 95 [.ref 4, .int key, .int what, .int (t_sm (Z 17) 0 (t_pl (Z 9) key 0 n) 0), .int 1, .int (nI j)] [.int (Z 9 j)] (hp Z P L) _ _
            exact e_ret hk_68 rfl rfl rfl (by rw [c_nb, if_pos ⟨hc4, Or.inr hc13⟩, if_neg hc8, if_neg hc38, hj]) rfl
          · skip
            rw [y_o_none (fun j hj => by have := t_kt_lt hj; omega)] at hc75
            refine e_go hk_68 2 (c := (95, [.ref 4, .int key, .int what, .int (t_sm (Z 17) 0 (t_pl (Z 9) key 0 n) 0), .int 1, .int (y_o (t_kt (Z 17) ((t_sm (Z 17) 0 (t_pl (Z 9) key 0 n) 0) + 1) 0 n 0))], [.int ((-6))], hp Z P L)) rfl ?_
            exact e_ret hk_68 rfl rfl rfl (by rw [c_nb, if_pos ⟨hc4, Or.inr hc13⟩, if_neg hc8, if_neg hc38, hc75]) rfl
        · skip
          rw [y_o_none (fun j hj => by have := (t_fn_lt hj).1; omega)] at hc38
          refine e_go hk_68 7 (c := (if s_cnd .ne what 0 = true then 62 else 56, [.ref 4, .int key, .int what, .int (t_sm (Z 17) 0 (t_pl (Z 9) key 0 n) 0), .int 0, s_no], [.ref 5], hp Z P L)) rfl ?_
          refine e_ne (a := 62) (b := 56) (x := what) (y := 0) (fun hc53 => ?_) (fun hc53 => absurd hc53 (hc8))
          refine e_go hk_68 3 (c := (66, [.ref 4, .int key, .int what, .int (t_sm (Z 17) 0 (t_pl (Z 9) key 0 n) 0), .int 0, s_no], [.int ((t_sm (Z 17) 0 (t_pl (Z 9) key 0 n) 0) + 0), .ref 5], hp Z P L)) rfl ?_
          refine e_call hk_68 (as := [.ref 5, .int ((t_sm (Z 17) 0 (t_pl (Z 9) key 0 n) 0) + 0)]) (rest := []) rfl rfl hk_36 rfl (Nat.le_of_ble_eq_true rfl) rfl (x_kth hN hn) ?_
          show e_r 68 69 [.ref 4, .int key, .int what, .int (t_sm (Z 17) 0 (t_pl (Z 9) key 0 n) 0), .int 0, s_no] [.int (y_o (t_kt (Z 17) ((t_sm (Z 17) 0 (t_pl (Z 9) key 0 n) 0) + 0) 0 n 0))] (hp Z P L) _ _
          refine e_go hk_68 4 (c := (if s_cnd .ne (y_o (t_kt (Z 17) ((t_sm (Z 17) 0 (t_pl (Z 9) key 0 n) 0) + 0) 0 n 0)) ((-6)) = true then 83 else 78, [.ref 4, .int key, .int what, .int (t_sm (Z 17) 0 (t_pl (Z 9) key 0 n) 0), .int 0, .int (y_o (t_kt (Z 17) ((t_sm (Z 17) 0 (t_pl (Z 9) key 0 n) 0) + 0) 0 n 0))], [], hp Z P L)) rfl ?_
          refine e_ne (a := 83) (b := 78) (x := y_o (t_kt (Z 17) ((t_sm (Z 17) 0 (t_pl (Z 9) key 0 n) 0) + 0) 0 n 0)) (y := (-6)) (fun hc75 => ?_) (fun hc75 => ?_)
          · skip
            rw [y_o_none (fun j hj => by have := t_kt_lt hj; omega)] at hc75
            refine e_go hk_68 4 (c := (92, [.ref 4, .int key, .int what, .int (t_sm (Z 17) 0 (t_pl (Z 9) key 0 n) 0), .int 0, .int (y_o (t_kt (Z 17) ((t_sm (Z 17) 0 (t_pl (Z 9) key 0 n) 0) + 0) 0 n 0))], [.int (y_o (t_kt (Z 17) ((t_sm (Z 17) 0 (t_pl (Z 9) key 0 n) 0) + 0) 0 n 0)), .ref 8], hp Z P L)) rfl ?_
            obtain ⟨j, hj⟩ := Option.ne_none_iff_exists'.mp hc75
            have hjn := t_kt_lt hj
            rw [hj]
            refine e_call hk_68 (as := [.ref 8, .int (nI j)]) (rest := []) rfl rfl hk_22 rfl (Nat.le_of_ble_eq_true rfl) rfl (x_at (r := 8) (a := 9) (n := 60) rfl rfl rfl (by decide) (j := j) (by omega)) ?_
            show e_r 68 95 [.ref 4, .int key, .int what, .int (t_sm (Z 17) 0 (t_pl (Z 9) key 0 n) 0), .int 0, .int (nI j)] [.int (Z 9 j)] (hp Z P L) _ _
            exact e_ret hk_68 rfl rfl rfl (by rw [c_nb, if_pos ⟨hc4, Or.inr hc13⟩, if_neg hc8, if_pos hc38, hj]) rfl
          · skip
            rw [y_o_none (fun j hj => by have := t_kt_lt hj; omega)] at hc75
            refine e_go hk_68 2 (c := (95, [.ref 4, .int key, .int what, .int (t_sm (Z 17) 0 (t_pl (Z 9) key 0 n) 0), .int 0, .int (y_o (t_kt (Z 17) ((t_sm (Z 17) 0 (t_pl (Z 9) key 0 n) 0) + 0) 0 n 0))], [.int ((-6))], hp Z P L)) rfl ?_
            exact e_ret hk_68 rfl rfl rfl (by rw [c_nb, if_pos ⟨hc4, Or.inr hc13⟩, if_neg hc8, if_pos hc38, hc75]) rfl
      · skip
        refine e_go hk_68 1 (c := (18, [.ref 4, .int key, .int what, s_no, s_no, s_no], [.int ((-2))], hp Z P L)) rfl ?_
        exact e_ret hk_68 rfl rfl rfl (by rw [c_nb, if_neg (fun z => z.2.elim hc8 hc13)]) rfl
def c_wc (Z : Nat → Nat → Int32) (n : Nat) (key : Int32) : Int32 := if y_nm key = true then (if t_rm Z n key = true then t_cs Z n key else -4) else -2
theorem x_wc {Z : Nat → Nat → Int32} {P : Nat → Nat} {L n : Nat} (hN : Z 5 6 = nI n) (hn : n ≤ 60) (hF : ∀ i, i < n → Z 17 i = 0 ∨ Z 17 i = 1) {key : Int32} : m_r 70 [.ref 4, .int key] (hp Z P L) (some (.int (c_wc Z n key))) (hp Z P L) := by
  refine m_of (ls := [.ref 4, .int key]) hk_70 rfl rfl rfl ?_
  refine e_go hk_70 1 (c := (1, [.ref 4, .int key], [.int key], hp Z P L)) rfl ?_
  refine e_call hk_70 (as := [.int key]) (rest := []) rfl rfl hk_79 rfl (Nat.le_of_ble_eq_true rfl) rfl (x_num (k := key)) ?_
  show e_r 70 4 [.ref 4, .int key] [.int (y_b (y_nm key))] (hp Z P L) _ _
  refine e_go hk_70 1 (c := (if s_cnd .ne (y_b (y_nm key)) 0 = true then 10 else 7, [.ref 4, .int key], [], hp Z P L)) rfl ?_
  refine e_ne (a := 10) (b := 7) (x := y_b (y_nm key)) (y := 0) (fun hc4 => ?_) (fun hc4 => ?_)
  · skip
    rw [y_b1] at hc4
    refine e_go hk_70 3 (c := (15, [.ref 4, .int key], [.int key, .ref 5], hp Z P L)) rfl ?_
    refine e_call hk_70 (as := [.ref 5, .int key]) (rest := []) rfl rfl hk_45 rfl (Nat.le_of_ble_eq_true rfl) rfl (x_room hN hn) ?_
    show e_r 70 18 [.ref 4, .int key] [.int (y_b (t_rm Z n key))] (hp Z P L) _ _
    refine e_go hk_70 1 (c := (if s_cnd .eq (y_b (t_rm Z n key)) 0 = true then 32 else 21, [.ref 4, .int key], [], hp Z P L)) rfl ?_
    refine e_eq (a := 32) (b := 21) (x := y_b (t_rm Z n key)) (y := 0) (fun hc18 => ?_) (fun hc18 => ?_)
    · skip
      rw [y_b0] at hc18
      refine e_go hk_70 1 (c := (34, [.ref 4, .int key], [.int ((-4))], hp Z P L)) rfl ?_
      exact e_ret hk_70 rfl rfl rfl (by rw [c_wc, if_pos hc4, if_neg (by rw [hc18]; decide)]) rfl
    · skip
      rw [y_b1] at hc18
      refine e_go hk_70 3 (c := (26, [.ref 4, .int key], [.int key, .ref 5], hp Z P L)) rfl ?_
      refine e_call hk_70 (as := [.ref 5, .int key]) (rest := []) rfl rfl hk_44 rfl (Nat.le_of_ble_eq_true rfl) rfl (x_cost hN hn) ?_
      show e_r 70 29 [.ref 4, .int key] [.int (t_cs Z n key)] (hp Z P L) _ _
      refine e_go hk_70 1 (c := (34, [.ref 4, .int key], [.int (t_cs Z n key)], hp Z P L)) rfl ?_
      exact e_ret hk_70 rfl rfl rfl (by rw [c_wc, if_pos hc4, if_pos hc18]) rfl
  · skip
    rw [y_b0] at hc4
    refine e_go hk_70 1 (c := (9, [.ref 4, .int key], [.int ((-2))], hp Z P L)) rfl ?_
    exact e_ret hk_70 rfl rfl rfl (by rw [c_wc, if_neg (by rw [hc4]; decide)]) rfl
def t_su (Z : Nat → Nat → Int32) (hi : Int32) : Nat → Nat → Int32 → Int32
  | _, 0, a => a
  | i, k + 1, a => if Z 9 i ≤ hi then t_su Z hi (i + 1) k (a + (if Z 17 i = 1 then Z 11 i else 0)) else a
def c_sum (Z : Nat → Nat → Int32) (n : Nat) (lo hi : Int32) : Int32 := if y_nm lo = true ∧ y_nm hi = true ∧ lo ≤ hi then t_su Z hi (t_pl (Z 9) lo 0 n) (n - t_pl (Z 9) lo 0 n) 0 else -2
theorem x_sum_l {Z : Nat → Nat → Int32} {P : Nat → Nat} {L n : Nat} (hN : Z 5 6 = nI n) (hn : n ≤ 60) (hF : ∀ i, i < n → Z 17 i = 0 ∨ Z 17 i = 1) {lo hi : Int32} : ∀ (k i : Nat) (a : Int32), i + k = n → e_r 69 34 [.ref 4, .int lo, .int hi, .int a, .int (nI i)] [] (hp Z P L) (some (.int (t_su Z hi i k a))) (hp Z P L)
  | 0, i, a, hi2 => by
    refine e_go hk_69 5 (c := (if s_cnd .ge (nI i) (Z 5 6) = true then 99 else 46, [.ref 4, .int lo, .int hi, .int a, .int (nI i)], [], hp Z P L)) rfl ?_
    refine e_ge (a := 99) (b := 46) (x := nI i) (y := Z 5 6) (fun hc43 => ?_) (fun hc43 => absurd (by rw [hN]; exact (y_le (by omega) (by omega)).mpr (by omega)) hc43)
    refine e_go hk_69 1 (c := (100, [.ref 4, .int lo, .int hi, .int a, .int (nI i)], [.int a], hp Z P L)) rfl ?_
    exact e_ret hk_69 rfl rfl rfl rfl rfl
  | k + 1, i, a, hi2 => by
    refine e_go hk_69 5 (c := (if s_cnd .ge (nI i) (Z 5 6) = true then 99 else 46, [.ref 4, .int lo, .int hi, .int a, .int (nI i)], [], hp Z P L)) rfl ?_
    refine e_ge (a := 99) (b := 46) (x := nI i) (y := Z 5 6) (fun hc43 => absurd hc43 (by rw [hN]; exact nI_ge (by omega) (by omega))) (fun hc43 => ?_)
    refine e_go hk_69 4 (c := (55, [.ref 4, .int lo, .int hi, .int a, .int (nI i)], [.int (nI i), .ref 8], hp Z P L)) rfl ?_
    refine e_call hk_69 (as := [.ref 8, .int (nI i)]) (rest := []) rfl rfl hk_22 rfl (Nat.le_of_ble_eq_true rfl) rfl (x_at (r := 8) (a := 9) (n := 60) rfl rfl rfl (by decide) (j := i) (by omega)) ?_
    show e_r 69 58 [.ref 4, .int lo, .int hi, .int a, .int (nI i)] [.int (Z 9 i)] (hp Z P L) _ _
    refine e_go hk_69 2 (c := (if s_cnd .gt (Z 9 i) hi = true then 99 else 62, [.ref 4, .int lo, .int hi, .int a, .int (nI i)], [], hp Z P L)) rfl ?_
    refine e_gt (a := 99) (b := 62) (x := Z 9 i) (y := hi) (fun hc59 => ?_) (fun hc59 => ?_)
    · skip
      refine e_go hk_69 1 (c := (100, [.ref 4, .int lo, .int hi, .int a, .int (nI i)], [.int a], hp Z P L)) rfl ?_
      exact e_ret hk_69 rfl rfl rfl (by rw [t_su, if_neg (Int32.not_le.mpr hc59)]) rfl
    · skip
      refine e_go hk_69 4 (c := (69, [.ref 4, .int lo, .int hi, .int a, .int (nI i)], [.int (nI i), .ref 5, .int a], hp Z P L)) rfl ?_
      refine e_call hk_69 (as := [.ref 5, .int (nI i)]) (rest := [.int a]) rfl rfl hk_33 rfl (Nat.le_of_ble_eq_true rfl) rfl (x_isfull (j := i) (by omega)) ?_
      show e_r 69 72 [.ref 4, .int lo, .int hi, .int a, .int (nI i)] [.int (y_b (decide (Z 17 i = 1))), .int a] (hp Z P L) _ _
      refine e_go hk_69 1 (c := (if s_cnd .eq (y_b (decide (Z 17 i = 1))) 0 = true then 90 else 75, [.ref 4, .int lo, .int hi, .int a, .int (nI i)], [.int a], hp Z P L)) rfl ?_
      refine e_eq (a := 90) (b := 75) (x := y_b (decide (Z 17 i = 1))) (y := 0) (fun hc72 => ?_) (fun hc72 => ?_)
      · skip
        rw [y_d0] at hc72
        refine e_go hk_69 5 (c := (34, [.ref 4, .int lo, .int hi, .int (a + 0), .int ((nI i) + 1)], [], hp Z P L)) rfl ?_
        rw [t_su, if_pos (Int32.not_lt.mp hc59), if_neg hc72, nI_1]
        exact x_sum_l hN hn hF k (i + 1) _ (by omega)
      · skip
        rw [y_d1] at hc72
        refine e_go hk_69 4 (c := (84, [.ref 4, .int lo, .int hi, .int a, .int (nI i)], [.int (nI i), .ref 10, .int a], hp Z P L)) rfl ?_
        refine e_call hk_69 (as := [.ref 10, .int (nI i)]) (rest := [.int a]) rfl rfl hk_22 rfl (Nat.le_of_ble_eq_true rfl) rfl (x_at (r := 10) (a := 11) (n := 60) rfl rfl rfl (by decide) (j := i) (by omega)) ?_
        show e_r 69 87 [.ref 4, .int lo, .int hi, .int a, .int (nI i)] [.int (Z 11 i), .int a] (hp Z P L) _ _
        refine e_go hk_69 5 (c := (34, [.ref 4, .int lo, .int hi, .int (a + (Z 11 i)), .int ((nI i) + 1)], [], hp Z P L)) rfl ?_
        rw [t_su, if_pos (Int32.not_lt.mp hc59), if_pos hc72, nI_1]
        exact x_sum_l hN hn hF k (i + 1) _ (by omega)
theorem x_sum {Z : Nat → Nat → Int32} {P : Nat → Nat} {L n : Nat} (hN : Z 5 6 = nI n) (hn : n ≤ 60) (hF : ∀ i, i < n → Z 17 i = 0 ∨ Z 17 i = 1) {lo hi : Int32} : m_r 69 [.ref 4, .int lo, .int hi] (hp Z P L) (some (.int (c_sum Z n lo hi))) (hp Z P L) := by
  refine m_of (ls := [.ref 4, .int lo, .int hi, s_no, s_no]) hk_69 rfl rfl rfl ?_
  refine e_go hk_69 1 (c := (1, [.ref 4, .int lo, .int hi, s_no, s_no], [.int lo], hp Z P L)) rfl ?_
  refine e_call hk_69 (as := [.int lo]) (rest := []) rfl rfl hk_79 rfl (Nat.le_of_ble_eq_true rfl) rfl (x_num (k := lo)) ?_
  show e_r 69 4 [.ref 4, .int lo, .int hi, s_no, s_no] [.int (y_b (y_nm lo))] (hp Z P L) _ _
  refine e_go hk_69 1 (c := (if s_cnd .eq (y_b (y_nm lo)) 0 = true then 19 else 7, [.ref 4, .int lo, .int hi, s_no, s_no], [], hp Z P L)) rfl ?_
  refine e_eq (a := 19) (b := 7) (x := y_b (y_nm lo)) (y := 0) (fun hc4 => ?_) (fun hc4 => ?_)
  · skip
    rw [y_b0] at hc4
    refine e_go hk_69 1 (c := (21, [.ref 4, .int lo, .int hi, s_no, s_no], [.int ((-2))], hp Z P L)) rfl ?_
    exact e_ret hk_69 rfl rfl rfl (by rw [c_sum, if_neg (fun z => by rw [z.1] at hc4; cases hc4)]) rfl
  · skip
    rw [y_b1] at hc4
    refine e_go hk_69 1 (c := (8, [.ref 4, .int lo, .int hi, s_no, s_no], [.int hi], hp Z P L)) rfl ?_
    refine e_call hk_69 (as := [.int hi]) (rest := []) rfl rfl hk_79 rfl (Nat.le_of_ble_eq_true rfl) rfl (x_num (k := hi)) ?_
    show e_r 69 11 [.ref 4, .int lo, .int hi, s_no, s_no] [.int (y_b (y_nm hi))] (hp Z P L) _ _
    refine e_go hk_69 1 (c := (if s_cnd .eq (y_b (y_nm hi)) 0 = true then 19 else 14, [.ref 4, .int lo, .int hi, s_no, s_no], [], hp Z P L)) rfl ?_
    refine e_eq (a := 19) (b := 14) (x := y_b (y_nm hi)) (y := 0) (fun hc11 => ?_) (fun hc11 => ?_)
    · skip
      rw [y_b0] at hc11
      refine e_go hk_69 1 (c := (21, [.ref 4, .int lo, .int hi, s_no, s_no], [.int ((-2))], hp Z P L)) rfl ?_
      exact e_ret hk_69 rfl rfl rfl (by rw [c_sum, if_neg (fun z => by rw [z.2.1] at hc11; cases hc11)]) rfl
    · skip
      rw [y_b1] at hc11
      refine e_go hk_69 3 (c := (if s_cnd .ge hi lo = true then 22 else 19, [.ref 4, .int lo, .int hi, s_no, s_no], [], hp Z P L)) rfl ?_
      refine e_ge (a := 22) (b := 19) (x := hi) (y := lo) (fun hc16 => ?_) (fun hc16 => ?_)
      · skip
        refine e_go hk_69 5 (c := (29, [.ref 4, .int lo, .int hi, .int 0, s_no], [.int lo, .ref 5], hp Z P L)) rfl ?_
        refine e_call hk_69 (as := [.ref 5, .int lo]) (rest := []) rfl rfl hk_30 rfl (Nat.le_of_ble_eq_true rfl) rfl (x_place hN hn) ?_
        show e_r 69 32 [.ref 4, .int lo, .int hi, .int 0, s_no] [.int (nI (t_pl (Z 9) lo 0 n))] (hp Z P L) _ _
        refine e_go hk_69 1 (c := (34, [.ref 4, .int lo, .int hi, .int 0, .int (nI (t_pl (Z 9) lo 0 n))], [], hp Z P L)) rfl ?_
        have hpl := (t_pl_le (Z 9) lo n 0).2
        rw [c_sum, if_pos ⟨hc4, hc11, hc16⟩]
        exact x_sum_l hN hn hF _ _ _ (by omega)
      · skip
        refine e_go hk_69 1 (c := (21, [.ref 4, .int lo, .int hi, s_no, s_no], [.int ((-2))], hp Z P L)) rfl ?_
        exact e_ret hk_69 rfl rfl rfl (by rw [c_sum, if_neg (fun z => hc16 z.2.2)]) rfl
