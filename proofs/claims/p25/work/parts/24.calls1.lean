/-! The calls: changes, and what there is; printed by wip/whole/gen/calls1.py -/
theorem t_cp_o {Z : Nat → Nat → Int32} {a b n c : Nat} (h : c ≠ b) : t_cp Z a b n c = Z c := if_neg h
theorem t_bc_o {Z : Nat → Nat → Int32} {x y c : Nat} (h : c < x ∨ x + 12 < c) : t_bc Z x y c = Z c := by
  unfold t_bc t_bc5 t_bc6
  rw [s_upd_o (by omega), s_upd_o (by omega), s_upd_o (by omega), s_upd_o (by omega), s_upd_o (by omega), t_cp_o (by omega), t_cp_o (by omega), t_cp_o (by omega), t_cp_o (by omega), t_cp_o (by omega), t_cp_o (by omega)]
/-- a place of the history's trees -/
def t_hs (x : Nat) : Prop := x = 20 ∨ x = 33 ∨ x = 46 ∨ x = 59 ∨ x = 72 ∨ x = 85
theorem t_hs_at {x : Nat} (h : t_hs x) : t_at x := by unfold t_hs at h; unfold t_at; omega
theorem t_k1_o {Z : Nat → Nat → Int32} {x c : Nat} (hx : t_hs x) (h : c < 18 ∨ 98 ≤ c) : t_k1 Z x c = Z c := by
  unfold t_hs at hx
  unfold t_k1
  rw [s_upd_o (by omega), t_bc_o (by omega)]
theorem t_kZ_o {Z : Nat → Nat → Int32} {P : Nat → Nat} {m c : Nat} (hP : ∀ j, j < 6 → t_hs (P j)) (h : c < 18 ∨ 98 ≤ c) : t_kZ Z P m c = Z c := by
  unfold t_kZ
  split
  next hm => exact t_k1_o (hP m hm) h
  next hm => rw [t_k1_o (hP 0 (by omega)) h, s_upd_o (by omega)]
def y_nm (k : Int32) : Bool := decide (0 ≤ k ∧ k ≤ 999)
theorem y_d1 {c : Prop} [Decidable c] : ¬ y_b (decide c) = 0 ↔ c := by rw [y_b1, decide_eq_true_eq]
theorem y_d0 {c : Prop} [Decidable c] : y_b (decide c) = 0 ↔ ¬ c := by rw [y_b0, decide_eq_false_iff_not]
theorem x_num {h : sHp} {k : Int32} : m_r 79 [.int k] h (some (.int (y_b (y_nm k)))) h := by
  refine m_of (ls := [.int k]) hk_79 rfl rfl rfl ?_
  refine e_go hk_79 2 (c := (if s_cnd .lt k 0 = true then 15 else 4, [.int k], [], h)) rfl ?_
  refine e_lt (a := 15) (b := 4) (x := k) (y := 0) (fun hc1 => ?_) (fun hc1 => ?_)
  · skip
    refine e_go hk_79 1 (c := (16, [.int k], [.int 0], h)) rfl ?_
    exact e_ret hk_79 rfl rfl rfl (by rw [y_nm, y_cf (fun z : 0 ≤ k ∧ k ≤ 999 => absurd hc1 (Int32.not_lt.mpr z.1))]) rfl
  · skip
    refine e_go hk_79 3 (c := (if s_cnd .gt k 999 = true then 15 else 11, [.int k], [], h)) rfl ?_
    refine e_gt (a := 15) (b := 11) (x := k) (y := 999) (fun hc8 => ?_) (fun hc8 => ?_)
    · skip
      refine e_go hk_79 1 (c := (16, [.int k], [.int 0], h)) rfl ?_
      exact e_ret hk_79 rfl rfl rfl (by rw [y_nm, y_cf (fun z : 0 ≤ k ∧ k ≤ 999 => absurd hc8 (Int32.not_lt.mpr z.2))]) rfl
    · skip
      refine e_go hk_79 2 (c := (16, [.int k], [.int 1], h)) rfl ?_
      exact e_ret hk_79 rfl rfl rfl (by rw [y_nm, y_ct (show 0 ≤ k ∧ k ≤ 999 from ⟨Int32.not_lt.mp hc1, Int32.not_lt.mp hc8⟩)]) rfl
def t_st (s : Int32) : Option Nat := if 0 ≤ s ∧ s < 3 then some s.toNatClampNeg else none
def c_set (Z : Nat → Nat → Int32) (P : Nat → Nat) (m : Nat) (s v : Int32) : Int32 × (Nat → Nat → Int32) × (Nat → Nat) := match t_st s with
  | none => (-2, Z, P)
  | some j => if Z 1 j ≤ v ∧ v ≤ Z 2 j then (Z 7 j, s_upd (t_kZ Z P m) 7 j v, t_kP P m) else (-2, Z, P)
theorem x_isset {Z : Nat → Nat → Int32} {P : Nat → Nat} {L : Nat} {j : Nat} {v : Int32} (hj : j < 3) : m_r 80 [.int (nI j), .int v] (hp Z P L) (some (.int (y_b (decide (Z 1 j ≤ v ∧ v ≤ Z 2 j))))) (hp Z P L) := by
  refine m_of (ls := [.int (nI j), .int v]) hk_80 rfl rfl rfl ?_
  refine e_go hk_80 2 (c := (if s_cnd .lt (nI j) 0 = true then 20 else 4, [.int (nI j), .int v], [], hp Z P L)) rfl ?_
  refine e_lt (a := 20) (b := 4) (x := nI j) (y := 0) (fun hc1 => absurd hc1 (nI_pos (by omega))) (fun hc1 => ?_)
  refine e_go hk_80 4 (c := (if s_cnd .ge (nI j) 3 = true then 20 else 12, [.int (nI j), .int v], [], hp Z P L)) rfl ?_
  refine e_ge (a := 20) (b := 12) (x := nI j) (y := 3) (fun hc9 => absurd hc9 ((show ¬ nI 3 ≤ nI j from nI_ge (by omega) (by decide)))) (fun hc9 => ?_)
  refine e_go hk_80 4 (c := (if s_cnd .lt (nI j) 3 = true then 22 else 20, [.int (nI j), .int v], [], hp Z P L)) rfl ?_
  refine e_lt (a := 22) (b := 20) (x := nI j) (y := 3) (fun hc17 => ?_) (fun hc17 => absurd ((show nI j < nI 3 from (y_lt (by omega) (by decide)).mpr hj)) hc17)
  refine e_go hk_80 3 (c := (27, [.int (nI j), .int v], [.int (nI j), .ref 1, .int v], hp Z P L)) rfl ?_
  refine e_ald hk_80 (a := 1) (j := j) (n := 3) rfl rfl rfl hj (by decide) ?_
  show e_r 80 28 [.int (nI j), .int v] [.int (Z 1 j), .int v] (hp Z P L) _ _
  refine e_go hk_80 1 (c := (if s_cnd .lt v (Z 1 j) = true then 44 else 31, [.int (nI j), .int v], [], hp Z P L)) rfl ?_
  refine e_lt (a := 44) (b := 31) (x := v) (y := Z 1 j) (fun hc28 => ?_) (fun hc28 => ?_)
  · skip
    refine e_go hk_80 1 (c := (45, [.int (nI j), .int v], [.int 0], hp Z P L)) rfl ?_
    exact e_ret hk_80 rfl rfl rfl (by rw [y_cf (fun z : Z 1 j ≤ v ∧ v ≤ Z 2 j => absurd hc28 (Int32.not_lt.mpr z.1))]) rfl
  · skip
    refine e_go hk_80 3 (c := (36, [.int (nI j), .int v], [.int (nI j), .ref 2, .int v], hp Z P L)) rfl ?_
    refine e_ald hk_80 (a := 2) (j := j) (n := 3) rfl rfl rfl hj (by decide) ?_
    show e_r 80 37 [.int (nI j), .int v] [.int (Z 2 j), .int v] (hp Z P L) _ _
    refine e_go hk_80 1 (c := (if s_cnd .gt v (Z 2 j) = true then 44 else 40, [.int (nI j), .int v], [], hp Z P L)) rfl ?_
    refine e_gt (a := 44) (b := 40) (x := v) (y := Z 2 j) (fun hc37 => ?_) (fun hc37 => ?_)
    · skip
      refine e_go hk_80 1 (c := (45, [.int (nI j), .int v], [.int 0], hp Z P L)) rfl ?_
      exact e_ret hk_80 rfl rfl rfl (by rw [y_cf (fun z : Z 1 j ≤ v ∧ v ≤ Z 2 j => absurd hc37 (Int32.not_lt.mpr z.2))]) rfl
    · skip
      refine e_go hk_80 2 (c := (45, [.int (nI j), .int v], [.int 1], hp Z P L)) rfl ?_
      exact e_ret hk_80 rfl rfl rfl (by rw [y_ct (show Z 1 j ≤ v ∧ v ≤ Z 2 j from ⟨Int32.not_lt.mp hc28, Int32.not_lt.mp hc37⟩)]) rfl
theorem x_isset_no {Z : Nat → Nat → Int32} {P : Nat → Nat} {L : Nat} {s v : Int32} (hq : t_st s = none) : m_r 80 [.int s, .int v] (hp Z P L) (some (.int 0)) (hp Z P L) := by
  refine m_of (ls := [.int s, .int v]) hk_80 rfl rfl rfl ?_
  refine e_go hk_80 2 (c := (if s_cnd .lt s 0 = true then 20 else 4, [.int s, .int v], [], hp Z P L)) rfl ?_
  refine e_lt (a := 20) (b := 4) (x := s) (y := 0) (fun hc1 => ?_) (fun hc1 => ?_)
  · skip
    refine e_go hk_80 1 (c := (21, [.int s, .int v], [.int 0], hp Z P L)) rfl ?_
    exact e_ret hk_80 rfl rfl rfl rfl rfl
  · skip
    have h3 : 3 ≤ s := by rw [t_st] at hq; split at hq; cases hq; next z => rw [not_and] at z; exact Int32.not_lt.mp (z (Int32.not_lt.mp hc1))
    refine e_go hk_80 4 (c := (if s_cnd .ge s 3 = true then 20 else 12, [.int s, .int v], [], hp Z P L)) rfl ?_
    refine e_ge (a := 20) (b := 12) (x := s) (y := 3) (fun hc9 => ?_) (fun hc9 => absurd (h3) hc9)
    refine e_go hk_80 1 (c := (21, [.int s, .int v], [.int 0], hp Z P L)) rfl ?_
    exact e_ret hk_80 rfl rfl rfl rfl rfl
theorem x_set_no {Z : Nat → Nat → Int32} {P : Nat → Nat} {L n m : Nat} (hN : Z 5 6 = nI n) (hn : n ≤ 60) (hF : ∀ i, i < n → Z 17 i = 0 ∨ Z 17 i = 1) (hP : ∀ j, j < 6 → t_hs (P j)) (hM : Z 18 1 = nI m) (hm : m ≤ 6) {s v : Int32} (hq : t_st s = none) : m_r 57 [.ref 4, .int s, .int v] (hp Z P L) (some (.int (c_set Z P m s v).1)) (hp (c_set Z P m s v).2.1 (c_set Z P m s v).2.2 L) := by
  refine m_of (ls := [.ref 4, .int s, .int v, s_no]) hk_57 rfl rfl rfl ?_
  refine e_go hk_57 2 (c := (2, [.ref 4, .int s, .int v, s_no], [.int v, .int s], hp Z P L)) rfl ?_
  refine e_call hk_57 (as := [.int s, .int v]) (rest := []) rfl rfl hk_80 rfl (Nat.le_of_ble_eq_true rfl) rfl (x_isset_no hq) ?_
  show e_r 57 5 [.ref 4, .int s, .int v, s_no] [.int 0] (hp Z P L) _ _
  refine e_go hk_57 1 (c := (if s_cnd .ne 0 0 = true then 11 else 8, [.ref 4, .int s, .int v, s_no], [], hp Z P L)) rfl ?_
  refine e_ne (a := 11) (b := 8) (x := 0) (y := 0) (fun hc5 => absurd (rfl) hc5) (fun hc5 => ?_)
  refine e_go hk_57 1 (c := (10, [.ref 4, .int s, .int v, s_no], [.int ((-2))], hp Z P L)) rfl ?_
  exact e_ret hk_57 rfl rfl rfl (by rw [c_set, hq]) (by rw [c_set, hq])
theorem x_set_in {Z : Nat → Nat → Int32} {P : Nat → Nat} {L n m : Nat} (hN : Z 5 6 = nI n) (hn : n ≤ 60) (hF : ∀ i, i < n → Z 17 i = 0 ∨ Z 17 i = 1) (hP : ∀ j, j < 6 → t_hs (P j)) (hM : Z 18 1 = nI m) (hm : m ≤ 6) {v : Int32} {j : Nat} (hj : j < 3) (hq : t_st (nI j) = some j) : m_r 57 [.ref 4, .int (nI j), .int v] (hp Z P L) (some (.int (c_set Z P m (nI j) v).1)) (hp (c_set Z P m (nI j) v).2.1 (c_set Z P m (nI j) v).2.2 L) := by
  have hcs : c_set Z P m (nI j) v = if Z 1 j ≤ v ∧ v ≤ Z 2 j then (Z 7 j, s_upd (t_kZ Z P m) 7 j v, t_kP P m) else (-2, Z, P) := by rw [c_set, hq]
  refine m_of (ls := [.ref 4, .int (nI j), .int v, s_no]) hk_57 rfl rfl rfl ?_
  refine e_go hk_57 2 (c := (2, [.ref 4, .int (nI j), .int v, s_no], [.int v, .int (nI j)], hp Z P L)) rfl ?_
  refine e_call hk_57 (as := [.int (nI j), .int v]) (rest := []) rfl rfl hk_80 rfl (Nat.le_of_ble_eq_true rfl) rfl (x_isset hj) ?_
  show e_r 57 5 [.ref 4, .int (nI j), .int v, s_no] [.int (y_b (decide (Z 1 j ≤ v ∧ v ≤ Z 2 j)))] (hp Z P L) _ _
  refine e_go hk_57 1 (c := (if s_cnd .ne (y_b (decide (Z 1 j ≤ v ∧ v ≤ Z 2 j))) 0 = true then 11 else 8, [.ref 4, .int (nI j), .int v, s_no], [], hp Z P L)) rfl ?_
  refine e_ne (a := 11) (b := 8) (x := y_b (decide (Z 1 j ≤ v ∧ v ≤ Z 2 j))) (y := 0) (fun hc5 => ?_) (fun hc5 => ?_)
  · skip
    rw [y_d1] at hc5
    refine e_go hk_57 4 (c := (19, [.ref 4, .int (nI j), .int v, s_no], [.ref 5, .ref 18], hp Z P L)) rfl ?_
    refine e_call hk_57 (as := [.ref 18, .ref 5]) (rest := []) rfl rfl hk_1 rfl (Nat.le_of_ble_eq_true rfl) rfl (x_keep (fun j hj => t_hs_at (hP j hj)) hM hm) ?_
    show e_r 57 22 [.ref 4, .int (nI j), .int v, s_no] [] (hp ((t_kZ Z P m)) ((t_kP P m)) L) _ _
    refine e_go hk_57 4 (c := (30, [.ref 4, .int (nI j), .int v, s_no], [.int (nI j), .ref 6], hp ((t_kZ Z P m)) ((t_kP P m)) L)) rfl ?_
    refine e_call hk_57 (as := [.ref 6, .int (nI j)]) (rest := []) rfl rfl hk_22 rfl (Nat.le_of_ble_eq_true rfl) rfl (x_at (r := 6) (a := 7) (n := 3) rfl rfl rfl (by decide) (j := j) (by omega)) ?_
    show e_r 57 33 [.ref 4, .int (nI j), .int v, s_no] [.int (((t_kZ Z P m)) 7 j)] (hp ((t_kZ Z P m)) ((t_kP P m)) L) _ _
    refine e_go hk_57 6 (c := (43, [.ref 4, .int (nI j), .int v, .int (((t_kZ Z P m)) 7 j)], [.int v, .int (nI j), .ref 6], hp ((t_kZ Z P m)) ((t_kP P m)) L)) rfl ?_
    refine e_call hk_57 (as := [.ref 6, .int (nI j), .int v]) (rest := []) rfl rfl hk_23 rfl (Nat.le_of_ble_eq_true rfl) rfl (x_write (r := 6) (a := 7) (n := 3) rfl rfl rfl (by decide) (by decide) (j := j) (by omega)) ?_
    show e_r 57 46 [.ref 4, .int (nI j), .int v, .int (((t_kZ Z P m)) 7 j)] [] (hp (s_upd ((t_kZ Z P m)) 7 j v) ((t_kP P m)) L) _ _
    refine e_go hk_57 1 (c := (47, [.ref 4, .int (nI j), .int v, .int (((t_kZ Z P m)) 7 j)], [.int (((t_kZ Z P m)) 7 j)], hp (s_upd ((t_kZ Z P m)) 7 j v) ((t_kP P m)) L)) rfl ?_
    exact e_ret hk_57 rfl rfl rfl (by rw [hcs, if_pos hc5]; dsimp only; rw [t_kZ_o hP (by decide)]) (by rw [hcs, if_pos hc5])
  · skip
    rw [y_d0] at hc5
    refine e_go hk_57 1 (c := (10, [.ref 4, .int (nI j), .int v, s_no], [.int ((-2))], hp Z P L)) rfl ?_
    exact e_ret hk_57 rfl rfl rfl (by rw [hcs, if_neg hc5]) (by rw [hcs, if_neg hc5])
theorem t_st_in {s : Int32} {j : Nat} (h : t_st s = some j) : j < 3 ∧ s = nI j := by
  unfold t_st at h
  split at h
  next z =>
    obtain ⟨i, hi, rfl⟩ := nI_of (Int32.not_lt.mpr z.1)
    rw [nI_clamp hi] at h
    cases h
    exact ⟨(nI_ltI hi (by decide)).mp (show nI _ < nI 3 from z.2), rfl⟩
  · cases h
theorem x_set {Z : Nat → Nat → Int32} {P : Nat → Nat} {L n m : Nat} (hN : Z 5 6 = nI n) (hn : n ≤ 60) (hF : ∀ i, i < n → Z 17 i = 0 ∨ Z 17 i = 1) (hP : ∀ j, j < 6 → t_hs (P j)) (hM : Z 18 1 = nI m) (hm : m ≤ 6) {s v : Int32} : m_r 57 [.ref 4, .int s, .int v] (hp Z P L) (some (.int (c_set Z P m s v).1)) (hp (c_set Z P m s v).2.1 (c_set Z P m s v).2.2 L) := by
  cases hq : t_st s with
  | none => exact x_set_no hN hn hF hP hM hm hq
  | some j =>
    obtain ⟨hj, rfl⟩ := t_st_in hq
    exact x_set_in hN hn hF hP hM hm hj hq
def c_put (Z : Nat → Nat → Int32) (P : Nat → Nat) (n m : Nat) (key value : Int32) : Int32 × (Nat → Nat → Int32) × (Nat → Nat) := if y_nm key = true ∧ y_nm value = true then (if t_rm Z n key = true then ((t_en (t_kZ Z P m) n key value).1, (t_en (t_kZ Z P m) n key value).2, t_kP P m) else (-4, Z, P)) else (-2, Z, P)
theorem x_putin {Z : Nat → Nat → Int32} {P : Nat → Nat} {L n m : Nat} (hN : Z 5 6 = nI n) (hn : n ≤ 60) (hF : ∀ i, i < n → Z 17 i = 0 ∨ Z 17 i = 1) (hP : ∀ j, j < 6 → t_hs (P j)) (hM : Z 18 1 = nI m) (hm : m ≤ 6) {key value : Int32} : m_r 58 [.ref 4, .int key, .int value] (hp Z P L) (some (.int (c_put Z P n m key value).1)) (hp (c_put Z P n m key value).2.1 (c_put Z P n m key value).2.2 L) := by
  have hN2 : t_kZ Z P m 5 6 = nI n := by rw [t_kZ_o hP (by decide)]; exact hN
  have hF2 : ∀ i, i < n → t_kZ Z P m 17 i = 0 ∨ t_kZ Z P m 17 i = 1 := fun i hi => by rw [t_kZ_o hP (by decide)]; exact hF i hi
  refine m_of (ls := [.ref 4, .int key, .int value]) hk_58 rfl rfl rfl ?_
  refine e_go hk_58 1 (c := (1, [.ref 4, .int key, .int value], [.int key], hp Z P L)) rfl ?_
  refine e_call hk_58 (as := [.int key]) (rest := []) rfl rfl hk_79 rfl (Nat.le_of_ble_eq_true rfl) rfl (x_num (k := key)) ?_
  show e_r 58 4 [.ref 4, .int key, .int value] [.int (y_b (y_nm key))] (hp Z P L) _ _
  refine e_go hk_58 1 (c := (if s_cnd .eq (y_b (y_nm key)) 0 = true then 14 else 7, [.ref 4, .int key, .int value], [], hp Z P L)) rfl ?_
  refine e_eq (a := 14) (b := 7) (x := y_b (y_nm key)) (y := 0) (fun hc4 => ?_) (fun hc4 => ?_)
  · skip
    rw [y_b0] at hc4
    refine e_go hk_58 1 (c := (16, [.ref 4, .int key, .int value], [.int ((-2))], hp Z P L)) rfl ?_
    exact e_ret hk_58 rfl rfl rfl (by rw [c_put, if_neg (fun z => by rw [z.1] at hc4; cases hc4)]) (by rw [c_put, if_neg (fun z => by rw [z.1] at hc4; cases hc4)])
  · skip
    rw [y_b1] at hc4
    refine e_go hk_58 1 (c := (8, [.ref 4, .int key, .int value], [.int value], hp Z P L)) rfl ?_
    refine e_call hk_58 (as := [.int value]) (rest := []) rfl rfl hk_79 rfl (Nat.le_of_ble_eq_true rfl) rfl (x_num (k := value)) ?_
    show e_r 58 11 [.ref 4, .int key, .int value] [.int (y_b (y_nm value))] (hp Z P L) _ _
    refine e_go hk_58 1 (c := (if s_cnd .ne (y_b (y_nm value)) 0 = true then 17 else 14, [.ref 4, .int key, .int value], [], hp Z P L)) rfl ?_
    refine e_ne (a := 17) (b := 14) (x := y_b (y_nm value)) (y := 0) (fun hc11 => ?_) (fun hc11 => ?_)
    · skip
      rw [y_b1] at hc11
      refine e_go hk_58 3 (c := (22, [.ref 4, .int key, .int value], [.int key, .ref 5], hp Z P L)) rfl ?_
      refine e_call hk_58 (as := [.ref 5, .int key]) (rest := []) rfl rfl hk_45 rfl (Nat.le_of_ble_eq_true rfl) rfl (x_room hN hn) ?_
      show e_r 58 25 [.ref 4, .int key, .int value] [.int (y_b (t_rm Z n key))] (hp Z P L) _ _
      refine e_go hk_58 1 (c := (if s_cnd .ne (y_b (t_rm Z n key)) 0 = true then 31 else 28, [.ref 4, .int key, .int value], [], hp Z P L)) rfl ?_
      refine e_ne (a := 31) (b := 28) (x := y_b (t_rm Z n key)) (y := 0) (fun hc25 => ?_) (fun hc25 => ?_)
      · skip
        rw [y_b1] at hc25
        refine e_go hk_58 4 (c := (39, [.ref 4, .int key, .int value], [.ref 5, .ref 18], hp Z P L)) rfl ?_
        refine e_call hk_58 (as := [.ref 18, .ref 5]) (rest := []) rfl rfl hk_1 rfl (Nat.le_of_ble_eq_true rfl) rfl (x_keep (fun j hj => t_hs_at (hP j hj)) hM hm) ?_
        show e_r 58 42 [.ref 4, .int key, .int value] [] (hp ((t_kZ Z P m)) ((t_kP P m)) L) _ _
        refine e_go hk_58 4 (c := (48, [.ref 4, .int key, .int value], [.int value, .int key, .ref 5], hp ((t_kZ Z P m)) ((t_kP P m)) L)) rfl ?_
        refine e_call hk_58 (as := [.ref 5, .int key, .int value]) (rest := []) rfl rfl hk_46 rfl (Nat.le_of_ble_eq_true rfl) rfl (x_enter (Z := t_kZ Z P m) (P := t_kP P m) (key := key) (value := value) hN2 hn hF2) ?_
        show e_r 58 51 [.ref 4, .int key, .int value] [.int ((t_en (t_kZ Z P m) n key value).1)] (hp ((t_en (t_kZ Z P m) n key value).2) ((t_kP P m)) L) _ _
        exact e_ret hk_58 rfl rfl rfl (by rw [c_put, if_pos ⟨hc4, hc11⟩, if_pos hc25]) (by rw [c_put, if_pos ⟨hc4, hc11⟩, if_pos hc25])
      · skip
        rw [y_b0] at hc25
        refine e_go hk_58 1 (c := (30, [.ref 4, .int key, .int value], [.int ((-4))], hp Z P L)) rfl ?_
        exact e_ret hk_58 rfl rfl rfl (by rw [c_put, if_pos ⟨hc4, hc11⟩, if_neg (by rw [hc25]; decide)]) (by rw [c_put, if_pos ⟨hc4, hc11⟩, if_neg (by rw [hc25]; decide)])
    · skip
      rw [y_b0] at hc11
      refine e_go hk_58 1 (c := (16, [.ref 4, .int key, .int value], [.int ((-2))], hp Z P L)) rfl ?_
      exact e_ret hk_58 rfl rfl rfl (by rw [c_put, if_neg (fun z => by rw [z.2] at hc11; cases hc11)]) (by rw [c_put, if_neg (fun z => by rw [z.2] at hc11; cases hc11)])
def c_rem (Z : Nat → Nat → Int32) (P : Nat → Nat) (n m : Nat) (key : Int32) : Int32 × (Nat → Nat → Int32) × (Nat → Nat) := if y_nm key = true then (if t_fn (Z 9) (Z 17) n key = none then (-1, Z, P) else ((t_hl (t_kZ Z P m) n key).1, (t_hl (t_kZ Z P m) n key).2, t_kP P m)) else (-2, Z, P)
theorem x_rem {Z : Nat → Nat → Int32} {P : Nat → Nat} {L n m : Nat} (hN : Z 5 6 = nI n) (hn : n ≤ 60) (hF : ∀ i, i < n → Z 17 i = 0 ∨ Z 17 i = 1) (hP : ∀ j, j < 6 → t_hs (P j)) (hM : Z 18 1 = nI m) (hm : m ≤ 6) {key : Int32} : m_r 59 [.ref 4, .int key] (hp Z P L) (some (.int (c_rem Z P n m key).1)) (hp (c_rem Z P n m key).2.1 (c_rem Z P n m key).2.2 L) := by
  have hN2 : t_kZ Z P m 5 6 = nI n := by rw [t_kZ_o hP (by decide)]; exact hN
  have hF2 : ∀ i, i < n → t_kZ Z P m 17 i = 0 ∨ t_kZ Z P m 17 i = 1 := fun i hi => by rw [t_kZ_o hP (by decide)]; exact hF i hi
  refine m_of (ls := [.ref 4, .int key]) hk_59 rfl rfl rfl ?_
  refine e_go hk_59 1 (c := (1, [.ref 4, .int key], [.int key], hp Z P L)) rfl ?_
  refine e_call hk_59 (as := [.int key]) (rest := []) rfl rfl hk_79 rfl (Nat.le_of_ble_eq_true rfl) rfl (x_num (k := key)) ?_
  show e_r 59 4 [.ref 4, .int key] [.int (y_b (y_nm key))] (hp Z P L) _ _
  refine e_go hk_59 1 (c := (if s_cnd .ne (y_b (y_nm key)) 0 = true then 10 else 7, [.ref 4, .int key], [], hp Z P L)) rfl ?_
  refine e_ne (a := 10) (b := 7) (x := y_b (y_nm key)) (y := 0) (fun hc4 => ?_) (fun hc4 => ?_)
  · skip
    rw [y_b1] at hc4
    refine e_go hk_59 3 (c := (15, [.ref 4, .int key], [.int key, .ref 5], hp Z P L)) rfl ?_
    refine e_call hk_59 (as := [.ref 5, .int key]) (rest := []) rfl rfl hk_32 rfl (Nat.le_of_ble_eq_true rfl) rfl (x_fnode hN hn) ?_
    show e_r 59 18 [.ref 4, .int key] [.int (y_o (t_fn (Z 9) (Z 17) n key))] (hp Z P L) _ _
    refine e_go hk_59 2 (c := (if s_cnd .ne (y_o (t_fn (Z 9) (Z 17) n key)) ((-6)) = true then 25 else 23, [.ref 4, .int key], [], hp Z P L)) rfl ?_
    refine e_ne (a := 25) (b := 23) (x := y_o (t_fn (Z 9) (Z 17) n key)) (y := (-6)) (fun hc20 => ?_) (fun hc20 => ?_)
    · skip
      rw [y_o_none (fun j hj => by have := (t_fn_lt hj).1; omega)] at hc20
      refine e_go hk_59 4 (c := (33, [.ref 4, .int key], [.ref 5, .ref 18], hp Z P L)) rfl ?_
      refine e_call hk_59 (as := [.ref 18, .ref 5]) (rest := []) rfl rfl hk_1 rfl (Nat.le_of_ble_eq_true rfl) rfl (x_keep (fun j hj => t_hs_at (hP j hj)) hM hm) ?_
      show e_r 59 36 [.ref 4, .int key] [] (hp ((t_kZ Z P m)) ((t_kP P m)) L) _ _
      refine e_go hk_59 3 (c := (41, [.ref 4, .int key], [.int key, .ref 5], hp ((t_kZ Z P m)) ((t_kP P m)) L)) rfl ?_
      refine e_call hk_59 (as := [.ref 5, .int key]) (rest := []) rfl rfl hk_47 rfl (Nat.le_of_ble_eq_true rfl) rfl (x_hollow (Z := t_kZ Z P m) (P := t_kP P m) (key := key) hN2 hn hF2) ?_
      show e_r 59 44 [.ref 4, .int key] [.int ((t_hl (t_kZ Z P m) n key).1)] (hp ((t_hl (t_kZ Z P m) n key).2) ((t_kP P m)) L) _ _
      exact e_ret hk_59 rfl rfl rfl (by rw [c_rem, if_pos hc4, if_neg hc20]) (by rw [c_rem, if_pos hc4, if_neg hc20])
    · skip
      rw [y_o_none (fun j hj => by have := (t_fn_lt hj).1; omega)] at hc20
      refine e_go hk_59 1 (c := (24, [.ref 4, .int key], [.int ((-1))], hp Z P L)) rfl ?_
      exact e_ret hk_59 rfl rfl rfl (by rw [c_rem, if_pos hc4, if_pos hc20]) (by rw [c_rem, if_pos hc4, if_pos hc20])
  · skip
    rw [y_b0] at hc4
    refine e_go hk_59 1 (c := (9, [.ref 4, .int key], [.int ((-2))], hp Z P L)) rfl ?_
    exact e_ret hk_59 rfl rfl rfl (by rw [c_rem, if_neg (by rw [hc4]; decide)]) (by rw [c_rem, if_neg (by rw [hc4]; decide)])
def c_reb (Z : Nat → Nat → Int32) (P : Nat → Nat) (n m : Nat) (key : Int32) : Int32 × (Nat → Nat → Int32) × (Nat → Nat) := if y_nm key = true then (if t_nd (Z 9) n key = none then (-1, Z, P) else ((t_lk (t_kZ Z P m) n key).1, (t_lk (t_kZ Z P m) n key).2, t_kP P m)) else (-2, Z, P)
theorem x_reb {Z : Nat → Nat → Int32} {P : Nat → Nat} {L n m : Nat} (hN : Z 5 6 = nI n) (hn : n ≤ 60) (hF : ∀ i, i < n → Z 17 i = 0 ∨ Z 17 i = 1) (hP : ∀ j, j < 6 → t_hs (P j)) (hM : Z 18 1 = nI m) (hm : m ≤ 6) {key : Int32} : m_r 60 [.ref 4, .int key] (hp Z P L) (some (.int (c_reb Z P n m key).1)) (hp (c_reb Z P n m key).2.1 (c_reb Z P n m key).2.2 L) := by
  have hN2 : t_kZ Z P m 5 6 = nI n := by rw [t_kZ_o hP (by decide)]; exact hN
  have hF2 : ∀ i, i < n → t_kZ Z P m 17 i = 0 ∨ t_kZ Z P m 17 i = 1 := fun i hi => by rw [t_kZ_o hP (by decide)]; exact hF i hi
  refine m_of (ls := [.ref 4, .int key]) hk_60 rfl rfl rfl ?_
  refine e_go hk_60 1 (c := (1, [.ref 4, .int key], [.int key], hp Z P L)) rfl ?_
  refine e_call hk_60 (as := [.int key]) (rest := []) rfl rfl hk_79 rfl (Nat.le_of_ble_eq_true rfl) rfl (x_num (k := key)) ?_
  show e_r 60 4 [.ref 4, .int key] [.int (y_b (y_nm key))] (hp Z P L) _ _
  refine e_go hk_60 1 (c := (if s_cnd .ne (y_b (y_nm key)) 0 = true then 10 else 7, [.ref 4, .int key], [], hp Z P L)) rfl ?_
  refine e_ne (a := 10) (b := 7) (x := y_b (y_nm key)) (y := 0) (fun hc4 => ?_) (fun hc4 => ?_)
  · skip
    rw [y_b1] at hc4
    refine e_go hk_60 3 (c := (15, [.ref 4, .int key], [.int key, .ref 5], hp Z P L)) rfl ?_
    refine e_call hk_60 (as := [.ref 5, .int key]) (rest := []) rfl rfl hk_31 rfl (Nat.le_of_ble_eq_true rfl) rfl (x_node hN hn) ?_
    show e_r 60 18 [.ref 4, .int key] [.int (y_o (t_nd (Z 9) n key))] (hp Z P L) _ _
    refine e_go hk_60 2 (c := (if s_cnd .ne (y_o (t_nd (Z 9) n key)) ((-6)) = true then 25 else 23, [.ref 4, .int key], [], hp Z P L)) rfl ?_
    refine e_ne (a := 25) (b := 23) (x := y_o (t_nd (Z 9) n key)) (y := (-6)) (fun hc20 => ?_) (fun hc20 => ?_)
    · skip
      rw [y_o_none (fun j hj => by have := (t_nd_lt hj).1; omega)] at hc20
      refine e_go hk_60 4 (c := (33, [.ref 4, .int key], [.ref 5, .ref 18], hp Z P L)) rfl ?_
      refine e_call hk_60 (as := [.ref 18, .ref 5]) (rest := []) rfl rfl hk_1 rfl (Nat.le_of_ble_eq_true rfl) rfl (x_keep (fun j hj => t_hs_at (hP j hj)) hM hm) ?_
      show e_r 60 36 [.ref 4, .int key] [] (hp ((t_kZ Z P m)) ((t_kP P m)) L) _ _
      refine e_go hk_60 3 (c := (41, [.ref 4, .int key], [.int key, .ref 5], hp ((t_kZ Z P m)) ((t_kP P m)) L)) rfl ?_
      refine e_call hk_60 (as := [.ref 5, .int key]) (rest := []) rfl rfl hk_48 rfl (Nat.le_of_ble_eq_true rfl) rfl (x_lk (Z := t_kZ Z P m) (P := t_kP P m) (key := key) hN2 hn hF2) ?_
      show e_r 60 44 [.ref 4, .int key] [.int ((t_lk (t_kZ Z P m) n key).1)] (hp ((t_lk (t_kZ Z P m) n key).2) ((t_kP P m)) L) _ _
      exact e_ret hk_60 rfl rfl rfl (by rw [c_reb, if_pos hc4, if_neg hc20]) (by rw [c_reb, if_pos hc4, if_neg hc20])
    · skip
      rw [y_o_none (fun j hj => by have := (t_nd_lt hj).1; omega)] at hc20
      refine e_go hk_60 1 (c := (24, [.ref 4, .int key], [.int ((-1))], hp Z P L)) rfl ?_
      exact e_ret hk_60 rfl rfl rfl (by rw [c_reb, if_pos hc4, if_pos hc20]) (by rw [c_reb, if_pos hc4, if_pos hc20])
  · skip
    rw [y_b0] at hc4
    refine e_go hk_60 1 (c := (9, [.ref 4, .int key], [.int ((-2))], hp Z P L)) rfl ?_
    exact e_ret hk_60 rfl rfl rfl (by rw [c_reb, if_neg (by rw [hc4]; decide)]) (by rw [c_reb, if_neg (by rw [hc4]; decide)])
