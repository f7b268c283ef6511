/-! Tree: laying anew, entering, hollowing out; printed by wip/whole/gen/tree4.py -/
def t_ct (F : Nat → Int32) : Nat → Nat → Nat
  | _, 0 => 0
  | i, k + 1 => (if F i = 1 then 1 else 0) + t_ct F (i + 1) k
theorem t_ct_le (F : Nat → Int32) : ∀ k i, t_ct F i k ≤ k
  | 0, i => Nat.le_refl _
  | k + 1, i => by
    unfold t_ct
    have := t_ct_le F k (i + 1)
    split <;> omega
theorem t_sm_ct {F : Nat → Int32} : ∀ (k i m : Nat), (∀ j, i ≤ j → j < i + k → F j = 0 ∨ F j = 1) → t_sm F i k (nI m) = nI (m + t_ct F i k)
  | 0, i, m, h => rfl
  | k + 1, i, m, h => by
    rw [t_sm, t_ct]
    rcases h i (Nat.le_refl _) (by omega) with z | z
    · rw [z, if_neg (by decide), show nI m + 0 = nI m from Int32.add_zero _, t_sm_ct k (i + 1) m (fun j a b => h j (by omega) (by omega)), Nat.zero_add]
    · rw [z, if_pos rfl, nI_1, t_sm_ct k (i + 1) (m + 1) (fun j a b => h j (by omega) (by omega)), Nat.add_assoc]
theorem t_sm_c0 {F : Nat → Int32} {k i : Nat} (h : ∀ j, i ≤ j → j < i + k → F j = 0 ∨ F j = 1) : t_sm F i k 0 = nI (t_ct F i k) := by
  have := t_sm_ct k i 0 h
  rwa [Nat.zero_add] at this
/-- depths laid evenly, nothing paid: from the i-th on -/
def t_ly (lo c : Nat) (dep : Int32) : Nat → Nat → (Nat → Nat → Int32) → Nat → Nat → Int32
  | 0, _, Z => Z
  | k + 1, i, Z => t_ly lo c dep k (i + 1) (s_upd (s_upd Z 15 (lo + i) (dep + nI (t_de i c))) 13 (lo + i) 0)
def t_wt (Z : Nat → Nat → Int32) (n j : Nat) : Int32 := nI (t_H Z n j) - nI (t_L Z j) + 1
def t_la (Z : Nat → Nat → Int32) (n j : Nat) : Nat → Nat → Int32 := t_ly (t_L Z j) (t_ct (Z 17) (t_L Z j) (t_H Z n j + 1 - t_L Z j)) (Z 15 j) (t_ct (Z 17) (t_L Z j) (t_H Z n j + 1 - t_L Z j)) 0 (t_dh (t_H Z n j) (n - t_L Z j) (t_L Z j) (t_L Z j) (t_sp Z (t_sm (Z 13) (t_L Z j) (t_H Z n j + 1 - t_L Z j) 0) (t_wt Z n j)))
theorem x_total2 {r a n : Nat} {h : sHp} (h1 : s_nth h.2.2 r = some (0, 3)) (h2 : h.2.1 r 0 = some a) (h3 : s_nth h.2.2 a = some (1, n)) (hn : n < 2 ^ 31) {l u : Nat} (hl : l ≤ u + 1) (hu : u < n) : m_r 25 [.ref r, .int (nI l), .int (nI u)] h (some (.int (t_sm (h.1 a) l (u + 1 - l) 0))) h := by
  rw [show nI u = nI (u + 1) - 1 from (nI_pred u).symm]
  exact x_total h1 h2 h3 hn hl hu
theorem x_lay_l {P : Nat → Nat} {L : Nat} {lo c : Nat} {j hi dep wt : Int32} (hlc : lo + c ≤ 60) : ∀ (k i : Nat) (Z : Nat → Nat → Int32), i + k = c → e_r 52 64 [.ref 5, .int j, .int (nI lo), .int hi, .int dep, .int wt, .int (nI c), .int (nI i)] [] (hp Z P L) (some (.int wt)) (hp (t_ly lo c dep k i Z) P L)
  | 0, i, Z, hi2 => by
    refine e_go hk_52 3 (c := (if s_cnd .ge (nI i) (nI c) = true then 110 else 71, [.ref 5, .int j, .int (nI lo), .int hi, .int dep, .int wt, .int (nI c), .int (nI i)], [], hp Z P L)) rfl ?_
    refine e_ge (a := 110) (b := 71) (x := nI i) (y := nI c) (fun hc68 => ?_) (fun hc68 => absurd ((y_le (by omega) (by omega)).mpr (by omega)) hc68)
    refine e_go hk_52 1 (c := (112, [.ref 5, .int j, .int (nI lo), .int hi, .int dep, .int wt, .int (nI c), .int (nI i)], [.int wt], hp Z P L)) rfl ?_
    exact e_ret hk_52 rfl rfl rfl rfl rfl
  | k + 1, i, Z, hi2 => by
    refine e_go hk_52 3 (c := (if s_cnd .ge (nI i) (nI c) = true then 110 else 71, [.ref 5, .int j, .int (nI lo), .int hi, .int dep, .int wt, .int (nI c), .int (nI i)], [], hp Z P L)) rfl ?_
    refine e_ge (a := 110) (b := 71) (x := nI i) (y := nI c) (fun hc68 => absurd hc68 (nI_ge (by omega) (by omega))) (fun hc68 => ?_)
    refine e_go hk_52 8 (c := (85, [.ref 5, .int j, .int (nI lo), .int hi, .int dep, .int wt, .int (nI c), .int (nI i)], [.int (nI c), .int (nI i), .int dep, .int ((nI lo) + (nI i)), .ref 14], hp Z P L)) rfl ?_
    refine e_call hk_52 (as := [.int (nI i), .int (nI c)]) (rest := [.int dep, .int ((nI lo) + (nI i)), .ref 14]) rfl rfl hk_55 rfl (Nat.le_of_ble_eq_true rfl) rfl (x_even (x := i) (c := c) (by omega) (by omega)) ?_
    show e_r 52 88 [.ref 5, .int j, .int (nI lo), .int hi, .int dep, .int wt, .int (nI c), .int (nI i)] [.int (nI (t_de i c)), .int dep, .int ((nI lo) + (nI i)), .ref 14] (hp Z P L) _ _
    refine e_go hk_52 1 (c := (89, [.ref 5, .int j, .int (nI lo), .int hi, .int dep, .int wt, .int (nI c), .int (nI i)], [.int (dep + (nI (t_de i c))), .int ((nI lo) + (nI i)), .ref 14], hp Z P L)) rfl ?_
    rw [nI_add lo i]
    refine e_call hk_52 (as := [.ref 14, .int (nI (lo + i)), .int (dep + (nI (t_de i c)))]) (rest := []) rfl rfl hk_23 rfl (Nat.le_of_ble_eq_true rfl) rfl (x_write (r := 14) (a := 15) (n := 60) rfl rfl rfl (by decide) (by decide) (j := lo + i) (by omega)) ?_
    show e_r 52 92 [.ref 5, .int j, .int (nI lo), .int hi, .int dep, .int wt, .int (nI c), .int (nI i)] [] (hp (s_upd Z 15 ((lo + i)) (dep + (nI (t_de i c)))) P L) _ _
    refine e_go hk_52 6 (c := (101, [.ref 5, .int j, .int (nI lo), .int hi, .int dep, .int wt, .int (nI c), .int (nI i)], [.int 0, .int ((nI lo) + (nI i)), .ref 12], hp (s_upd Z 15 ((lo + i)) (dep + (nI (t_de i c)))) P L)) rfl ?_
    rw [nI_add lo i]
    refine e_call hk_52 (as := [.ref 12, .int (nI (lo + i)), .int 0]) (rest := []) rfl rfl hk_23 rfl (Nat.le_of_ble_eq_true rfl) rfl (x_write (r := 12) (a := 13) (n := 60) rfl rfl rfl (by decide) (by decide) (j := lo + i) (by omega)) ?_
    show e_r 52 104 [.ref 5, .int j, .int (nI lo), .int hi, .int dep, .int wt, .int (nI c), .int (nI i)] [] (hp (s_upd (s_upd Z 15 ((lo + i)) (dep + (nI (t_de i c)))) 13 ((lo + i)) 0) P L) _ _
    refine e_go hk_52 2 (c := (64, [.ref 5, .int j, .int (nI lo), .int hi, .int dep, .int wt, .int (nI c), .int ((nI i) + 1)], [], hp (s_upd (s_upd Z 15 ((lo + i)) (dep + (nI (t_de i c)))) 13 ((lo + i)) 0) P L)) rfl ?_
    rw [nI_1 i]
    exact x_lay_l hlc k (i + 1) _ (by omega)
theorem x_lay {Z : Nat → Nat → Int32} {P : Nat → Nat} {L n : Nat} (hN : Z 5 6 = nI n) (hn : n ≤ 60) (hF : ∀ i, i < n → Z 17 i = 0 ∨ Z 17 i = 1) {j : Nat} (hj : j < n) : m_r 52 [.ref 5, .int (nI j)] (hp Z P L) (some (.int (t_wt Z n j))) (hp (t_la Z n j) P L) := by
  have hlo : t_L Z j ≤ j := t_lo_le (Z 15) (Z 15 j) j
  have hhi : j ≤ t_H Z n j ∧ t_H Z n j ≤ j + (n - 1 - j) := t_hi_le (Z 15) (Z 15 j) (n - 1 - j) j
  have hct := t_ct_le (Z 17) (t_H Z n j + 1 - t_L Z j) (t_L Z j)
  have hsm : t_sm (Z 17) (t_L Z j) (t_H Z n j + 1 - t_L Z j) 0 = nI (t_ct (Z 17) (t_L Z j) (t_H Z n j + 1 - t_L Z j)) := t_sm_c0 (fun i a b => hF i (by omega))
  unfold t_la t_wt
  generalize hE : t_ct (Z 17) (t_L Z j) (t_H Z n j + 1 - t_L Z j) = c at *
  generalize hA : t_L Z j = lo at *
  generalize hB : t_H Z n j = hi at *
  refine m_of (ls := [.ref 5, .int (nI j), s_no, s_no, s_no, s_no, s_no, s_no]) hk_52 rfl rfl rfl ?_
  refine e_go hk_52 2 (c := (2, [.ref 5, .int (nI j), s_no, s_no, s_no, s_no, s_no, s_no], [.int (nI j), .ref 5], hp Z P L)) rfl ?_
  refine e_call hk_52 (as := [.ref 5, .int (nI j)]) (rest := []) rfl rfl hk_37 rfl (Nat.le_of_ble_eq_true rfl) rfl (show m_r 37 [.ref 5, .int (nI j)] (hp Z P L) (some (.int (nI lo))) (hp Z P L) from (by rw [← hA]; exact x_low (by omega))) ?_
  show e_r 52 5 [.ref 5, .int (nI j), s_no, s_no, s_no, s_no, s_no, s_no] [.int (nI lo)] (hp Z P L) _ _
  refine e_go hk_52 3 (c := (8, [.ref 5, .int (nI j), .int (nI lo), s_no, s_no, s_no, s_no, s_no], [.int (nI j), .ref 5], hp Z P L)) rfl ?_
  refine e_call hk_52 (as := [.ref 5, .int (nI j)]) (rest := []) rfl rfl hk_38 rfl (Nat.le_of_ble_eq_true rfl) rfl (show m_r 38 [.ref 5, .int (nI j)] (hp Z P L) (some (.int (nI hi))) (hp Z P L) from (by rw [← hB]; exact x_high hN hn hj)) ?_
  show e_r 52 11 [.ref 5, .int (nI j), .int (nI lo), s_no, s_no, s_no, s_no, s_no] [.int (nI hi)] (hp Z P L) _ _
  refine e_go hk_52 4 (c := (17, [.ref 5, .int (nI j), .int (nI lo), .int (nI hi), s_no, s_no, s_no, s_no], [.int (nI j), .ref 14], hp Z P L)) rfl ?_
  refine e_call hk_52 (as := [.ref 14, .int (nI j)]) (rest := []) rfl rfl hk_22 rfl (Nat.le_of_ble_eq_true rfl) rfl (x_at (r := 14) (a := 15) (n := 60) rfl rfl rfl (by decide) (j := j) (by omega)) ?_
  show e_r 52 20 [.ref 5, .int (nI j), .int (nI lo), .int (nI hi), s_no, s_no, s_no, s_no] [.int (Z 15 j)] (hp Z P L) _ _
  refine e_go hk_52 12 (c := (36, [.ref 5, .int (nI j), .int (nI lo), .int (nI hi), .int (Z 15 j), .int (((nI hi) - (nI lo)) + 1), s_no, s_no], [.int (nI hi), .int (nI lo), .ref 12, .ref 5], hp Z P L)) rfl ?_
  refine e_call hk_52 (as := [.ref 12, .int (nI lo), .int (nI hi)]) (rest := [.ref 5]) rfl rfl hk_25 rfl (Nat.le_of_ble_eq_true rfl) rfl (x_total2 (r := 12) (a := 13) (n := 60) rfl rfl rfl (by decide) (l := lo) (u := hi) (by omega) (by omega)) ?_
  show e_r 52 39 [.ref 5, .int (nI j), .int (nI lo), .int (nI hi), .int (Z 15 j), .int (((nI hi) - (nI lo)) + 1), s_no, s_no] [.int (t_sm (Z 13) lo (hi + 1 - lo) 0), .ref 5] (hp Z P L) _ _
  refine e_go hk_52 1 (c := (41, [.ref 5, .int (nI j), .int (nI lo), .int (nI hi), .int (Z 15 j), .int (((nI hi) - (nI lo)) + 1), s_no, s_no], [.int (((nI hi) - (nI lo)) + 1), .int (t_sm (Z 13) lo (hi + 1 - lo) 0), .ref 5], hp Z P L)) rfl ?_
  refine e_call hk_52 (as := [.ref 5, .int (t_sm (Z 13) lo (hi + 1 - lo) 0), .int (((nI hi) - (nI lo)) + 1)]) (rest := []) rfl rfl hk_53 rfl (Nat.le_of_ble_eq_true rfl) rfl x_spend ?_
  show e_r 52 44 [.ref 5, .int (nI j), .int (nI lo), .int (nI hi), .int (Z 15 j), .int (((nI hi) - (nI lo)) + 1), s_no, s_no] [] (hp ((t_sp Z (t_sm (Z 13) lo (hi + 1 - lo) 0) (((nI hi) - (nI lo)) + 1))) P L) _ _
  refine e_go hk_52 4 (c := (50, [.ref 5, .int (nI j), .int (nI lo), .int (nI hi), .int (Z 15 j), .int (((nI hi) - (nI lo)) + 1), s_no, s_no], [.int (nI hi), .int (nI lo), .ref 16], hp ((t_sp Z (t_sm (Z 13) lo (hi + 1 - lo) 0) (((nI hi) - (nI lo)) + 1))) P L)) rfl ?_
  refine e_call hk_52 (as := [.ref 16, .int (nI lo), .int (nI hi)]) (rest := []) rfl rfl hk_25 rfl (Nat.le_of_ble_eq_true rfl) rfl (show m_r 25 [.ref 16, .int (nI lo), .int (nI hi)] (hp ((t_sp Z (t_sm (Z 13) lo (hi + 1 - lo) 0) (((nI hi) - (nI lo)) + 1))) P L) (some (.int (nI c))) (hp ((t_sp Z (t_sm (Z 13) lo (hi + 1 - lo) 0) (((nI hi) - (nI lo)) + 1))) P L) from (by rw [← hsm]; exact x_total2 (r := 16) (a := 17) (n := 60) rfl rfl rfl (by decide) (by omega) (by omega))) ?_
  show e_r 52 53 [.ref 5, .int (nI j), .int (nI lo), .int (nI hi), .int (Z 15 j), .int (((nI hi) - (nI lo)) + 1), s_no, s_no] [.int (nI c)] (hp ((t_sp Z (t_sm (Z 13) lo (hi + 1 - lo) 0) (((nI hi) - (nI lo)) + 1))) P L) _ _
  refine e_go hk_52 4 (c := (58, [.ref 5, .int (nI j), .int (nI lo), .int (nI hi), .int (Z 15 j), .int (((nI hi) - (nI lo)) + 1), .int (nI c), s_no], [.int (nI hi), .int (nI lo), .ref 5], hp ((t_sp Z (t_sm (Z 13) lo (hi + 1 - lo) 0) (((nI hi) - (nI lo)) + 1))) P L)) rfl ?_
  refine e_call hk_52 (as := [.ref 5, .int (nI lo), .int (nI hi)]) (rest := []) rfl rfl hk_54 rfl (Nat.le_of_ble_eq_true rfl) rfl (x_drop (Z := (t_sp Z (t_sm (Z 13) lo (hi + 1 - lo) 0) (((nI hi) - (nI lo)) + 1))) (n := n) (l := lo) (hi := hi) hN hn (by omega) (by omega)) ?_
  show e_r 52 61 [.ref 5, .int (nI j), .int (nI lo), .int (nI hi), .int (Z 15 j), .int (((nI hi) - (nI lo)) + 1), .int (nI c), s_no] [] (hp ((t_dh hi (n - lo) lo lo ((t_sp Z (t_sm (Z 13) lo (hi + 1 - lo) 0) (((nI hi) - (nI lo)) + 1))))) P L) _ _
  refine e_go hk_52 2 (c := (64, [.ref 5, .int (nI j), .int (nI lo), .int (nI hi), .int (Z 15 j), .int (((nI hi) - (nI lo)) + 1), .int (nI c), .int 0], [], hp ((t_dh hi (n - lo) lo lo ((t_sp Z (t_sm (Z 13) lo (hi + 1 - lo) 0) (((nI hi) - (nI lo)) + 1))))) P L)) rfl ?_
  exact x_lay_l (by omega) c 0 _ (by omega)
def t_lk (Z : Nat → Nat → Int32) (n : Nat) (key : Int32) : Int32 × (Nat → Nat → Int32) := match t_nd (Z 9) n key with
  | none => (-1, Z)
  | some j => (t_wt Z n j, t_la Z n j)
theorem x_lk_none {Z : Nat → Nat → Int32} {P : Nat → Nat} {L n : Nat} (hN : Z 5 6 = nI n) (hn : n ≤ 60) (hF : ∀ i, i < n → Z 17 i = 0 ∨ Z 17 i = 1) {key : Int32} (hq : t_nd (Z 9) n key = none) : m_r 48 [.ref 5, .int key] (hp Z P L) (some (.int (t_lk Z n key).1)) (hp (t_lk Z n key).2 P L) := by
  refine m_of (ls := [.ref 5, .int key, s_no]) hk_48 rfl rfl rfl ?_
  refine e_go hk_48 2 (c := (2, [.ref 5, .int key, s_no], [.int key, .ref 5], hp Z P L)) rfl ?_
  refine e_call hk_48 (as := [.ref 5, .int key]) (rest := []) rfl rfl hk_31 rfl (Nat.le_of_ble_eq_true rfl) rfl (show m_r 31 [.ref 5, .int key] (hp Z P L) (some (.int (-6))) (hp Z P L) from (by have := x_node (P := P) (L := L) (key := key) hN hn; rw [hq] at this; exact this)) ?_
  show e_r 48 5 [.ref 5, .int key, s_no] [.int ((-6))] (hp Z P L) _ _
  refine e_go hk_48 4 (c := (if s_cnd .ne ((-6)) ((-6)) = true then 16 else 12, [.ref 5, .int key, .int ((-6))], [], hp Z P L)) rfl ?_
  refine e_ne (a := 16) (b := 12) (x := (-6)) (y := (-6)) (fun hc9 => absurd (rfl) hc9) (fun hc9 => ?_)
  refine e_go hk_48 2 (c := (21, [.ref 5, .int key, .int ((-6))], [.int ((-1))], hp Z P L)) rfl ?_
  exact e_ret hk_48 rfl rfl rfl (by rw [t_lk, hq]) (by rw [t_lk, hq])
theorem x_lk_some {Z : Nat → Nat → Int32} {P : Nat → Nat} {L n : Nat} (hN : Z 5 6 = nI n) (hn : n ≤ 60) (hF : ∀ i, i < n → Z 17 i = 0 ∨ Z 17 i = 1) {key : Int32} {j : Nat} (hq : t_nd (Z 9) n key = some j) : m_r 48 [.ref 5, .int key] (hp Z P L) (some (.int (t_lk Z n key).1)) (hp (t_lk Z n key).2 P L) := by
  have hjn := (t_nd_lt hq).1
  refine m_of (ls := [.ref 5, .int key, s_no]) hk_48 rfl rfl rfl ?_
  refine e_go hk_48 2 (c := (2, [.ref 5, .int key, s_no], [.int key, .ref 5], hp Z P L)) rfl ?_
  refine e_call hk_48 (as := [.ref 5, .int key]) (rest := []) rfl rfl hk_31 rfl (Nat.le_of_ble_eq_true rfl) rfl (show m_r 31 [.ref 5, .int key] (hp Z P L) (some (.int (nI j))) (hp Z P L) from (by have := x_node (P := P) (L := L) (key := key) hN hn; rw [hq] at this; exact this)) ?_
  show e_r 48 5 [.ref 5, .int key, s_no] [.int (nI j)] (hp Z P L) _ _
  refine e_go hk_48 4 (c := (if s_cnd .ne (nI j) ((-6)) = true then 16 else 12, [.ref 5, .int key, .int (nI j)], [], hp Z P L)) rfl ?_
  refine e_ne (a := 16) (b := 12) (x := nI j) (y := (-6)) (fun hc9 => ?_) (fun hc9 => absurd hc9 (fun z => absurd ((y_o_none (q := some j) (fun i hi => by cases hi; omega)).mp z) (by simp)))
  refine e_go hk_48 2 (c := (18, [.ref 5, .int key, .int (nI j)], [.int (nI j), .ref 5], hp Z P L)) rfl ?_
  refine e_call hk_48 (as := [.ref 5, .int (nI j)]) (rest := []) rfl rfl hk_52 rfl (Nat.le_of_ble_eq_true rfl) rfl (x_lay (Z := Z) hN hn hF (j := j) (by omega)) ?_
  show e_r 48 21 [.ref 5, .int key, .int (nI j)] [.int (t_wt Z n j)] (hp ((t_la Z n j)) P L) _ _
  exact e_ret hk_48 rfl rfl rfl (by rw [t_lk, hq]) (by rw [t_lk, hq])
theorem x_lk {Z : Nat → Nat → Int32} {P : Nat → Nat} {L n : Nat} (hN : Z 5 6 = nI n) (hn : n ≤ 60) (hF : ∀ i, i < n → Z 17 i = 0 ∨ Z 17 i = 1) {key : Int32} : m_r 48 [.ref 5, .int key] (hp Z P L) (some (.int (t_lk Z n key).1)) (hp (t_lk Z n key).2 P L) := by
  cases hq : t_nd (Z 9) n key with
  | none => exact x_lk_none hN hn hF hq
  | some j => exact x_lk_some hN hn hF hq
theorem x_cost_some {Z : Nat → Nat → Int32} {P : Nat → Nat} {L n : Nat} (hN : Z 5 6 = nI n) (hn : n ≤ 60) {key : Int32} {j : Nat} (hq : t_nd (Z 9) n key = some j) : m_r 44 [.ref 5, .int key] (hp Z P L) (some (.int (t_cs Z n key))) (hp Z P L) := by
  have hjn := (t_nd_lt hq).1
  refine m_of (ls := [.ref 5, .int key, s_no]) hk_44 rfl rfl rfl ?_
  refine e_go hk_44 2 (c := (2, [.ref 5, .int key, s_no], [.int key, .ref 5], hp Z P L)) rfl ?_
  refine e_call hk_44 (as := [.ref 5, .int key]) (rest := []) rfl rfl hk_31 rfl (Nat.le_of_ble_eq_true rfl) rfl (show m_r 31 [.ref 5, .int key] (hp Z P L) (some (.int (nI j))) (hp Z P L) from (by have := x_node (P := P) (L := L) (key := key) hN hn; rw [hq] at this; exact this)) ?_
  show e_r 44 5 [.ref 5, .int key, s_no] [.int (nI j)] (hp Z P L) _ _
  refine e_go hk_44 2 (c := (if s_cnd .eq (nI j) ((-6)) = true then 12 else 10, [.ref 5, .int key, s_no], [], hp Z P L)) rfl ?_
  refine e_eq (a := 12) (b := 10) (x := nI j) (y := (-6)) (fun hc7 => absurd hc7 (fun z => absurd ((y_o_none (q := some j) (fun i hi => by cases hi; omega)).mp z) (by simp))) (fun hc7 => ?_)
  refine e_go hk_44 1 (c := (11, [.ref 5, .int key, s_no], [.int 0], hp Z P L)) rfl ?_
  exact e_ret hk_44 rfl rfl rfl (by rw [t_cs, hq]) rfl
theorem x_cost_none {Z : Nat → Nat → Int32} {P : Nat → Nat} {L n : Nat} (hN : Z 5 6 = nI n) (hn : n ≤ 60) {key : Int32} (hq : t_nd (Z 9) n key = none) (hw : t_wl (Z 15) (Z 7 0) (t_pl (Z 9) key 0 n) 60 0 0 n = none) : m_r 44 [.ref 5, .int key] (hp Z P L) (some (.int (t_cs Z n key))) (hp Z P L) := by
  have hpl := (t_pl_le (Z 9) key n 0).2
  refine m_of (ls := [.ref 5, .int key, s_no]) hk_44 rfl rfl rfl ?_
  refine e_go hk_44 2 (c := (2, [.ref 5, .int key, s_no], [.int key, .ref 5], hp Z P L)) rfl ?_
  refine e_call hk_44 (as := [.ref 5, .int key]) (rest := []) rfl rfl hk_31 rfl (Nat.le_of_ble_eq_true rfl) rfl (show m_r 31 [.ref 5, .int key] (hp Z P L) (some (.int (-6))) (hp Z P L) from (by have := x_node (P := P) (L := L) (key := key) hN hn; rw [hq] at this; exact this)) ?_
  show e_r 44 5 [.ref 5, .int key, s_no] [.int ((-6))] (hp Z P L) _ _
  refine e_go hk_44 2 (c := (if s_cnd .eq ((-6)) ((-6)) = true then 12 else 10, [.ref 5, .int key, s_no], [], hp Z P L)) rfl ?_
  refine e_eq (a := 12) (b := 10) (x := (-6)) (y := (-6)) (fun hc7 => ?_) (fun hc7 => absurd (rfl) hc7)
  refine e_go hk_44 3 (c := (15, [.ref 5, .int key, s_no], [.int key, .ref 5, .ref 5], hp Z P L)) rfl ?_
  refine e_call hk_44 (as := [.ref 5, .int key]) (rest := [.ref 5]) rfl rfl hk_30 rfl (Nat.le_of_ble_eq_true rfl) rfl (x_place hN hn) ?_
  show e_r 44 18 [.ref 5, .int key, s_no] [.int (nI (t_pl (Z 9) key 0 n)), .ref 5] (hp Z P L) _ _
  refine e_call hk_44 (as := [.ref 5, .int (nI (t_pl (Z 9) key 0 n))]) (rest := []) rfl rfl hk_43 rfl (Nat.le_of_ble_eq_true rfl) rfl (show m_r 43 [.ref 5, .int (nI (t_pl (Z 9) key 0 n))] (hp Z P L) (some (.int (-6))) (hp Z P L) from (by have := x_would (P := P) (L := L) (p := t_pl (Z 9) key 0 n) hN hn (by omega); rw [hw] at this; exact this)) ?_
  show e_r 44 21 [.ref 5, .int key, s_no] [.int ((-6))] (hp Z P L) _ _
  refine e_go hk_44 4 (c := (if s_cnd .ne ((-6)) ((-6)) = true then 32 else 28, [.ref 5, .int key, .int ((-6))], [], hp Z P L)) rfl ?_
  refine e_ne (a := 32) (b := 28) (x := (-6)) (y := (-6)) (fun hc25 => absurd (rfl) hc25) (fun hc25 => ?_)
  refine e_go hk_44 2 (c := (45, [.ref 5, .int key, .int ((-6))], [.int 0], hp Z P L)) rfl ?_
  exact e_ret hk_44 rfl rfl rfl (by rw [t_cs, hq]; dsimp only; rw [hw]) rfl
theorem x_cost_lean {Z : Nat → Nat → Int32} {P : Nat → Nat} {L n : Nat} (hN : Z 5 6 = nI n) (hn : n ≤ 60) {key : Int32} {j : Nat} (hq : t_nd (Z 9) n key = none) (hw : t_wl (Z 15) (Z 7 0) (t_pl (Z 9) key 0 n) 60 0 0 n = some j) : m_r 44 [.ref 5, .int key] (hp Z P L) (some (.int (t_cs Z n key))) (hp Z P L) := by
  have hpl := (t_pl_le (Z 9) key n 0).2
  have hjn := t_wl_lt (Nat.le_refl n) hw
  refine m_of (ls := [.ref 5, .int key, s_no]) hk_44 rfl rfl rfl ?_
  refine e_go hk_44 2 (c := (2, [.ref 5, .int key, s_no], [.int key, .ref 5], hp Z P L)) rfl ?_
  refine e_call hk_44 (as := [.ref 5, .int key]) (rest := []) rfl rfl hk_31 rfl (Nat.le_of_ble_eq_true rfl) rfl (show m_r 31 [.ref 5, .int key] (hp Z P L) (some (.int (-6))) (hp Z P L) from (by have := x_node (P := P) (L := L) (key := key) hN hn; rw [hq] at this; exact this)) ?_
  show e_r 44 5 [.ref 5, .int key, s_no] [.int ((-6))] (hp Z P L) _ _
  refine e_go hk_44 2 (c := (if s_cnd .eq ((-6)) ((-6)) = true then 12 else 10, [.ref 5, .int key, s_no], [], hp Z P L)) rfl ?_
  refine e_eq (a := 12) (b := 10) (x := (-6)) (y := (-6)) (fun hc7 => ?_) (fun hc7 => absurd (rfl) hc7)
  refine e_go hk_44 3 (c := (15, [.ref 5, .int key, s_no], [.int key, .ref 5, .ref 5], hp Z P L)) rfl ?_
  refine e_call hk_44 (as := [.ref 5, .int key]) (rest := [.ref 5]) rfl rfl hk_30 rfl (Nat.le_of_ble_eq_true rfl) rfl (x_place hN hn) ?_
  show e_r 44 18 [.ref 5, .int key, s_no] [.int (nI (t_pl (Z 9) key 0 n)), .ref 5] (hp Z P L) _ _
  refine e_call hk_44 (as := [.ref 5, .int (nI (t_pl (Z 9) key 0 n))]) (rest := []) rfl rfl hk_43 rfl (Nat.le_of_ble_eq_true rfl) rfl (show m_r 43 [.ref 5, .int (nI (t_pl (Z 9) key 0 n))] (hp Z P L) (some (.int (nI j))) (hp Z P L) from (by have := x_would (P := P) (L := L) (p := t_pl (Z 9) key 0 n) hN hn (by omega); rw [hw] at this; exact this)) ?_
  show e_r 44 21 [.ref 5, .int key, s_no] [.int (nI j)] (hp Z P L) _ _
  refine e_go hk_44 4 (c := (if s_cnd .ne (nI j) ((-6)) = true then 32 else 28, [.ref 5, .int key, .int (nI j)], [], hp Z P L)) rfl ?_
  refine e_ne (a := 32) (b := 28) (x := nI j) (y := (-6)) (fun hc25 => ?_) (fun hc25 => absurd hc25 (fun z => absurd ((y_o_none (q := some j) (fun i hi => by cases hi; omega)).mp z) (by simp)))
  refine e_go hk_44 2 (c := (34, [.ref 5, .int key, .int (nI j)], [.int (nI j), .ref 5], hp Z P L)) rfl ?_
  refine e_call hk_44 (as := [.ref 5, .int (nI j)]) (rest := []) rfl rfl hk_38 rfl (Nat.le_of_ble_eq_true rfl) rfl (x_high hN hn (j := j) (by omega)) ?_
  show e_r 44 37 [.ref 5, .int key, .int (nI j)] [.int (nI (t_H Z n j))] (hp Z P L) _ _
  refine e_go hk_44 2 (c := (39, [.ref 5, .int key, .int (nI j)], [.int (nI j), .ref 5, .int (nI (t_H Z n j))], hp Z P L)) rfl ?_
  refine e_call hk_44 (as := [.ref 5, .int (nI j)]) (rest := [.int (nI (t_H Z n j))]) rfl rfl hk_37 rfl (Nat.le_of_ble_eq_true rfl) rfl (x_low (j := j) (by omega)) ?_
  show e_r 44 42 [.ref 5, .int key, .int (nI j)] [.int (nI (t_L Z j)), .int (nI (t_H Z n j))] (hp Z P L) _ _
  refine e_go hk_44 3 (c := (45, [.ref 5, .int key, .int (nI j)], [.int (((nI (t_H Z n j)) - (nI (t_L Z j))) + 2)], hp Z P L)) rfl ?_
  exact e_ret hk_44 rfl rfl rfl (by rw [t_cs, hq]; dsimp only; rw [hw]) rfl
theorem x_cost {Z : Nat → Nat → Int32} {P : Nat → Nat} {L n : Nat} (hN : Z 5 6 = nI n) (hn : n ≤ 60) {key : Int32} : m_r 44 [.ref 5, .int key] (hp Z P L) (some (.int (t_cs Z n key))) (hp Z P L) := by
  cases hq : t_nd (Z 9) n key with
  | some j => exact x_cost_some hN hn hq
  | none =>
    cases hw : t_wl (Z 15) (Z 7 0) (t_pl (Z 9) key 0 n) 60 0 0 n with
    | none => exact x_cost_none hN hn hq hw
    | some j => exact x_cost_lean hN hn hq hw
