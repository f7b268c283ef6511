/-! OrderReader, Pad; printed by wip/whole/gen/text.py -/
theorem y_ct {c : Prop} [Decidable c] (h : c) : y_b (decide c) = 1 := by rw [decide_eq_true h]; rfl
theorem y_cf {c : Prop} [Decidable c] (h : ¬ c) : y_b (decide c) = 0 := by rw [decide_eq_false h]; rfl
def t_dg (c : Int32) : Bool := decide (48 ≤ c ∧ c ≤ 57)
/-- the reader's steps: what each way of taking a character answers, and the state then -/
def t_r1 (Z : Nat → Nat → Int32) (c : Int32) : Bool × (Nat → Nat → Int32) := if c = 43 ∨ c = 45 ∨ c = 33 then (true, s_upd (s_upd (s_upd Z 102 0 c) 102 4 0) 102 1 1) else (false, Z)
def t_r2 (Z : Nat → Nat → Int32) (c : Int32) : Bool × (Nat → Nat → Int32) := if t_dg c = true then (true, s_upd (s_upd Z 102 3 (c - 48)) 102 1 2) else (false, Z)
def t_r3 (Z : Nat → Nat → Int32) (c : Int32) : Bool × (Nat → Nat → Int32) := if t_dg c = true ∧ ¬ Z 102 3 = 0 ∧ 10 * Z 102 3 + c - 48 ≤ 999 then (true, s_upd Z 102 3 (10 * Z 102 3 + c - 48)) else (false, Z)
def t_r4 (Z : Nat → Nat → Int32) (c : Int32) : Bool × (Nat → Nat → Int32) := if c = 61 ∧ Z 102 0 = 43 ∧ Z 102 4 = 0 then (true, s_upd (s_upd (s_upd Z 102 2 (Z 102 3)) 102 4 1) 102 1 1) else (false, Z)
def t_r5 (Z : Nat → Nat → Int32) (c : Int32) : Bool × (Nat → Nat → Int32) := if c = 59 then (true, s_upd Z 102 1 0) else (false, Z)
theorem t_r3f {Z : Nat → Nat → Int32} {c : Int32} (h : (t_r3 Z c).1 = false) : (t_r3 Z c).2 = Z := by
  unfold t_r3 at h ⊢; split at h
  · cases h
  · next q => rw [if_neg q]
theorem t_r4f {Z : Nat → Nat → Int32} {c : Int32} (h : (t_r4 Z c).1 = false) : (t_r4 Z c).2 = Z := by
  unfold t_r4 at h ⊢; split at h
  · cases h
  · next q => rw [if_neg q]
def t_rdr (Z : Nat → Nat → Int32) (c : Int32) : Bool × (Nat → Nat → Int32) := if Z 102 1 = 0 then t_r1 Z c else if Z 102 1 = 1 then t_r2 Z c else
  if (t_r3 Z c).1 = true then t_r3 Z c else if (t_r4 Z c).1 = true then t_r4 Z c else t_r5 Z c
theorem x_begin {Z : Nat → Nat → Int32} {P : Nat → Nat} {L : Nat} : m_r 6 [.ref 102] (hp Z P L) none (hp (s_upd Z 102 1 0) P L) := by
  refine m_of (ls := [.ref 102]) hk_6 rfl rfl rfl ?_
  refine e_go hk_6 3 (c := (5, [.ref 102], [], hp (s_upd Z 102 1 0) P L)) rfl ?_
  exact e_ret hk_6 rfl rfl rfl rfl rfl
theorem x_hasw {Z : Nat → Nat → Int32} {P : Nat → Nat} {L : Nat} : m_r 8 [.ref 102] (hp Z P L) (some (.int (y_b (decide (Z 102 1 = 2))))) (hp Z P L) := by
  refine m_of (ls := [.ref 102]) hk_8 rfl rfl rfl ?_
  refine e_go hk_8 4 (c := (if s_cnd .ne (Z 102 1) 2 = true then 12 else 8, [.ref 102], [], hp Z P L)) rfl ?_
  refine e_ne (a := 12) (b := 8) (x := Z 102 1) (y := 2) (fun hc5 => ?_) (fun hc5 => ?_)
  · skip
    refine e_go hk_8 1 (c := (13, [.ref 102], [.int 0], hp Z P L)) rfl ?_
    exact e_ret hk_8 rfl rfl rfl (by rw [y_cf hc5]) rfl
  · skip
    refine e_go hk_8 2 (c := (13, [.ref 102], [.int 1], hp Z P L)) rfl ?_
    exact e_ret hk_8 rfl rfl rfl (by rw [y_ct hc5]) rfl
theorem x_okey {Z : Nat → Nat → Int32} {P : Nat → Nat} {L : Nat} : m_r 9 [.ref 102] (hp Z P L) (some (.int (if Z 102 4 = 0 then Z 102 3 else Z 102 2))) (hp Z P L) := by
  refine m_of (ls := [.ref 102]) hk_9 rfl rfl rfl ?_
  refine e_go hk_9 3 (c := (if s_cnd .eq (Z 102 4) 0 = true then 14 else 7, [.ref 102], [], hp Z P L)) rfl ?_
  refine e_eq (a := 14) (b := 7) (x := Z 102 4) (y := 0) (fun hc4 => ?_) (fun hc4 => ?_)
  · skip
    refine e_go hk_9 2 (c := (18, [.ref 102], [.int (Z 102 3)], hp Z P L)) rfl ?_
    exact e_ret hk_9 rfl rfl rfl (by rw [if_pos hc4]) rfl
  · skip
    refine e_go hk_9 3 (c := (18, [.ref 102], [.int (Z 102 2)], hp Z P L)) rfl ?_
    exact e_ret hk_9 rfl rfl rfl (by rw [if_neg hc4]) rfl
theorem x_oval {Z : Nat → Nat → Int32} {P : Nat → Nat} {L : Nat} : m_r 10 [.ref 102] (hp Z P L) (some (.int (Z 102 3))) (hp Z P L) := by
  refine m_of (ls := [.ref 102]) hk_10 rfl rfl rfl ?_
  refine e_go hk_10 2 (c := (4, [.ref 102], [.int (Z 102 3)], hp Z P L)) rfl ?_
  exact e_ret hk_10 rfl rfl rfl rfl rfl
theorem x_digit {h : sHp} {c : Int32} : m_r 16 [.int c] h (some (.int (y_b (t_dg c)))) h := by
  refine m_of (ls := [.int c]) hk_16 rfl rfl rfl ?_
  refine e_go hk_16 3 (c := (if s_cnd .lt c 48 = true then 16 else 6, [.int c], [], h)) rfl ?_
  refine e_lt (a := 16) (b := 6) (x := c) (y := 48) (fun hc3 => ?_) (fun hc3 => ?_)
  · skip
    refine e_go hk_16 1 (c := (17, [.int c], [.int 0], h)) rfl ?_
    exact e_ret hk_16 rfl rfl rfl (by rw [t_dg, y_cf (fun z : 48 ≤ c ∧ c ≤ 57 => absurd hc3 (Int32.not_lt.mpr z.1))]) rfl
  · skip
    refine e_go hk_16 3 (c := (if s_cnd .gt c 57 = true then 16 else 12, [.int c], [], h)) rfl ?_
    refine e_gt (a := 16) (b := 12) (x := c) (y := 57) (fun hc9 => ?_) (fun hc9 => ?_)
    · skip
      refine e_go hk_16 1 (c := (17, [.int c], [.int 0], h)) rfl ?_
      exact e_ret hk_16 rfl rfl rfl (by rw [t_dg, y_cf (fun z : 48 ≤ c ∧ c ≤ 57 => absurd hc9 (Int32.not_lt.mpr z.2))]) rfl
    · skip
      refine e_go hk_16 2 (c := (17, [.int c], [.int 1], h)) rfl ?_
      exact e_ret hk_16 rfl rfl rfl (by rw [t_dg, y_ct (show 48 ≤ c ∧ c ≤ 57 from ⟨Int32.not_lt.mp hc3, Int32.not_lt.mp hc9⟩)]) rfl
theorem x_r1 {Z : Nat → Nat → Int32} {P : Nat → Nat} {L : Nat} {c : Int32} : m_r 11 [.ref 102, .int c] (hp Z P L) (some (.int (y_b (t_r1 Z c).1))) (hp (t_r1 Z c).2 P L) := by
  refine m_of (ls := [.ref 102, .int c]) hk_11 rfl rfl rfl ?_
  refine e_go hk_11 3 (c := (if s_cnd .eq c 43 = true then 20 else 6, [.ref 102, .int c], [], hp Z P L)) rfl ?_
  refine e_eq (a := 20) (b := 6) (x := c) (y := 43) (fun hc3 => ?_) (fun hc3 => ?_)
  · skip
    refine e_go hk_11 10 (c := (36, [.ref 102, .int c], [.int 1], hp (s_upd (s_upd (s_upd Z 102 0 c) 102 4 0) 102 1 1) P L)) rfl ?_
    exact e_ret hk_11 rfl rfl rfl (by rw [t_r1, if_pos (Or.inl hc3)]; rfl) (by rw [t_r1, if_pos (Or.inl hc3)])
  · skip
    refine e_go hk_11 3 (c := (if s_cnd .eq c 45 = true then 20 else 12, [.ref 102, .int c], [], hp Z P L)) rfl ?_
    refine e_eq (a := 20) (b := 12) (x := c) (y := 45) (fun hc9 => ?_) (fun hc9 => ?_)
    · skip
      refine e_go hk_11 10 (c := (36, [.ref 102, .int c], [.int 1], hp (s_upd (s_upd (s_upd Z 102 0 c) 102 4 0) 102 1 1) P L)) rfl ?_
      exact e_ret hk_11 rfl rfl rfl (by rw [t_r1, if_pos (Or.inr (Or.inl hc9))]; rfl) (by rw [t_r1, if_pos (Or.inr (Or.inl hc9))])
    · skip
      refine e_go hk_11 3 (c := (if s_cnd .eq c 33 = true then 20 else 18, [.ref 102, .int c], [], hp Z P L)) rfl ?_
      refine e_eq (a := 20) (b := 18) (x := c) (y := 33) (fun hc15 => ?_) (fun hc15 => ?_)
      · skip
        refine e_go hk_11 10 (c := (36, [.ref 102, .int c], [.int 1], hp (s_upd (s_upd (s_upd Z 102 0 c) 102 4 0) 102 1 1) P L)) rfl ?_
        exact e_ret hk_11 rfl rfl rfl (by rw [t_r1, if_pos (Or.inr (Or.inr hc15))]; rfl) (by rw [t_r1, if_pos (Or.inr (Or.inr hc15))])
      · skip
        refine e_go hk_11 1 (c := (19, [.ref 102, .int c], [.int 0], hp Z P L)) rfl ?_
        exact e_ret hk_11 rfl rfl rfl (by rw [t_r1, if_neg (by rw [not_or, not_or]; exact ⟨hc3, hc9, hc15⟩)]; rfl) (by rw [t_r1, if_neg (by rw [not_or, not_or]; exact ⟨hc3, hc9, hc15⟩)])
theorem x_r2 {Z : Nat → Nat → Int32} {P : Nat → Nat} {L : Nat} {c : Int32} : m_r 12 [.ref 102, .int c] (hp Z P L) (some (.int (y_b (t_r2 Z c).1))) (hp (t_r2 Z c).2 P L) := by
  refine m_of (ls := [.ref 102, .int c]) hk_12 rfl rfl rfl ?_
  refine e_go hk_12 1 (c := (1, [.ref 102, .int c], [.int c], hp Z P L)) rfl ?_
  refine e_call hk_12 (as := [.int c]) (rest := []) rfl rfl hk_16 rfl (Nat.le_of_ble_eq_true rfl) rfl x_digit ?_
  show e_r 12 4 [.ref 102, .int c] [.int (y_b (t_dg c))] (hp Z P L) _ _
  refine e_go hk_12 1 (c := (if s_cnd .ne (y_b (t_dg c)) 0 = true then 9 else 7, [.ref 102, .int c], [], hp Z P L)) rfl ?_
  refine e_ne (a := 9) (b := 7) (x := y_b (t_dg c)) (y := 0) (fun hc4 => ?_) (fun hc4 => ?_)
  · skip
    rw [y_b1] at hc4
    refine e_go hk_12 9 (c := (23, [.ref 102, .int c], [.int 1], hp (s_upd (s_upd Z 102 3 (c - 48)) 102 1 2) P L)) rfl ?_
    exact e_ret hk_12 rfl rfl rfl (by rw [t_r2, if_pos hc4]; rfl) (by rw [t_r2, if_pos hc4])
  · skip
    rw [y_b0] at hc4
    refine e_go hk_12 1 (c := (8, [.ref 102, .int c], [.int 0], hp Z P L)) rfl ?_
    exact e_ret hk_12 rfl rfl rfl (by rw [t_r2, if_neg (by rw [hc4]; decide)]; rfl) (by rw [t_r2, if_neg (by rw [hc4]; decide)])
theorem x_r3 {Z : Nat → Nat → Int32} {P : Nat → Nat} {L : Nat} {c : Int32} : m_r 13 [.ref 102, .int c] (hp Z P L) (some (.int (y_b (t_r3 Z c).1))) (hp (t_r3 Z c).2 P L) := by
  refine m_of (ls := [.ref 102, .int c, s_no]) hk_13 rfl rfl rfl ?_
  refine e_go hk_13 1 (c := (1, [.ref 102, .int c, s_no], [.int c], hp Z P L)) rfl ?_
  refine e_call hk_13 (as := [.int c]) (rest := []) rfl rfl hk_16 rfl (Nat.le_of_ble_eq_true rfl) rfl x_digit ?_
  show e_r 13 4 [.ref 102, .int c, s_no] [.int (y_b (t_dg c))] (hp Z P L) _ _
  refine e_go hk_13 1 (c := (if s_cnd .eq (y_b (t_dg c)) 0 = true then 14 else 7, [.ref 102, .int c, s_no], [], hp Z P L)) rfl ?_
  refine e_eq (a := 14) (b := 7) (x := y_b (t_dg c)) (y := 0) (fun hc4 => ?_) (fun hc4 => ?_)
  · skip
    rw [y_b0] at hc4
    refine e_go hk_13 1 (c := (15, [.ref 102, .int c, s_no], [.int 0], hp Z P L)) rfl ?_
    exact e_ret hk_13 rfl rfl rfl (by rw [t_r3, if_neg (fun z => by have := z.1; rw [hc4] at this; cases this)]; rfl) (by rw [t_r3, if_neg (fun z => by have := z.1; rw [hc4] at this; cases this)])
  · skip
    rw [y_b1] at hc4
    refine e_go hk_13 3 (c := (if s_cnd .ne (Z 102 3) 0 = true then 16 else 14, [.ref 102, .int c, s_no], [], hp Z P L)) rfl ?_
    refine e_ne (a := 16) (b := 14) (x := Z 102 3) (y := 0) (fun hc11 => ?_) (fun hc11 => ?_)
    · skip
      refine e_go hk_13 12 (c := (if s_cnd .le (((10 * (Z 102 3)) + c) - 48) 999 = true then 38 else 36, [.ref 102, .int c, .int (((10 * (Z 102 3)) + c) - 48)], [], hp Z P L)) rfl ?_
      refine e_le (a := 38) (b := 36) (x := ((10 * (Z 102 3)) + c) - 48) (y := 999) (fun hc33 => ?_) (fun hc33 => ?_)
      · skip
        refine e_go hk_13 4 (c := (44, [.ref 102, .int c, .int (((10 * (Z 102 3)) + c) - 48)], [.int 1], hp (s_upd Z 102 3 (((10 * (Z 102 3)) + c) - 48)) P L)) rfl ?_
        exact e_ret hk_13 rfl rfl rfl (by rw [t_r3, if_pos ⟨hc4, hc11, hc33⟩]; rfl) (by rw [t_r3, if_pos ⟨hc4, hc11, hc33⟩])
      · skip
        refine e_go hk_13 1 (c := (37, [.ref 102, .int c, .int (((10 * (Z 102 3)) + c) - 48)], [.int 0], hp Z P L)) rfl ?_
        exact e_ret hk_13 rfl rfl rfl (by rw [t_r3, if_neg (fun z => hc33 z.2.2)]; rfl) (by rw [t_r3, if_neg (fun z => hc33 z.2.2)])
    · skip
      refine e_go hk_13 1 (c := (15, [.ref 102, .int c, s_no], [.int 0], hp Z P L)) rfl ?_
      exact e_ret hk_13 rfl rfl rfl (by rw [t_r3, if_neg (fun z => z.2.1 hc11)]; rfl) (by rw [t_r3, if_neg (fun z => z.2.1 hc11)])
theorem x_r4 {Z : Nat → Nat → Int32} {P : Nat → Nat} {L : Nat} {c : Int32} : m_r 14 [.ref 102, .int c] (hp Z P L) (some (.int (y_b (t_r4 Z c).1))) (hp (t_r4 Z c).2 P L) := by
  refine m_of (ls := [.ref 102, .int c]) hk_14 rfl rfl rfl ?_
  refine e_go hk_14 3 (c := (if s_cnd .ne c 61 = true then 22 else 6, [.ref 102, .int c], [], hp Z P L)) rfl ?_
  refine e_ne (a := 22) (b := 6) (x := c) (y := 61) (fun hc3 => ?_) (fun hc3 => ?_)
  · skip
    refine e_go hk_14 1 (c := (23, [.ref 102, .int c], [.int 0], hp Z P L)) rfl ?_
    exact e_ret hk_14 rfl rfl rfl (by rw [t_r4, if_neg (fun z => hc3 z.1)]; rfl) (by rw [t_r4, if_neg (fun z => hc3 z.1)])
  · skip
    refine e_go hk_14 4 (c := (if s_cnd .ne (Z 102 0) 43 = true then 22 else 15, [.ref 102, .int c], [], hp Z P L)) rfl ?_
    refine e_ne (a := 22) (b := 15) (x := Z 102 0) (y := 43) (fun hc12 => ?_) (fun hc12 => ?_)
    · skip
      refine e_go hk_14 1 (c := (23, [.ref 102, .int c], [.int 0], hp Z P L)) rfl ?_
      exact e_ret hk_14 rfl rfl rfl (by rw [t_r4, if_neg (fun z => hc12 z.2.1)]; rfl) (by rw [t_r4, if_neg (fun z => hc12 z.2.1)])
    · skip
      refine e_go hk_14 3 (c := (if s_cnd .eq (Z 102 4) 0 = true then 24 else 22, [.ref 102, .int c], [], hp Z P L)) rfl ?_
      refine e_eq (a := 24) (b := 22) (x := Z 102 4) (y := 0) (fun hc19 => ?_) (fun hc19 => ?_)
      · skip
        refine e_go hk_14 11 (c := (43, [.ref 102, .int c], [.int 1], hp (s_upd (s_upd (s_upd Z 102 2 (Z 102 3)) 102 4 1) 102 1 1) P L)) rfl ?_
        exact e_ret hk_14 rfl rfl rfl (by rw [t_r4, if_pos ⟨hc3, hc12, hc19⟩]; rfl) (by rw [t_r4, if_pos ⟨hc3, hc12, hc19⟩])
      · skip
        refine e_go hk_14 1 (c := (23, [.ref 102, .int c], [.int 0], hp Z P L)) rfl ?_
        exact e_ret hk_14 rfl rfl rfl (by rw [t_r4, if_neg (fun z => hc19 z.2.2)]; rfl) (by rw [t_r4, if_neg (fun z => hc19 z.2.2)])
theorem x_r5 {Z : Nat → Nat → Int32} {P : Nat → Nat} {L : Nat} {c : Int32} : m_r 15 [.ref 102, .int c] (hp Z P L) (some (.int (y_b (t_r5 Z c).1))) (hp (t_r5 Z c).2 P L) := by
  refine m_of (ls := [.ref 102, .int c]) hk_15 rfl rfl rfl ?_
  refine e_go hk_15 3 (c := (if s_cnd .eq c 59 = true then 8 else 6, [.ref 102, .int c], [], hp Z P L)) rfl ?_
  refine e_eq (a := 8) (b := 6) (x := c) (y := 59) (fun hc3 => ?_) (fun hc3 => ?_)
  · skip
    refine e_go hk_15 4 (c := (14, [.ref 102, .int c], [.int 1], hp (s_upd Z 102 1 0) P L)) rfl ?_
    exact e_ret hk_15 rfl rfl rfl (by rw [t_r5, if_pos hc3]; rfl) (by rw [t_r5, if_pos hc3])
  · skip
    refine e_go hk_15 1 (c := (7, [.ref 102, .int c], [.int 0], hp Z P L)) rfl ?_
    exact e_ret hk_15 rfl rfl rfl (by rw [t_r5, if_neg hc3]; rfl) (by rw [t_r5, if_neg hc3])
theorem x_rd0 {Z : Nat → Nat → Int32} {P : Nat → Nat} {L : Nat} {c : Int32} (hS : Z 102 1 = 0) : m_r 7 [.ref 102, .int c] (hp Z P L) (some (.int (y_b (t_rdr Z c).1))) (hp (t_rdr Z c).2 P L) := by
  refine m_of (ls := [.ref 102, .int c]) hk_7 rfl rfl rfl ?_
  refine e_go hk_7 2 (c := (4, [.ref 102, .int c], [.int (Z 102 1)], hp Z P L)) rfl ?_
  rw [hS]
  refine e_go hk_7 3 (c := (34, [.ref 102, .int c], [.int c, .ref 102], hp Z P L)) rfl ?_
  refine e_call hk_7 (as := [.ref 102, .int c]) (rest := []) rfl rfl hk_11 rfl (Nat.le_of_ble_eq_true rfl) rfl x_r1 ?_
  show e_r 7 37 [.ref 102, .int c] [.int (y_b (t_r1 Z c).1)] (hp ((t_r1 Z c).2) P L) _ _
  exact e_ret hk_7 rfl rfl (w := some (.int (y_b (t_r1 Z c).1))) (by cases (t_r1 Z c).1 <;> rfl) (by rw [t_rdr, if_pos hS]) (by rw [t_rdr, if_pos hS])
theorem x_rd1 {Z : Nat → Nat → Int32} {P : Nat → Nat} {L : Nat} {c : Int32} (hS : Z 102 1 = 1) : m_r 7 [.ref 102, .int c] (hp Z P L) (some (.int (y_b (t_rdr Z c).1))) (hp (t_rdr Z c).2 P L) := by
  refine m_of (ls := [.ref 102, .int c]) hk_7 rfl rfl rfl ?_
  refine e_go hk_7 2 (c := (4, [.ref 102, .int c], [.int (Z 102 1)], hp Z P L)) rfl ?_
  rw [hS]
  refine e_go hk_7 3 (c := (40, [.ref 102, .int c], [.int c, .ref 102], hp Z P L)) rfl ?_
  refine e_call hk_7 (as := [.ref 102, .int c]) (rest := []) rfl rfl hk_12 rfl (Nat.le_of_ble_eq_true rfl) rfl x_r2 ?_
  show e_r 7 43 [.ref 102, .int c] [.int (y_b (t_r2 Z c).1)] (hp ((t_r2 Z c).2) P L) _ _
  exact e_ret hk_7 rfl rfl (w := some (.int (y_b (t_r2 Z c).1))) (by cases (t_r2 Z c).1 <;> rfl) (by rw [t_rdr, if_neg (by rw [hS]; decide), if_pos hS]) (by rw [t_rdr, if_neg (by rw [hS]; decide), if_pos hS])
theorem x_rd2 {Z : Nat → Nat → Int32} {P : Nat → Nat} {L : Nat} {c : Int32} (hS : Z 102 1 = 2) : m_r 7 [.ref 102, .int c] (hp Z P L) (some (.int (y_b (t_rdr Z c).1))) (hp (t_rdr Z c).2 P L) := by
  refine m_of (ls := [.ref 102, .int c]) hk_7 rfl rfl rfl ?_
  refine e_go hk_7 2 (c := (4, [.ref 102, .int c], [.int (Z 102 1)], hp Z P L)) rfl ?_
  rw [hS]
  refine e_go hk_7 3 (c := (46, [.ref 102, .int c], [.int c, .ref 102], hp Z P L)) rfl ?_
  refine e_call hk_7 (as := [.ref 102, .int c]) (rest := []) rfl rfl hk_13 rfl (Nat.le_of_ble_eq_true rfl) rfl x_r3 ?_
  show e_r 7 49 [.ref 102, .int c] [.int (y_b (t_r3 Z c).1)] (hp ((t_r3 Z c).2) P L) _ _
  refine e_go hk_7 1 (c := (if s_cnd .ne (y_b (t_r3 Z c).1) 0 = true then 68 else 52, [.ref 102, .int c], [], hp ((t_r3 Z c).2) P L)) rfl ?_
  refine e_ne (a := 68) (b := 52) (x := y_b (t_r3 Z c).1) (y := 0) (fun hc49 => ?_) (fun hc49 => ?_)
  · skip
    rw [y_b1] at hc49
    refine e_go hk_7 2 (c := (73, [.ref 102, .int c], [.int 1], hp ((t_r3 Z c).2) P L)) rfl ?_
    exact e_ret hk_7 rfl rfl rfl (by rw [t_rdr, if_neg (by rw [hS]; decide), if_neg (by rw [hS]; decide), if_pos hc49, hc49]; rfl) (by rw [t_rdr, if_neg (by rw [hS]; decide), if_neg (by rw [hS]; decide), if_pos hc49])
  · skip
    rw [y_b0] at hc49
    rw [t_r3f hc49]
    refine e_go hk_7 2 (c := (54, [.ref 102, .int c], [.int c, .ref 102], hp Z P L)) rfl ?_
    refine e_call hk_7 (as := [.ref 102, .int c]) (rest := []) rfl rfl hk_14 rfl (Nat.le_of_ble_eq_true rfl) rfl x_r4 ?_
    show e_r 7 57 [.ref 102, .int c] [.int (y_b (t_r4 Z c).1)] (hp ((t_r4 Z c).2) P L) _ _
    refine e_go hk_7 1 (c := (if s_cnd .ne (y_b (t_r4 Z c).1) 0 = true then 68 else 60, [.ref 102, .int c], [], hp ((t_r4 Z c).2) P L)) rfl ?_
    refine e_ne (a := 68) (b := 60) (x := y_b (t_r4 Z c).1) (y := 0) (fun hc57 => ?_) (fun hc57 => ?_)
    · skip
      rw [y_b1] at hc57
      refine e_go hk_7 2 (c := (73, [.ref 102, .int c], [.int 1], hp ((t_r4 Z c).2) P L)) rfl ?_
      exact e_ret hk_7 rfl rfl rfl (by rw [t_rdr, if_neg (by rw [hS]; decide), if_neg (by rw [hS]; decide), if_neg (by rw [hc49]; decide), if_pos hc57, hc57]; rfl) (by rw [t_rdr, if_neg (by rw [hS]; decide), if_neg (by rw [hS]; decide), if_neg (by rw [hc49]; decide), if_pos hc57])
    · skip
      rw [y_b0] at hc57
      rw [t_r4f hc57]
      refine e_go hk_7 2 (c := (62, [.ref 102, .int c], [.int c, .ref 102], hp Z P L)) rfl ?_
      refine e_call hk_7 (as := [.ref 102, .int c]) (rest := []) rfl rfl hk_15 rfl (Nat.le_of_ble_eq_true rfl) rfl x_r5 ?_
      show e_r 7 65 [.ref 102, .int c] [.int (y_b (t_r5 Z c).1)] (hp ((t_r5 Z c).2) P L) _ _
      refine e_go hk_7 1 (c := (if s_cnd .eq (y_b (t_r5 Z c).1) 0 = true then 72 else 68, [.ref 102, .int c], [], hp ((t_r5 Z c).2) P L)) rfl ?_
      refine e_eq (a := 72) (b := 68) (x := y_b (t_r5 Z c).1) (y := 0) (fun hc65 => ?_) (fun hc65 => ?_)
      · skip
        rw [y_b0] at hc65
        refine e_go hk_7 1 (c := (73, [.ref 102, .int c], [.int 0], hp ((t_r5 Z c).2) P L)) rfl ?_
        exact e_ret hk_7 rfl rfl rfl (by rw [t_rdr, if_neg (by rw [hS]; decide), if_neg (by rw [hS]; decide), if_neg (by rw [hc49]; decide), if_neg (by rw [hc57]; decide), hc65]; rfl) (by rw [t_rdr, if_neg (by rw [hS]; decide), if_neg (by rw [hS]; decide), if_neg (by rw [hc49]; decide), if_neg (by rw [hc57]; decide)])
      · skip
        rw [y_b1] at hc65
        refine e_go hk_7 2 (c := (73, [.ref 102, .int c], [.int 1], hp ((t_r5 Z c).2) P L)) rfl ?_
        exact e_ret hk_7 rfl rfl rfl (by rw [t_rdr, if_neg (by rw [hS]; decide), if_neg (by rw [hS]; decide), if_neg (by rw [hc49]; decide), if_neg (by rw [hc57]; decide), hc65]; rfl) (by rw [t_rdr, if_neg (by rw [hS]; decide), if_neg (by rw [hS]; decide), if_neg (by rw [hc49]; decide), if_neg (by rw [hc57]; decide)])
theorem x_rd {Z : Nat → Nat → Int32} {P : Nat → Nat} {L : Nat} {c : Int32} (hS : Z 102 1 = 0 ∨ Z 102 1 = 1 ∨ Z 102 1 = 2) : m_r 7 [.ref 102, .int c] (hp Z P L) (some (.int (y_b (t_rdr Z c).1))) (hp (t_rdr Z c).2 P L) := by
  rcases hS with h | h | h
  · exact x_rd0 h
  · exact x_rd1 h
  · exact x_rd2 h
def y_us (x : Int64) (y : Int32) : Int64 := (x.toUInt64 >>> (y.toInt64.toUInt64 &&& Int64.toUInt64 63)).toInt64
def t_cc (w : Int64) (i : Nat) : Int32 := (y_us w (8 * nI i)).toInt32 &&& 255
def t_ci (w : Int64) : Nat → Nat → Int32
  | _, 0 => 8
  | i, k + 1 => if t_cc w i = 0 then (if lg_cmp (y_us w (8 * nI i)) 0 = 0 then nI i else 0) else if t_cc w i < 33 ∨ 126 < t_cc w i then 0 else t_ci w (i + 1) k
def t_ap (w : Int64) : Nat → Nat → (Nat → Nat → Int32) → Nat → Nat → Int32
  | 0, _, Z => Z
  | k + 1, m, Z => t_ap w k (m + 1) (s_upd (s_upd Z 101 m (t_cc w k)) 99 1 (nI (m + 1)))
theorem x_cc {h : sHp} {w : Int64} {i : Nat} : m_r 20 [.long w, .int (nI i)] h (some (.int (t_cc w i))) h := by
  refine m_of (ls := [.long w, s_no, .int (nI i)]) hk_20 rfl rfl rfl ?_
  refine e_go hk_20 8 (c := (11, [.long w, s_no, .int (nI i)], [.int (((y_us w (8 * (nI i))).toInt32) &&& 255)], h)) rfl ?_
  exact e_ret hk_20 rfl rfl rfl rfl rfl
theorem x_ci_l {h : sHp} {w : Int64}  : ∀ (k i : Nat) (y3 : Value), i + k = 8 → e_r 18 2 [.long w, s_no, .int (nI i), y3] [] h (some (.int (t_ci w i k))) h
  | 0, i, y3, hi => by
    refine e_go hk_18 3 (c := (if s_cnd .ge (nI i) 8 = true then 55 else 8, [.long w, s_no, .int (nI i), y3], [], h)) rfl ?_
    refine e_ge (a := 55) (b := 8) (x := nI i) (y := 8) (fun hc5 => ?_) (fun hc5 => absurd (by rw [show i = 8 by omega]; decide) hc5)
    refine e_go hk_18 1 (c := (57, [.long w, s_no, .int (nI i), y3], [.int 8], h)) rfl ?_
    exact e_ret hk_18 rfl rfl rfl rfl rfl
  | k + 1, i, y3, hi => by
    refine e_go hk_18 3 (c := (if s_cnd .ge (nI i) 8 = true then 55 else 8, [.long w, s_no, .int (nI i), y3], [], h)) rfl ?_
    refine e_ge (a := 55) (b := 8) (x := nI i) (y := 8) (fun hc5 => absurd hc5 ((show ¬ nI 8 ≤ nI i from nI_ge (by omega) (by decide)))) (fun hc5 => ?_)
    refine e_go hk_18 2 (c := (10, [.long w, s_no, .int (nI i), y3], [.int (nI i), .long w], h)) rfl ?_
    refine e_call hk_18 (as := [.long w, .int (nI i)]) (rest := []) rfl rfl hk_20 rfl (Nat.le_of_ble_eq_true rfl) rfl (x_cc (i := i)) ?_
    show e_r 18 13 [.long w, s_no, .int (nI i), y3] [.int (t_cc w i)] h _ _
    refine e_go hk_18 3 (c := (if s_cnd .ne (t_cc w i) 0 = true then 35 else 18, [.long w, s_no, .int (nI i), .int (t_cc w i)], [], h)) rfl ?_
    refine e_ne (a := 35) (b := 18) (x := t_cc w i) (y := 0) (fun hc15 => ?_) (fun hc15 => ?_)
    · skip
      refine e_go hk_18 3 (c := (if s_cnd .lt (t_cc w i) 33 = true then 47 else 41, [.long w, s_no, .int (nI i), .int (t_cc w i)], [], h)) rfl ?_
      refine e_lt (a := 47) (b := 41) (x := t_cc w i) (y := 33) (fun hc38 => ?_) (fun hc38 => ?_)
      · skip
        refine e_go hk_18 1 (c := (48, [.long w, s_no, .int (nI i), .int (t_cc w i)], [.int 0], h)) rfl ?_
        exact e_ret hk_18 rfl rfl rfl (by rw [t_ci, if_neg hc15, if_pos (Or.inl hc38)]) rfl
      · skip
        refine e_go hk_18 3 (c := (if s_cnd .le (t_cc w i) 126 = true then 49 else 47, [.long w, s_no, .int (nI i), .int (t_cc w i)], [], h)) rfl ?_
        refine e_le (a := 49) (b := 47) (x := t_cc w i) (y := 126) (fun hc44 => ?_) (fun hc44 => ?_)
        · skip
          refine e_go hk_18 2 (c := (2, [.long w, s_no, .int ((nI i) + 1), .int (t_cc w i)], [], h)) rfl ?_
          rw [t_ci, if_neg hc15, if_neg (by rw [not_or]; exact ⟨hc38, fun z => absurd hc44 (Int32.not_le.mpr z)⟩), nI_1]
          exact x_ci_l k (i + 1) _ (by omega)
        · skip
          refine e_go hk_18 1 (c := (48, [.long w, s_no, .int (nI i), .int (t_cc w i)], [.int 0], h)) rfl ?_
          exact e_ret hk_18 rfl rfl rfl (by rw [t_ci, if_neg hc15, if_pos (Or.inr (Int32.not_le.mp hc44))]) rfl
    · skip
      refine e_go hk_18 8 (c := (if s_cnd .ne (lg_cmp (y_us w (8 * (nI i))) 0) 0 = true then 33 else 29, [.long w, s_no, .int (nI i), .int (t_cc w i)], [], h)) rfl ?_
      refine e_ne (a := 33) (b := 29) (x := lg_cmp (y_us w (8 * (nI i))) 0) (y := 0) (fun hc26 => ?_) (fun hc26 => ?_)
      · skip
        refine e_go hk_18 1 (c := (34, [.long w, s_no, .int (nI i), .int (t_cc w i)], [.int 0], h)) rfl ?_
        exact e_ret hk_18 rfl rfl rfl (by rw [t_ci, if_pos hc15, if_neg hc26]) rfl
      · skip
        refine e_go hk_18 2 (c := (34, [.long w, s_no, .int (nI i), .int (t_cc w i)], [.int (nI i)], h)) rfl ?_
        exact e_ret hk_18 rfl rfl rfl (by rw [t_ci, if_pos hc15, if_pos hc26]) rfl
theorem x_ci {h : sHp} {w : Int64} : m_r 18 [.long w] h (some (.int (t_ci w 0 8))) h := by
  refine m_of (ls := [.long w, s_no, s_no, s_no]) hk_18 rfl rfl rfl ?_
  refine e_go hk_18 2 (c := (2, [.long w, s_no, .int 0, s_no], [], h)) rfl ?_
  exact x_ci_l 8 0 _ rfl
theorem x_ap_l {P : Nat → Nat} {L : Nat} {w : Int64} {q : Int32}  : ∀ (k m : Nat) (Z : Nat → Nat → Int32), Z 99 1 = nI m → m + k ≤ 80 → e_r 19 5 [.ref 99, .long w, s_no, .int q, .int (nI k - 1)] [] (hp Z P L) none (hp (t_ap w k m Z) P L)
  | 0, m, Z, hM, hm => by
    refine e_go hk_19 2 (c := (if s_cnd .lt (nI 0 - 1) 0 = true then 43 else 10, [.ref 99, .long w, s_no, .int q, .int (nI 0 - 1)], [], hp Z P L)) rfl ?_
    refine e_lt (a := 43) (b := 10) (x := nI 0 - 1) (y := 0) (fun hc7 => ?_) (fun hc7 => absurd (by decide) hc7)
    exact e_ret hk_19 rfl rfl rfl rfl rfl
  | k + 1, m, Z, hM, hm => by
    rw [nI_pred]
    refine e_go hk_19 2 (c := (if s_cnd .lt (nI k) 0 = true then 43 else 10, [.ref 99, .long w, s_no, .int q, .int (nI k)], [], hp Z P L)) rfl ?_
    refine e_lt (a := 43) (b := 10) (x := nI k) (y := 0) (fun hc7 => absurd hc7 (nI_pos (by omega))) (fun hc7 => ?_)
    refine e_go hk_19 4 (c := (18, [.ref 99, .long w, s_no, .int q, .int (nI k)], [.int (Z 99 1), .ref 100], hp Z P L)) rfl ?_
    rw [hM]
    refine e_go hk_19 2 (c := (21, [.ref 99, .long w, s_no, .int q, .int (nI k)], [.int (nI k), .long w, .int (nI m), .ref 100], hp Z P L)) rfl ?_
    refine e_call hk_19 (as := [.long w, .int (nI k)]) (rest := [.int (nI m), .ref 100]) rfl rfl hk_20 rfl (Nat.le_of_ble_eq_true rfl) rfl (x_cc (i := k)) ?_
    show e_r 19 24 [.ref 99, .long w, s_no, .int q, .int (nI k)] [.int (t_cc w k), .int (nI m), .ref 100] (hp Z P L) _ _
    refine e_call hk_19 (as := [.ref 100, .int (nI m), .int (t_cc w k)]) (rest := []) rfl rfl hk_23 rfl (Nat.le_of_ble_eq_true rfl) rfl (x_write (r := 100) (a := 101) (n := 80) rfl rfl rfl (by decide) (by decide) (j := m) (by omega)) ?_
    show e_r 19 27 [.ref 99, .long w, s_no, .int q, .int (nI k)] [] (hp (s_upd Z 101 m (t_cc w k)) P L) _ _
    refine e_go hk_19 8 (c := (5, [.ref 99, .long w, s_no, .int q, .int ((nI k) + (-1))], [], hp (s_upd (s_upd Z 101 m (t_cc w k)) 99 1 ((Z 99 1) + 1)) P L)) rfl ?_
    rw [t_ap, hM, nI_1 m, show nI k + (-1) = nI k - 1 from (Int32.sub_eq_add_neg _ _).symm]
    exact x_ap_l k (m + 1) _ (by rw [s_upd_c, if_pos ⟨rfl, rfl⟩]) (by omega)
theorem x_append {Z : Nat → Nat → Int32} {P : Nat → Nat} {L : Nat} {w : Int64} {k m : Nat} (hM : Z 99 1 = nI m) (hm : m + k ≤ 80) : m_r 19 [.ref 99, .long w, .int (nI k)] (hp Z P L) none (hp (t_ap w k m Z) P L) := by
  refine m_of (ls := [.ref 99, .long w, s_no, .int (nI k), s_no]) hk_19 rfl rfl rfl ?_
  refine e_go hk_19 4 (c := (5, [.ref 99, .long w, s_no, .int (nI k), .int ((nI k) - 1)], [], hp Z P L)) rfl ?_
  exact x_ap_l k m Z hM hm
